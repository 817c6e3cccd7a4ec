theorem d_Lw_feed_0 : decode b_Lw_feed 0 = .ok (.aload 6, 2) := by decide +kernel
theorem d_Lw_feed_2 : decode b_Lw_feed 2 = .ok (.iconst 0, 1) := by decide +kernel
theorem d_Lw_feed_3 : decode b_Lw_feed 3 = .ok (.aload_n 0, 1) := by decide +kernel
theorem d_Lw_feed_4 : decode b_Lw_feed 4 = .ok (.iload_n 1, 1) := by decide +kernel
theorem d_Lw_feed_5 : decode b_Lw_feed 5 = .ok (.iload_n 2, 1) := by decide +kernel
theorem d_Lw_feed_6 : decode b_Lw_feed 6 = .ok (.iload_n 3, 1) := by decide +kernel
theorem d_Lw_feed_7 : decode b_Lw_feed 7 = .ok (.iload 4, 2) := by decide +kernel
theorem d_Lw_feed_9 : decode b_Lw_feed 9 = .ok (.iload 5, 2) := by decide +kernel
theorem d_Lw_feed_11 : decode b_Lw_feed 11 = .ok (.invokevirtual 7, 3) := by decide +kernel
theorem d_Lw_feed_14 : decode b_Lw_feed 14 = .ok (.i2l, 1) := by decide +kernel
theorem d_Lw_feed_15 : decode b_Lw_feed 15 = .ok (.lastore, 1) := by decide +kernel
theorem d_Lw_feed_16 : decode b_Lw_feed 16 = .ok (.goto 11, 3) := by decide +kernel
theorem d_Lw_feed_19 : decode b_Lw_feed 19 = .ok (.astore 7, 2) := by decide +kernel
theorem d_Lw_feed_21 : decode b_Lw_feed 21 = .ok (.iconst 1, 1) := by decide +kernel
theorem d_Lw_feed_22 : decode b_Lw_feed 22 = .ok (.ireturn, 1) := by decide +kernel
theorem d_Lw_feed_23 : decode b_Lw_feed 23 = .ok (.astore 7, 2) := by decide +kernel
theorem d_Lw_feed_25 : decode b_Lw_feed 25 = .ok (.iconst 2, 1) := by decide +kernel
theorem d_Lw_feed_26 : decode b_Lw_feed 26 = .ok (.ireturn, 1) := by decide +kernel
theorem d_Lw_feed_27 : decode b_Lw_feed 27 = .ok (.iconst 0, 1) := by decide +kernel
theorem d_Lw_feed_28 : decode b_Lw_feed 28 = .ok (.ireturn, 1) := by decide +kernel
theorem d_Lw_fill_0 : decode b_Lw_fill 0 = .ok (.aload_n 3, 1) := by decide +kernel
theorem d_Lw_fill_1 : decode b_Lw_fill 1 = .ok (.iconst 0, 1) := by decide +kernel
theorem d_Lw_fill_2 : decode b_Lw_fill 2 = .ok (.aload_n 0, 1) := by decide +kernel
theorem d_Lw_fill_3 : decode b_Lw_fill 3 = .ok (.iload_n 1, 1) := by decide +kernel
theorem d_Lw_fill_4 : decode b_Lw_fill 4 = .ok (.iload_n 2, 1) := by decide +kernel
theorem d_Lw_fill_5 : decode b_Lw_fill 5 = .ok (.invokevirtual 17, 3) := by decide +kernel
theorem d_Lw_fill_8 : decode b_Lw_fill 8 = .ok (.i2l, 1) := by decide +kernel
theorem d_Lw_fill_9 : decode b_Lw_fill 9 = .ok (.lastore, 1) := by decide +kernel
theorem d_Lw_fill_10 : decode b_Lw_fill 10 = .ok (.goto 15, 3) := by decide +kernel
theorem d_Lw_fill_13 : decode b_Lw_fill 13 = .ok (.astore 4, 2) := by decide +kernel
theorem d_Lw_fill_15 : decode b_Lw_fill 15 = .ok (.iconst 1, 1) := by decide +kernel
theorem d_Lw_fill_16 : decode b_Lw_fill 16 = .ok (.ireturn, 1) := by decide +kernel
theorem d_Lw_fill_17 : decode b_Lw_fill 17 = .ok (.astore 4, 2) := by decide +kernel
theorem d_Lw_fill_19 : decode b_Lw_fill 19 = .ok (.iconst 2, 1) := by decide +kernel
theorem d_Lw_fill_20 : decode b_Lw_fill 20 = .ok (.ireturn, 1) := by decide +kernel
theorem d_Lw_fill_21 : decode b_Lw_fill 21 = .ok (.astore 4, 2) := by decide +kernel
theorem d_Lw_fill_23 : decode b_Lw_fill 23 = .ok (.iconst 3, 1) := by decide +kernel
theorem d_Lw_fill_24 : decode b_Lw_fill 24 = .ok (.ireturn, 1) := by decide +kernel
theorem d_Lw_fill_25 : decode b_Lw_fill 25 = .ok (.iconst 0, 1) := by decide +kernel
theorem d_Lw_fill_26 : decode b_Lw_fill 26 = .ok (.ireturn, 1) := by decide +kernel
theorem d_Lw_end_0 : decode b_Lw_end 0 = .ok (.aload_n 2, 1) := by decide +kernel
theorem d_Lw_end_1 : decode b_Lw_end 1 = .ok (.iconst 0, 1) := by decide +kernel
theorem d_Lw_end_2 : decode b_Lw_end 2 = .ok (.aload_n 0, 1) := by decide +kernel
theorem d_Lw_end_3 : decode b_Lw_end 3 = .ok (.iload_n 1, 1) := by decide +kernel
theorem d_Lw_end_4 : decode b_Lw_end 4 = .ok (.invokevirtual 23, 3) := by decide +kernel
theorem d_Lw_end_7 : decode b_Lw_end 7 = .ok (.i2l, 1) := by decide +kernel
theorem d_Lw_end_8 : decode b_Lw_end 8 = .ok (.lastore, 1) := by decide +kernel
theorem d_Lw_end_9 : decode b_Lw_end 9 = .ok (.goto 9, 3) := by decide +kernel
theorem d_Lw_end_12 : decode b_Lw_end 12 = .ok (.astore_n 3, 1) := by decide +kernel
theorem d_Lw_end_13 : decode b_Lw_end 13 = .ok (.iconst 1, 1) := by decide +kernel
theorem d_Lw_end_14 : decode b_Lw_end 14 = .ok (.ireturn, 1) := by decide +kernel
theorem d_Lw_end_15 : decode b_Lw_end 15 = .ok (.astore_n 3, 1) := by decide +kernel
theorem d_Lw_end_16 : decode b_Lw_end 16 = .ok (.iconst 2, 1) := by decide +kernel
theorem d_Lw_end_17 : decode b_Lw_end 17 = .ok (.ireturn, 1) := by decide +kernel
theorem d_Lw_end_18 : decode b_Lw_end 18 = .ok (.iconst 0, 1) := by decide +kernel
theorem d_Lw_end_19 : decode b_Lw_end 19 = .ok (.ireturn, 1) := by decide +kernel
theorem d_Lw_append_0 : decode b_Lw_append 0 = .ok (.aload 4, 2) := by decide +kernel
theorem d_Lw_append_2 : decode b_Lw_append 2 = .ok (.iconst 0, 1) := by decide +kernel
theorem d_Lw_append_3 : decode b_Lw_append 3 = .ok (.aload_n 0, 1) := by decide +kernel
theorem d_Lw_append_4 : decode b_Lw_append 4 = .ok (.iload_n 1, 1) := by decide +kernel
theorem d_Lw_append_5 : decode b_Lw_append 5 = .ok (.iload_n 2, 1) := by decide +kernel
theorem d_Lw_append_6 : decode b_Lw_append 6 = .ok (.iload_n 3, 1) := by decide +kernel
theorem d_Lw_append_7 : decode b_Lw_append 7 = .ok (.invokevirtual 27, 3) := by decide +kernel
theorem d_Lw_append_10 : decode b_Lw_append 10 = .ok (.i2l, 1) := by decide +kernel
theorem d_Lw_append_11 : decode b_Lw_append 11 = .ok (.lastore, 1) := by decide +kernel
theorem d_Lw_append_12 : decode b_Lw_append 12 = .ok (.goto 15, 3) := by decide +kernel
theorem d_Lw_append_15 : decode b_Lw_append 15 = .ok (.astore 5, 2) := by decide +kernel
theorem d_Lw_append_17 : decode b_Lw_append 17 = .ok (.iconst 1, 1) := by decide +kernel
theorem d_Lw_append_18 : decode b_Lw_append 18 = .ok (.ireturn, 1) := by decide +kernel
theorem d_Lw_append_19 : decode b_Lw_append 19 = .ok (.astore 5, 2) := by decide +kernel
theorem d_Lw_append_21 : decode b_Lw_append 21 = .ok (.iconst 2, 1) := by decide +kernel
theorem d_Lw_append_22 : decode b_Lw_append 22 = .ok (.ireturn, 1) := by decide +kernel
theorem d_Lw_append_23 : decode b_Lw_append 23 = .ok (.astore 5, 2) := by decide +kernel
theorem d_Lw_append_25 : decode b_Lw_append 25 = .ok (.iconst 3, 1) := by decide +kernel
theorem d_Lw_append_26 : decode b_Lw_append 26 = .ok (.ireturn, 1) := by decide +kernel
theorem d_Lw_append_27 : decode b_Lw_append 27 = .ok (.iconst 0, 1) := by decide +kernel
theorem d_Lw_append_28 : decode b_Lw_append 28 = .ok (.ireturn, 1) := by decide +kernel
theorem d_Lw_retire_0 : decode b_Lw_retire 0 = .ok (.aload_n 2, 1) := by decide +kernel
theorem d_Lw_retire_1 : decode b_Lw_retire 1 = .ok (.iconst 0, 1) := by decide +kernel
theorem d_Lw_retire_2 : decode b_Lw_retire 2 = .ok (.aload_n 0, 1) := by decide +kernel
theorem d_Lw_retire_3 : decode b_Lw_retire 3 = .ok (.iload_n 1, 1) := by decide +kernel
theorem d_Lw_retire_4 : decode b_Lw_retire 4 = .ok (.invokevirtual 31, 3) := by decide +kernel
theorem d_Lw_retire_7 : decode b_Lw_retire 7 = .ok (.i2l, 1) := by decide +kernel
theorem d_Lw_retire_8 : decode b_Lw_retire 8 = .ok (.lastore, 1) := by decide +kernel
theorem d_Lw_retire_9 : decode b_Lw_retire 9 = .ok (.goto 12, 3) := by decide +kernel
theorem d_Lw_retire_12 : decode b_Lw_retire 12 = .ok (.astore_n 3, 1) := by decide +kernel
theorem d_Lw_retire_13 : decode b_Lw_retire 13 = .ok (.iconst 1, 1) := by decide +kernel
theorem d_Lw_retire_14 : decode b_Lw_retire 14 = .ok (.ireturn, 1) := by decide +kernel
theorem d_Lw_retire_15 : decode b_Lw_retire 15 = .ok (.astore_n 3, 1) := by decide +kernel
theorem d_Lw_retire_16 : decode b_Lw_retire 16 = .ok (.iconst 2, 1) := by decide +kernel
theorem d_Lw_retire_17 : decode b_Lw_retire 17 = .ok (.ireturn, 1) := by decide +kernel
theorem d_Lw_retire_18 : decode b_Lw_retire 18 = .ok (.astore_n 3, 1) := by decide +kernel
theorem d_Lw_retire_19 : decode b_Lw_retire 19 = .ok (.iconst 3, 1) := by decide +kernel
theorem d_Lw_retire_20 : decode b_Lw_retire 20 = .ok (.ireturn, 1) := by decide +kernel
theorem d_Lw_retire_21 : decode b_Lw_retire 21 = .ok (.iconst 0, 1) := by decide +kernel
theorem d_Lw_retire_22 : decode b_Lw_retire 22 = .ok (.ireturn, 1) := by decide +kernel
theorem d_Lw_cut_0 : decode b_Lw_cut 0 = .ok (.aload_n 3, 1) := by decide +kernel
theorem d_Lw_cut_1 : decode b_Lw_cut 1 = .ok (.iconst 0, 1) := by decide +kernel
theorem d_Lw_cut_2 : decode b_Lw_cut 2 = .ok (.aload_n 0, 1) := by decide +kernel
theorem d_Lw_cut_3 : decode b_Lw_cut 3 = .ok (.iload_n 1, 1) := by decide +kernel
theorem d_Lw_cut_4 : decode b_Lw_cut 4 = .ok (.iload_n 2, 1) := by decide +kernel
theorem d_Lw_cut_5 : decode b_Lw_cut 5 = .ok (.invokevirtual 36, 3) := by decide +kernel
theorem d_Lw_cut_8 : decode b_Lw_cut 8 = .ok (.i2l, 1) := by decide +kernel
theorem d_Lw_cut_9 : decode b_Lw_cut 9 = .ok (.lastore, 1) := by decide +kernel
theorem d_Lw_cut_10 : decode b_Lw_cut 10 = .ok (.goto 7, 3) := by decide +kernel
theorem d_Lw_cut_13 : decode b_Lw_cut 13 = .ok (.astore 4, 2) := by decide +kernel
theorem d_Lw_cut_15 : decode b_Lw_cut 15 = .ok (.iconst 1, 1) := by decide +kernel
theorem d_Lw_cut_16 : decode b_Lw_cut 16 = .ok (.ireturn, 1) := by decide +kernel
theorem d_Lw_cut_17 : decode b_Lw_cut 17 = .ok (.iconst 0, 1) := by decide +kernel
theorem d_Lw_cut_18 : decode b_Lw_cut 18 = .ok (.ireturn, 1) := by decide +kernel
theorem d_Lw_record_0 : decode b_Lw_record 0 = .ok (.aload_n 3, 1) := by decide +kernel
theorem d_Lw_record_1 : decode b_Lw_record 1 = .ok (.iconst 0, 1) := by decide +kernel
theorem d_Lw_record_2 : decode b_Lw_record 2 = .ok (.aload_n 0, 1) := by decide +kernel
theorem d_Lw_record_3 : decode b_Lw_record 3 = .ok (.iload_n 1, 1) := by decide +kernel
theorem d_Lw_record_4 : decode b_Lw_record 4 = .ok (.iload_n 2, 1) := by decide +kernel
theorem d_Lw_record_5 : decode b_Lw_record 5 = .ok (.invokevirtual 39, 3) := by decide +kernel
theorem d_Lw_record_8 : decode b_Lw_record 8 = .ok (.i2l, 1) := by decide +kernel
theorem d_Lw_record_9 : decode b_Lw_record 9 = .ok (.lastore, 1) := by decide +kernel
theorem d_Lw_record_10 : decode b_Lw_record 10 = .ok (.goto 15, 3) := by decide +kernel
theorem d_Lw_record_13 : decode b_Lw_record 13 = .ok (.astore 4, 2) := by decide +kernel
theorem d_Lw_record_15 : decode b_Lw_record 15 = .ok (.iconst 1, 1) := by decide +kernel
theorem d_Lw_record_16 : decode b_Lw_record 16 = .ok (.ireturn, 1) := by decide +kernel
theorem d_Lw_record_17 : decode b_Lw_record 17 = .ok (.astore 4, 2) := by decide +kernel
theorem d_Lw_record_19 : decode b_Lw_record 19 = .ok (.iconst 2, 1) := by decide +kernel
theorem d_Lw_record_20 : decode b_Lw_record 20 = .ok (.ireturn, 1) := by decide +kernel
theorem d_Lw_record_21 : decode b_Lw_record 21 = .ok (.astore 4, 2) := by decide +kernel
theorem d_Lw_record_23 : decode b_Lw_record 23 = .ok (.iconst 3, 1) := by decide +kernel
theorem d_Lw_record_24 : decode b_Lw_record 24 = .ok (.ireturn, 1) := by decide +kernel
theorem d_Lw_record_25 : decode b_Lw_record 25 = .ok (.iconst 0, 1) := by decide +kernel
theorem d_Lw_record_26 : decode b_Lw_record 26 = .ok (.ireturn, 1) := by decide +kernel
theorem d_Lw_word_0 : decode b_Lw_word 0 = .ok (.aload_n 3, 1) := by decide +kernel
theorem d_Lw_word_1 : decode b_Lw_word 1 = .ok (.iconst 0, 1) := by decide +kernel
theorem d_Lw_word_2 : decode b_Lw_word 2 = .ok (.aload_n 0, 1) := by decide +kernel
theorem d_Lw_word_3 : decode b_Lw_word 3 = .ok (.iload_n 1, 1) := by decide +kernel
theorem d_Lw_word_4 : decode b_Lw_word 4 = .ok (.iload_n 2, 1) := by decide +kernel
theorem d_Lw_word_5 : decode b_Lw_word 5 = .ok (.invokevirtual 42, 3) := by decide +kernel
theorem d_Lw_word_8 : decode b_Lw_word 8 = .ok (.lastore, 1) := by decide +kernel
theorem d_Lw_word_9 : decode b_Lw_word 9 = .ok (.goto 15, 3) := by decide +kernel
theorem d_Lw_word_12 : decode b_Lw_word 12 = .ok (.astore 4, 2) := by decide +kernel
theorem d_Lw_word_14 : decode b_Lw_word 14 = .ok (.iconst 1, 1) := by decide +kernel
theorem d_Lw_word_15 : decode b_Lw_word 15 = .ok (.ireturn, 1) := by decide +kernel
theorem d_Lw_word_16 : decode b_Lw_word 16 = .ok (.astore 4, 2) := by decide +kernel
theorem d_Lw_word_18 : decode b_Lw_word 18 = .ok (.iconst 2, 1) := by decide +kernel
theorem d_Lw_word_19 : decode b_Lw_word 19 = .ok (.ireturn, 1) := by decide +kernel
theorem d_Lw_word_20 : decode b_Lw_word 20 = .ok (.astore 4, 2) := by decide +kernel
theorem d_Lw_word_22 : decode b_Lw_word 22 = .ok (.iconst 3, 1) := by decide +kernel
theorem d_Lw_word_23 : decode b_Lw_word 23 = .ok (.ireturn, 1) := by decide +kernel
theorem d_Lw_word_24 : decode b_Lw_word 24 = .ok (.iconst 0, 1) := by decide +kernel
theorem d_Lw_word_25 : decode b_Lw_word 25 = .ok (.ireturn, 1) := by decide +kernel
theorem d_Lw_count_0 : decode b_Lw_count 0 = .ok (.aload_n 2, 1) := by decide +kernel
theorem d_Lw_count_1 : decode b_Lw_count 1 = .ok (.iconst 0, 1) := by decide +kernel
theorem d_Lw_count_2 : decode b_Lw_count 2 = .ok (.aload_n 0, 1) := by decide +kernel
theorem d_Lw_count_3 : decode b_Lw_count 3 = .ok (.iload_n 1, 1) := by decide +kernel
theorem d_Lw_count_4 : decode b_Lw_count 4 = .ok (.invokevirtual 46, 3) := by decide +kernel
theorem d_Lw_count_7 : decode b_Lw_count 7 = .ok (.i2l, 1) := by decide +kernel
theorem d_Lw_count_8 : decode b_Lw_count 8 = .ok (.lastore, 1) := by decide +kernel
theorem d_Lw_count_9 : decode b_Lw_count 9 = .ok (.goto 9, 3) := by decide +kernel
theorem d_Lw_count_12 : decode b_Lw_count 12 = .ok (.astore_n 3, 1) := by decide +kernel
theorem d_Lw_count_13 : decode b_Lw_count 13 = .ok (.iconst 1, 1) := by decide +kernel
theorem d_Lw_count_14 : decode b_Lw_count 14 = .ok (.ireturn, 1) := by decide +kernel
theorem d_Lw_count_15 : decode b_Lw_count 15 = .ok (.astore_n 3, 1) := by decide +kernel
theorem d_Lw_count_16 : decode b_Lw_count 16 = .ok (.iconst 2, 1) := by decide +kernel
theorem d_Lw_count_17 : decode b_Lw_count 17 = .ok (.ireturn, 1) := by decide +kernel
theorem d_Lw_count_18 : decode b_Lw_count 18 = .ok (.iconst 0, 1) := by decide +kernel
theorem d_Lw_count_19 : decode b_Lw_count 19 = .ok (.ireturn, 1) := by decide +kernel
theorem d_Lw_law_0 : decode code 0 = .ok (.new 8, 3) := by decide +kernel
theorem d_Lw_law_3 : decode code 3 = .ok (.dup, 1) := by decide +kernel
theorem d_Lw_law_4 : decode code 4 = .ok (.invokespecial 49, 3) := by decide +kernel
theorem d_Lw_law_7 : decode code 7 = .ok (.astore_n 1, 1) := by decide +kernel
theorem d_Lw_law_8 : decode code 8 = .ok (.new 50, 3) := by decide +kernel
theorem d_Lw_law_11 : decode code 11 = .ok (.dup, 1) := by decide +kernel
theorem d_Lw_law_12 : decode code 12 = .ok (.invokespecial 52, 3) := by decide +kernel
theorem d_Lw_law_15 : decode code 15 = .ok (.astore_n 2, 1) := by decide +kernel
theorem d_Lw_law_16 : decode code 16 = .ok (.iconst 1, 1) := by decide +kernel
theorem d_Lw_law_17 : decode code 17 = .ok (.newarray .long, 2) := by decide +kernel
theorem d_Lw_law_19 : decode code 19 = .ok (.astore_n 3, 1) := by decide +kernel
theorem d_Lw_law_20 : decode code 20 = .ok (.iconst 0, 1) := by decide +kernel
theorem d_Lw_law_21 : decode code 21 = .ok (.istore 4, 2) := by decide +kernel
theorem d_Lw_law_23 : decode code 23 = .ok (.iload 4, 2) := by decide +kernel
theorem d_Lw_law_25 : decode code 25 = .ok (.aload_n 0, 1) := by decide +kernel
theorem d_Lw_law_26 : decode code 26 = .ok (.arraylength, 1) := by decide +kernel
theorem d_Lw_law_27 : decode code 27 = .ok (.bipush 6, 2) := by decide +kernel
theorem d_Lw_law_29 : decode code 29 = .ok (.isub, 1) := by decide +kernel
theorem d_Lw_law_30 : decode code 30 = .ok (.if_icmp .gt 708, 3) := by decide +kernel
theorem d_Lw_law_33 : decode code 33 = .ok (.aload_n 0, 1) := by decide +kernel
theorem d_Lw_law_34 : decode code 34 = .ok (.iload 4, 2) := by decide +kernel
theorem d_Lw_law_36 : decode code 36 = .ok (.iaload, 1) := by decide +kernel
theorem d_Lw_law_37 : decode code 37 = .ok (.bipush 15, 2) := by decide +kernel
theorem d_Lw_law_39 : decode code 39 = .ok (.iand, 1) := by decide +kernel
theorem d_Lw_law_40 : decode code 40 = .ok (.tableswitch 692 0 9 #[56, 160, 228, 284, 364, 420, 488, 501, 569, 636], 56) := by decide +kernel
theorem d_Lw_law_96 : decode code 96 = .ok (.aload_n 1, 1) := by decide +kernel
theorem d_Lw_law_97 : decode code 97 = .ok (.aload_n 0, 1) := by decide +kernel
theorem d_Lw_law_98 : decode code 98 = .ok (.iload 4, 2) := by decide +kernel
theorem d_Lw_law_100 : decode code 100 = .ok (.iconst 1, 1) := by decide +kernel
theorem d_Lw_law_101 : decode code 101 = .ok (.iadd, 1) := by decide +kernel
theorem d_Lw_law_102 : decode code 102 = .ok (.iaload, 1) := by decide +kernel
theorem d_Lw_law_103 : decode code 103 = .ok (.aload_n 0, 1) := by decide +kernel
theorem d_Lw_law_104 : decode code 104 = .ok (.iload 4, 2) := by decide +kernel
theorem d_Lw_law_106 : decode code 106 = .ok (.iconst 2, 1) := by decide +kernel
theorem d_Lw_law_107 : decode code 107 = .ok (.iadd, 1) := by decide +kernel
theorem d_Lw_law_108 : decode code 108 = .ok (.iaload, 1) := by decide +kernel
theorem d_Lw_law_109 : decode code 109 = .ok (.aload_n 0, 1) := by decide +kernel
theorem d_Lw_law_110 : decode code 110 = .ok (.iload 4, 2) := by decide +kernel
theorem d_Lw_law_112 : decode code 112 = .ok (.iconst 3, 1) := by decide +kernel
theorem d_Lw_law_113 : decode code 113 = .ok (.iadd, 1) := by decide +kernel
theorem d_Lw_law_114 : decode code 114 = .ok (.iaload, 1) := by decide +kernel
theorem d_Lw_law_115 : decode code 115 = .ok (.aload_n 0, 1) := by decide +kernel
theorem d_Lw_law_116 : decode code 116 = .ok (.iload 4, 2) := by decide +kernel
theorem d_Lw_law_118 : decode code 118 = .ok (.iconst 4, 1) := by decide +kernel
theorem d_Lw_law_119 : decode code 119 = .ok (.iadd, 1) := by decide +kernel
theorem d_Lw_law_120 : decode code 120 = .ok (.iaload, 1) := by decide +kernel
theorem d_Lw_law_121 : decode code 121 = .ok (.aload_n 0, 1) := by decide +kernel
theorem d_Lw_law_122 : decode code 122 = .ok (.iload 4, 2) := by decide +kernel
theorem d_Lw_law_124 : decode code 124 = .ok (.iconst 5, 1) := by decide +kernel
theorem d_Lw_law_125 : decode code 125 = .ok (.iadd, 1) := by decide +kernel
theorem d_Lw_law_126 : decode code 126 = .ok (.iaload, 1) := by decide +kernel
theorem d_Lw_law_127 : decode code 127 = .ok (.aload_n 3, 1) := by decide +kernel
theorem d_Lw_law_128 : decode code 128 = .ok (.invokestatic 53, 3) := by decide +kernel
theorem d_Lw_law_131 : decode code 131 = .ok (.istore 5, 2) := by decide +kernel
theorem d_Lw_law_133 : decode code 133 = .ok (.aload_n 2, 1) := by decide +kernel
theorem d_Lw_law_134 : decode code 134 = .ok (.aload_n 0, 1) := by decide +kernel
theorem d_Lw_law_135 : decode code 135 = .ok (.iload 4, 2) := by decide +kernel
theorem d_Lw_law_137 : decode code 137 = .ok (.iconst 1, 1) := by decide +kernel
theorem d_Lw_law_138 : decode code 138 = .ok (.iadd, 1) := by decide +kernel
theorem d_Lw_law_139 : decode code 139 = .ok (.iaload, 1) := by decide +kernel
theorem d_Lw_law_140 : decode code 140 = .ok (.aload_n 0, 1) := by decide +kernel
theorem d_Lw_law_141 : decode code 141 = .ok (.iload 4, 2) := by decide +kernel
theorem d_Lw_law_143 : decode code 143 = .ok (.iconst 2, 1) := by decide +kernel
theorem d_Lw_law_144 : decode code 144 = .ok (.iadd, 1) := by decide +kernel
theorem d_Lw_law_145 : decode code 145 = .ok (.iaload, 1) := by decide +kernel
theorem d_Lw_law_146 : decode code 146 = .ok (.aload_n 0, 1) := by decide +kernel
theorem d_Lw_law_147 : decode code 147 = .ok (.iload 4, 2) := by decide +kernel
theorem d_Lw_law_149 : decode code 149 = .ok (.iconst 3, 1) := by decide +kernel
theorem d_Lw_law_150 : decode code 150 = .ok (.iadd, 1) := by decide +kernel
theorem d_Lw_law_151 : decode code 151 = .ok (.iaload, 1) := by decide +kernel
theorem d_Lw_law_152 : decode code 152 = .ok (.aload_n 0, 1) := by decide +kernel
theorem d_Lw_law_153 : decode code 153 = .ok (.iload 4, 2) := by decide +kernel
theorem d_Lw_law_155 : decode code 155 = .ok (.iconst 4, 1) := by decide +kernel
theorem d_Lw_law_156 : decode code 156 = .ok (.iadd, 1) := by decide +kernel
theorem d_Lw_law_157 : decode code 157 = .ok (.iaload, 1) := by decide +kernel
theorem d_Lw_law_158 : decode code 158 = .ok (.aload_n 0, 1) := by decide +kernel
theorem d_Lw_law_159 : decode code 159 = .ok (.iload 4, 2) := by decide +kernel
theorem d_Lw_law_161 : decode code 161 = .ok (.iconst 5, 1) := by decide +kernel
theorem d_Lw_law_162 : decode code 162 = .ok (.iadd, 1) := by decide +kernel
theorem d_Lw_law_163 : decode code 163 = .ok (.iaload, 1) := by decide +kernel
theorem d_Lw_law_164 : decode code 164 = .ok (.invokevirtual 58, 3) := by decide +kernel
theorem d_Lw_law_167 : decode code 167 = .ok (.istore 6, 2) := by decide +kernel
theorem d_Lw_law_169 : decode code 169 = .ok (.aload_n 2, 1) := by decide +kernel
theorem d_Lw_law_170 : decode code 170 = .ok (.invokevirtual 59, 3) := by decide +kernel
theorem d_Lw_law_173 : decode code 173 = .ok (.iload 5, 2) := by decide +kernel
theorem d_Lw_law_175 : decode code 175 = .ok (.if_icmp .eq 5, 3) := by decide +kernel
theorem d_Lw_law_178 : decode code 178 = .ok (.iconst 0, 1) := by decide +kernel
theorem d_Lw_law_179 : decode code 179 = .ok (.ireturn, 1) := by decide +kernel
theorem d_Lw_law_180 : decode code 180 = .ok (.iload 5, 2) := by decide +kernel
theorem d_Lw_law_182 : decode code 182 = .ok (.ifCond .ne 15, 3) := by decide +kernel
theorem d_Lw_law_185 : decode code 185 = .ok (.aload_n 3, 1) := by decide +kernel
theorem d_Lw_law_186 : decode code 186 = .ok (.iconst 0, 1) := by decide +kernel
theorem d_Lw_law_187 : decode code 187 = .ok (.laload, 1) := by decide +kernel
theorem d_Lw_law_188 : decode code 188 = .ok (.iload 6, 2) := by decide +kernel
theorem d_Lw_law_190 : decode code 190 = .ok (.i2l, 1) := by decide +kernel
theorem d_Lw_law_191 : decode code 191 = .ok (.lcmp, 1) := by decide +kernel
theorem d_Lw_law_192 : decode code 192 = .ok (.ifCond .eq 5, 3) := by decide +kernel
theorem d_Lw_law_195 : decode code 195 = .ok (.iconst 0, 1) := by decide +kernel
theorem d_Lw_law_196 : decode code 196 = .ok (.ireturn, 1) := by decide +kernel
theorem d_Lw_law_197 : decode code 197 = .ok (.goto 535, 3) := by decide +kernel
theorem d_Lw_law_200 : decode code 200 = .ok (.aload_n 1, 1) := by decide +kernel
theorem d_Lw_law_201 : decode code 201 = .ok (.aload_n 0, 1) := by decide +kernel
theorem d_Lw_law_202 : decode code 202 = .ok (.iload 4, 2) := by decide +kernel
theorem d_Lw_law_204 : decode code 204 = .ok (.iconst 1, 1) := by decide +kernel
theorem d_Lw_law_205 : decode code 205 = .ok (.iadd, 1) := by decide +kernel
theorem d_Lw_law_206 : decode code 206 = .ok (.iaload, 1) := by decide +kernel
theorem d_Lw_law_207 : decode code 207 = .ok (.aload_n 0, 1) := by decide +kernel
theorem d_Lw_law_208 : decode code 208 = .ok (.iload 4, 2) := by decide +kernel
theorem d_Lw_law_210 : decode code 210 = .ok (.iconst 2, 1) := by decide +kernel
theorem d_Lw_law_211 : decode code 211 = .ok (.iadd, 1) := by decide +kernel
theorem d_Lw_law_212 : decode code 212 = .ok (.iaload, 1) := by decide +kernel
theorem d_Lw_law_213 : decode code 213 = .ok (.aload_n 3, 1) := by decide +kernel
theorem d_Lw_law_214 : decode code 214 = .ok (.invokestatic 63, 3) := by decide +kernel
theorem d_Lw_law_217 : decode code 217 = .ok (.istore 5, 2) := by decide +kernel
theorem d_Lw_law_219 : decode code 219 = .ok (.aload_n 2, 1) := by decide +kernel
theorem d_Lw_law_220 : decode code 220 = .ok (.aload_n 0, 1) := by decide +kernel
theorem d_Lw_law_221 : decode code 221 = .ok (.iload 4, 2) := by decide +kernel
theorem d_Lw_law_223 : decode code 223 = .ok (.iconst 1, 1) := by decide +kernel
theorem d_Lw_law_224 : decode code 224 = .ok (.iadd, 1) := by decide +kernel
theorem d_Lw_law_225 : decode code 225 = .ok (.iaload, 1) := by decide +kernel
theorem d_Lw_law_226 : decode code 226 = .ok (.aload_n 0, 1) := by decide +kernel
theorem d_Lw_law_227 : decode code 227 = .ok (.iload 4, 2) := by decide +kernel
theorem d_Lw_law_229 : decode code 229 = .ok (.iconst 2, 1) := by decide +kernel
theorem d_Lw_law_230 : decode code 230 = .ok (.iadd, 1) := by decide +kernel
theorem d_Lw_law_231 : decode code 231 = .ok (.iaload, 1) := by decide +kernel
theorem d_Lw_law_232 : decode code 232 = .ok (.invokevirtual 66, 3) := by decide +kernel
theorem d_Lw_law_235 : decode code 235 = .ok (.istore 6, 2) := by decide +kernel
theorem d_Lw_law_237 : decode code 237 = .ok (.aload_n 2, 1) := by decide +kernel
theorem d_Lw_law_238 : decode code 238 = .ok (.invokevirtual 59, 3) := by decide +kernel
theorem d_Lw_law_241 : decode code 241 = .ok (.iload 5, 2) := by decide +kernel
theorem d_Lw_law_243 : decode code 243 = .ok (.if_icmp .eq 5, 3) := by decide +kernel
theorem d_Lw_law_246 : decode code 246 = .ok (.iconst 0, 1) := by decide +kernel
theorem d_Lw_law_247 : decode code 247 = .ok (.ireturn, 1) := by decide +kernel
theorem d_Lw_law_248 : decode code 248 = .ok (.iload 5, 2) := by decide +kernel
theorem d_Lw_law_250 : decode code 250 = .ok (.ifCond .ne 15, 3) := by decide +kernel
theorem d_Lw_law_253 : decode code 253 = .ok (.aload_n 3, 1) := by decide +kernel
theorem d_Lw_law_254 : decode code 254 = .ok (.iconst 0, 1) := by decide +kernel
theorem d_Lw_law_255 : decode code 255 = .ok (.laload, 1) := by decide +kernel
theorem d_Lw_law_256 : decode code 256 = .ok (.iload 6, 2) := by decide +kernel
theorem d_Lw_law_258 : decode code 258 = .ok (.i2l, 1) := by decide +kernel
theorem d_Lw_law_259 : decode code 259 = .ok (.lcmp, 1) := by decide +kernel
theorem d_Lw_law_260 : decode code 260 = .ok (.ifCond .eq 5, 3) := by decide +kernel
theorem d_Lw_law_263 : decode code 263 = .ok (.iconst 0, 1) := by decide +kernel
theorem d_Lw_law_264 : decode code 264 = .ok (.ireturn, 1) := by decide +kernel
theorem d_Lw_law_265 : decode code 265 = .ok (.goto 467, 3) := by decide +kernel
theorem d_Lw_law_268 : decode code 268 = .ok (.aload_n 1, 1) := by decide +kernel
theorem d_Lw_law_269 : decode code 269 = .ok (.aload_n 0, 1) := by decide +kernel
theorem d_Lw_law_270 : decode code 270 = .ok (.iload 4, 2) := by decide +kernel
theorem d_Lw_law_272 : decode code 272 = .ok (.iconst 1, 1) := by decide +kernel
theorem d_Lw_law_273 : decode code 273 = .ok (.iadd, 1) := by decide +kernel
theorem d_Lw_law_274 : decode code 274 = .ok (.iaload, 1) := by decide +kernel
theorem d_Lw_law_275 : decode code 275 = .ok (.aload_n 3, 1) := by decide +kernel
theorem d_Lw_law_276 : decode code 276 = .ok (.invokestatic 67, 3) := by decide +kernel
theorem d_Lw_law_279 : decode code 279 = .ok (.istore 5, 2) := by decide +kernel
theorem d_Lw_law_281 : decode code 281 = .ok (.aload_n 2, 1) := by decide +kernel
theorem d_Lw_law_282 : decode code 282 = .ok (.aload_n 0, 1) := by decide +kernel
theorem d_Lw_law_283 : decode code 283 = .ok (.iload 4, 2) := by decide +kernel
theorem d_Lw_law_285 : decode code 285 = .ok (.iconst 1, 1) := by decide +kernel
theorem d_Lw_law_286 : decode code 286 = .ok (.iadd, 1) := by decide +kernel
theorem d_Lw_law_287 : decode code 287 = .ok (.iaload, 1) := by decide +kernel
theorem d_Lw_law_288 : decode code 288 = .ok (.invokevirtual 70, 3) := by decide +kernel
theorem d_Lw_law_291 : decode code 291 = .ok (.istore 6, 2) := by decide +kernel
theorem d_Lw_law_293 : decode code 293 = .ok (.aload_n 2, 1) := by decide +kernel
theorem d_Lw_law_294 : decode code 294 = .ok (.invokevirtual 59, 3) := by decide +kernel
theorem d_Lw_law_297 : decode code 297 = .ok (.iload 5, 2) := by decide +kernel
theorem d_Lw_law_299 : decode code 299 = .ok (.if_icmp .eq 5, 3) := by decide +kernel
theorem d_Lw_law_302 : decode code 302 = .ok (.iconst 0, 1) := by decide +kernel
theorem d_Lw_law_303 : decode code 303 = .ok (.ireturn, 1) := by decide +kernel
theorem d_Lw_law_304 : decode code 304 = .ok (.iload 5, 2) := by decide +kernel
theorem d_Lw_law_306 : decode code 306 = .ok (.ifCond .ne 15, 3) := by decide +kernel
theorem d_Lw_law_309 : decode code 309 = .ok (.aload_n 3, 1) := by decide +kernel
theorem d_Lw_law_310 : decode code 310 = .ok (.iconst 0, 1) := by decide +kernel
theorem d_Lw_law_311 : decode code 311 = .ok (.laload, 1) := by decide +kernel
theorem d_Lw_law_312 : decode code 312 = .ok (.iload 6, 2) := by decide +kernel
theorem d_Lw_law_314 : decode code 314 = .ok (.i2l, 1) := by decide +kernel
theorem d_Lw_law_315 : decode code 315 = .ok (.lcmp, 1) := by decide +kernel
theorem d_Lw_law_316 : decode code 316 = .ok (.ifCond .eq 5, 3) := by decide +kernel
theorem d_Lw_law_319 : decode code 319 = .ok (.iconst 0, 1) := by decide +kernel
theorem d_Lw_law_320 : decode code 320 = .ok (.ireturn, 1) := by decide +kernel
theorem d_Lw_law_321 : decode code 321 = .ok (.goto 411, 3) := by decide +kernel
theorem d_Lw_law_324 : decode code 324 = .ok (.aload_n 1, 1) := by decide +kernel
theorem d_Lw_law_325 : decode code 325 = .ok (.aload_n 0, 1) := by decide +kernel
theorem d_Lw_law_326 : decode code 326 = .ok (.iload 4, 2) := by decide +kernel
theorem d_Lw_law_328 : decode code 328 = .ok (.iconst 1, 1) := by decide +kernel
theorem d_Lw_law_329 : decode code 329 = .ok (.iadd, 1) := by decide +kernel
theorem d_Lw_law_330 : decode code 330 = .ok (.iaload, 1) := by decide +kernel
theorem d_Lw_law_331 : decode code 331 = .ok (.aload_n 0, 1) := by decide +kernel
theorem d_Lw_law_332 : decode code 332 = .ok (.iload 4, 2) := by decide +kernel
theorem d_Lw_law_334 : decode code 334 = .ok (.iconst 2, 1) := by decide +kernel
theorem d_Lw_law_335 : decode code 335 = .ok (.iadd, 1) := by decide +kernel
theorem d_Lw_law_336 : decode code 336 = .ok (.iaload, 1) := by decide +kernel
theorem d_Lw_law_337 : decode code 337 = .ok (.aload_n 0, 1) := by decide +kernel
theorem d_Lw_law_338 : decode code 338 = .ok (.iload 4, 2) := by decide +kernel
theorem d_Lw_law_340 : decode code 340 = .ok (.iconst 3, 1) := by decide +kernel
theorem d_Lw_law_341 : decode code 341 = .ok (.iadd, 1) := by decide +kernel
theorem d_Lw_law_342 : decode code 342 = .ok (.iaload, 1) := by decide +kernel
theorem d_Lw_law_343 : decode code 343 = .ok (.aload_n 3, 1) := by decide +kernel
theorem d_Lw_law_344 : decode code 344 = .ok (.invokestatic 71, 3) := by decide +kernel
theorem d_Lw_law_347 : decode code 347 = .ok (.istore 5, 2) := by decide +kernel
theorem d_Lw_law_349 : decode code 349 = .ok (.aload_n 2, 1) := by decide +kernel
theorem d_Lw_law_350 : decode code 350 = .ok (.aload_n 0, 1) := by decide +kernel
theorem d_Lw_law_351 : decode code 351 = .ok (.iload 4, 2) := by decide +kernel
theorem d_Lw_law_353 : decode code 353 = .ok (.iconst 1, 1) := by decide +kernel
theorem d_Lw_law_354 : decode code 354 = .ok (.iadd, 1) := by decide +kernel
theorem d_Lw_law_355 : decode code 355 = .ok (.iaload, 1) := by decide +kernel
theorem d_Lw_law_356 : decode code 356 = .ok (.aload_n 0, 1) := by decide +kernel
theorem d_Lw_law_357 : decode code 357 = .ok (.iload 4, 2) := by decide +kernel
theorem d_Lw_law_359 : decode code 359 = .ok (.iconst 2, 1) := by decide +kernel
theorem d_Lw_law_360 : decode code 360 = .ok (.iadd, 1) := by decide +kernel
theorem d_Lw_law_361 : decode code 361 = .ok (.iaload, 1) := by decide +kernel
theorem d_Lw_law_362 : decode code 362 = .ok (.aload_n 0, 1) := by decide +kernel
theorem d_Lw_law_363 : decode code 363 = .ok (.iload 4, 2) := by decide +kernel
theorem d_Lw_law_365 : decode code 365 = .ok (.iconst 3, 1) := by decide +kernel
theorem d_Lw_law_366 : decode code 366 = .ok (.iadd, 1) := by decide +kernel
theorem d_Lw_law_367 : decode code 367 = .ok (.iaload, 1) := by decide +kernel
theorem d_Lw_law_368 : decode code 368 = .ok (.invokevirtual 74, 3) := by decide +kernel
theorem d_Lw_law_371 : decode code 371 = .ok (.istore 6, 2) := by decide +kernel
theorem d_Lw_law_373 : decode code 373 = .ok (.aload_n 2, 1) := by decide +kernel
theorem d_Lw_law_374 : decode code 374 = .ok (.invokevirtual 59, 3) := by decide +kernel
theorem d_Lw_law_377 : decode code 377 = .ok (.iload 5, 2) := by decide +kernel
theorem d_Lw_law_379 : decode code 379 = .ok (.if_icmp .eq 5, 3) := by decide +kernel
theorem d_Lw_law_382 : decode code 382 = .ok (.iconst 0, 1) := by decide +kernel
theorem d_Lw_law_383 : decode code 383 = .ok (.ireturn, 1) := by decide +kernel
theorem d_Lw_law_384 : decode code 384 = .ok (.iload 5, 2) := by decide +kernel
theorem d_Lw_law_386 : decode code 386 = .ok (.ifCond .ne 15, 3) := by decide +kernel
theorem d_Lw_law_389 : decode code 389 = .ok (.aload_n 3, 1) := by decide +kernel
theorem d_Lw_law_390 : decode code 390 = .ok (.iconst 0, 1) := by decide +kernel
theorem d_Lw_law_391 : decode code 391 = .ok (.laload, 1) := by decide +kernel
theorem d_Lw_law_392 : decode code 392 = .ok (.iload 6, 2) := by decide +kernel
theorem d_Lw_law_394 : decode code 394 = .ok (.i2l, 1) := by decide +kernel
theorem d_Lw_law_395 : decode code 395 = .ok (.lcmp, 1) := by decide +kernel
theorem d_Lw_law_396 : decode code 396 = .ok (.ifCond .eq 5, 3) := by decide +kernel
theorem d_Lw_law_399 : decode code 399 = .ok (.iconst 0, 1) := by decide +kernel
theorem d_Lw_law_400 : decode code 400 = .ok (.ireturn, 1) := by decide +kernel
theorem d_Lw_law_401 : decode code 401 = .ok (.goto 331, 3) := by decide +kernel
theorem d_Lw_law_404 : decode code 404 = .ok (.aload_n 1, 1) := by decide +kernel
theorem d_Lw_law_405 : decode code 405 = .ok (.aload_n 0, 1) := by decide +kernel
theorem d_Lw_law_406 : decode code 406 = .ok (.iload 4, 2) := by decide +kernel
theorem d_Lw_law_408 : decode code 408 = .ok (.iconst 1, 1) := by decide +kernel
theorem d_Lw_law_409 : decode code 409 = .ok (.iadd, 1) := by decide +kernel
theorem d_Lw_law_410 : decode code 410 = .ok (.iaload, 1) := by decide +kernel
theorem d_Lw_law_411 : decode code 411 = .ok (.aload_n 3, 1) := by decide +kernel
theorem d_Lw_law_412 : decode code 412 = .ok (.invokestatic 75, 3) := by decide +kernel
theorem d_Lw_law_415 : decode code 415 = .ok (.istore 5, 2) := by decide +kernel
theorem d_Lw_law_417 : decode code 417 = .ok (.aload_n 2, 1) := by decide +kernel
theorem d_Lw_law_418 : decode code 418 = .ok (.aload_n 0, 1) := by decide +kernel
theorem d_Lw_law_419 : decode code 419 = .ok (.iload 4, 2) := by decide +kernel
theorem d_Lw_law_421 : decode code 421 = .ok (.iconst 1, 1) := by decide +kernel
theorem d_Lw_law_422 : decode code 422 = .ok (.iadd, 1) := by decide +kernel
theorem d_Lw_law_423 : decode code 423 = .ok (.iaload, 1) := by decide +kernel
theorem d_Lw_law_424 : decode code 424 = .ok (.invokevirtual 77, 3) := by decide +kernel
theorem d_Lw_law_427 : decode code 427 = .ok (.istore 6, 2) := by decide +kernel
theorem d_Lw_law_429 : decode code 429 = .ok (.aload_n 2, 1) := by decide +kernel
theorem d_Lw_law_430 : decode code 430 = .ok (.invokevirtual 59, 3) := by decide +kernel
theorem d_Lw_law_433 : decode code 433 = .ok (.iload 5, 2) := by decide +kernel
theorem d_Lw_law_435 : decode code 435 = .ok (.if_icmp .eq 5, 3) := by decide +kernel
theorem d_Lw_law_438 : decode code 438 = .ok (.iconst 0, 1) := by decide +kernel
theorem d_Lw_law_439 : decode code 439 = .ok (.ireturn, 1) := by decide +kernel
theorem d_Lw_law_440 : decode code 440 = .ok (.iload 5, 2) := by decide +kernel
theorem d_Lw_law_442 : decode code 442 = .ok (.ifCond .ne 15, 3) := by decide +kernel
theorem d_Lw_law_445 : decode code 445 = .ok (.aload_n 3, 1) := by decide +kernel
theorem d_Lw_law_446 : decode code 446 = .ok (.iconst 0, 1) := by decide +kernel
theorem d_Lw_law_447 : decode code 447 = .ok (.laload, 1) := by decide +kernel
theorem d_Lw_law_448 : decode code 448 = .ok (.iload 6, 2) := by decide +kernel
theorem d_Lw_law_450 : decode code 450 = .ok (.i2l, 1) := by decide +kernel
theorem d_Lw_law_451 : decode code 451 = .ok (.lcmp, 1) := by decide +kernel
theorem d_Lw_law_452 : decode code 452 = .ok (.ifCond .eq 5, 3) := by decide +kernel
theorem d_Lw_law_455 : decode code 455 = .ok (.iconst 0, 1) := by decide +kernel
theorem d_Lw_law_456 : decode code 456 = .ok (.ireturn, 1) := by decide +kernel
theorem d_Lw_law_457 : decode code 457 = .ok (.goto 275, 3) := by decide +kernel
theorem d_Lw_law_460 : decode code 460 = .ok (.aload_n 1, 1) := by decide +kernel
theorem d_Lw_law_461 : decode code 461 = .ok (.aload_n 0, 1) := by decide +kernel
theorem d_Lw_law_462 : decode code 462 = .ok (.iload 4, 2) := by decide +kernel
theorem d_Lw_law_464 : decode code 464 = .ok (.iconst 1, 1) := by decide +kernel
theorem d_Lw_law_465 : decode code 465 = .ok (.iadd, 1) := by decide +kernel
theorem d_Lw_law_466 : decode code 466 = .ok (.iaload, 1) := by decide +kernel
theorem d_Lw_law_467 : decode code 467 = .ok (.aload_n 0, 1) := by decide +kernel
theorem d_Lw_law_468 : decode code 468 = .ok (.iload 4, 2) := by decide +kernel
theorem d_Lw_law_470 : decode code 470 = .ok (.iconst 2, 1) := by decide +kernel
theorem d_Lw_law_471 : decode code 471 = .ok (.iadd, 1) := by decide +kernel
theorem d_Lw_law_472 : decode code 472 = .ok (.iaload, 1) := by decide +kernel
theorem d_Lw_law_473 : decode code 473 = .ok (.aload_n 3, 1) := by decide +kernel
theorem d_Lw_law_474 : decode code 474 = .ok (.invokestatic 78, 3) := by decide +kernel
theorem d_Lw_law_477 : decode code 477 = .ok (.istore 5, 2) := by decide +kernel
theorem d_Lw_law_479 : decode code 479 = .ok (.aload_n 2, 1) := by decide +kernel
theorem d_Lw_law_480 : decode code 480 = .ok (.aload_n 0, 1) := by decide +kernel
theorem d_Lw_law_481 : decode code 481 = .ok (.iload 4, 2) := by decide +kernel
theorem d_Lw_law_483 : decode code 483 = .ok (.iconst 1, 1) := by decide +kernel
theorem d_Lw_law_484 : decode code 484 = .ok (.iadd, 1) := by decide +kernel
theorem d_Lw_law_485 : decode code 485 = .ok (.iaload, 1) := by decide +kernel
theorem d_Lw_law_486 : decode code 486 = .ok (.aload_n 0, 1) := by decide +kernel
theorem d_Lw_law_487 : decode code 487 = .ok (.iload 4, 2) := by decide +kernel
theorem d_Lw_law_489 : decode code 489 = .ok (.iconst 2, 1) := by decide +kernel
theorem d_Lw_law_490 : decode code 490 = .ok (.iadd, 1) := by decide +kernel
theorem d_Lw_law_491 : decode code 491 = .ok (.iaload, 1) := by decide +kernel
theorem d_Lw_law_492 : decode code 492 = .ok (.invokevirtual 80, 3) := by decide +kernel
theorem d_Lw_law_495 : decode code 495 = .ok (.istore 6, 2) := by decide +kernel
theorem d_Lw_law_497 : decode code 497 = .ok (.aload_n 2, 1) := by decide +kernel
theorem d_Lw_law_498 : decode code 498 = .ok (.invokevirtual 59, 3) := by decide +kernel
theorem d_Lw_law_501 : decode code 501 = .ok (.iload 5, 2) := by decide +kernel
theorem d_Lw_law_503 : decode code 503 = .ok (.if_icmp .eq 5, 3) := by decide +kernel
theorem d_Lw_law_506 : decode code 506 = .ok (.iconst 0, 1) := by decide +kernel
theorem d_Lw_law_507 : decode code 507 = .ok (.ireturn, 1) := by decide +kernel
theorem d_Lw_law_508 : decode code 508 = .ok (.iload 5, 2) := by decide +kernel
theorem d_Lw_law_510 : decode code 510 = .ok (.ifCond .ne 15, 3) := by decide +kernel
theorem d_Lw_law_513 : decode code 513 = .ok (.aload_n 3, 1) := by decide +kernel
theorem d_Lw_law_514 : decode code 514 = .ok (.iconst 0, 1) := by decide +kernel
theorem d_Lw_law_515 : decode code 515 = .ok (.laload, 1) := by decide +kernel
theorem d_Lw_law_516 : decode code 516 = .ok (.iload 6, 2) := by decide +kernel
theorem d_Lw_law_518 : decode code 518 = .ok (.i2l, 1) := by decide +kernel
theorem d_Lw_law_519 : decode code 519 = .ok (.lcmp, 1) := by decide +kernel
theorem d_Lw_law_520 : decode code 520 = .ok (.ifCond .eq 5, 3) := by decide +kernel
theorem d_Lw_law_523 : decode code 523 = .ok (.iconst 0, 1) := by decide +kernel
theorem d_Lw_law_524 : decode code 524 = .ok (.ireturn, 1) := by decide +kernel
theorem d_Lw_law_525 : decode code 525 = .ok (.goto 207, 3) := by decide +kernel
theorem d_Lw_law_528 : decode code 528 = .ok (.aload_n 1, 1) := by decide +kernel
theorem d_Lw_law_529 : decode code 529 = .ok (.invokevirtual 81, 3) := by decide +kernel
theorem d_Lw_law_532 : decode code 532 = .ok (.aload_n 2, 1) := by decide +kernel
theorem d_Lw_law_533 : decode code 533 = .ok (.invokevirtual 84, 3) := by decide +kernel
theorem d_Lw_law_536 : decode code 536 = .ok (.if_icmp .eq 196, 3) := by decide +kernel
theorem d_Lw_law_539 : decode code 539 = .ok (.iconst 0, 1) := by decide +kernel
theorem d_Lw_law_540 : decode code 540 = .ok (.ireturn, 1) := by decide +kernel
theorem d_Lw_law_541 : decode code 541 = .ok (.aload_n 1, 1) := by decide +kernel
theorem d_Lw_law_542 : decode code 542 = .ok (.aload_n 0, 1) := by decide +kernel
theorem d_Lw_law_543 : decode code 543 = .ok (.iload 4, 2) := by decide +kernel
theorem d_Lw_law_545 : decode code 545 = .ok (.iconst 1, 1) := by decide +kernel
theorem d_Lw_law_546 : decode code 546 = .ok (.iadd, 1) := by decide +kernel
theorem d_Lw_law_547 : decode code 547 = .ok (.iaload, 1) := by decide +kernel
theorem d_Lw_law_548 : decode code 548 = .ok (.aload_n 0, 1) := by decide +kernel
theorem d_Lw_law_549 : decode code 549 = .ok (.iload 4, 2) := by decide +kernel
theorem d_Lw_law_551 : decode code 551 = .ok (.iconst 2, 1) := by decide +kernel
theorem d_Lw_law_552 : decode code 552 = .ok (.iadd, 1) := by decide +kernel
theorem d_Lw_law_553 : decode code 553 = .ok (.iaload, 1) := by decide +kernel
theorem d_Lw_law_554 : decode code 554 = .ok (.aload_n 3, 1) := by decide +kernel
theorem d_Lw_law_555 : decode code 555 = .ok (.invokestatic 85, 3) := by decide +kernel
theorem d_Lw_law_558 : decode code 558 = .ok (.istore 5, 2) := by decide +kernel
theorem d_Lw_law_560 : decode code 560 = .ok (.aload_n 2, 1) := by decide +kernel
theorem d_Lw_law_561 : decode code 561 = .ok (.aload_n 0, 1) := by decide +kernel
theorem d_Lw_law_562 : decode code 562 = .ok (.iload 4, 2) := by decide +kernel
theorem d_Lw_law_564 : decode code 564 = .ok (.iconst 1, 1) := by decide +kernel
theorem d_Lw_law_565 : decode code 565 = .ok (.iadd, 1) := by decide +kernel
theorem d_Lw_law_566 : decode code 566 = .ok (.iaload, 1) := by decide +kernel
theorem d_Lw_law_567 : decode code 567 = .ok (.aload_n 0, 1) := by decide +kernel
theorem d_Lw_law_568 : decode code 568 = .ok (.iload 4, 2) := by decide +kernel
theorem d_Lw_law_570 : decode code 570 = .ok (.iconst 2, 1) := by decide +kernel
theorem d_Lw_law_571 : decode code 571 = .ok (.iadd, 1) := by decide +kernel
theorem d_Lw_law_572 : decode code 572 = .ok (.iaload, 1) := by decide +kernel
theorem d_Lw_law_573 : decode code 573 = .ok (.invokevirtual 87, 3) := by decide +kernel
theorem d_Lw_law_576 : decode code 576 = .ok (.istore 6, 2) := by decide +kernel
theorem d_Lw_law_578 : decode code 578 = .ok (.aload_n 2, 1) := by decide +kernel
theorem d_Lw_law_579 : decode code 579 = .ok (.invokevirtual 59, 3) := by decide +kernel
theorem d_Lw_law_582 : decode code 582 = .ok (.iload 5, 2) := by decide +kernel
theorem d_Lw_law_584 : decode code 584 = .ok (.if_icmp .eq 5, 3) := by decide +kernel
theorem d_Lw_law_587 : decode code 587 = .ok (.iconst 0, 1) := by decide +kernel
theorem d_Lw_law_588 : decode code 588 = .ok (.ireturn, 1) := by decide +kernel
theorem d_Lw_law_589 : decode code 589 = .ok (.iload 5, 2) := by decide +kernel
theorem d_Lw_law_591 : decode code 591 = .ok (.ifCond .ne 15, 3) := by decide +kernel
theorem d_Lw_law_594 : decode code 594 = .ok (.aload_n 3, 1) := by decide +kernel
theorem d_Lw_law_595 : decode code 595 = .ok (.iconst 0, 1) := by decide +kernel
theorem d_Lw_law_596 : decode code 596 = .ok (.laload, 1) := by decide +kernel
theorem d_Lw_law_597 : decode code 597 = .ok (.iload 6, 2) := by decide +kernel
theorem d_Lw_law_599 : decode code 599 = .ok (.i2l, 1) := by decide +kernel
theorem d_Lw_law_600 : decode code 600 = .ok (.lcmp, 1) := by decide +kernel
theorem d_Lw_law_601 : decode code 601 = .ok (.ifCond .eq 5, 3) := by decide +kernel
theorem d_Lw_law_604 : decode code 604 = .ok (.iconst 0, 1) := by decide +kernel
theorem d_Lw_law_605 : decode code 605 = .ok (.ireturn, 1) := by decide +kernel
theorem d_Lw_law_606 : decode code 606 = .ok (.goto 126, 3) := by decide +kernel
theorem d_Lw_law_609 : decode code 609 = .ok (.aload_n 1, 1) := by decide +kernel
theorem d_Lw_law_610 : decode code 610 = .ok (.aload_n 0, 1) := by decide +kernel
theorem d_Lw_law_611 : decode code 611 = .ok (.iload 4, 2) := by decide +kernel
theorem d_Lw_law_613 : decode code 613 = .ok (.iconst 1, 1) := by decide +kernel
theorem d_Lw_law_614 : decode code 614 = .ok (.iadd, 1) := by decide +kernel
theorem d_Lw_law_615 : decode code 615 = .ok (.iaload, 1) := by decide +kernel
theorem d_Lw_law_616 : decode code 616 = .ok (.aload_n 0, 1) := by decide +kernel
theorem d_Lw_law_617 : decode code 617 = .ok (.iload 4, 2) := by decide +kernel
theorem d_Lw_law_619 : decode code 619 = .ok (.iconst 2, 1) := by decide +kernel
theorem d_Lw_law_620 : decode code 620 = .ok (.iadd, 1) := by decide +kernel
theorem d_Lw_law_621 : decode code 621 = .ok (.iaload, 1) := by decide +kernel
theorem d_Lw_law_622 : decode code 622 = .ok (.aload_n 3, 1) := by decide +kernel
theorem d_Lw_law_623 : decode code 623 = .ok (.invokestatic 88, 3) := by decide +kernel
theorem d_Lw_law_626 : decode code 626 = .ok (.istore 5, 2) := by decide +kernel
theorem d_Lw_law_628 : decode code 628 = .ok (.aload_n 2, 1) := by decide +kernel
theorem d_Lw_law_629 : decode code 629 = .ok (.aload_n 0, 1) := by decide +kernel
theorem d_Lw_law_630 : decode code 630 = .ok (.iload 4, 2) := by decide +kernel
theorem d_Lw_law_632 : decode code 632 = .ok (.iconst 1, 1) := by decide +kernel
theorem d_Lw_law_633 : decode code 633 = .ok (.iadd, 1) := by decide +kernel
theorem d_Lw_law_634 : decode code 634 = .ok (.iaload, 1) := by decide +kernel
theorem d_Lw_law_635 : decode code 635 = .ok (.aload_n 0, 1) := by decide +kernel
theorem d_Lw_law_636 : decode code 636 = .ok (.iload 4, 2) := by decide +kernel
theorem d_Lw_law_638 : decode code 638 = .ok (.iconst 2, 1) := by decide +kernel
theorem d_Lw_law_639 : decode code 639 = .ok (.iadd, 1) := by decide +kernel
theorem d_Lw_law_640 : decode code 640 = .ok (.iaload, 1) := by decide +kernel
theorem d_Lw_law_641 : decode code 641 = .ok (.invokevirtual 90, 3) := by decide +kernel
theorem d_Lw_law_644 : decode code 644 = .ok (.lstore 6, 2) := by decide +kernel
theorem d_Lw_law_646 : decode code 646 = .ok (.aload_n 2, 1) := by decide +kernel
theorem d_Lw_law_647 : decode code 647 = .ok (.invokevirtual 59, 3) := by decide +kernel
theorem d_Lw_law_650 : decode code 650 = .ok (.iload 5, 2) := by decide +kernel
theorem d_Lw_law_652 : decode code 652 = .ok (.if_icmp .eq 5, 3) := by decide +kernel
theorem d_Lw_law_655 : decode code 655 = .ok (.iconst 0, 1) := by decide +kernel
theorem d_Lw_law_656 : decode code 656 = .ok (.ireturn, 1) := by decide +kernel
theorem d_Lw_law_657 : decode code 657 = .ok (.iload 5, 2) := by decide +kernel
theorem d_Lw_law_659 : decode code 659 = .ok (.ifCond .ne 14, 3) := by decide +kernel
theorem d_Lw_law_662 : decode code 662 = .ok (.aload_n 3, 1) := by decide +kernel
theorem d_Lw_law_663 : decode code 663 = .ok (.iconst 0, 1) := by decide +kernel
theorem d_Lw_law_664 : decode code 664 = .ok (.laload, 1) := by decide +kernel
theorem d_Lw_law_665 : decode code 665 = .ok (.lload 6, 2) := by decide +kernel
theorem d_Lw_law_667 : decode code 667 = .ok (.lcmp, 1) := by decide +kernel
theorem d_Lw_law_668 : decode code 668 = .ok (.ifCond .eq 5, 3) := by decide +kernel
theorem d_Lw_law_671 : decode code 671 = .ok (.iconst 0, 1) := by decide +kernel
theorem d_Lw_law_672 : decode code 672 = .ok (.ireturn, 1) := by decide +kernel
theorem d_Lw_law_673 : decode code 673 = .ok (.goto 59, 3) := by decide +kernel
theorem d_Lw_law_676 : decode code 676 = .ok (.aload_n 1, 1) := by decide +kernel
theorem d_Lw_law_677 : decode code 677 = .ok (.aload_n 0, 1) := by decide +kernel
theorem d_Lw_law_678 : decode code 678 = .ok (.iload 4, 2) := by decide +kernel
theorem d_Lw_law_680 : decode code 680 = .ok (.iconst 1, 1) := by decide +kernel
theorem d_Lw_law_681 : decode code 681 = .ok (.iadd, 1) := by decide +kernel
theorem d_Lw_law_682 : decode code 682 = .ok (.iaload, 1) := by decide +kernel
theorem d_Lw_law_683 : decode code 683 = .ok (.aload_n 3, 1) := by decide +kernel
theorem d_Lw_law_684 : decode code 684 = .ok (.invokestatic 91, 3) := by decide +kernel
theorem d_Lw_law_687 : decode code 687 = .ok (.istore 5, 2) := by decide +kernel
theorem d_Lw_law_689 : decode code 689 = .ok (.aload_n 2, 1) := by decide +kernel
theorem d_Lw_law_690 : decode code 690 = .ok (.aload_n 0, 1) := by decide +kernel
theorem d_Lw_law_691 : decode code 691 = .ok (.iload 4, 2) := by decide +kernel
theorem d_Lw_law_693 : decode code 693 = .ok (.iconst 1, 1) := by decide +kernel
theorem d_Lw_law_694 : decode code 694 = .ok (.iadd, 1) := by decide +kernel
theorem d_Lw_law_695 : decode code 695 = .ok (.iaload, 1) := by decide +kernel
theorem d_Lw_law_696 : decode code 696 = .ok (.invokevirtual 93, 3) := by decide +kernel
theorem d_Lw_law_699 : decode code 699 = .ok (.istore 6, 2) := by decide +kernel
theorem d_Lw_law_701 : decode code 701 = .ok (.aload_n 2, 1) := by decide +kernel
theorem d_Lw_law_702 : decode code 702 = .ok (.invokevirtual 59, 3) := by decide +kernel
theorem d_Lw_law_705 : decode code 705 = .ok (.iload 5, 2) := by decide +kernel
theorem d_Lw_law_707 : decode code 707 = .ok (.if_icmp .eq 5, 3) := by decide +kernel
theorem d_Lw_law_710 : decode code 710 = .ok (.iconst 0, 1) := by decide +kernel
theorem d_Lw_law_711 : decode code 711 = .ok (.ireturn, 1) := by decide +kernel
theorem d_Lw_law_712 : decode code 712 = .ok (.iload 5, 2) := by decide +kernel
theorem d_Lw_law_714 : decode code 714 = .ok (.ifCond .ne 15, 3) := by decide +kernel
theorem d_Lw_law_717 : decode code 717 = .ok (.aload_n 3, 1) := by decide +kernel
theorem d_Lw_law_718 : decode code 718 = .ok (.iconst 0, 1) := by decide +kernel
theorem d_Lw_law_719 : decode code 719 = .ok (.laload, 1) := by decide +kernel
theorem d_Lw_law_720 : decode code 720 = .ok (.iload 6, 2) := by decide +kernel
theorem d_Lw_law_722 : decode code 722 = .ok (.i2l, 1) := by decide +kernel
theorem d_Lw_law_723 : decode code 723 = .ok (.lcmp, 1) := by decide +kernel
theorem d_Lw_law_724 : decode code 724 = .ok (.ifCond .eq 5, 3) := by decide +kernel
theorem d_Lw_law_727 : decode code 727 = .ok (.iconst 0, 1) := by decide +kernel
theorem d_Lw_law_728 : decode code 728 = .ok (.ireturn, 1) := by decide +kernel
theorem d_Lw_law_729 : decode code 729 = .ok (.goto 3, 3) := by decide +kernel
theorem d_Lw_law_732 : decode code 732 = .ok (.iinc 4 6, 3) := by decide +kernel
theorem d_Lw_law_735 : decode code 735 = .ok (.goto (-712), 3) := by decide +kernel
theorem d_Lw_law_738 : decode code 738 = .ok (.iconst 1, 1) := by decide +kernel
theorem d_Lw_law_739 : decode code 739 = .ok (.ireturn, 1) := by decide +kernel
