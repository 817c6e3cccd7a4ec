theorem d_Tl_init_0 : decode b_Tl_init 0 = .ok (.aload_n 0, 1) := by decide +kernel
theorem d_Tl_init_1 : decode b_Tl_init 1 = .ok (.invokespecial 3, 3) := by decide +kernel
theorem d_Tl_init_4 : decode b_Tl_init 4 = .ok (.aload_n 0, 1) := by decide +kernel
theorem d_Tl_init_5 : decode b_Tl_init 5 = .ok (.new 9, 3) := by decide +kernel
theorem d_Tl_init_8 : decode b_Tl_init 8 = .ok (.dup, 1) := by decide +kernel
theorem d_Tl_init_9 : decode b_Tl_init 9 = .ok (.sipush 1060, 3) := by decide +kernel
theorem d_Tl_init_12 : decode b_Tl_init 12 = .ok (.invokespecial 11, 3) := by decide +kernel
theorem d_Tl_init_15 : decode b_Tl_init 15 = .ok (.putfield 14, 3) := by decide +kernel
theorem d_Tl_init_18 : decode b_Tl_init 18 = .ok (.aload_n 0, 1) := by decide +kernel
theorem d_Tl_init_19 : decode b_Tl_init 19 = .ok (.new 18, 3) := by decide +kernel
theorem d_Tl_init_22 : decode b_Tl_init 22 = .ok (.dup, 1) := by decide +kernel
theorem d_Tl_init_23 : decode b_Tl_init 23 = .ok (.invokespecial 20, 3) := by decide +kernel
theorem d_Tl_init_26 : decode b_Tl_init 26 = .ok (.putfield 21, 3) := by decide +kernel
theorem d_Tl_init_29 : decode b_Tl_init 29 = .ok (.aload_n 0, 1) := by decide +kernel
theorem d_Tl_init_30 : decode b_Tl_init 30 = .ok (.iconst 0, 1) := by decide +kernel
theorem d_Tl_init_31 : decode b_Tl_init 31 = .ok (.putfield 25, 3) := by decide +kernel
theorem d_Tl_init_34 : decode b_Tl_init 34 = .ok (.return_, 1) := by decide +kernel
theorem d_Tl_feed_0 : decode b_Tl_feed 0 = .ok (.aload_n 0, 1) := by decide +kernel
theorem d_Tl_feed_1 : decode b_Tl_feed 1 = .ok (.invokevirtual 29, 3) := by decide +kernel
theorem d_Tl_feed_4 : decode b_Tl_feed 4 = .ok (.aload_n 0, 1) := by decide +kernel
theorem d_Tl_feed_5 : decode b_Tl_feed 5 = .ok (.bipush 20, 2) := by decide +kernel
theorem d_Tl_feed_7 : decode b_Tl_feed 7 = .ok (.invokevirtual 32, 3) := by decide +kernel
theorem d_Tl_feed_10 : decode b_Tl_feed 10 = .ok (.aload_n 0, 1) := by decide +kernel
theorem d_Tl_feed_11 : decode b_Tl_feed 11 = .ok (.getfield 14, 3) := by decide +kernel
theorem d_Tl_feed_14 : decode b_Tl_feed 14 = .ok (.iload_n 1, 1) := by decide +kernel
theorem d_Tl_feed_15 : decode b_Tl_feed 15 = .ok (.invokevirtual 35, 3) := by decide +kernel
theorem d_Tl_feed_18 : decode b_Tl_feed 18 = .ok (.aload_n 0, 1) := by decide +kernel
theorem d_Tl_feed_19 : decode b_Tl_feed 19 = .ok (.getfield 14, 3) := by decide +kernel
theorem d_Tl_feed_22 : decode b_Tl_feed 22 = .ok (.iload_n 2, 1) := by decide +kernel
theorem d_Tl_feed_23 : decode b_Tl_feed 23 = .ok (.invokevirtual 35, 3) := by decide +kernel
theorem d_Tl_feed_26 : decode b_Tl_feed 26 = .ok (.aload_n 0, 1) := by decide +kernel
theorem d_Tl_feed_27 : decode b_Tl_feed 27 = .ok (.getfield 14, 3) := by decide +kernel
theorem d_Tl_feed_30 : decode b_Tl_feed 30 = .ok (.iload_n 3, 1) := by decide +kernel
theorem d_Tl_feed_31 : decode b_Tl_feed 31 = .ok (.invokevirtual 35, 3) := by decide +kernel
theorem d_Tl_feed_34 : decode b_Tl_feed 34 = .ok (.aload_n 0, 1) := by decide +kernel
theorem d_Tl_feed_35 : decode b_Tl_feed 35 = .ok (.getfield 14, 3) := by decide +kernel
theorem d_Tl_feed_38 : decode b_Tl_feed 38 = .ok (.iload 4, 2) := by decide +kernel
theorem d_Tl_feed_40 : decode b_Tl_feed 40 = .ok (.invokevirtual 35, 3) := by decide +kernel
theorem d_Tl_feed_43 : decode b_Tl_feed 43 = .ok (.aload_n 0, 1) := by decide +kernel
theorem d_Tl_feed_44 : decode b_Tl_feed 44 = .ok (.getfield 14, 3) := by decide +kernel
theorem d_Tl_feed_47 : decode b_Tl_feed 47 = .ok (.iload 5, 2) := by decide +kernel
theorem d_Tl_feed_49 : decode b_Tl_feed 49 = .ok (.invokevirtual 35, 3) := by decide +kernel
theorem d_Tl_feed_52 : decode b_Tl_feed 52 = .ok (.aload_n 0, 1) := by decide +kernel
theorem d_Tl_feed_53 : decode b_Tl_feed 53 = .ok (.getfield 14, 3) := by decide +kernel
theorem d_Tl_feed_56 : decode b_Tl_feed 56 = .ok (.getfield 38, 3) := by decide +kernel
theorem d_Tl_feed_59 : decode b_Tl_feed 59 = .ok (.ireturn, 1) := by decide +kernel
theorem d_Tl_fill_0 : decode b_Tl_fill 0 = .ok (.iload_n 1, 1) := by decide +kernel
theorem d_Tl_fill_1 : decode b_Tl_fill 1 = .ok (.iconst 0, 1) := by decide +kernel
theorem d_Tl_fill_2 : decode b_Tl_fill 2 = .ok (.sipush 255, 3) := by decide +kernel
theorem d_Tl_fill_5 : decode b_Tl_fill 5 = .ok (.invokestatic 42, 3) := by decide +kernel
theorem d_Tl_fill_8 : decode b_Tl_fill 8 = .ok (.iload_n 2, 1) := by decide +kernel
theorem d_Tl_fill_9 : decode b_Tl_fill 9 = .ok (.iconst 1, 1) := by decide +kernel
theorem d_Tl_fill_10 : decode b_Tl_fill 10 = .ok (.sipush 1000, 3) := by decide +kernel
theorem d_Tl_fill_13 : decode b_Tl_fill 13 = .ok (.invokestatic 42, 3) := by decide +kernel
theorem d_Tl_fill_16 : decode b_Tl_fill 16 = .ok (.aload_n 0, 1) := by decide +kernel
theorem d_Tl_fill_17 : decode b_Tl_fill 17 = .ok (.invokevirtual 29, 3) := by decide +kernel
theorem d_Tl_fill_20 : decode b_Tl_fill 20 = .ok (.aload_n 0, 1) := by decide +kernel
theorem d_Tl_fill_21 : decode b_Tl_fill 21 = .ok (.iload_n 2, 1) := by decide +kernel
theorem d_Tl_fill_22 : decode b_Tl_fill 22 = .ok (.invokevirtual 32, 3) := by decide +kernel
theorem d_Tl_fill_25 : decode b_Tl_fill 25 = .ok (.iconst 0, 1) := by decide +kernel
theorem d_Tl_fill_26 : decode b_Tl_fill 26 = .ok (.istore_n 3, 1) := by decide +kernel
theorem d_Tl_fill_27 : decode b_Tl_fill 27 = .ok (.iload_n 3, 1) := by decide +kernel
theorem d_Tl_fill_28 : decode b_Tl_fill 28 = .ok (.iload_n 2, 1) := by decide +kernel
theorem d_Tl_fill_29 : decode b_Tl_fill 29 = .ok (.if_icmp .ge 17, 3) := by decide +kernel
theorem d_Tl_fill_32 : decode b_Tl_fill 32 = .ok (.aload_n 0, 1) := by decide +kernel
theorem d_Tl_fill_33 : decode b_Tl_fill 33 = .ok (.getfield 14, 3) := by decide +kernel
theorem d_Tl_fill_36 : decode b_Tl_fill 36 = .ok (.iload_n 1, 1) := by decide +kernel
theorem d_Tl_fill_37 : decode b_Tl_fill 37 = .ok (.invokevirtual 46, 3) := by decide +kernel
theorem d_Tl_fill_40 : decode b_Tl_fill 40 = .ok (.iinc 3 1, 3) := by decide +kernel
theorem d_Tl_fill_43 : decode b_Tl_fill 43 = .ok (.goto (-16), 3) := by decide +kernel
theorem d_Tl_fill_46 : decode b_Tl_fill 46 = .ok (.aload_n 0, 1) := by decide +kernel
theorem d_Tl_fill_47 : decode b_Tl_fill 47 = .ok (.getfield 14, 3) := by decide +kernel
theorem d_Tl_fill_50 : decode b_Tl_fill 50 = .ok (.getfield 38, 3) := by decide +kernel
theorem d_Tl_fill_53 : decode b_Tl_fill 53 = .ok (.ireturn, 1) := by decide +kernel
theorem d_Tl_end_0 : decode b_Tl_end 0 = .ok (.iload_n 1, 1) := by decide +kernel
theorem d_Tl_end_1 : decode b_Tl_end 1 = .ok (.iconst 0, 1) := by decide +kernel
theorem d_Tl_end_2 : decode b_Tl_end 2 = .ok (.aload_n 0, 1) := by decide +kernel
theorem d_Tl_end_3 : decode b_Tl_end 3 = .ok (.getfield 14, 3) := by decide +kernel
theorem d_Tl_end_6 : decode b_Tl_end 6 = .ok (.getfield 38, 3) := by decide +kernel
theorem d_Tl_end_9 : decode b_Tl_end 9 = .ok (.invokestatic 42, 3) := by decide +kernel
theorem d_Tl_end_12 : decode b_Tl_end 12 = .ok (.aload_n 0, 1) := by decide +kernel
theorem d_Tl_end_13 : decode b_Tl_end 13 = .ok (.invokevirtual 29, 3) := by decide +kernel
theorem d_Tl_end_16 : decode b_Tl_end 16 = .ok (.aload_n 0, 1) := by decide +kernel
theorem d_Tl_end_17 : decode b_Tl_end 17 = .ok (.getfield 14, 3) := by decide +kernel
theorem d_Tl_end_20 : decode b_Tl_end 20 = .ok (.iload_n 1, 1) := by decide +kernel
theorem d_Tl_end_21 : decode b_Tl_end 21 = .ok (.putfield 38, 3) := by decide +kernel
theorem d_Tl_end_24 : decode b_Tl_end 24 = .ok (.iload_n 1, 1) := by decide +kernel
theorem d_Tl_end_25 : decode b_Tl_end 25 = .ok (.ireturn, 1) := by decide +kernel
theorem d_Tl_append_0 : decode b_Tl_append 0 = .ok (.iload_n 1, 1) := by decide +kernel
theorem d_Tl_append_1 : decode b_Tl_append 1 = .ok (.iconst 1, 1) := by decide +kernel
theorem d_Tl_append_2 : decode b_Tl_append 2 = .ok (.bipush 15, 2) := by decide +kernel
theorem d_Tl_append_4 : decode b_Tl_append 4 = .ok (.invokestatic 42, 3) := by decide +kernel
theorem d_Tl_append_7 : decode b_Tl_append 7 = .ok (.iload_n 2, 1) := by decide +kernel
theorem d_Tl_append_8 : decode b_Tl_append 8 = .ok (.invokestatic 49, 3) := by decide +kernel
theorem d_Tl_append_11 : decode b_Tl_append 11 = .ok (.iload_n 3, 1) := by decide +kernel
theorem d_Tl_append_12 : decode b_Tl_append 12 = .ok (.iconst 0, 1) := by decide +kernel
theorem d_Tl_append_13 : decode b_Tl_append 13 = .ok (.bipush 45, 2) := by decide +kernel
theorem d_Tl_append_15 : decode b_Tl_append 15 = .ok (.invokestatic 42, 3) := by decide +kernel
theorem d_Tl_append_18 : decode b_Tl_append 18 = .ok (.aload_n 0, 1) := by decide +kernel
theorem d_Tl_append_19 : decode b_Tl_append 19 = .ok (.getfield 14, 3) := by decide +kernel
theorem d_Tl_append_22 : decode b_Tl_append 22 = .ok (.getfield 38, 3) := by decide +kernel
theorem d_Tl_append_25 : decode b_Tl_append 25 = .ok (.iload_n 3, 1) := by decide +kernel
theorem d_Tl_append_26 : decode b_Tl_append 26 = .ok (.iload_n 3, 1) := by decide +kernel
theorem d_Tl_append_27 : decode b_Tl_append 27 = .ok (.sipush 1000, 3) := by decide +kernel
theorem d_Tl_append_30 : decode b_Tl_append 30 = .ok (.iadd, 1) := by decide +kernel
theorem d_Tl_append_31 : decode b_Tl_append 31 = .ok (.invokestatic 42, 3) := by decide +kernel
theorem d_Tl_append_34 : decode b_Tl_append 34 = .ok (.aload_n 0, 1) := by decide +kernel
theorem d_Tl_append_35 : decode b_Tl_append 35 = .ok (.invokevirtual 29, 3) := by decide +kernel
theorem d_Tl_append_38 : decode b_Tl_append 38 = .ok (.aload_n 0, 1) := by decide +kernel
theorem d_Tl_append_39 : decode b_Tl_append 39 = .ok (.getfield 21, 3) := by decide +kernel
theorem d_Tl_append_42 : decode b_Tl_append 42 = .ok (.bipush 9, 2) := by decide +kernel
theorem d_Tl_append_44 : decode b_Tl_append 44 = .ok (.aload_n 0, 1) := by decide +kernel
theorem d_Tl_append_45 : decode b_Tl_append 45 = .ok (.getfield 14, 3) := by decide +kernel
theorem d_Tl_append_48 : decode b_Tl_append 48 = .ok (.getfield 38, 3) := by decide +kernel
theorem d_Tl_append_51 : decode b_Tl_append 51 = .ok (.iadd, 1) := by decide +kernel
theorem d_Tl_append_52 : decode b_Tl_append 52 = .ok (.invokevirtual 52, 3) := by decide +kernel
theorem d_Tl_append_55 : decode b_Tl_append 55 = .ok (.ifCond .ne 7, 3) := by decide +kernel
theorem d_Tl_append_58 : decode b_Tl_append 58 = .ok (.iconst 1, 1) := by decide +kernel
theorem d_Tl_append_59 : decode b_Tl_append 59 = .ok (.goto 4, 3) := by decide +kernel
theorem d_Tl_append_62 : decode b_Tl_append 62 = .ok (.iconst 0, 1) := by decide +kernel
theorem d_Tl_append_63 : decode b_Tl_append 63 = .ok (.istore 4, 2) := by decide +kernel
theorem d_Tl_append_65 : decode b_Tl_append 65 = .ok (.iload 4, 2) := by decide +kernel
theorem d_Tl_append_67 : decode b_Tl_append 67 = .ok (.ifCond .eq 33, 3) := by decide +kernel
theorem d_Tl_append_70 : decode b_Tl_append 70 = .ok (.aload_n 0, 1) := by decide +kernel
theorem d_Tl_append_71 : decode b_Tl_append 71 = .ok (.getfield 21, 3) := by decide +kernel
theorem d_Tl_append_74 : decode b_Tl_append 74 = .ok (.getfield 56, 3) := by decide +kernel
theorem d_Tl_append_77 : decode b_Tl_append 77 = .ok (.bipush 24, 2) := by decide +kernel
theorem d_Tl_append_79 : decode b_Tl_append 79 = .ok (.if_icmp .ne 21, 3) := by decide +kernel
theorem d_Tl_append_82 : decode b_Tl_append 82 = .ok (.aload_n 0, 1) := by decide +kernel
theorem d_Tl_append_83 : decode b_Tl_append 83 = .ok (.getfield 14, 3) := by decide +kernel
theorem d_Tl_append_86 : decode b_Tl_append 86 = .ok (.iconst 0, 1) := by decide +kernel
theorem d_Tl_append_87 : decode b_Tl_append 87 = .ok (.putfield 38, 3) := by decide +kernel
theorem d_Tl_append_90 : decode b_Tl_append 90 = .ok (.new 57, 3) := by decide +kernel
theorem d_Tl_append_93 : decode b_Tl_append 93 = .ok (.dup, 1) := by decide +kernel
theorem d_Tl_append_94 : decode b_Tl_append 94 = .ok (.ldc 59, 2) := by decide +kernel
theorem d_Tl_append_96 : decode b_Tl_append 96 = .ok (.invokespecial 61, 3) := by decide +kernel
theorem d_Tl_append_99 : decode b_Tl_append 99 = .ok (.athrow, 1) := by decide +kernel
theorem d_Tl_append_100 : decode b_Tl_append 100 = .ok (.iload 4, 2) := by decide +kernel
theorem d_Tl_append_102 : decode b_Tl_append 102 = .ok (.ifCond .eq 13, 3) := by decide +kernel
theorem d_Tl_append_105 : decode b_Tl_append 105 = .ok (.aload_n 0, 1) := by decide +kernel
theorem d_Tl_append_106 : decode b_Tl_append 106 = .ok (.getfield 21, 3) := by decide +kernel
theorem d_Tl_append_109 : decode b_Tl_append 109 = .ok (.invokevirtual 64, 3) := by decide +kernel
theorem d_Tl_append_112 : decode b_Tl_append 112 = .ok (.ifCond .eq 24, 3) := by decide +kernel
theorem d_Tl_append_115 : decode b_Tl_append 115 = .ok (.aload_n 0, 1) := by decide +kernel
theorem d_Tl_append_116 : decode b_Tl_append 116 = .ok (.getfield 21, 3) := by decide +kernel
theorem d_Tl_append_119 : decode b_Tl_append 119 = .ok (.iload_n 1, 1) := by decide +kernel
theorem d_Tl_append_120 : decode b_Tl_append 120 = .ok (.iload_n 2, 1) := by decide +kernel
theorem d_Tl_append_121 : decode b_Tl_append 121 = .ok (.iload_n 3, 1) := by decide +kernel
theorem d_Tl_append_122 : decode b_Tl_append 122 = .ok (.aload_n 0, 1) := by decide +kernel
theorem d_Tl_append_123 : decode b_Tl_append 123 = .ok (.getfield 14, 3) := by decide +kernel
theorem d_Tl_append_126 : decode b_Tl_append 126 = .ok (.invokevirtual 68, 3) := by decide +kernel
theorem d_Tl_append_129 : decode b_Tl_append 129 = .ok (.ifCond .eq 7, 3) := by decide +kernel
theorem d_Tl_append_132 : decode b_Tl_append 132 = .ok (.iconst 1, 1) := by decide +kernel
theorem d_Tl_append_133 : decode b_Tl_append 133 = .ok (.goto 4, 3) := by decide +kernel
theorem d_Tl_append_136 : decode b_Tl_append 136 = .ok (.iconst 0, 1) := by decide +kernel
theorem d_Tl_append_137 : decode b_Tl_append 137 = .ok (.istore 5, 2) := by decide +kernel
theorem d_Tl_append_139 : decode b_Tl_append 139 = .ok (.aload_n 0, 1) := by decide +kernel
theorem d_Tl_append_140 : decode b_Tl_append 140 = .ok (.getfield 14, 3) := by decide +kernel
theorem d_Tl_append_143 : decode b_Tl_append 143 = .ok (.iconst 0, 1) := by decide +kernel
theorem d_Tl_append_144 : decode b_Tl_append 144 = .ok (.putfield 38, 3) := by decide +kernel
theorem d_Tl_append_147 : decode b_Tl_append 147 = .ok (.iload 5, 2) := by decide +kernel
theorem d_Tl_append_149 : decode b_Tl_append 149 = .ok (.ifCond .ne 18, 3) := by decide +kernel
theorem d_Tl_append_152 : decode b_Tl_append 152 = .ok (.aload_n 0, 1) := by decide +kernel
theorem d_Tl_append_153 : decode b_Tl_append 153 = .ok (.iconst 1, 1) := by decide +kernel
theorem d_Tl_append_154 : decode b_Tl_append 154 = .ok (.putfield 25, 3) := by decide +kernel
theorem d_Tl_append_157 : decode b_Tl_append 157 = .ok (.new 72, 3) := by decide +kernel
theorem d_Tl_append_160 : decode b_Tl_append 160 = .ok (.dup, 1) := by decide +kernel
theorem d_Tl_append_161 : decode b_Tl_append 161 = .ok (.ldc 74, 2) := by decide +kernel
theorem d_Tl_append_163 : decode b_Tl_append 163 = .ok (.invokespecial 76, 3) := by decide +kernel
theorem d_Tl_append_166 : decode b_Tl_append 166 = .ok (.athrow, 1) := by decide +kernel
theorem d_Tl_append_167 : decode b_Tl_append 167 = .ok (.aload_n 0, 1) := by decide +kernel
theorem d_Tl_append_168 : decode b_Tl_append 168 = .ok (.getfield 21, 3) := by decide +kernel
theorem d_Tl_append_171 : decode b_Tl_append 171 = .ok (.invokevirtual 77, 3) := by decide +kernel
theorem d_Tl_append_174 : decode b_Tl_append 174 = .ok (.ireturn, 1) := by decide +kernel
theorem d_Tl_retire_0 : decode b_Tl_retire 0 = .ok (.iload_n 1, 1) := by decide +kernel
theorem d_Tl_retire_1 : decode b_Tl_retire 1 = .ok (.iconst 0, 1) := by decide +kernel
theorem d_Tl_retire_2 : decode b_Tl_retire 2 = .ok (.bipush 23, 2) := by decide +kernel
theorem d_Tl_retire_4 : decode b_Tl_retire 4 = .ok (.invokestatic 42, 3) := by decide +kernel
theorem d_Tl_retire_7 : decode b_Tl_retire 7 = .ok (.aload_n 0, 1) := by decide +kernel
theorem d_Tl_retire_8 : decode b_Tl_retire 8 = .ok (.invokevirtual 29, 3) := by decide +kernel
theorem d_Tl_retire_11 : decode b_Tl_retire 11 = .ok (.iload_n 1, 1) := by decide +kernel
theorem d_Tl_retire_12 : decode b_Tl_retire 12 = .ok (.aload_n 0, 1) := by decide +kernel
theorem d_Tl_retire_13 : decode b_Tl_retire 13 = .ok (.getfield 21, 3) := by decide +kernel
theorem d_Tl_retire_16 : decode b_Tl_retire 16 = .ok (.getfield 56, 3) := by decide +kernel
theorem d_Tl_retire_19 : decode b_Tl_retire 19 = .ok (.if_icmp .lt 13, 3) := by decide +kernel
theorem d_Tl_retire_22 : decode b_Tl_retire 22 = .ok (.new 81, 3) := by decide +kernel
theorem d_Tl_retire_25 : decode b_Tl_retire 25 = .ok (.dup, 1) := by decide +kernel
theorem d_Tl_retire_26 : decode b_Tl_retire 26 = .ok (.ldc 83, 2) := by decide +kernel
theorem d_Tl_retire_28 : decode b_Tl_retire 28 = .ok (.invokespecial 85, 3) := by decide +kernel
theorem d_Tl_retire_31 : decode b_Tl_retire 31 = .ok (.athrow, 1) := by decide +kernel
theorem d_Tl_retire_32 : decode b_Tl_retire 32 = .ok (.aload_n 0, 1) := by decide +kernel
theorem d_Tl_retire_33 : decode b_Tl_retire 33 = .ok (.getfield 21, 3) := by decide +kernel
theorem d_Tl_retire_36 : decode b_Tl_retire 36 = .ok (.iload_n 1, 1) := by decide +kernel
theorem d_Tl_retire_37 : decode b_Tl_retire 37 = .ok (.invokevirtual 86, 3) := by decide +kernel
theorem d_Tl_retire_40 : decode b_Tl_retire 40 = .ok (.aload_n 0, 1) := by decide +kernel
theorem d_Tl_retire_41 : decode b_Tl_retire 41 = .ok (.getfield 21, 3) := by decide +kernel
theorem d_Tl_retire_44 : decode b_Tl_retire 44 = .ok (.getfield 56, 3) := by decide +kernel
theorem d_Tl_retire_47 : decode b_Tl_retire 47 = .ok (.ireturn, 1) := by decide +kernel
theorem d_Tl_cut_0 : decode b_Tl_cut 0 = .ok (.iload_n 1, 1) := by decide +kernel
theorem d_Tl_cut_1 : decode b_Tl_cut 1 = .ok (.invokestatic 49, 3) := by decide +kernel
theorem d_Tl_cut_4 : decode b_Tl_cut 4 = .ok (.iload_n 2, 1) := by decide +kernel
theorem d_Tl_cut_5 : decode b_Tl_cut 5 = .ok (.invokestatic 49, 3) := by decide +kernel
theorem d_Tl_cut_8 : decode b_Tl_cut 8 = .ok (.aload_n 0, 1) := by decide +kernel
theorem d_Tl_cut_9 : decode b_Tl_cut 9 = .ok (.getfield 21, 3) := by decide +kernel
theorem d_Tl_cut_12 : decode b_Tl_cut 12 = .ok (.getfield 89, 3) := by decide +kernel
theorem d_Tl_cut_15 : decode b_Tl_cut 15 = .ok (.getfield 93, 3) := by decide +kernel
theorem d_Tl_cut_18 : decode b_Tl_cut 18 = .ok (.istore_n 3, 1) := by decide +kernel
theorem d_Tl_cut_19 : decode b_Tl_cut 19 = .ok (.aload_n 0, 1) := by decide +kernel
theorem d_Tl_cut_20 : decode b_Tl_cut 20 = .ok (.getfield 21, 3) := by decide +kernel
theorem d_Tl_cut_23 : decode b_Tl_cut 23 = .ok (.getfield 89, 3) := by decide +kernel
theorem d_Tl_cut_26 : decode b_Tl_cut 26 = .ok (.iload_n 1, 1) := by decide +kernel
theorem d_Tl_cut_27 : decode b_Tl_cut 27 = .ok (.iload_n 2, 1) := by decide +kernel
theorem d_Tl_cut_28 : decode b_Tl_cut 28 = .ok (.invokevirtual 98, 3) := by decide +kernel
theorem d_Tl_cut_31 : decode b_Tl_cut 31 = .ok (.iload_n 3, 1) := by decide +kernel
theorem d_Tl_cut_32 : decode b_Tl_cut 32 = .ok (.ifCond .eq 7, 3) := by decide +kernel
theorem d_Tl_cut_35 : decode b_Tl_cut 35 = .ok (.iconst 1, 1) := by decide +kernel
theorem d_Tl_cut_36 : decode b_Tl_cut 36 = .ok (.goto 4, 3) := by decide +kernel
theorem d_Tl_cut_39 : decode b_Tl_cut 39 = .ok (.iconst 0, 1) := by decide +kernel
theorem d_Tl_cut_40 : decode b_Tl_cut 40 = .ok (.ireturn, 1) := by decide +kernel
theorem d_Tl_mount_0 : decode b_Tl_mount 0 = .ok (.aload_n 0, 1) := by decide +kernel
theorem d_Tl_mount_1 : decode b_Tl_mount 1 = .ok (.iconst 0, 1) := by decide +kernel
theorem d_Tl_mount_2 : decode b_Tl_mount 2 = .ok (.putfield 25, 3) := by decide +kernel
theorem d_Tl_mount_5 : decode b_Tl_mount 5 = .ok (.aload_n 0, 1) := by decide +kernel
theorem d_Tl_mount_6 : decode b_Tl_mount 6 = .ok (.getfield 14, 3) := by decide +kernel
theorem d_Tl_mount_9 : decode b_Tl_mount 9 = .ok (.iconst 0, 1) := by decide +kernel
theorem d_Tl_mount_10 : decode b_Tl_mount 10 = .ok (.putfield 38, 3) := by decide +kernel
theorem d_Tl_mount_13 : decode b_Tl_mount 13 = .ok (.aload_n 0, 1) := by decide +kernel
theorem d_Tl_mount_14 : decode b_Tl_mount 14 = .ok (.getfield 21, 3) := by decide +kernel
theorem d_Tl_mount_17 : decode b_Tl_mount 17 = .ok (.invokevirtual 102, 3) := by decide +kernel
theorem d_Tl_mount_20 : decode b_Tl_mount 20 = .ok (.aload_n 0, 1) := by decide +kernel
theorem d_Tl_mount_21 : decode b_Tl_mount 21 = .ok (.getfield 21, 3) := by decide +kernel
theorem d_Tl_mount_24 : decode b_Tl_mount 24 = .ok (.invokevirtual 105, 3) := by decide +kernel
theorem d_Tl_mount_27 : decode b_Tl_mount 27 = .ok (.ireturn, 1) := by decide +kernel
theorem d_Tl_record_0 : decode b_Tl_record 0 = .ok (.iload_n 2, 1) := by decide +kernel
theorem d_Tl_record_1 : decode b_Tl_record 1 = .ok (.iconst 0, 1) := by decide +kernel
theorem d_Tl_record_2 : decode b_Tl_record 2 = .ok (.iconst 4, 1) := by decide +kernel
theorem d_Tl_record_3 : decode b_Tl_record 3 = .ok (.invokestatic 42, 3) := by decide +kernel
theorem d_Tl_record_6 : decode b_Tl_record 6 = .ok (.aload_n 0, 1) := by decide +kernel
theorem d_Tl_record_7 : decode b_Tl_record 7 = .ok (.invokevirtual 29, 3) := by decide +kernel
theorem d_Tl_record_10 : decode b_Tl_record 10 = .ok (.aload_n 0, 1) := by decide +kernel
theorem d_Tl_record_11 : decode b_Tl_record 11 = .ok (.iload_n 1, 1) := by decide +kernel
theorem d_Tl_record_12 : decode b_Tl_record 12 = .ok (.invokevirtual 108, 3) := by decide +kernel
theorem d_Tl_record_15 : decode b_Tl_record 15 = .ok (.istore_n 3, 1) := by decide +kernel
theorem d_Tl_record_16 : decode b_Tl_record 16 = .ok (.iload_n 2, 1) := by decide +kernel
theorem d_Tl_record_17 : decode b_Tl_record 17 = .ok (.tableswitch 78 0 3 #[31, 41, 53, 65], 31) := by decide +kernel
theorem d_Tl_record_48 : decode b_Tl_record 48 = .ok (.aload_n 0, 1) := by decide +kernel
theorem d_Tl_record_49 : decode b_Tl_record 49 = .ok (.getfield 21, 3) := by decide +kernel
theorem d_Tl_record_52 : decode b_Tl_record 52 = .ok (.iload_n 3, 1) := by decide +kernel
theorem d_Tl_record_53 : decode b_Tl_record 53 = .ok (.iconst 1, 1) := by decide +kernel
theorem d_Tl_record_54 : decode b_Tl_record 54 = .ok (.invokevirtual 112, 3) := by decide +kernel
theorem d_Tl_record_57 : decode b_Tl_record 57 = .ok (.ireturn, 1) := by decide +kernel
theorem d_Tl_record_58 : decode b_Tl_record 58 = .ok (.aload_n 0, 1) := by decide +kernel
theorem d_Tl_record_59 : decode b_Tl_record 59 = .ok (.getfield 21, 3) := by decide +kernel
theorem d_Tl_record_62 : decode b_Tl_record 62 = .ok (.iload_n 3, 1) := by decide +kernel
theorem d_Tl_record_63 : decode b_Tl_record 63 = .ok (.iconst 1, 1) := by decide +kernel
theorem d_Tl_record_64 : decode b_Tl_record 64 = .ok (.iadd, 1) := by decide +kernel
theorem d_Tl_record_65 : decode b_Tl_record 65 = .ok (.iconst 4, 1) := by decide +kernel
theorem d_Tl_record_66 : decode b_Tl_record 66 = .ok (.invokevirtual 112, 3) := by decide +kernel
theorem d_Tl_record_69 : decode b_Tl_record 69 = .ok (.ireturn, 1) := by decide +kernel
theorem d_Tl_record_70 : decode b_Tl_record 70 = .ok (.aload_n 0, 1) := by decide +kernel
theorem d_Tl_record_71 : decode b_Tl_record 71 = .ok (.getfield 21, 3) := by decide +kernel
theorem d_Tl_record_74 : decode b_Tl_record 74 = .ok (.iload_n 3, 1) := by decide +kernel
theorem d_Tl_record_75 : decode b_Tl_record 75 = .ok (.iconst 5, 1) := by decide +kernel
theorem d_Tl_record_76 : decode b_Tl_record 76 = .ok (.iadd, 1) := by decide +kernel
theorem d_Tl_record_77 : decode b_Tl_record 77 = .ok (.iconst 1, 1) := by decide +kernel
theorem d_Tl_record_78 : decode b_Tl_record 78 = .ok (.invokevirtual 112, 3) := by decide +kernel
theorem d_Tl_record_81 : decode b_Tl_record 81 = .ok (.ireturn, 1) := by decide +kernel
theorem d_Tl_record_82 : decode b_Tl_record 82 = .ok (.aload_n 0, 1) := by decide +kernel
theorem d_Tl_record_83 : decode b_Tl_record 83 = .ok (.getfield 21, 3) := by decide +kernel
theorem d_Tl_record_86 : decode b_Tl_record 86 = .ok (.iload_n 3, 1) := by decide +kernel
theorem d_Tl_record_87 : decode b_Tl_record 87 = .ok (.bipush 6, 2) := by decide +kernel
theorem d_Tl_record_89 : decode b_Tl_record 89 = .ok (.iadd, 1) := by decide +kernel
theorem d_Tl_record_90 : decode b_Tl_record 90 = .ok (.iconst 2, 1) := by decide +kernel
theorem d_Tl_record_91 : decode b_Tl_record 91 = .ok (.invokevirtual 112, 3) := by decide +kernel
theorem d_Tl_record_94 : decode b_Tl_record 94 = .ok (.ireturn, 1) := by decide +kernel
theorem d_Tl_record_95 : decode b_Tl_record 95 = .ok (.iload_n 3, 1) := by decide +kernel
theorem d_Tl_record_96 : decode b_Tl_record 96 = .ok (.sipush 2048, 3) := by decide +kernel
theorem d_Tl_record_99 : decode b_Tl_record 99 = .ok (.idiv, 1) := by decide +kernel
theorem d_Tl_record_100 : decode b_Tl_record 100 = .ok (.ireturn, 1) := by decide +kernel
theorem d_Tl_word_0 : decode b_Tl_word 0 = .ok (.aload_n 0, 1) := by decide +kernel
theorem d_Tl_word_1 : decode b_Tl_word 1 = .ok (.invokevirtual 29, 3) := by decide +kernel
theorem d_Tl_word_4 : decode b_Tl_word 4 = .ok (.aload_n 0, 1) := by decide +kernel
theorem d_Tl_word_5 : decode b_Tl_word 5 = .ok (.iload_n 1, 1) := by decide +kernel
theorem d_Tl_word_6 : decode b_Tl_word 6 = .ok (.invokevirtual 108, 3) := by decide +kernel
theorem d_Tl_word_9 : decode b_Tl_word 9 = .ok (.istore_n 3, 1) := by decide +kernel
theorem d_Tl_word_10 : decode b_Tl_word 10 = .ok (.aload_n 0, 1) := by decide +kernel
theorem d_Tl_word_11 : decode b_Tl_word 11 = .ok (.getfield 21, 3) := by decide +kernel
theorem d_Tl_word_14 : decode b_Tl_word 14 = .ok (.iload_n 3, 1) := by decide +kernel
theorem d_Tl_word_15 : decode b_Tl_word 15 = .ok (.iconst 5, 1) := by decide +kernel
theorem d_Tl_word_16 : decode b_Tl_word 16 = .ok (.iadd, 1) := by decide +kernel
theorem d_Tl_word_17 : decode b_Tl_word 17 = .ok (.iconst 1, 1) := by decide +kernel
theorem d_Tl_word_18 : decode b_Tl_word 18 = .ok (.invokevirtual 112, 3) := by decide +kernel
theorem d_Tl_word_21 : decode b_Tl_word 21 = .ok (.aload_n 0, 1) := by decide +kernel
theorem d_Tl_word_22 : decode b_Tl_word 22 = .ok (.getfield 21, 3) := by decide +kernel
theorem d_Tl_word_25 : decode b_Tl_word 25 = .ok (.iload_n 3, 1) := by decide +kernel
theorem d_Tl_word_26 : decode b_Tl_word 26 = .ok (.bipush 6, 2) := by decide +kernel
theorem d_Tl_word_28 : decode b_Tl_word 28 = .ok (.iadd, 1) := by decide +kernel
theorem d_Tl_word_29 : decode b_Tl_word 29 = .ok (.iconst 2, 1) := by decide +kernel
theorem d_Tl_word_30 : decode b_Tl_word 30 = .ok (.invokevirtual 112, 3) := by decide +kernel
theorem d_Tl_word_33 : decode b_Tl_word 33 = .ok (.iadd, 1) := by decide +kernel
theorem d_Tl_word_34 : decode b_Tl_word 34 = .ok (.istore 4, 2) := by decide +kernel
theorem d_Tl_word_36 : decode b_Tl_word 36 = .ok (.iload_n 2, 1) := by decide +kernel
theorem d_Tl_word_37 : decode b_Tl_word 37 = .ok (.ifCond .lt 9, 3) := by decide +kernel
theorem d_Tl_word_40 : decode b_Tl_word 40 = .ok (.iload_n 2, 1) := by decide +kernel
theorem d_Tl_word_41 : decode b_Tl_word 41 = .ok (.iload 4, 2) := by decide +kernel
theorem d_Tl_word_43 : decode b_Tl_word 43 = .ok (.if_icmp .lt 13, 3) := by decide +kernel
theorem d_Tl_word_46 : decode b_Tl_word 46 = .ok (.new 57, 3) := by decide +kernel
theorem d_Tl_word_49 : decode b_Tl_word 49 = .ok (.dup, 1) := by decide +kernel
theorem d_Tl_word_50 : decode b_Tl_word 50 = .ok (.ldc 116, 2) := by decide +kernel
theorem d_Tl_word_52 : decode b_Tl_word 52 = .ok (.invokespecial 61, 3) := by decide +kernel
theorem d_Tl_word_55 : decode b_Tl_word 55 = .ok (.athrow, 1) := by decide +kernel
theorem d_Tl_word_56 : decode b_Tl_word 56 = .ok (.lconst 0, 1) := by decide +kernel
theorem d_Tl_word_57 : decode b_Tl_word 57 = .ok (.lstore 5, 2) := by decide +kernel
theorem d_Tl_word_59 : decode b_Tl_word 59 = .ok (.iload_n 2, 1) := by decide +kernel
theorem d_Tl_word_60 : decode b_Tl_word 60 = .ok (.istore 7, 2) := by decide +kernel
theorem d_Tl_word_62 : decode b_Tl_word 62 = .ok (.iload 7, 2) := by decide +kernel
theorem d_Tl_word_64 : decode b_Tl_word 64 = .ok (.iload_n 2, 1) := by decide +kernel
theorem d_Tl_word_65 : decode b_Tl_word 65 = .ok (.bipush 8, 2) := by decide +kernel
theorem d_Tl_word_67 : decode b_Tl_word 67 = .ok (.iadd, 1) := by decide +kernel
theorem d_Tl_word_68 : decode b_Tl_word 68 = .ok (.if_icmp .ge 44, 3) := by decide +kernel
theorem d_Tl_word_71 : decode b_Tl_word 71 = .ok (.lload 5, 2) := by decide +kernel
theorem d_Tl_word_73 : decode b_Tl_word 73 = .ok (.bipush 8, 2) := by decide +kernel
theorem d_Tl_word_75 : decode b_Tl_word 75 = .ok (.lshl, 1) := by decide +kernel
theorem d_Tl_word_76 : decode b_Tl_word 76 = .ok (.iload 7, 2) := by decide +kernel
theorem d_Tl_word_78 : decode b_Tl_word 78 = .ok (.iload 4, 2) := by decide +kernel
theorem d_Tl_word_80 : decode b_Tl_word 80 = .ok (.if_icmp .ge 21, 3) := by decide +kernel
theorem d_Tl_word_83 : decode b_Tl_word 83 = .ok (.aload_n 0, 1) := by decide +kernel
theorem d_Tl_word_84 : decode b_Tl_word 84 = .ok (.getfield 21, 3) := by decide +kernel
theorem d_Tl_word_87 : decode b_Tl_word 87 = .ok (.iload_n 3, 1) := by decide +kernel
theorem d_Tl_word_88 : decode b_Tl_word 88 = .ok (.bipush 8, 2) := by decide +kernel
theorem d_Tl_word_90 : decode b_Tl_word 90 = .ok (.iadd, 1) := by decide +kernel
theorem d_Tl_word_91 : decode b_Tl_word 91 = .ok (.iload 7, 2) := by decide +kernel
theorem d_Tl_word_93 : decode b_Tl_word 93 = .ok (.iadd, 1) := by decide +kernel
theorem d_Tl_word_94 : decode b_Tl_word 94 = .ok (.iconst 1, 1) := by decide +kernel
theorem d_Tl_word_95 : decode b_Tl_word 95 = .ok (.invokevirtual 112, 3) := by decide +kernel
theorem d_Tl_word_98 : decode b_Tl_word 98 = .ok (.goto 4, 3) := by decide +kernel
theorem d_Tl_word_101 : decode b_Tl_word 101 = .ok (.iconst 0, 1) := by decide +kernel
theorem d_Tl_word_102 : decode b_Tl_word 102 = .ok (.i2l, 1) := by decide +kernel
theorem d_Tl_word_103 : decode b_Tl_word 103 = .ok (.lor, 1) := by decide +kernel
theorem d_Tl_word_104 : decode b_Tl_word 104 = .ok (.lstore 5, 2) := by decide +kernel
theorem d_Tl_word_106 : decode b_Tl_word 106 = .ok (.iinc 7 1, 3) := by decide +kernel
theorem d_Tl_word_109 : decode b_Tl_word 109 = .ok (.goto (-47), 3) := by decide +kernel
theorem d_Tl_word_112 : decode b_Tl_word 112 = .ok (.lload 5, 2) := by decide +kernel
theorem d_Tl_word_114 : decode b_Tl_word 114 = .ok (.lreturn, 1) := by decide +kernel
theorem d_Tl_count_0 : decode b_Tl_count 0 = .ok (.iload_n 1, 1) := by decide +kernel
theorem d_Tl_count_1 : decode b_Tl_count 1 = .ok (.iconst 0, 1) := by decide +kernel
theorem d_Tl_count_2 : decode b_Tl_count 2 = .ok (.iconst 4, 1) := by decide +kernel
theorem d_Tl_count_3 : decode b_Tl_count 3 = .ok (.invokestatic 42, 3) := by decide +kernel
theorem d_Tl_count_6 : decode b_Tl_count 6 = .ok (.iload_n 1, 1) := by decide +kernel
theorem d_Tl_count_7 : decode b_Tl_count 7 = .ok (.tableswitch 74 0 3 #[29, 41, 53, 66], 29) := by decide +kernel
theorem d_Tl_count_36 : decode b_Tl_count 36 = .ok (.aload_n 0, 1) := by decide +kernel
theorem d_Tl_count_37 : decode b_Tl_count 37 = .ok (.invokevirtual 29, 3) := by decide +kernel
theorem d_Tl_count_40 : decode b_Tl_count 40 = .ok (.aload_n 0, 1) := by decide +kernel
theorem d_Tl_count_41 : decode b_Tl_count 41 = .ok (.getfield 21, 3) := by decide +kernel
theorem d_Tl_count_44 : decode b_Tl_count 44 = .ok (.invokevirtual 105, 3) := by decide +kernel
theorem d_Tl_count_47 : decode b_Tl_count 47 = .ok (.ireturn, 1) := by decide +kernel
theorem d_Tl_count_48 : decode b_Tl_count 48 = .ok (.aload_n 0, 1) := by decide +kernel
theorem d_Tl_count_49 : decode b_Tl_count 49 = .ok (.invokevirtual 29, 3) := by decide +kernel
theorem d_Tl_count_52 : decode b_Tl_count 52 = .ok (.aload_n 0, 1) := by decide +kernel
theorem d_Tl_count_53 : decode b_Tl_count 53 = .ok (.getfield 21, 3) := by decide +kernel
theorem d_Tl_count_56 : decode b_Tl_count 56 = .ok (.getfield 56, 3) := by decide +kernel
theorem d_Tl_count_59 : decode b_Tl_count 59 = .ok (.ireturn, 1) := by decide +kernel
theorem d_Tl_count_60 : decode b_Tl_count 60 = .ok (.aload_n 0, 1) := by decide +kernel
theorem d_Tl_count_61 : decode b_Tl_count 61 = .ok (.getfield 25, 3) := by decide +kernel
theorem d_Tl_count_64 : decode b_Tl_count 64 = .ok (.ifCond .eq 7, 3) := by decide +kernel
theorem d_Tl_count_67 : decode b_Tl_count 67 = .ok (.iconst 1, 1) := by decide +kernel
theorem d_Tl_count_68 : decode b_Tl_count 68 = .ok (.goto 4, 3) := by decide +kernel
theorem d_Tl_count_71 : decode b_Tl_count 71 = .ok (.iconst 0, 1) := by decide +kernel
theorem d_Tl_count_72 : decode b_Tl_count 72 = .ok (.ireturn, 1) := by decide +kernel
theorem d_Tl_count_73 : decode b_Tl_count 73 = .ok (.aload_n 0, 1) := by decide +kernel
theorem d_Tl_count_74 : decode b_Tl_count 74 = .ok (.getfield 14, 3) := by decide +kernel
theorem d_Tl_count_77 : decode b_Tl_count 77 = .ok (.getfield 38, 3) := by decide +kernel
theorem d_Tl_count_80 : decode b_Tl_count 80 = .ok (.ireturn, 1) := by decide +kernel
theorem d_Tl_count_81 : decode b_Tl_count 81 = .ok (.aload_n 0, 1) := by decide +kernel
theorem d_Tl_count_82 : decode b_Tl_count 82 = .ok (.getfield 21, 3) := by decide +kernel
theorem d_Tl_count_85 : decode b_Tl_count 85 = .ok (.invokevirtual 118, 3) := by decide +kernel
theorem d_Tl_count_88 : decode b_Tl_count 88 = .ok (.ireturn, 1) := by decide +kernel
theorem d_Tl_refuseOutside_0 : decode b_Tl_refuseOutside 0 = .ok (.iload_n 0, 1) := by decide +kernel
theorem d_Tl_refuseOutside_1 : decode b_Tl_refuseOutside 1 = .ok (.iload_n 1, 1) := by decide +kernel
theorem d_Tl_refuseOutside_2 : decode b_Tl_refuseOutside 2 = .ok (.if_icmp .lt 8, 3) := by decide +kernel
theorem d_Tl_refuseOutside_5 : decode b_Tl_refuseOutside 5 = .ok (.iload_n 0, 1) := by decide +kernel
theorem d_Tl_refuseOutside_6 : decode b_Tl_refuseOutside 6 = .ok (.iload_n 2, 1) := by decide +kernel
theorem d_Tl_refuseOutside_7 : decode b_Tl_refuseOutside 7 = .ok (.if_icmp .le 13, 3) := by decide +kernel
theorem d_Tl_refuseOutside_10 : decode b_Tl_refuseOutside 10 = .ok (.new 121, 3) := by decide +kernel
theorem d_Tl_refuseOutside_13 : decode b_Tl_refuseOutside 13 = .ok (.dup, 1) := by decide +kernel
theorem d_Tl_refuseOutside_14 : decode b_Tl_refuseOutside 14 = .ok (.ldc 123, 2) := by decide +kernel
theorem d_Tl_refuseOutside_16 : decode b_Tl_refuseOutside 16 = .ok (.invokespecial 125, 3) := by decide +kernel
theorem d_Tl_refuseOutside_19 : decode b_Tl_refuseOutside 19 = .ok (.athrow, 1) := by decide +kernel
theorem d_Tl_refuseOutside_20 : decode b_Tl_refuseOutside 20 = .ok (.return_, 1) := by decide +kernel
theorem d_Tl_refuseNegative_0 : decode b_Tl_refuseNegative 0 = .ok (.iload_n 0, 1) := by decide +kernel
theorem d_Tl_refuseNegative_1 : decode b_Tl_refuseNegative 1 = .ok (.ifCond .ge 13, 3) := by decide +kernel
theorem d_Tl_refuseNegative_4 : decode b_Tl_refuseNegative 4 = .ok (.new 121, 3) := by decide +kernel
theorem d_Tl_refuseNegative_7 : decode b_Tl_refuseNegative 7 = .ok (.dup, 1) := by decide +kernel
theorem d_Tl_refuseNegative_8 : decode b_Tl_refuseNegative 8 = .ok (.ldc 126, 2) := by decide +kernel
theorem d_Tl_refuseNegative_10 : decode b_Tl_refuseNegative 10 = .ok (.invokespecial 125, 3) := by decide +kernel
theorem d_Tl_refuseNegative_13 : decode b_Tl_refuseNegative 13 = .ok (.athrow, 1) := by decide +kernel
theorem d_Tl_refuseNegative_14 : decode b_Tl_refuseNegative 14 = .ok (.return_, 1) := by decide +kernel
theorem d_Tl_refuseWhenDown_0 : decode b_Tl_refuseWhenDown 0 = .ok (.aload_n 0, 1) := by decide +kernel
theorem d_Tl_refuseWhenDown_1 : decode b_Tl_refuseWhenDown 1 = .ok (.getfield 25, 3) := by decide +kernel
theorem d_Tl_refuseWhenDown_4 : decode b_Tl_refuseWhenDown 4 = .ok (.ifCond .eq 13, 3) := by decide +kernel
theorem d_Tl_refuseWhenDown_7 : decode b_Tl_refuseWhenDown 7 = .ok (.new 72, 3) := by decide +kernel
theorem d_Tl_refuseWhenDown_10 : decode b_Tl_refuseWhenDown 10 = .ok (.dup, 1) := by decide +kernel
theorem d_Tl_refuseWhenDown_11 : decode b_Tl_refuseWhenDown 11 = .ok (.ldc 128, 2) := by decide +kernel
theorem d_Tl_refuseWhenDown_13 : decode b_Tl_refuseWhenDown 13 = .ok (.invokespecial 76, 3) := by decide +kernel
theorem d_Tl_refuseWhenDown_16 : decode b_Tl_refuseWhenDown 16 = .ok (.athrow, 1) := by decide +kernel
theorem d_Tl_refuseWhenDown_17 : decode b_Tl_refuseWhenDown 17 = .ok (.return_, 1) := by decide +kernel
theorem d_Tl_refuseBeyondTape_0 : decode b_Tl_refuseBeyondTape 0 = .ok (.aload_n 0, 1) := by decide +kernel
theorem d_Tl_refuseBeyondTape_1 : decode b_Tl_refuseBeyondTape 1 = .ok (.getfield 14, 3) := by decide +kernel
theorem d_Tl_refuseBeyondTape_4 : decode b_Tl_refuseBeyondTape 4 = .ok (.getfield 38, 3) := by decide +kernel
theorem d_Tl_refuseBeyondTape_7 : decode b_Tl_refuseBeyondTape 7 = .ok (.iload_n 1, 1) := by decide +kernel
theorem d_Tl_refuseBeyondTape_8 : decode b_Tl_refuseBeyondTape 8 = .ok (.iadd, 1) := by decide +kernel
theorem d_Tl_refuseBeyondTape_9 : decode b_Tl_refuseBeyondTape 9 = .ok (.sipush 1060, 3) := by decide +kernel
theorem d_Tl_refuseBeyondTape_12 : decode b_Tl_refuseBeyondTape 12 = .ok (.if_icmp .le 13, 3) := by decide +kernel
theorem d_Tl_refuseBeyondTape_15 : decode b_Tl_refuseBeyondTape 15 = .ok (.new 57, 3) := by decide +kernel
theorem d_Tl_refuseBeyondTape_18 : decode b_Tl_refuseBeyondTape 18 = .ok (.dup, 1) := by decide +kernel
theorem d_Tl_refuseBeyondTape_19 : decode b_Tl_refuseBeyondTape 19 = .ok (.ldc 130, 2) := by decide +kernel
theorem d_Tl_refuseBeyondTape_21 : decode b_Tl_refuseBeyondTape 21 = .ok (.invokespecial 61, 3) := by decide +kernel
theorem d_Tl_refuseBeyondTape_24 : decode b_Tl_refuseBeyondTape 24 = .ok (.athrow, 1) := by decide +kernel
theorem d_Tl_refuseBeyondTape_25 : decode b_Tl_refuseBeyondTape 25 = .ok (.return_, 1) := by decide +kernel
theorem d_Tl_addressOf_0 : decode b_Tl_addressOf 0 = .ok (.aload_n 0, 1) := by decide +kernel
theorem d_Tl_addressOf_1 : decode b_Tl_addressOf 1 = .ok (.getfield 21, 3) := by decide +kernel
theorem d_Tl_addressOf_4 : decode b_Tl_addressOf 4 = .ok (.iload_n 1, 1) := by decide +kernel
theorem d_Tl_addressOf_5 : decode b_Tl_addressOf 5 = .ok (.invokevirtual 132, 3) := by decide +kernel
theorem d_Tl_addressOf_8 : decode b_Tl_addressOf 8 = .ok (.istore_n 2, 1) := by decide +kernel
theorem d_Tl_addressOf_9 : decode b_Tl_addressOf 9 = .ok (.iload_n 2, 1) := by decide +kernel
theorem d_Tl_addressOf_10 : decode b_Tl_addressOf 10 = .ok (.ifCond .ge 13, 3) := by decide +kernel
theorem d_Tl_addressOf_13 : decode b_Tl_addressOf 13 = .ok (.new 81, 3) := by decide +kernel
theorem d_Tl_addressOf_16 : decode b_Tl_addressOf 16 = .ok (.dup, 1) := by decide +kernel
theorem d_Tl_addressOf_17 : decode b_Tl_addressOf 17 = .ok (.ldc 135, 2) := by decide +kernel
theorem d_Tl_addressOf_19 : decode b_Tl_addressOf 19 = .ok (.invokespecial 85, 3) := by decide +kernel
theorem d_Tl_addressOf_22 : decode b_Tl_addressOf 22 = .ok (.athrow, 1) := by decide +kernel
theorem d_Tl_addressOf_23 : decode b_Tl_addressOf 23 = .ok (.iload_n 2, 1) := by decide +kernel
theorem d_Tl_addressOf_24 : decode b_Tl_addressOf 24 = .ok (.ireturn, 1) := by decide +kernel
