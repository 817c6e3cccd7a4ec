theorem d_Mo_init_0 : decode b_Mo_init 0 = .ok (.aload_n 0, 1) := by decide +kernel
theorem d_Mo_init_1 : decode b_Mo_init 1 = .ok (.invokespecial 1, 3) := by decide +kernel
theorem d_Mo_init_4 : decode b_Mo_init 4 = .ok (.aload_n 0, 1) := by decide +kernel
theorem d_Mo_init_5 : decode b_Mo_init 5 = .ok (.sipush 1060, 3) := by decide +kernel
theorem d_Mo_init_8 : decode b_Mo_init 8 = .ok (.newarray .byte, 2) := by decide +kernel
theorem d_Mo_init_10 : decode b_Mo_init 10 = .ok (.putfield 7, 3) := by decide +kernel
theorem d_Mo_init_13 : decode b_Mo_init 13 = .ok (.aload_n 0, 1) := by decide +kernel
theorem d_Mo_init_14 : decode b_Mo_init 14 = .ok (.bipush 24, 2) := by decide +kernel
theorem d_Mo_init_16 : decode b_Mo_init 16 = .ok (.newarray .int, 2) := by decide +kernel
theorem d_Mo_init_18 : decode b_Mo_init 18 = .ok (.putfield 13, 3) := by decide +kernel
theorem d_Mo_init_21 : decode b_Mo_init 21 = .ok (.aload_n 0, 1) := by decide +kernel
theorem d_Mo_init_22 : decode b_Mo_init 22 = .ok (.bipush 24, 2) := by decide +kernel
theorem d_Mo_init_24 : decode b_Mo_init 24 = .ok (.newarray .int, 2) := by decide +kernel
theorem d_Mo_init_26 : decode b_Mo_init 26 = .ok (.putfield 17, 3) := by decide +kernel
theorem d_Mo_init_29 : decode b_Mo_init 29 = .ok (.aload_n 0, 1) := by decide +kernel
theorem d_Mo_init_30 : decode b_Mo_init 30 = .ok (.bipush 24, 2) := by decide +kernel
theorem d_Mo_init_32 : decode b_Mo_init 32 = .ok (.newarray .boolean, 2) := by decide +kernel
theorem d_Mo_init_34 : decode b_Mo_init 34 = .ok (.putfield 20, 3) := by decide +kernel
theorem d_Mo_init_37 : decode b_Mo_init 37 = .ok (.aload_n 0, 1) := by decide +kernel
theorem d_Mo_init_38 : decode b_Mo_init 38 = .ok (.bipush 24, 2) := by decide +kernel
theorem d_Mo_init_40 : decode b_Mo_init 40 = .ok (.newarray .int, 2) := by decide +kernel
theorem d_Mo_init_42 : decode b_Mo_init 42 = .ok (.putfield 24, 3) := by decide +kernel
theorem d_Mo_init_45 : decode b_Mo_init 45 = .ok (.aload_n 0, 1) := by decide +kernel
theorem d_Mo_init_46 : decode b_Mo_init 46 = .ok (.bipush 24, 2) := by decide +kernel
theorem d_Mo_init_48 : decode b_Mo_init 48 = .ok (.newarray .int, 2) := by decide +kernel
theorem d_Mo_init_50 : decode b_Mo_init 50 = .ok (.putfield 27, 3) := by decide +kernel
theorem d_Mo_init_53 : decode b_Mo_init 53 = .ok (.aload_n 0, 1) := by decide +kernel
theorem d_Mo_init_54 : decode b_Mo_init 54 = .ok (.iconst (-1), 1) := by decide +kernel
theorem d_Mo_init_55 : decode b_Mo_init 55 = .ok (.putfield 30, 3) := by decide +kernel
theorem d_Mo_init_58 : decode b_Mo_init 58 = .ok (.aload_n 0, 1) := by decide +kernel
theorem d_Mo_init_59 : decode b_Mo_init 59 = .ok (.ldc 34, 2) := by decide +kernel
theorem d_Mo_init_61 : decode b_Mo_init 61 = .ok (.newarray .byte, 2) := by decide +kernel
theorem d_Mo_init_63 : decode b_Mo_init 63 = .ok (.putfield 35, 3) := by decide +kernel
theorem d_Mo_init_66 : decode b_Mo_init 66 = .ok (.return_, 1) := by decide +kernel
theorem d_Mo_thrown_0 : decode b_Mo_thrown 0 = .ok (.aload_n 0, 1) := by decide +kernel
theorem d_Mo_thrown_1 : decode b_Mo_thrown 1 = .ok (.getfield 38, 3) := by decide +kernel
theorem d_Mo_thrown_4 : decode b_Mo_thrown 4 = .ok (.ireturn, 1) := by decide +kernel
theorem d_Mo_fail_0 : decode b_Mo_fail 0 = .ok (.aload_n 0, 1) := by decide +kernel
theorem d_Mo_fail_1 : decode b_Mo_fail 1 = .ok (.iload_n 1, 1) := by decide +kernel
theorem d_Mo_fail_2 : decode b_Mo_fail 2 = .ok (.putfield 38, 3) := by decide +kernel
theorem d_Mo_fail_5 : decode b_Mo_fail 5 = .ok (.iconst 0, 1) := by decide +kernel
theorem d_Mo_fail_6 : decode b_Mo_fail 6 = .ok (.ireturn, 1) := by decide +kernel
theorem d_Mo_feed_0 : decode b_Mo_feed 0 = .ok (.aload_n 0, 1) := by decide +kernel
theorem d_Mo_feed_1 : decode b_Mo_feed 1 = .ok (.iconst 0, 1) := by decide +kernel
theorem d_Mo_feed_2 : decode b_Mo_feed 2 = .ok (.putfield 38, 3) := by decide +kernel
theorem d_Mo_feed_5 : decode b_Mo_feed 5 = .ok (.aload_n 0, 1) := by decide +kernel
theorem d_Mo_feed_6 : decode b_Mo_feed 6 = .ok (.getfield 41, 3) := by decide +kernel
theorem d_Mo_feed_9 : decode b_Mo_feed 9 = .ok (.ifCond .eq 9, 3) := by decide +kernel
theorem d_Mo_feed_12 : decode b_Mo_feed 12 = .ok (.aload_n 0, 1) := by decide +kernel
theorem d_Mo_feed_13 : decode b_Mo_feed 13 = .ok (.iconst 1, 1) := by decide +kernel
theorem d_Mo_feed_14 : decode b_Mo_feed 14 = .ok (.invokevirtual 45, 3) := by decide +kernel
theorem d_Mo_feed_17 : decode b_Mo_feed 17 = .ok (.ireturn, 1) := by decide +kernel
theorem d_Mo_feed_18 : decode b_Mo_feed 18 = .ok (.aload_n 0, 1) := by decide +kernel
theorem d_Mo_feed_19 : decode b_Mo_feed 19 = .ok (.getfield 49, 3) := by decide +kernel
theorem d_Mo_feed_22 : decode b_Mo_feed 22 = .ok (.bipush 20, 2) := by decide +kernel
theorem d_Mo_feed_24 : decode b_Mo_feed 24 = .ok (.iadd, 1) := by decide +kernel
theorem d_Mo_feed_25 : decode b_Mo_feed 25 = .ok (.sipush 1060, 3) := by decide +kernel
theorem d_Mo_feed_28 : decode b_Mo_feed 28 = .ok (.if_icmp .le 9, 3) := by decide +kernel
theorem d_Mo_feed_31 : decode b_Mo_feed 31 = .ok (.aload_n 0, 1) := by decide +kernel
theorem d_Mo_feed_32 : decode b_Mo_feed 32 = .ok (.iconst 2, 1) := by decide +kernel
theorem d_Mo_feed_33 : decode b_Mo_feed 33 = .ok (.invokevirtual 45, 3) := by decide +kernel
theorem d_Mo_feed_36 : decode b_Mo_feed 36 = .ok (.ireturn, 1) := by decide +kernel
theorem d_Mo_feed_37 : decode b_Mo_feed 37 = .ok (.iconst 0, 1) := by decide +kernel
theorem d_Mo_feed_38 : decode b_Mo_feed 38 = .ok (.istore 6, 2) := by decide +kernel
theorem d_Mo_feed_40 : decode b_Mo_feed 40 = .ok (.iload 6, 2) := by decide +kernel
theorem d_Mo_feed_42 : decode b_Mo_feed 42 = .ok (.bipush 20, 2) := by decide +kernel
theorem d_Mo_feed_44 : decode b_Mo_feed 44 = .ok (.if_icmp .ge 90, 3) := by decide +kernel
theorem d_Mo_feed_47 : decode b_Mo_feed 47 = .ok (.iload 6, 2) := by decide +kernel
theorem d_Mo_feed_49 : decode b_Mo_feed 49 = .ok (.iconst 4, 1) := by decide +kernel
theorem d_Mo_feed_50 : decode b_Mo_feed 50 = .ok (.if_icmp .ge 7, 3) := by decide +kernel
theorem d_Mo_feed_53 : decode b_Mo_feed 53 = .ok (.iload_n 1, 1) := by decide +kernel
theorem d_Mo_feed_54 : decode b_Mo_feed 54 = .ok (.goto 39, 3) := by decide +kernel
theorem d_Mo_feed_57 : decode b_Mo_feed 57 = .ok (.iload 6, 2) := by decide +kernel
theorem d_Mo_feed_59 : decode b_Mo_feed 59 = .ok (.bipush 8, 2) := by decide +kernel
theorem d_Mo_feed_61 : decode b_Mo_feed 61 = .ok (.if_icmp .ge 7, 3) := by decide +kernel
theorem d_Mo_feed_64 : decode b_Mo_feed 64 = .ok (.iload_n 2, 1) := by decide +kernel
theorem d_Mo_feed_65 : decode b_Mo_feed 65 = .ok (.goto 28, 3) := by decide +kernel
theorem d_Mo_feed_68 : decode b_Mo_feed 68 = .ok (.iload 6, 2) := by decide +kernel
theorem d_Mo_feed_70 : decode b_Mo_feed 70 = .ok (.bipush 12, 2) := by decide +kernel
theorem d_Mo_feed_72 : decode b_Mo_feed 72 = .ok (.if_icmp .ge 7, 3) := by decide +kernel
theorem d_Mo_feed_75 : decode b_Mo_feed 75 = .ok (.iload_n 3, 1) := by decide +kernel
theorem d_Mo_feed_76 : decode b_Mo_feed 76 = .ok (.goto 17, 3) := by decide +kernel
theorem d_Mo_feed_79 : decode b_Mo_feed 79 = .ok (.iload 6, 2) := by decide +kernel
theorem d_Mo_feed_81 : decode b_Mo_feed 81 = .ok (.bipush 16, 2) := by decide +kernel
theorem d_Mo_feed_83 : decode b_Mo_feed 83 = .ok (.if_icmp .ge 8, 3) := by decide +kernel
theorem d_Mo_feed_86 : decode b_Mo_feed 86 = .ok (.iload 4, 2) := by decide +kernel
theorem d_Mo_feed_88 : decode b_Mo_feed 88 = .ok (.goto 5, 3) := by decide +kernel
theorem d_Mo_feed_91 : decode b_Mo_feed 91 = .ok (.iload 5, 2) := by decide +kernel
theorem d_Mo_feed_93 : decode b_Mo_feed 93 = .ok (.istore 7, 2) := by decide +kernel
theorem d_Mo_feed_95 : decode b_Mo_feed 95 = .ok (.aload_n 0, 1) := by decide +kernel
theorem d_Mo_feed_96 : decode b_Mo_feed 96 = .ok (.getfield 7, 3) := by decide +kernel
theorem d_Mo_feed_99 : decode b_Mo_feed 99 = .ok (.aload_n 0, 1) := by decide +kernel
theorem d_Mo_feed_100 : decode b_Mo_feed 100 = .ok (.getfield 49, 3) := by decide +kernel
theorem d_Mo_feed_103 : decode b_Mo_feed 103 = .ok (.iload 7, 2) := by decide +kernel
theorem d_Mo_feed_105 : decode b_Mo_feed 105 = .ok (.bipush 24, 2) := by decide +kernel
theorem d_Mo_feed_107 : decode b_Mo_feed 107 = .ok (.bipush 8, 2) := by decide +kernel
theorem d_Mo_feed_109 : decode b_Mo_feed 109 = .ok (.iload 6, 2) := by decide +kernel
theorem d_Mo_feed_111 : decode b_Mo_feed 111 = .ok (.iconst 4, 1) := by decide +kernel
theorem d_Mo_feed_112 : decode b_Mo_feed 112 = .ok (.irem, 1) := by decide +kernel
theorem d_Mo_feed_113 : decode b_Mo_feed 113 = .ok (.imul, 1) := by decide +kernel
theorem d_Mo_feed_114 : decode b_Mo_feed 114 = .ok (.isub, 1) := by decide +kernel
theorem d_Mo_feed_115 : decode b_Mo_feed 115 = .ok (.ishr, 1) := by decide +kernel
theorem d_Mo_feed_116 : decode b_Mo_feed 116 = .ok (.i2b, 1) := by decide +kernel
theorem d_Mo_feed_117 : decode b_Mo_feed 117 = .ok (.bastore, 1) := by decide +kernel
theorem d_Mo_feed_118 : decode b_Mo_feed 118 = .ok (.aload_n 0, 1) := by decide +kernel
theorem d_Mo_feed_119 : decode b_Mo_feed 119 = .ok (.dup, 1) := by decide +kernel
theorem d_Mo_feed_120 : decode b_Mo_feed 120 = .ok (.getfield 49, 3) := by decide +kernel
theorem d_Mo_feed_123 : decode b_Mo_feed 123 = .ok (.iconst 1, 1) := by decide +kernel
theorem d_Mo_feed_124 : decode b_Mo_feed 124 = .ok (.iadd, 1) := by decide +kernel
theorem d_Mo_feed_125 : decode b_Mo_feed 125 = .ok (.putfield 49, 3) := by decide +kernel
theorem d_Mo_feed_128 : decode b_Mo_feed 128 = .ok (.iinc 6 1, 3) := by decide +kernel
theorem d_Mo_feed_131 : decode b_Mo_feed 131 = .ok (.goto (-91), 3) := by decide +kernel
theorem d_Mo_feed_134 : decode b_Mo_feed 134 = .ok (.aload_n 0, 1) := by decide +kernel
theorem d_Mo_feed_135 : decode b_Mo_feed 135 = .ok (.getfield 49, 3) := by decide +kernel
theorem d_Mo_feed_138 : decode b_Mo_feed 138 = .ok (.ireturn, 1) := by decide +kernel
theorem d_Mo_fill_0 : decode b_Mo_fill 0 = .ok (.aload_n 0, 1) := by decide +kernel
theorem d_Mo_fill_1 : decode b_Mo_fill 1 = .ok (.iconst 0, 1) := by decide +kernel
theorem d_Mo_fill_2 : decode b_Mo_fill 2 = .ok (.putfield 38, 3) := by decide +kernel
theorem d_Mo_fill_5 : decode b_Mo_fill 5 = .ok (.iload_n 1, 1) := by decide +kernel
theorem d_Mo_fill_6 : decode b_Mo_fill 6 = .ok (.ifCond .lt 22, 3) := by decide +kernel
theorem d_Mo_fill_9 : decode b_Mo_fill 9 = .ok (.iload_n 1, 1) := by decide +kernel
theorem d_Mo_fill_10 : decode b_Mo_fill 10 = .ok (.sipush 255, 3) := by decide +kernel
theorem d_Mo_fill_13 : decode b_Mo_fill 13 = .ok (.if_icmp .gt 15, 3) := by decide +kernel
theorem d_Mo_fill_16 : decode b_Mo_fill 16 = .ok (.iload_n 2, 1) := by decide +kernel
theorem d_Mo_fill_17 : decode b_Mo_fill 17 = .ok (.iconst 1, 1) := by decide +kernel
theorem d_Mo_fill_18 : decode b_Mo_fill 18 = .ok (.if_icmp .lt 10, 3) := by decide +kernel
theorem d_Mo_fill_21 : decode b_Mo_fill 21 = .ok (.iload_n 2, 1) := by decide +kernel
theorem d_Mo_fill_22 : decode b_Mo_fill 22 = .ok (.sipush 1000, 3) := by decide +kernel
theorem d_Mo_fill_25 : decode b_Mo_fill 25 = .ok (.if_icmp .le 9, 3) := by decide +kernel
theorem d_Mo_fill_28 : decode b_Mo_fill 28 = .ok (.aload_n 0, 1) := by decide +kernel
theorem d_Mo_fill_29 : decode b_Mo_fill 29 = .ok (.iconst 1, 1) := by decide +kernel
theorem d_Mo_fill_30 : decode b_Mo_fill 30 = .ok (.invokevirtual 45, 3) := by decide +kernel
theorem d_Mo_fill_33 : decode b_Mo_fill 33 = .ok (.ireturn, 1) := by decide +kernel
theorem d_Mo_fill_34 : decode b_Mo_fill 34 = .ok (.aload_n 0, 1) := by decide +kernel
theorem d_Mo_fill_35 : decode b_Mo_fill 35 = .ok (.getfield 41, 3) := by decide +kernel
theorem d_Mo_fill_38 : decode b_Mo_fill 38 = .ok (.ifCond .eq 9, 3) := by decide +kernel
theorem d_Mo_fill_41 : decode b_Mo_fill 41 = .ok (.aload_n 0, 1) := by decide +kernel
theorem d_Mo_fill_42 : decode b_Mo_fill 42 = .ok (.iconst 2, 1) := by decide +kernel
theorem d_Mo_fill_43 : decode b_Mo_fill 43 = .ok (.invokevirtual 45, 3) := by decide +kernel
theorem d_Mo_fill_46 : decode b_Mo_fill 46 = .ok (.ireturn, 1) := by decide +kernel
theorem d_Mo_fill_47 : decode b_Mo_fill 47 = .ok (.aload_n 0, 1) := by decide +kernel
theorem d_Mo_fill_48 : decode b_Mo_fill 48 = .ok (.getfield 49, 3) := by decide +kernel
theorem d_Mo_fill_51 : decode b_Mo_fill 51 = .ok (.iload_n 2, 1) := by decide +kernel
theorem d_Mo_fill_52 : decode b_Mo_fill 52 = .ok (.iadd, 1) := by decide +kernel
theorem d_Mo_fill_53 : decode b_Mo_fill 53 = .ok (.sipush 1060, 3) := by decide +kernel
theorem d_Mo_fill_56 : decode b_Mo_fill 56 = .ok (.if_icmp .le 9, 3) := by decide +kernel
theorem d_Mo_fill_59 : decode b_Mo_fill 59 = .ok (.aload_n 0, 1) := by decide +kernel
theorem d_Mo_fill_60 : decode b_Mo_fill 60 = .ok (.iconst 3, 1) := by decide +kernel
theorem d_Mo_fill_61 : decode b_Mo_fill 61 = .ok (.invokevirtual 45, 3) := by decide +kernel
theorem d_Mo_fill_64 : decode b_Mo_fill 64 = .ok (.ireturn, 1) := by decide +kernel
theorem d_Mo_fill_65 : decode b_Mo_fill 65 = .ok (.iconst 0, 1) := by decide +kernel
theorem d_Mo_fill_66 : decode b_Mo_fill 66 = .ok (.istore_n 3, 1) := by decide +kernel
theorem d_Mo_fill_67 : decode b_Mo_fill 67 = .ok (.iload_n 3, 1) := by decide +kernel
theorem d_Mo_fill_68 : decode b_Mo_fill 68 = .ok (.iload_n 2, 1) := by decide +kernel
theorem d_Mo_fill_69 : decode b_Mo_fill 69 = .ok (.if_icmp .ge 22, 3) := by decide +kernel
theorem d_Mo_fill_72 : decode b_Mo_fill 72 = .ok (.aload_n 0, 1) := by decide +kernel
theorem d_Mo_fill_73 : decode b_Mo_fill 73 = .ok (.getfield 7, 3) := by decide +kernel
theorem d_Mo_fill_76 : decode b_Mo_fill 76 = .ok (.aload_n 0, 1) := by decide +kernel
theorem d_Mo_fill_77 : decode b_Mo_fill 77 = .ok (.getfield 49, 3) := by decide +kernel
theorem d_Mo_fill_80 : decode b_Mo_fill 80 = .ok (.iload_n 3, 1) := by decide +kernel
theorem d_Mo_fill_81 : decode b_Mo_fill 81 = .ok (.iadd, 1) := by decide +kernel
theorem d_Mo_fill_82 : decode b_Mo_fill 82 = .ok (.iload_n 1, 1) := by decide +kernel
theorem d_Mo_fill_83 : decode b_Mo_fill 83 = .ok (.i2b, 1) := by decide +kernel
theorem d_Mo_fill_84 : decode b_Mo_fill 84 = .ok (.bastore, 1) := by decide +kernel
theorem d_Mo_fill_85 : decode b_Mo_fill 85 = .ok (.iinc 3 1, 3) := by decide +kernel
theorem d_Mo_fill_88 : decode b_Mo_fill 88 = .ok (.goto (-21), 3) := by decide +kernel
theorem d_Mo_fill_91 : decode b_Mo_fill 91 = .ok (.aload_n 0, 1) := by decide +kernel
theorem d_Mo_fill_92 : decode b_Mo_fill 92 = .ok (.dup, 1) := by decide +kernel
theorem d_Mo_fill_93 : decode b_Mo_fill 93 = .ok (.getfield 49, 3) := by decide +kernel
theorem d_Mo_fill_96 : decode b_Mo_fill 96 = .ok (.iload_n 2, 1) := by decide +kernel
theorem d_Mo_fill_97 : decode b_Mo_fill 97 = .ok (.iadd, 1) := by decide +kernel
theorem d_Mo_fill_98 : decode b_Mo_fill 98 = .ok (.putfield 49, 3) := by decide +kernel
theorem d_Mo_fill_101 : decode b_Mo_fill 101 = .ok (.aload_n 0, 1) := by decide +kernel
theorem d_Mo_fill_102 : decode b_Mo_fill 102 = .ok (.getfield 49, 3) := by decide +kernel
theorem d_Mo_fill_105 : decode b_Mo_fill 105 = .ok (.ireturn, 1) := by decide +kernel
theorem d_Mo_end_0 : decode b_Mo_end 0 = .ok (.aload_n 0, 1) := by decide +kernel
theorem d_Mo_end_1 : decode b_Mo_end 1 = .ok (.iconst 0, 1) := by decide +kernel
theorem d_Mo_end_2 : decode b_Mo_end 2 = .ok (.putfield 38, 3) := by decide +kernel
theorem d_Mo_end_5 : decode b_Mo_end 5 = .ok (.iload_n 1, 1) := by decide +kernel
theorem d_Mo_end_6 : decode b_Mo_end 6 = .ok (.ifCond .lt 11, 3) := by decide +kernel
theorem d_Mo_end_9 : decode b_Mo_end 9 = .ok (.iload_n 1, 1) := by decide +kernel
theorem d_Mo_end_10 : decode b_Mo_end 10 = .ok (.aload_n 0, 1) := by decide +kernel
theorem d_Mo_end_11 : decode b_Mo_end 11 = .ok (.getfield 49, 3) := by decide +kernel
theorem d_Mo_end_14 : decode b_Mo_end 14 = .ok (.if_icmp .le 9, 3) := by decide +kernel
theorem d_Mo_end_17 : decode b_Mo_end 17 = .ok (.aload_n 0, 1) := by decide +kernel
theorem d_Mo_end_18 : decode b_Mo_end 18 = .ok (.iconst 1, 1) := by decide +kernel
theorem d_Mo_end_19 : decode b_Mo_end 19 = .ok (.invokevirtual 45, 3) := by decide +kernel
theorem d_Mo_end_22 : decode b_Mo_end 22 = .ok (.ireturn, 1) := by decide +kernel
theorem d_Mo_end_23 : decode b_Mo_end 23 = .ok (.aload_n 0, 1) := by decide +kernel
theorem d_Mo_end_24 : decode b_Mo_end 24 = .ok (.getfield 41, 3) := by decide +kernel
theorem d_Mo_end_27 : decode b_Mo_end 27 = .ok (.ifCond .eq 9, 3) := by decide +kernel
theorem d_Mo_end_30 : decode b_Mo_end 30 = .ok (.aload_n 0, 1) := by decide +kernel
theorem d_Mo_end_31 : decode b_Mo_end 31 = .ok (.iconst 2, 1) := by decide +kernel
theorem d_Mo_end_32 : decode b_Mo_end 32 = .ok (.invokevirtual 45, 3) := by decide +kernel
theorem d_Mo_end_35 : decode b_Mo_end 35 = .ok (.ireturn, 1) := by decide +kernel
theorem d_Mo_end_36 : decode b_Mo_end 36 = .ok (.aload_n 0, 1) := by decide +kernel
theorem d_Mo_end_37 : decode b_Mo_end 37 = .ok (.iload_n 1, 1) := by decide +kernel
theorem d_Mo_end_38 : decode b_Mo_end 38 = .ok (.putfield 49, 3) := by decide +kernel
theorem d_Mo_end_41 : decode b_Mo_end 41 = .ok (.iload_n 1, 1) := by decide +kernel
theorem d_Mo_end_42 : decode b_Mo_end 42 = .ok (.ireturn, 1) := by decide +kernel
theorem d_Mo_part_0 : decode b_Mo_part 0 = .ok (.aload_n 0, 1) := by decide +kernel
theorem d_Mo_part_1 : decode b_Mo_part 1 = .ok (.getfield 52, 3) := by decide +kernel
theorem d_Mo_part_4 : decode b_Mo_part 4 = .ok (.ifCond .ne 5, 3) := by decide +kernel
theorem d_Mo_part_7 : decode b_Mo_part 7 = .ok (.iload_n 1, 1) := by decide +kernel
theorem d_Mo_part_8 : decode b_Mo_part 8 = .ok (.ireturn, 1) := by decide +kernel
theorem d_Mo_part_9 : decode b_Mo_part 9 = .ok (.aload_n 0, 1) := by decide +kernel
theorem d_Mo_part_10 : decode b_Mo_part 10 = .ok (.getfield 55, 3) := by decide +kernel
theorem d_Mo_part_13 : decode b_Mo_part 13 = .ok (.ifCond .le 15, 3) := by decide +kernel
theorem d_Mo_part_16 : decode b_Mo_part 16 = .ok (.aload_n 0, 1) := by decide +kernel
theorem d_Mo_part_17 : decode b_Mo_part 17 = .ok (.dup, 1) := by decide +kernel
theorem d_Mo_part_18 : decode b_Mo_part 18 = .ok (.getfield 55, 3) := by decide +kernel
theorem d_Mo_part_21 : decode b_Mo_part 21 = .ok (.iconst 1, 1) := by decide +kernel
theorem d_Mo_part_22 : decode b_Mo_part 22 = .ok (.isub, 1) := by decide +kernel
theorem d_Mo_part_23 : decode b_Mo_part 23 = .ok (.putfield 55, 3) := by decide +kernel
theorem d_Mo_part_26 : decode b_Mo_part 26 = .ok (.iload_n 1, 1) := by decide +kernel
theorem d_Mo_part_27 : decode b_Mo_part 27 = .ok (.ireturn, 1) := by decide +kernel
theorem d_Mo_part_28 : decode b_Mo_part 28 = .ok (.aload_n 0, 1) := by decide +kernel
theorem d_Mo_part_29 : decode b_Mo_part 29 = .ok (.iconst 0, 1) := by decide +kernel
theorem d_Mo_part_30 : decode b_Mo_part 30 = .ok (.putfield 52, 3) := by decide +kernel
theorem d_Mo_part_33 : decode b_Mo_part 33 = .ok (.aload_n 0, 1) := by decide +kernel
theorem d_Mo_part_34 : decode b_Mo_part 34 = .ok (.iconst 1, 1) := by decide +kernel
theorem d_Mo_part_35 : decode b_Mo_part 35 = .ok (.putfield 41, 3) := by decide +kernel
theorem d_Mo_part_38 : decode b_Mo_part 38 = .ok (.aload_n 0, 1) := by decide +kernel
theorem d_Mo_part_39 : decode b_Mo_part 39 = .ok (.iconst 0, 1) := by decide +kernel
theorem d_Mo_part_40 : decode b_Mo_part 40 = .ok (.putfield 49, 3) := by decide +kernel
theorem d_Mo_part_43 : decode b_Mo_part 43 = .ok (.aload_n 0, 1) := by decide +kernel
theorem d_Mo_part_44 : decode b_Mo_part 44 = .ok (.getfield 58, 3) := by decide +kernel
theorem d_Mo_part_47 : decode b_Mo_part 47 = .ok (.iload_n 1, 1) := by decide +kernel
theorem d_Mo_part_48 : decode b_Mo_part 48 = .ok (.iconst 1, 1) := by decide +kernel
theorem d_Mo_part_49 : decode b_Mo_part 49 = .ok (.isub, 1) := by decide +kernel
theorem d_Mo_part_50 : decode b_Mo_part 50 = .ok (.if_icmp .ge 10, 3) := by decide +kernel
theorem d_Mo_part_53 : decode b_Mo_part 53 = .ok (.aload_n 0, 1) := by decide +kernel
theorem d_Mo_part_54 : decode b_Mo_part 54 = .ok (.getfield 58, 3) := by decide +kernel
theorem d_Mo_part_57 : decode b_Mo_part 57 = .ok (.goto 6, 3) := by decide +kernel
theorem d_Mo_part_60 : decode b_Mo_part 60 = .ok (.iload_n 1, 1) := by decide +kernel
theorem d_Mo_part_61 : decode b_Mo_part 61 = .ok (.iconst 1, 1) := by decide +kernel
theorem d_Mo_part_62 : decode b_Mo_part 62 = .ok (.isub, 1) := by decide +kernel
theorem d_Mo_part_63 : decode b_Mo_part 63 = .ok (.ireturn, 1) := by decide +kernel
theorem d_Mo_blocks_0 : decode b_Mo_blocks 0 = .ok (.iconst 0, 1) := by decide +kernel
theorem d_Mo_blocks_1 : decode b_Mo_blocks 1 = .ok (.istore_n 1, 1) := by decide +kernel
theorem d_Mo_blocks_2 : decode b_Mo_blocks 2 = .ok (.iconst 0, 1) := by decide +kernel
theorem d_Mo_blocks_3 : decode b_Mo_blocks 3 = .ok (.istore_n 2, 1) := by decide +kernel
theorem d_Mo_blocks_4 : decode b_Mo_blocks 4 = .ok (.iload_n 2, 1) := by decide +kernel
theorem d_Mo_blocks_5 : decode b_Mo_blocks 5 = .ok (.bipush 24, 2) := by decide +kernel
theorem d_Mo_blocks_7 : decode b_Mo_blocks 7 = .ok (.if_icmp .ge 26, 3) := by decide +kernel
theorem d_Mo_blocks_10 : decode b_Mo_blocks 10 = .ok (.iload_n 1, 1) := by decide +kernel
theorem d_Mo_blocks_11 : decode b_Mo_blocks 11 = .ok (.aload_n 0, 1) := by decide +kernel
theorem d_Mo_blocks_12 : decode b_Mo_blocks 12 = .ok (.getfield 20, 3) := by decide +kernel
theorem d_Mo_blocks_15 : decode b_Mo_blocks 15 = .ok (.iload_n 2, 1) := by decide +kernel
theorem d_Mo_blocks_16 : decode b_Mo_blocks 16 = .ok (.baload, 1) := by decide +kernel
theorem d_Mo_blocks_17 : decode b_Mo_blocks 17 = .ok (.ifCond .eq 7, 3) := by decide +kernel
theorem d_Mo_blocks_20 : decode b_Mo_blocks 20 = .ok (.iconst 1, 1) := by decide +kernel
theorem d_Mo_blocks_21 : decode b_Mo_blocks 21 = .ok (.goto 4, 3) := by decide +kernel
theorem d_Mo_blocks_24 : decode b_Mo_blocks 24 = .ok (.iconst 0, 1) := by decide +kernel
theorem d_Mo_blocks_25 : decode b_Mo_blocks 25 = .ok (.iadd, 1) := by decide +kernel
theorem d_Mo_blocks_26 : decode b_Mo_blocks 26 = .ok (.istore_n 1, 1) := by decide +kernel
theorem d_Mo_blocks_27 : decode b_Mo_blocks 27 = .ok (.iinc 2 1, 3) := by decide +kernel
theorem d_Mo_blocks_30 : decode b_Mo_blocks 30 = .ok (.goto (-26), 3) := by decide +kernel
theorem d_Mo_blocks_33 : decode b_Mo_blocks 33 = .ok (.iload_n 1, 1) := by decide +kernel
theorem d_Mo_blocks_34 : decode b_Mo_blocks 34 = .ok (.ireturn, 1) := by decide +kernel
theorem d_Mo_blockAt_0 : decode b_Mo_blockAt 0 = .ok (.iconst 0, 1) := by decide +kernel
theorem d_Mo_blockAt_1 : decode b_Mo_blockAt 1 = .ok (.istore_n 2, 1) := by decide +kernel
theorem d_Mo_blockAt_2 : decode b_Mo_blockAt 2 = .ok (.iload_n 2, 1) := by decide +kernel
theorem d_Mo_blockAt_3 : decode b_Mo_blockAt 3 = .ok (.bipush 24, 2) := by decide +kernel
theorem d_Mo_blockAt_5 : decode b_Mo_blockAt 5 = .ok (.if_icmp .ge 80, 3) := by decide +kernel
theorem d_Mo_blockAt_8 : decode b_Mo_blockAt 8 = .ok (.aload_n 0, 1) := by decide +kernel
theorem d_Mo_blockAt_9 : decode b_Mo_blockAt 9 = .ok (.getfield 20, 3) := by decide +kernel
theorem d_Mo_blockAt_12 : decode b_Mo_blockAt 12 = .ok (.iload_n 2, 1) := by decide +kernel
theorem d_Mo_blockAt_13 : decode b_Mo_blockAt 13 = .ok (.baload, 1) := by decide +kernel
theorem d_Mo_blockAt_14 : decode b_Mo_blockAt 14 = .ok (.ifCond .ne 6, 3) := by decide +kernel
theorem d_Mo_blockAt_17 : decode b_Mo_blockAt 17 = .ok (.goto 62, 3) := by decide +kernel
theorem d_Mo_blockAt_20 : decode b_Mo_blockAt 20 = .ok (.iconst 0, 1) := by decide +kernel
theorem d_Mo_blockAt_21 : decode b_Mo_blockAt 21 = .ok (.istore_n 3, 1) := by decide +kernel
theorem d_Mo_blockAt_22 : decode b_Mo_blockAt 22 = .ok (.iconst 0, 1) := by decide +kernel
theorem d_Mo_blockAt_23 : decode b_Mo_blockAt 23 = .ok (.istore 4, 2) := by decide +kernel
theorem d_Mo_blockAt_25 : decode b_Mo_blockAt 25 = .ok (.iload 4, 2) := by decide +kernel
theorem d_Mo_blockAt_27 : decode b_Mo_blockAt 27 = .ok (.bipush 24, 2) := by decide +kernel
theorem d_Mo_blockAt_29 : decode b_Mo_blockAt 29 = .ok (.if_icmp .ge 43, 3) := by decide +kernel
theorem d_Mo_blockAt_32 : decode b_Mo_blockAt 32 = .ok (.iload_n 3, 1) := by decide +kernel
theorem d_Mo_blockAt_33 : decode b_Mo_blockAt 33 = .ok (.aload_n 0, 1) := by decide +kernel
theorem d_Mo_blockAt_34 : decode b_Mo_blockAt 34 = .ok (.getfield 20, 3) := by decide +kernel
theorem d_Mo_blockAt_37 : decode b_Mo_blockAt 37 = .ok (.iload 4, 2) := by decide +kernel
theorem d_Mo_blockAt_39 : decode b_Mo_blockAt 39 = .ok (.baload, 1) := by decide +kernel
theorem d_Mo_blockAt_40 : decode b_Mo_blockAt 40 = .ok (.ifCond .eq 23, 3) := by decide +kernel
theorem d_Mo_blockAt_43 : decode b_Mo_blockAt 43 = .ok (.aload_n 0, 1) := by decide +kernel
theorem d_Mo_blockAt_44 : decode b_Mo_blockAt 44 = .ok (.getfield 17, 3) := by decide +kernel
theorem d_Mo_blockAt_47 : decode b_Mo_blockAt 47 = .ok (.iload 4, 2) := by decide +kernel
theorem d_Mo_blockAt_49 : decode b_Mo_blockAt 49 = .ok (.iaload, 1) := by decide +kernel
theorem d_Mo_blockAt_50 : decode b_Mo_blockAt 50 = .ok (.aload_n 0, 1) := by decide +kernel
theorem d_Mo_blockAt_51 : decode b_Mo_blockAt 51 = .ok (.getfield 17, 3) := by decide +kernel
theorem d_Mo_blockAt_54 : decode b_Mo_blockAt 54 = .ok (.iload_n 2, 1) := by decide +kernel
theorem d_Mo_blockAt_55 : decode b_Mo_blockAt 55 = .ok (.iaload, 1) := by decide +kernel
theorem d_Mo_blockAt_56 : decode b_Mo_blockAt 56 = .ok (.if_icmp .ge 7, 3) := by decide +kernel
theorem d_Mo_blockAt_59 : decode b_Mo_blockAt 59 = .ok (.iconst 1, 1) := by decide +kernel
theorem d_Mo_blockAt_60 : decode b_Mo_blockAt 60 = .ok (.goto 4, 3) := by decide +kernel
theorem d_Mo_blockAt_63 : decode b_Mo_blockAt 63 = .ok (.iconst 0, 1) := by decide +kernel
theorem d_Mo_blockAt_64 : decode b_Mo_blockAt 64 = .ok (.iadd, 1) := by decide +kernel
theorem d_Mo_blockAt_65 : decode b_Mo_blockAt 65 = .ok (.istore_n 3, 1) := by decide +kernel
theorem d_Mo_blockAt_66 : decode b_Mo_blockAt 66 = .ok (.iinc 4 1, 3) := by decide +kernel
theorem d_Mo_blockAt_69 : decode b_Mo_blockAt 69 = .ok (.goto (-44), 3) := by decide +kernel
theorem d_Mo_blockAt_72 : decode b_Mo_blockAt 72 = .ok (.iload_n 3, 1) := by decide +kernel
theorem d_Mo_blockAt_73 : decode b_Mo_blockAt 73 = .ok (.iload_n 1, 1) := by decide +kernel
theorem d_Mo_blockAt_74 : decode b_Mo_blockAt 74 = .ok (.if_icmp .ne 5, 3) := by decide +kernel
theorem d_Mo_blockAt_77 : decode b_Mo_blockAt 77 = .ok (.iload_n 2, 1) := by decide +kernel
theorem d_Mo_blockAt_78 : decode b_Mo_blockAt 78 = .ok (.ireturn, 1) := by decide +kernel
theorem d_Mo_blockAt_79 : decode b_Mo_blockAt 79 = .ok (.iinc 2 1, 3) := by decide +kernel
theorem d_Mo_blockAt_82 : decode b_Mo_blockAt 82 = .ok (.goto (-80), 3) := by decide +kernel
theorem d_Mo_blockAt_85 : decode b_Mo_blockAt 85 = .ok (.iconst (-1), 1) := by decide +kernel
theorem d_Mo_blockAt_86 : decode b_Mo_blockAt 86 = .ok (.ireturn, 1) := by decide +kernel
theorem d_Mo_take_0 : decode b_Mo_take 0 = .ok (.iconst (-1), 1) := by decide +kernel
theorem d_Mo_take_1 : decode b_Mo_take 1 = .ok (.istore_n 1, 1) := by decide +kernel
theorem d_Mo_take_2 : decode b_Mo_take 2 = .ok (.iconst 0, 1) := by decide +kernel
theorem d_Mo_take_3 : decode b_Mo_take 3 = .ok (.istore_n 2, 1) := by decide +kernel
theorem d_Mo_take_4 : decode b_Mo_take 4 = .ok (.iload_n 2, 1) := by decide +kernel
theorem d_Mo_take_5 : decode b_Mo_take 5 = .ok (.bipush 24, 2) := by decide +kernel
theorem d_Mo_take_7 : decode b_Mo_take 7 = .ok (.if_icmp .ge 39, 3) := by decide +kernel
theorem d_Mo_take_10 : decode b_Mo_take 10 = .ok (.aload_n 0, 1) := by decide +kernel
theorem d_Mo_take_11 : decode b_Mo_take 11 = .ok (.getfield 20, 3) := by decide +kernel
theorem d_Mo_take_14 : decode b_Mo_take 14 = .ok (.iload_n 2, 1) := by decide +kernel
theorem d_Mo_take_15 : decode b_Mo_take 15 = .ok (.baload, 1) := by decide +kernel
theorem d_Mo_take_16 : decode b_Mo_take 16 = .ok (.ifCond .ne 24, 3) := by decide +kernel
theorem d_Mo_take_19 : decode b_Mo_take 19 = .ok (.iload_n 1, 1) := by decide +kernel
theorem d_Mo_take_20 : decode b_Mo_take 20 = .ok (.ifCond .lt 18, 3) := by decide +kernel
theorem d_Mo_take_23 : decode b_Mo_take 23 = .ok (.aload_n 0, 1) := by decide +kernel
theorem d_Mo_take_24 : decode b_Mo_take 24 = .ok (.getfield 13, 3) := by decide +kernel
theorem d_Mo_take_27 : decode b_Mo_take 27 = .ok (.iload_n 2, 1) := by decide +kernel
theorem d_Mo_take_28 : decode b_Mo_take 28 = .ok (.iaload, 1) := by decide +kernel
theorem d_Mo_take_29 : decode b_Mo_take 29 = .ok (.aload_n 0, 1) := by decide +kernel
theorem d_Mo_take_30 : decode b_Mo_take 30 = .ok (.getfield 13, 3) := by decide +kernel
theorem d_Mo_take_33 : decode b_Mo_take 33 = .ok (.iload_n 1, 1) := by decide +kernel
theorem d_Mo_take_34 : decode b_Mo_take 34 = .ok (.iaload, 1) := by decide +kernel
theorem d_Mo_take_35 : decode b_Mo_take 35 = .ok (.if_icmp .ge 5, 3) := by decide +kernel
theorem d_Mo_take_38 : decode b_Mo_take 38 = .ok (.iload_n 2, 1) := by decide +kernel
theorem d_Mo_take_39 : decode b_Mo_take 39 = .ok (.istore_n 1, 1) := by decide +kernel
theorem d_Mo_take_40 : decode b_Mo_take 40 = .ok (.iinc 2 1, 3) := by decide +kernel
theorem d_Mo_take_43 : decode b_Mo_take 43 = .ok (.goto (-39), 3) := by decide +kernel
theorem d_Mo_take_46 : decode b_Mo_take 46 = .ok (.aload_n 0, 1) := by decide +kernel
theorem d_Mo_take_47 : decode b_Mo_take 47 = .ok (.sipush 2048, 3) := by decide +kernel
theorem d_Mo_take_50 : decode b_Mo_take 50 = .ok (.invokevirtual 61, 3) := by decide +kernel
theorem d_Mo_take_53 : decode b_Mo_take 53 = .ok (.istore_n 2, 1) := by decide +kernel
theorem d_Mo_take_54 : decode b_Mo_take 54 = .ok (.aload_n 0, 1) := by decide +kernel
theorem d_Mo_take_55 : decode b_Mo_take 55 = .ok (.getfield 13, 3) := by decide +kernel
theorem d_Mo_take_58 : decode b_Mo_take 58 = .ok (.iload_n 1, 1) := by decide +kernel
theorem d_Mo_take_59 : decode b_Mo_take 59 = .ok (.dup2, 1) := by decide +kernel
theorem d_Mo_take_60 : decode b_Mo_take 60 = .ok (.iaload, 1) := by decide +kernel
theorem d_Mo_take_61 : decode b_Mo_take 61 = .ok (.iconst 1, 1) := by decide +kernel
theorem d_Mo_take_62 : decode b_Mo_take 62 = .ok (.iadd, 1) := by decide +kernel
theorem d_Mo_take_63 : decode b_Mo_take 63 = .ok (.iastore, 1) := by decide +kernel
theorem d_Mo_take_64 : decode b_Mo_take 64 = .ok (.iload_n 2, 1) := by decide +kernel
theorem d_Mo_take_65 : decode b_Mo_take 65 = .ok (.ifCond .le 10, 3) := by decide +kernel
theorem d_Mo_take_68 : decode b_Mo_take 68 = .ok (.aload_n 0, 1) := by decide +kernel
theorem d_Mo_take_69 : decode b_Mo_take 69 = .ok (.getfield 17, 3) := by decide +kernel
theorem d_Mo_take_72 : decode b_Mo_take 72 = .ok (.iload_n 1, 1) := by decide +kernel
theorem d_Mo_take_73 : decode b_Mo_take 73 = .ok (.iconst 0, 1) := by decide +kernel
theorem d_Mo_take_74 : decode b_Mo_take 74 = .ok (.iastore, 1) := by decide +kernel
theorem d_Mo_take_75 : decode b_Mo_take 75 = .ok (.aload_n 0, 1) := by decide +kernel
theorem d_Mo_take_76 : decode b_Mo_take 76 = .ok (.getfield 41, 3) := by decide +kernel
theorem d_Mo_take_79 : decode b_Mo_take 79 = .ok (.ifCond .ne 14, 3) := by decide +kernel
theorem d_Mo_take_82 : decode b_Mo_take 82 = .ok (.aload_n 0, 1) := by decide +kernel
theorem d_Mo_take_83 : decode b_Mo_take 83 = .ok (.bipush 6, 2) := by decide +kernel
theorem d_Mo_take_85 : decode b_Mo_take 85 = .ok (.invokevirtual 61, 3) := by decide +kernel
theorem d_Mo_take_88 : decode b_Mo_take 88 = .ok (.bipush 6, 2) := by decide +kernel
theorem d_Mo_take_90 : decode b_Mo_take 90 = .ok (.if_icmp .ge 5, 3) := by decide +kernel
theorem d_Mo_take_93 : decode b_Mo_take 93 = .ok (.iconst 0, 1) := by decide +kernel
theorem d_Mo_take_94 : decode b_Mo_take 94 = .ok (.ireturn, 1) := by decide +kernel
theorem d_Mo_take_95 : decode b_Mo_take 95 = .ok (.aload_n 0, 1) := by decide +kernel
theorem d_Mo_take_96 : decode b_Mo_take 96 = .ok (.dup, 1) := by decide +kernel
theorem d_Mo_take_97 : decode b_Mo_take 97 = .ok (.getfield 64, 3) := by decide +kernel
theorem d_Mo_take_100 : decode b_Mo_take 100 = .ok (.iconst 1, 1) := by decide +kernel
theorem d_Mo_take_101 : decode b_Mo_take 101 = .ok (.iadd, 1) := by decide +kernel
theorem d_Mo_take_102 : decode b_Mo_take 102 = .ok (.putfield 64, 3) := by decide +kernel
theorem d_Mo_take_105 : decode b_Mo_take 105 = .ok (.aload_n 0, 1) := by decide +kernel
theorem d_Mo_take_106 : decode b_Mo_take 106 = .ok (.getfield 17, 3) := by decide +kernel
theorem d_Mo_take_109 : decode b_Mo_take 109 = .ok (.iload_n 1, 1) := by decide +kernel
theorem d_Mo_take_110 : decode b_Mo_take 110 = .ok (.aload_n 0, 1) := by decide +kernel
theorem d_Mo_take_111 : decode b_Mo_take 111 = .ok (.getfield 64, 3) := by decide +kernel
theorem d_Mo_take_114 : decode b_Mo_take 114 = .ok (.iastore, 1) := by decide +kernel
theorem d_Mo_take_115 : decode b_Mo_take 115 = .ok (.aload_n 0, 1) := by decide +kernel
theorem d_Mo_take_116 : decode b_Mo_take 116 = .ok (.getfield 20, 3) := by decide +kernel
theorem d_Mo_take_119 : decode b_Mo_take 119 = .ok (.iload_n 1, 1) := by decide +kernel
theorem d_Mo_take_120 : decode b_Mo_take 120 = .ok (.iconst 1, 1) := by decide +kernel
theorem d_Mo_take_121 : decode b_Mo_take 121 = .ok (.bastore, 1) := by decide +kernel
theorem d_Mo_take_122 : decode b_Mo_take 122 = .ok (.aload_n 0, 1) := by decide +kernel
theorem d_Mo_take_123 : decode b_Mo_take 123 = .ok (.getfield 24, 3) := by decide +kernel
theorem d_Mo_take_126 : decode b_Mo_take 126 = .ok (.iload_n 1, 1) := by decide +kernel
theorem d_Mo_take_127 : decode b_Mo_take 127 = .ok (.iconst 0, 1) := by decide +kernel
theorem d_Mo_take_128 : decode b_Mo_take 128 = .ok (.iastore, 1) := by decide +kernel
theorem d_Mo_take_129 : decode b_Mo_take 129 = .ok (.aload_n 0, 1) := by decide +kernel
theorem d_Mo_take_130 : decode b_Mo_take 130 = .ok (.getfield 27, 3) := by decide +kernel
theorem d_Mo_take_133 : decode b_Mo_take 133 = .ok (.iload_n 1, 1) := by decide +kernel
theorem d_Mo_take_134 : decode b_Mo_take 134 = .ok (.iconst 0, 1) := by decide +kernel
theorem d_Mo_take_135 : decode b_Mo_take 135 = .ok (.iastore, 1) := by decide +kernel
theorem d_Mo_take_136 : decode b_Mo_take 136 = .ok (.aload_n 0, 1) := by decide +kernel
theorem d_Mo_take_137 : decode b_Mo_take 137 = .ok (.iload_n 1, 1) := by decide +kernel
theorem d_Mo_take_138 : decode b_Mo_take 138 = .ok (.putfield 30, 3) := by decide +kernel
theorem d_Mo_take_141 : decode b_Mo_take 141 = .ok (.iconst 1, 1) := by decide +kernel
theorem d_Mo_take_142 : decode b_Mo_take 142 = .ok (.ireturn, 1) := by decide +kernel
theorem d_Mo_append_0 : decode b_Mo_append 0 = .ok (.aload_n 0, 1) := by decide +kernel
theorem d_Mo_append_1 : decode b_Mo_append 1 = .ok (.iconst 0, 1) := by decide +kernel
theorem d_Mo_append_2 : decode b_Mo_append 2 = .ok (.putfield 38, 3) := by decide +kernel
theorem d_Mo_append_5 : decode b_Mo_append 5 = .ok (.iload_n 1, 1) := by decide +kernel
theorem d_Mo_append_6 : decode b_Mo_append 6 = .ok (.iconst 1, 1) := by decide +kernel
theorem d_Mo_append_7 : decode b_Mo_append 7 = .ok (.if_icmp .lt 43, 3) := by decide +kernel
theorem d_Mo_append_10 : decode b_Mo_append 10 = .ok (.iload_n 1, 1) := by decide +kernel
theorem d_Mo_append_11 : decode b_Mo_append 11 = .ok (.bipush 15, 2) := by decide +kernel
theorem d_Mo_append_13 : decode b_Mo_append 13 = .ok (.if_icmp .gt 37, 3) := by decide +kernel
theorem d_Mo_append_16 : decode b_Mo_append 16 = .ok (.iload_n 2, 1) := by decide +kernel
theorem d_Mo_append_17 : decode b_Mo_append 17 = .ok (.ifCond .lt 33, 3) := by decide +kernel
theorem d_Mo_append_20 : decode b_Mo_append 20 = .ok (.iload_n 3, 1) := by decide +kernel
theorem d_Mo_append_21 : decode b_Mo_append 21 = .ok (.ifCond .lt 29, 3) := by decide +kernel
theorem d_Mo_append_24 : decode b_Mo_append 24 = .ok (.iload_n 3, 1) := by decide +kernel
theorem d_Mo_append_25 : decode b_Mo_append 25 = .ok (.bipush 45, 2) := by decide +kernel
theorem d_Mo_append_27 : decode b_Mo_append 27 = .ok (.if_icmp .gt 23, 3) := by decide +kernel
theorem d_Mo_append_30 : decode b_Mo_append 30 = .ok (.aload_n 0, 1) := by decide +kernel
theorem d_Mo_append_31 : decode b_Mo_append 31 = .ok (.getfield 49, 3) := by decide +kernel
theorem d_Mo_append_34 : decode b_Mo_append 34 = .ok (.iload_n 3, 1) := by decide +kernel
theorem d_Mo_append_35 : decode b_Mo_append 35 = .ok (.if_icmp .lt 15, 3) := by decide +kernel
theorem d_Mo_append_38 : decode b_Mo_append 38 = .ok (.aload_n 0, 1) := by decide +kernel
theorem d_Mo_append_39 : decode b_Mo_append 39 = .ok (.getfield 49, 3) := by decide +kernel
theorem d_Mo_append_42 : decode b_Mo_append 42 = .ok (.iload_n 3, 1) := by decide +kernel
theorem d_Mo_append_43 : decode b_Mo_append 43 = .ok (.isub, 1) := by decide +kernel
theorem d_Mo_append_44 : decode b_Mo_append 44 = .ok (.sipush 1000, 3) := by decide +kernel
theorem d_Mo_append_47 : decode b_Mo_append 47 = .ok (.if_icmp .le 9, 3) := by decide +kernel
theorem d_Mo_append_50 : decode b_Mo_append 50 = .ok (.aload_n 0, 1) := by decide +kernel
theorem d_Mo_append_51 : decode b_Mo_append 51 = .ok (.iconst 1, 1) := by decide +kernel
theorem d_Mo_append_52 : decode b_Mo_append 52 = .ok (.invokevirtual 45, 3) := by decide +kernel
theorem d_Mo_append_55 : decode b_Mo_append 55 = .ok (.ireturn, 1) := by decide +kernel
theorem d_Mo_append_56 : decode b_Mo_append 56 = .ok (.aload_n 0, 1) := by decide +kernel
theorem d_Mo_append_57 : decode b_Mo_append 57 = .ok (.getfield 41, 3) := by decide +kernel
theorem d_Mo_append_60 : decode b_Mo_append 60 = .ok (.ifCond .eq 9, 3) := by decide +kernel
theorem d_Mo_append_63 : decode b_Mo_append 63 = .ok (.aload_n 0, 1) := by decide +kernel
theorem d_Mo_append_64 : decode b_Mo_append 64 = .ok (.iconst 2, 1) := by decide +kernel
theorem d_Mo_append_65 : decode b_Mo_append 65 = .ok (.invokevirtual 45, 3) := by decide +kernel
theorem d_Mo_append_68 : decode b_Mo_append 68 = .ok (.ireturn, 1) := by decide +kernel
theorem d_Mo_append_69 : decode b_Mo_append 69 = .ok (.aload_n 0, 1) := by decide +kernel
theorem d_Mo_append_70 : decode b_Mo_append 70 = .ok (.getfield 49, 3) := by decide +kernel
theorem d_Mo_append_73 : decode b_Mo_append 73 = .ok (.istore 4, 2) := by decide +kernel
theorem d_Mo_append_75 : decode b_Mo_append 75 = .ok (.aload_n 0, 1) := by decide +kernel
theorem d_Mo_append_76 : decode b_Mo_append 76 = .ok (.iconst 0, 1) := by decide +kernel
theorem d_Mo_append_77 : decode b_Mo_append 77 = .ok (.putfield 49, 3) := by decide +kernel
theorem d_Mo_append_80 : decode b_Mo_append 80 = .ok (.aload_n 0, 1) := by decide +kernel
theorem d_Mo_append_81 : decode b_Mo_append 81 = .ok (.getfield 30, 3) := by decide +kernel
theorem d_Mo_append_84 : decode b_Mo_append 84 = .ok (.ifCond .lt 28, 3) := by decide +kernel
theorem d_Mo_append_87 : decode b_Mo_append 87 = .ok (.aload_n 0, 1) := by decide +kernel
theorem d_Mo_append_88 : decode b_Mo_append 88 = .ok (.getfield 27, 3) := by decide +kernel
theorem d_Mo_append_91 : decode b_Mo_append 91 = .ok (.aload_n 0, 1) := by decide +kernel
theorem d_Mo_append_92 : decode b_Mo_append 92 = .ok (.getfield 30, 3) := by decide +kernel
theorem d_Mo_append_95 : decode b_Mo_append 95 = .ok (.iaload, 1) := by decide +kernel
theorem d_Mo_append_96 : decode b_Mo_append 96 = .ok (.bipush 9, 2) := by decide +kernel
theorem d_Mo_append_98 : decode b_Mo_append 98 = .ok (.iadd, 1) := by decide +kernel
theorem d_Mo_append_99 : decode b_Mo_append 99 = .ok (.iload 4, 2) := by decide +kernel
theorem d_Mo_append_101 : decode b_Mo_append 101 = .ok (.iadd, 1) := by decide +kernel
theorem d_Mo_append_102 : decode b_Mo_append 102 = .ok (.sipush 2040, 3) := by decide +kernel
theorem d_Mo_append_105 : decode b_Mo_append 105 = .ok (.if_icmp .gt 7, 3) := by decide +kernel
theorem d_Mo_append_108 : decode b_Mo_append 108 = .ok (.iconst 1, 1) := by decide +kernel
theorem d_Mo_append_109 : decode b_Mo_append 109 = .ok (.goto 4, 3) := by decide +kernel
theorem d_Mo_append_112 : decode b_Mo_append 112 = .ok (.iconst 0, 1) := by decide +kernel
theorem d_Mo_append_113 : decode b_Mo_append 113 = .ok (.istore 5, 2) := by decide +kernel
theorem d_Mo_append_115 : decode b_Mo_append 115 = .ok (.iload 5, 2) := by decide +kernel
theorem d_Mo_append_117 : decode b_Mo_append 117 = .ok (.ifCond .ne 18, 3) := by decide +kernel
theorem d_Mo_append_120 : decode b_Mo_append 120 = .ok (.aload_n 0, 1) := by decide +kernel
theorem d_Mo_append_121 : decode b_Mo_append 121 = .ok (.invokevirtual 67, 3) := by decide +kernel
theorem d_Mo_append_124 : decode b_Mo_append 124 = .ok (.bipush 24, 2) := by decide +kernel
theorem d_Mo_append_126 : decode b_Mo_append 126 = .ok (.if_icmp .ne 9, 3) := by decide +kernel
theorem d_Mo_append_129 : decode b_Mo_append 129 = .ok (.aload_n 0, 1) := by decide +kernel
theorem d_Mo_append_130 : decode b_Mo_append 130 = .ok (.iconst 3, 1) := by decide +kernel
theorem d_Mo_append_131 : decode b_Mo_append 131 = .ok (.invokevirtual 45, 3) := by decide +kernel
theorem d_Mo_append_134 : decode b_Mo_append 134 = .ok (.ireturn, 1) := by decide +kernel
theorem d_Mo_append_135 : decode b_Mo_append 135 = .ok (.iload 5, 2) := by decide +kernel
theorem d_Mo_append_137 : decode b_Mo_append 137 = .ok (.ifCond .ne 16, 3) := by decide +kernel
theorem d_Mo_append_140 : decode b_Mo_append 140 = .ok (.aload_n 0, 1) := by decide +kernel
theorem d_Mo_append_141 : decode b_Mo_append 141 = .ok (.invokevirtual 71, 3) := by decide +kernel
theorem d_Mo_append_144 : decode b_Mo_append 144 = .ok (.ifCond .ne 9, 3) := by decide +kernel
theorem d_Mo_append_147 : decode b_Mo_append 147 = .ok (.aload_n 0, 1) := by decide +kernel
theorem d_Mo_append_148 : decode b_Mo_append 148 = .ok (.iconst 2, 1) := by decide +kernel
theorem d_Mo_append_149 : decode b_Mo_append 149 = .ok (.invokevirtual 45, 3) := by decide +kernel
theorem d_Mo_append_152 : decode b_Mo_append 152 = .ok (.ireturn, 1) := by decide +kernel
theorem d_Mo_append_153 : decode b_Mo_append 153 = .ok (.aload_n 0, 1) := by decide +kernel
theorem d_Mo_append_154 : decode b_Mo_append 154 = .ok (.bipush 9, 2) := by decide +kernel
theorem d_Mo_append_156 : decode b_Mo_append 156 = .ok (.iload 4, 2) := by decide +kernel
theorem d_Mo_append_158 : decode b_Mo_append 158 = .ok (.iadd, 1) := by decide +kernel
theorem d_Mo_append_159 : decode b_Mo_append 159 = .ok (.invokevirtual 61, 3) := by decide +kernel
theorem d_Mo_append_162 : decode b_Mo_append 162 = .ok (.bipush 9, 2) := by decide +kernel
theorem d_Mo_append_164 : decode b_Mo_append 164 = .ok (.iload 4, 2) := by decide +kernel
theorem d_Mo_append_166 : decode b_Mo_append 166 = .ok (.iadd, 1) := by decide +kernel
theorem d_Mo_append_167 : decode b_Mo_append 167 = .ok (.if_icmp .ge 9, 3) := by decide +kernel
theorem d_Mo_append_170 : decode b_Mo_append 170 = .ok (.aload_n 0, 1) := by decide +kernel
theorem d_Mo_append_171 : decode b_Mo_append 171 = .ok (.iconst 2, 1) := by decide +kernel
theorem d_Mo_append_172 : decode b_Mo_append 172 = .ok (.invokevirtual 45, 3) := by decide +kernel
theorem d_Mo_append_175 : decode b_Mo_append 175 = .ok (.ireturn, 1) := by decide +kernel
theorem d_Mo_append_176 : decode b_Mo_append 176 = .ok (.sipush 2040, 3) := by decide +kernel
theorem d_Mo_append_179 : decode b_Mo_append 179 = .ok (.aload_n 0, 1) := by decide +kernel
theorem d_Mo_append_180 : decode b_Mo_append 180 = .ok (.getfield 30, 3) := by decide +kernel
theorem d_Mo_append_183 : decode b_Mo_append 183 = .ok (.imul, 1) := by decide +kernel
theorem d_Mo_append_184 : decode b_Mo_append 184 = .ok (.aload_n 0, 1) := by decide +kernel
theorem d_Mo_append_185 : decode b_Mo_append 185 = .ok (.getfield 27, 3) := by decide +kernel
theorem d_Mo_append_188 : decode b_Mo_append 188 = .ok (.aload_n 0, 1) := by decide +kernel
theorem d_Mo_append_189 : decode b_Mo_append 189 = .ok (.getfield 30, 3) := by decide +kernel
theorem d_Mo_append_192 : decode b_Mo_append 192 = .ok (.iaload, 1) := by decide +kernel
theorem d_Mo_append_193 : decode b_Mo_append 193 = .ok (.iadd, 1) := by decide +kernel
theorem d_Mo_append_194 : decode b_Mo_append 194 = .ok (.istore 6, 2) := by decide +kernel
theorem d_Mo_append_196 : decode b_Mo_append 196 = .ok (.aload_n 0, 1) := by decide +kernel
theorem d_Mo_append_197 : decode b_Mo_append 197 = .ok (.getfield 35, 3) := by decide +kernel
theorem d_Mo_append_200 : decode b_Mo_append 200 = .ok (.iload 6, 2) := by decide +kernel
theorem d_Mo_append_202 : decode b_Mo_append 202 = .ok (.iload_n 1, 1) := by decide +kernel
theorem d_Mo_append_203 : decode b_Mo_append 203 = .ok (.i2b, 1) := by decide +kernel
theorem d_Mo_append_204 : decode b_Mo_append 204 = .ok (.bastore, 1) := by decide +kernel
theorem d_Mo_append_205 : decode b_Mo_append 205 = .ok (.aload_n 0, 1) := by decide +kernel
theorem d_Mo_append_206 : decode b_Mo_append 206 = .ok (.getfield 35, 3) := by decide +kernel
theorem d_Mo_append_209 : decode b_Mo_append 209 = .ok (.iload 6, 2) := by decide +kernel
theorem d_Mo_append_211 : decode b_Mo_append 211 = .ok (.iconst 1, 1) := by decide +kernel
theorem d_Mo_append_212 : decode b_Mo_append 212 = .ok (.iadd, 1) := by decide +kernel
theorem d_Mo_append_213 : decode b_Mo_append 213 = .ok (.iload_n 3, 1) := by decide +kernel
theorem d_Mo_append_214 : decode b_Mo_append 214 = .ok (.i2b, 1) := by decide +kernel
theorem d_Mo_append_215 : decode b_Mo_append 215 = .ok (.bastore, 1) := by decide +kernel
theorem d_Mo_append_216 : decode b_Mo_append 216 = .ok (.aload_n 0, 1) := by decide +kernel
theorem d_Mo_append_217 : decode b_Mo_append 217 = .ok (.getfield 35, 3) := by decide +kernel
theorem d_Mo_append_220 : decode b_Mo_append 220 = .ok (.iload 6, 2) := by decide +kernel
theorem d_Mo_append_222 : decode b_Mo_append 222 = .ok (.iconst 2, 1) := by decide +kernel
theorem d_Mo_append_223 : decode b_Mo_append 223 = .ok (.iadd, 1) := by decide +kernel
theorem d_Mo_append_224 : decode b_Mo_append 224 = .ok (.iload 4, 2) := by decide +kernel
theorem d_Mo_append_226 : decode b_Mo_append 226 = .ok (.iload_n 3, 1) := by decide +kernel
theorem d_Mo_append_227 : decode b_Mo_append 227 = .ok (.isub, 1) := by decide +kernel
theorem d_Mo_append_228 : decode b_Mo_append 228 = .ok (.sipush 256, 3) := by decide +kernel
theorem d_Mo_append_231 : decode b_Mo_append 231 = .ok (.idiv, 1) := by decide +kernel
theorem d_Mo_append_232 : decode b_Mo_append 232 = .ok (.i2b, 1) := by decide +kernel
theorem d_Mo_append_233 : decode b_Mo_append 233 = .ok (.bastore, 1) := by decide +kernel
theorem d_Mo_append_234 : decode b_Mo_append 234 = .ok (.aload_n 0, 1) := by decide +kernel
theorem d_Mo_append_235 : decode b_Mo_append 235 = .ok (.getfield 35, 3) := by decide +kernel
theorem d_Mo_append_238 : decode b_Mo_append 238 = .ok (.iload 6, 2) := by decide +kernel
theorem d_Mo_append_240 : decode b_Mo_append 240 = .ok (.iconst 3, 1) := by decide +kernel
theorem d_Mo_append_241 : decode b_Mo_append 241 = .ok (.iadd, 1) := by decide +kernel
theorem d_Mo_append_242 : decode b_Mo_append 242 = .ok (.iload 4, 2) := by decide +kernel
theorem d_Mo_append_244 : decode b_Mo_append 244 = .ok (.iload_n 3, 1) := by decide +kernel
theorem d_Mo_append_245 : decode b_Mo_append 245 = .ok (.isub, 1) := by decide +kernel
theorem d_Mo_append_246 : decode b_Mo_append 246 = .ok (.i2b, 1) := by decide +kernel
theorem d_Mo_append_247 : decode b_Mo_append 247 = .ok (.bastore, 1) := by decide +kernel
theorem d_Mo_append_248 : decode b_Mo_append 248 = .ok (.iconst 0, 1) := by decide +kernel
theorem d_Mo_append_249 : decode b_Mo_append 249 = .ok (.istore 7, 2) := by decide +kernel
theorem d_Mo_append_251 : decode b_Mo_append 251 = .ok (.iload 7, 2) := by decide +kernel
theorem d_Mo_append_253 : decode b_Mo_append 253 = .ok (.iconst 4, 1) := by decide +kernel
theorem d_Mo_append_254 : decode b_Mo_append 254 = .ok (.if_icmp .ge 32, 3) := by decide +kernel
theorem d_Mo_append_257 : decode b_Mo_append 257 = .ok (.aload_n 0, 1) := by decide +kernel
theorem d_Mo_append_258 : decode b_Mo_append 258 = .ok (.getfield 35, 3) := by decide +kernel
theorem d_Mo_append_261 : decode b_Mo_append 261 = .ok (.iload 6, 2) := by decide +kernel
theorem d_Mo_append_263 : decode b_Mo_append 263 = .ok (.iconst 4, 1) := by decide +kernel
theorem d_Mo_append_264 : decode b_Mo_append 264 = .ok (.iadd, 1) := by decide +kernel
theorem d_Mo_append_265 : decode b_Mo_append 265 = .ok (.iload 7, 2) := by decide +kernel
theorem d_Mo_append_267 : decode b_Mo_append 267 = .ok (.iadd, 1) := by decide +kernel
theorem d_Mo_append_268 : decode b_Mo_append 268 = .ok (.iload_n 2, 1) := by decide +kernel
theorem d_Mo_append_269 : decode b_Mo_append 269 = .ok (.bipush 24, 2) := by decide +kernel
theorem d_Mo_append_271 : decode b_Mo_append 271 = .ok (.bipush 8, 2) := by decide +kernel
theorem d_Mo_append_273 : decode b_Mo_append 273 = .ok (.iload 7, 2) := by decide +kernel
theorem d_Mo_append_275 : decode b_Mo_append 275 = .ok (.imul, 1) := by decide +kernel
theorem d_Mo_append_276 : decode b_Mo_append 276 = .ok (.isub, 1) := by decide +kernel
theorem d_Mo_append_277 : decode b_Mo_append 277 = .ok (.ishr, 1) := by decide +kernel
theorem d_Mo_append_278 : decode b_Mo_append 278 = .ok (.i2b, 1) := by decide +kernel
theorem d_Mo_append_279 : decode b_Mo_append 279 = .ok (.bastore, 1) := by decide +kernel
theorem d_Mo_append_280 : decode b_Mo_append 280 = .ok (.iinc 7 1, 3) := by decide +kernel
theorem d_Mo_append_283 : decode b_Mo_append 283 = .ok (.goto (-32), 3) := by decide +kernel
theorem d_Mo_append_286 : decode b_Mo_append 286 = .ok (.iconst 0, 1) := by decide +kernel
theorem d_Mo_append_287 : decode b_Mo_append 287 = .ok (.istore 7, 2) := by decide +kernel
theorem d_Mo_append_289 : decode b_Mo_append 289 = .ok (.iload 7, 2) := by decide +kernel
theorem d_Mo_append_291 : decode b_Mo_append 291 = .ok (.iload 4, 2) := by decide +kernel
theorem d_Mo_append_293 : decode b_Mo_append 293 = .ok (.if_icmp .ge 29, 3) := by decide +kernel
theorem d_Mo_append_296 : decode b_Mo_append 296 = .ok (.aload_n 0, 1) := by decide +kernel
theorem d_Mo_append_297 : decode b_Mo_append 297 = .ok (.getfield 35, 3) := by decide +kernel
theorem d_Mo_append_300 : decode b_Mo_append 300 = .ok (.iload 6, 2) := by decide +kernel
theorem d_Mo_append_302 : decode b_Mo_append 302 = .ok (.bipush 9, 2) := by decide +kernel
theorem d_Mo_append_304 : decode b_Mo_append 304 = .ok (.iadd, 1) := by decide +kernel
theorem d_Mo_append_305 : decode b_Mo_append 305 = .ok (.iload 7, 2) := by decide +kernel
theorem d_Mo_append_307 : decode b_Mo_append 307 = .ok (.iadd, 1) := by decide +kernel
theorem d_Mo_append_308 : decode b_Mo_append 308 = .ok (.aload_n 0, 1) := by decide +kernel
theorem d_Mo_append_309 : decode b_Mo_append 309 = .ok (.getfield 7, 3) := by decide +kernel
theorem d_Mo_append_312 : decode b_Mo_append 312 = .ok (.iload 7, 2) := by decide +kernel
theorem d_Mo_append_314 : decode b_Mo_append 314 = .ok (.baload, 1) := by decide +kernel
theorem d_Mo_append_315 : decode b_Mo_append 315 = .ok (.bastore, 1) := by decide +kernel
theorem d_Mo_append_316 : decode b_Mo_append 316 = .ok (.iinc 7 1, 3) := by decide +kernel
theorem d_Mo_append_319 : decode b_Mo_append 319 = .ok (.goto (-30), 3) := by decide +kernel
theorem d_Mo_append_322 : decode b_Mo_append 322 = .ok (.aload_n 0, 1) := by decide +kernel
theorem d_Mo_append_323 : decode b_Mo_append 323 = .ok (.getfield 27, 3) := by decide +kernel
theorem d_Mo_append_326 : decode b_Mo_append 326 = .ok (.aload_n 0, 1) := by decide +kernel
theorem d_Mo_append_327 : decode b_Mo_append 327 = .ok (.getfield 30, 3) := by decide +kernel
theorem d_Mo_append_330 : decode b_Mo_append 330 = .ok (.dup2, 1) := by decide +kernel
theorem d_Mo_append_331 : decode b_Mo_append 331 = .ok (.iaload, 1) := by decide +kernel
theorem d_Mo_append_332 : decode b_Mo_append 332 = .ok (.bipush 9, 2) := by decide +kernel
theorem d_Mo_append_334 : decode b_Mo_append 334 = .ok (.iload 4, 2) := by decide +kernel
theorem d_Mo_append_336 : decode b_Mo_append 336 = .ok (.iadd, 1) := by decide +kernel
theorem d_Mo_append_337 : decode b_Mo_append 337 = .ok (.iadd, 1) := by decide +kernel
theorem d_Mo_append_338 : decode b_Mo_append 338 = .ok (.iastore, 1) := by decide +kernel
theorem d_Mo_append_339 : decode b_Mo_append 339 = .ok (.aload_n 0, 1) := by decide +kernel
theorem d_Mo_append_340 : decode b_Mo_append 340 = .ok (.getfield 24, 3) := by decide +kernel
theorem d_Mo_append_343 : decode b_Mo_append 343 = .ok (.aload_n 0, 1) := by decide +kernel
theorem d_Mo_append_344 : decode b_Mo_append 344 = .ok (.getfield 30, 3) := by decide +kernel
theorem d_Mo_append_347 : decode b_Mo_append 347 = .ok (.dup2, 1) := by decide +kernel
theorem d_Mo_append_348 : decode b_Mo_append 348 = .ok (.iaload, 1) := by decide +kernel
theorem d_Mo_append_349 : decode b_Mo_append 349 = .ok (.iconst 1, 1) := by decide +kernel
theorem d_Mo_append_350 : decode b_Mo_append 350 = .ok (.iadd, 1) := by decide +kernel
theorem d_Mo_append_351 : decode b_Mo_append 351 = .ok (.iastore, 1) := by decide +kernel
theorem d_Mo_append_352 : decode b_Mo_append 352 = .ok (.aload_n 0, 1) := by decide +kernel
theorem d_Mo_append_353 : decode b_Mo_append 353 = .ok (.getfield 24, 3) := by decide +kernel
theorem d_Mo_append_356 : decode b_Mo_append 356 = .ok (.aload_n 0, 1) := by decide +kernel
theorem d_Mo_append_357 : decode b_Mo_append 357 = .ok (.getfield 30, 3) := by decide +kernel
theorem d_Mo_append_360 : decode b_Mo_append 360 = .ok (.iaload, 1) := by decide +kernel
theorem d_Mo_append_361 : decode b_Mo_append 361 = .ok (.ireturn, 1) := by decide +kernel
theorem d_Mo_retire_0 : decode b_Mo_retire 0 = .ok (.aload_n 0, 1) := by decide +kernel
theorem d_Mo_retire_1 : decode b_Mo_retire 1 = .ok (.iconst 0, 1) := by decide +kernel
theorem d_Mo_retire_2 : decode b_Mo_retire 2 = .ok (.putfield 38, 3) := by decide +kernel
theorem d_Mo_retire_5 : decode b_Mo_retire 5 = .ok (.iload_n 1, 1) := by decide +kernel
theorem d_Mo_retire_6 : decode b_Mo_retire 6 = .ok (.ifCond .lt 9, 3) := by decide +kernel
theorem d_Mo_retire_9 : decode b_Mo_retire 9 = .ok (.iload_n 1, 1) := by decide +kernel
theorem d_Mo_retire_10 : decode b_Mo_retire 10 = .ok (.bipush 23, 2) := by decide +kernel
theorem d_Mo_retire_12 : decode b_Mo_retire 12 = .ok (.if_icmp .le 9, 3) := by decide +kernel
theorem d_Mo_retire_15 : decode b_Mo_retire 15 = .ok (.aload_n 0, 1) := by decide +kernel
theorem d_Mo_retire_16 : decode b_Mo_retire 16 = .ok (.iconst 1, 1) := by decide +kernel
theorem d_Mo_retire_17 : decode b_Mo_retire 17 = .ok (.invokevirtual 45, 3) := by decide +kernel
theorem d_Mo_retire_20 : decode b_Mo_retire 20 = .ok (.ireturn, 1) := by decide +kernel
theorem d_Mo_retire_21 : decode b_Mo_retire 21 = .ok (.aload_n 0, 1) := by decide +kernel
theorem d_Mo_retire_22 : decode b_Mo_retire 22 = .ok (.getfield 41, 3) := by decide +kernel
theorem d_Mo_retire_25 : decode b_Mo_retire 25 = .ok (.ifCond .eq 9, 3) := by decide +kernel
theorem d_Mo_retire_28 : decode b_Mo_retire 28 = .ok (.aload_n 0, 1) := by decide +kernel
theorem d_Mo_retire_29 : decode b_Mo_retire 29 = .ok (.iconst 2, 1) := by decide +kernel
theorem d_Mo_retire_30 : decode b_Mo_retire 30 = .ok (.invokevirtual 45, 3) := by decide +kernel
theorem d_Mo_retire_33 : decode b_Mo_retire 33 = .ok (.ireturn, 1) := by decide +kernel
theorem d_Mo_retire_34 : decode b_Mo_retire 34 = .ok (.aload_n 0, 1) := by decide +kernel
theorem d_Mo_retire_35 : decode b_Mo_retire 35 = .ok (.iload_n 1, 1) := by decide +kernel
theorem d_Mo_retire_36 : decode b_Mo_retire 36 = .ok (.invokevirtual 75, 3) := by decide +kernel
theorem d_Mo_retire_39 : decode b_Mo_retire 39 = .ok (.istore_n 2, 1) := by decide +kernel
theorem d_Mo_retire_40 : decode b_Mo_retire 40 = .ok (.iload_n 2, 1) := by decide +kernel
theorem d_Mo_retire_41 : decode b_Mo_retire 41 = .ok (.ifCond .ge 9, 3) := by decide +kernel
theorem d_Mo_retire_44 : decode b_Mo_retire 44 = .ok (.aload_n 0, 1) := by decide +kernel
theorem d_Mo_retire_45 : decode b_Mo_retire 45 = .ok (.iconst 3, 1) := by decide +kernel
theorem d_Mo_retire_46 : decode b_Mo_retire 46 = .ok (.invokevirtual 45, 3) := by decide +kernel
theorem d_Mo_retire_49 : decode b_Mo_retire 49 = .ok (.ireturn, 1) := by decide +kernel
theorem d_Mo_retire_50 : decode b_Mo_retire 50 = .ok (.aload_n 0, 1) := by decide +kernel
theorem d_Mo_retire_51 : decode b_Mo_retire 51 = .ok (.getfield 20, 3) := by decide +kernel
theorem d_Mo_retire_54 : decode b_Mo_retire 54 = .ok (.iload_n 2, 1) := by decide +kernel
theorem d_Mo_retire_55 : decode b_Mo_retire 55 = .ok (.iconst 0, 1) := by decide +kernel
theorem d_Mo_retire_56 : decode b_Mo_retire 56 = .ok (.bastore, 1) := by decide +kernel
theorem d_Mo_retire_57 : decode b_Mo_retire 57 = .ok (.iload_n 2, 1) := by decide +kernel
theorem d_Mo_retire_58 : decode b_Mo_retire 58 = .ok (.aload_n 0, 1) := by decide +kernel
theorem d_Mo_retire_59 : decode b_Mo_retire 59 = .ok (.getfield 30, 3) := by decide +kernel
theorem d_Mo_retire_62 : decode b_Mo_retire 62 = .ok (.if_icmp .ne 8, 3) := by decide +kernel
theorem d_Mo_retire_65 : decode b_Mo_retire 65 = .ok (.aload_n 0, 1) := by decide +kernel
theorem d_Mo_retire_66 : decode b_Mo_retire 66 = .ok (.iconst (-1), 1) := by decide +kernel
theorem d_Mo_retire_67 : decode b_Mo_retire 67 = .ok (.putfield 30, 3) := by decide +kernel
theorem d_Mo_retire_70 : decode b_Mo_retire 70 = .ok (.aload_n 0, 1) := by decide +kernel
theorem d_Mo_retire_71 : decode b_Mo_retire 71 = .ok (.invokevirtual 67, 3) := by decide +kernel
theorem d_Mo_retire_74 : decode b_Mo_retire 74 = .ok (.ireturn, 1) := by decide +kernel
theorem d_Mo_cut_0 : decode b_Mo_cut 0 = .ok (.aload_n 0, 1) := by decide +kernel
theorem d_Mo_cut_1 : decode b_Mo_cut 1 = .ok (.iconst 0, 1) := by decide +kernel
theorem d_Mo_cut_2 : decode b_Mo_cut 2 = .ok (.putfield 38, 3) := by decide +kernel
theorem d_Mo_cut_5 : decode b_Mo_cut 5 = .ok (.iload_n 1, 1) := by decide +kernel
theorem d_Mo_cut_6 : decode b_Mo_cut 6 = .ok (.ifCond .lt 7, 3) := by decide +kernel
theorem d_Mo_cut_9 : decode b_Mo_cut 9 = .ok (.iload_n 2, 1) := by decide +kernel
theorem d_Mo_cut_10 : decode b_Mo_cut 10 = .ok (.ifCond .ge 9, 3) := by decide +kernel
theorem d_Mo_cut_13 : decode b_Mo_cut 13 = .ok (.aload_n 0, 1) := by decide +kernel
theorem d_Mo_cut_14 : decode b_Mo_cut 14 = .ok (.iconst 1, 1) := by decide +kernel
theorem d_Mo_cut_15 : decode b_Mo_cut 15 = .ok (.invokevirtual 45, 3) := by decide +kernel
theorem d_Mo_cut_18 : decode b_Mo_cut 18 = .ok (.ireturn, 1) := by decide +kernel
theorem d_Mo_cut_19 : decode b_Mo_cut 19 = .ok (.aload_n 0, 1) := by decide +kernel
theorem d_Mo_cut_20 : decode b_Mo_cut 20 = .ok (.getfield 52, 3) := by decide +kernel
theorem d_Mo_cut_23 : decode b_Mo_cut 23 = .ok (.ifCond .eq 7, 3) := by decide +kernel
theorem d_Mo_cut_26 : decode b_Mo_cut 26 = .ok (.iconst 1, 1) := by decide +kernel
theorem d_Mo_cut_27 : decode b_Mo_cut 27 = .ok (.goto 4, 3) := by decide +kernel
theorem d_Mo_cut_30 : decode b_Mo_cut 30 = .ok (.iconst 0, 1) := by decide +kernel
theorem d_Mo_cut_31 : decode b_Mo_cut 31 = .ok (.istore_n 3, 1) := by decide +kernel
theorem d_Mo_cut_32 : decode b_Mo_cut 32 = .ok (.aload_n 0, 1) := by decide +kernel
theorem d_Mo_cut_33 : decode b_Mo_cut 33 = .ok (.iconst 1, 1) := by decide +kernel
theorem d_Mo_cut_34 : decode b_Mo_cut 34 = .ok (.putfield 52, 3) := by decide +kernel
theorem d_Mo_cut_37 : decode b_Mo_cut 37 = .ok (.aload_n 0, 1) := by decide +kernel
theorem d_Mo_cut_38 : decode b_Mo_cut 38 = .ok (.iload_n 1, 1) := by decide +kernel
theorem d_Mo_cut_39 : decode b_Mo_cut 39 = .ok (.putfield 55, 3) := by decide +kernel
theorem d_Mo_cut_42 : decode b_Mo_cut 42 = .ok (.aload_n 0, 1) := by decide +kernel
theorem d_Mo_cut_43 : decode b_Mo_cut 43 = .ok (.iload_n 2, 1) := by decide +kernel
theorem d_Mo_cut_44 : decode b_Mo_cut 44 = .ok (.putfield 58, 3) := by decide +kernel
theorem d_Mo_cut_47 : decode b_Mo_cut 47 = .ok (.iload_n 3, 1) := by decide +kernel
theorem d_Mo_cut_48 : decode b_Mo_cut 48 = .ok (.ireturn, 1) := by decide +kernel
theorem d_Mo_records_0 : decode b_Mo_records 0 = .ok (.iconst 0, 1) := by decide +kernel
theorem d_Mo_records_1 : decode b_Mo_records 1 = .ok (.istore_n 1, 1) := by decide +kernel
theorem d_Mo_records_2 : decode b_Mo_records 2 = .ok (.iconst 0, 1) := by decide +kernel
theorem d_Mo_records_3 : decode b_Mo_records 3 = .ok (.istore_n 2, 1) := by decide +kernel
theorem d_Mo_records_4 : decode b_Mo_records 4 = .ok (.iload_n 2, 1) := by decide +kernel
theorem d_Mo_records_5 : decode b_Mo_records 5 = .ok (.bipush 24, 2) := by decide +kernel
theorem d_Mo_records_7 : decode b_Mo_records 7 = .ok (.if_icmp .ge 31, 3) := by decide +kernel
theorem d_Mo_records_10 : decode b_Mo_records 10 = .ok (.iload_n 1, 1) := by decide +kernel
theorem d_Mo_records_11 : decode b_Mo_records 11 = .ok (.aload_n 0, 1) := by decide +kernel
theorem d_Mo_records_12 : decode b_Mo_records 12 = .ok (.getfield 20, 3) := by decide +kernel
theorem d_Mo_records_15 : decode b_Mo_records 15 = .ok (.iload_n 2, 1) := by decide +kernel
theorem d_Mo_records_16 : decode b_Mo_records 16 = .ok (.baload, 1) := by decide +kernel
theorem d_Mo_records_17 : decode b_Mo_records 17 = .ok (.ifCond .eq 12, 3) := by decide +kernel
theorem d_Mo_records_20 : decode b_Mo_records 20 = .ok (.aload_n 0, 1) := by decide +kernel
theorem d_Mo_records_21 : decode b_Mo_records 21 = .ok (.getfield 24, 3) := by decide +kernel
theorem d_Mo_records_24 : decode b_Mo_records 24 = .ok (.iload_n 2, 1) := by decide +kernel
theorem d_Mo_records_25 : decode b_Mo_records 25 = .ok (.iaload, 1) := by decide +kernel
theorem d_Mo_records_26 : decode b_Mo_records 26 = .ok (.goto 4, 3) := by decide +kernel
theorem d_Mo_records_29 : decode b_Mo_records 29 = .ok (.iconst 0, 1) := by decide +kernel
theorem d_Mo_records_30 : decode b_Mo_records 30 = .ok (.iadd, 1) := by decide +kernel
theorem d_Mo_records_31 : decode b_Mo_records 31 = .ok (.istore_n 1, 1) := by decide +kernel
theorem d_Mo_records_32 : decode b_Mo_records 32 = .ok (.iinc 2 1, 3) := by decide +kernel
theorem d_Mo_records_35 : decode b_Mo_records 35 = .ok (.goto (-31), 3) := by decide +kernel
theorem d_Mo_records_38 : decode b_Mo_records 38 = .ok (.iload_n 1, 1) := by decide +kernel
theorem d_Mo_records_39 : decode b_Mo_records 39 = .ok (.ireturn, 1) := by decide +kernel
theorem d_Mo_mount_0 : decode b_Mo_mount 0 = .ok (.aload_n 0, 1) := by decide +kernel
theorem d_Mo_mount_1 : decode b_Mo_mount 1 = .ok (.iconst 0, 1) := by decide +kernel
theorem d_Mo_mount_2 : decode b_Mo_mount 2 = .ok (.putfield 38, 3) := by decide +kernel
theorem d_Mo_mount_5 : decode b_Mo_mount 5 = .ok (.aload_n 0, 1) := by decide +kernel
theorem d_Mo_mount_6 : decode b_Mo_mount 6 = .ok (.iconst 0, 1) := by decide +kernel
theorem d_Mo_mount_7 : decode b_Mo_mount 7 = .ok (.putfield 41, 3) := by decide +kernel
theorem d_Mo_mount_10 : decode b_Mo_mount 10 = .ok (.aload_n 0, 1) := by decide +kernel
theorem d_Mo_mount_11 : decode b_Mo_mount 11 = .ok (.iconst 0, 1) := by decide +kernel
theorem d_Mo_mount_12 : decode b_Mo_mount 12 = .ok (.putfield 49, 3) := by decide +kernel
theorem d_Mo_mount_15 : decode b_Mo_mount 15 = .ok (.aload_n 0, 1) := by decide +kernel
theorem d_Mo_mount_16 : decode b_Mo_mount 16 = .ok (.iconst (-1), 1) := by decide +kernel
theorem d_Mo_mount_17 : decode b_Mo_mount 17 = .ok (.putfield 30, 3) := by decide +kernel
theorem d_Mo_mount_20 : decode b_Mo_mount 20 = .ok (.iconst 0, 1) := by decide +kernel
theorem d_Mo_mount_21 : decode b_Mo_mount 21 = .ok (.istore_n 1, 1) := by decide +kernel
theorem d_Mo_mount_22 : decode b_Mo_mount 22 = .ok (.iload_n 1, 1) := by decide +kernel
theorem d_Mo_mount_23 : decode b_Mo_mount 23 = .ok (.bipush 24, 2) := by decide +kernel
theorem d_Mo_mount_25 : decode b_Mo_mount 25 = .ok (.if_icmp .ge 29, 3) := by decide +kernel
theorem d_Mo_mount_28 : decode b_Mo_mount 28 = .ok (.aload_n 0, 1) := by decide +kernel
theorem d_Mo_mount_29 : decode b_Mo_mount 29 = .ok (.getfield 20, 3) := by decide +kernel
theorem d_Mo_mount_32 : decode b_Mo_mount 32 = .ok (.iload_n 1, 1) := by decide +kernel
theorem d_Mo_mount_33 : decode b_Mo_mount 33 = .ok (.aload_n 0, 1) := by decide +kernel
theorem d_Mo_mount_34 : decode b_Mo_mount 34 = .ok (.getfield 17, 3) := by decide +kernel
theorem d_Mo_mount_37 : decode b_Mo_mount 37 = .ok (.iload_n 1, 1) := by decide +kernel
theorem d_Mo_mount_38 : decode b_Mo_mount 38 = .ok (.iaload, 1) := by decide +kernel
theorem d_Mo_mount_39 : decode b_Mo_mount 39 = .ok (.ifCond .le 7, 3) := by decide +kernel
theorem d_Mo_mount_42 : decode b_Mo_mount 42 = .ok (.iconst 1, 1) := by decide +kernel
theorem d_Mo_mount_43 : decode b_Mo_mount 43 = .ok (.goto 4, 3) := by decide +kernel
theorem d_Mo_mount_46 : decode b_Mo_mount 46 = .ok (.iconst 0, 1) := by decide +kernel
theorem d_Mo_mount_47 : decode b_Mo_mount 47 = .ok (.bastore, 1) := by decide +kernel
theorem d_Mo_mount_48 : decode b_Mo_mount 48 = .ok (.iinc 1 1, 3) := by decide +kernel
theorem d_Mo_mount_51 : decode b_Mo_mount 51 = .ok (.goto (-29), 3) := by decide +kernel
theorem d_Mo_mount_54 : decode b_Mo_mount 54 = .ok (.aload_n 0, 1) := by decide +kernel
theorem d_Mo_mount_55 : decode b_Mo_mount 55 = .ok (.invokevirtual 78, 3) := by decide +kernel
theorem d_Mo_mount_58 : decode b_Mo_mount 58 = .ok (.ireturn, 1) := by decide +kernel
theorem d_Mo_number_0 : decode b_Mo_number 0 = .ok (.iconst 0, 1) := by decide +kernel
theorem d_Mo_number_1 : decode b_Mo_number 1 = .ok (.istore_n 3, 1) := by decide +kernel
theorem d_Mo_number_2 : decode b_Mo_number 2 = .ok (.iconst 0, 1) := by decide +kernel
theorem d_Mo_number_3 : decode b_Mo_number 3 = .ok (.istore 4, 2) := by decide +kernel
theorem d_Mo_number_5 : decode b_Mo_number 5 = .ok (.iload 4, 2) := by decide +kernel
theorem d_Mo_number_7 : decode b_Mo_number 7 = .ok (.iload_n 2, 1) := by decide +kernel
theorem d_Mo_number_8 : decode b_Mo_number 8 = .ok (.if_icmp .ge 29, 3) := by decide +kernel
theorem d_Mo_number_11 : decode b_Mo_number 11 = .ok (.iload_n 3, 1) := by decide +kernel
theorem d_Mo_number_12 : decode b_Mo_number 12 = .ok (.sipush 256, 3) := by decide +kernel
theorem d_Mo_number_15 : decode b_Mo_number 15 = .ok (.imul, 1) := by decide +kernel
theorem d_Mo_number_16 : decode b_Mo_number 16 = .ok (.aload_n 0, 1) := by decide +kernel
theorem d_Mo_number_17 : decode b_Mo_number 17 = .ok (.getfield 35, 3) := by decide +kernel
theorem d_Mo_number_20 : decode b_Mo_number 20 = .ok (.iload_n 1, 1) := by decide +kernel
theorem d_Mo_number_21 : decode b_Mo_number 21 = .ok (.iload 4, 2) := by decide +kernel
theorem d_Mo_number_23 : decode b_Mo_number 23 = .ok (.iadd, 1) := by decide +kernel
theorem d_Mo_number_24 : decode b_Mo_number 24 = .ok (.baload, 1) := by decide +kernel
theorem d_Mo_number_25 : decode b_Mo_number 25 = .ok (.sipush 255, 3) := by decide +kernel
theorem d_Mo_number_28 : decode b_Mo_number 28 = .ok (.iand, 1) := by decide +kernel
theorem d_Mo_number_29 : decode b_Mo_number 29 = .ok (.iadd, 1) := by decide +kernel
theorem d_Mo_number_30 : decode b_Mo_number 30 = .ok (.istore_n 3, 1) := by decide +kernel
theorem d_Mo_number_31 : decode b_Mo_number 31 = .ok (.iinc 4 1, 3) := by decide +kernel
theorem d_Mo_number_34 : decode b_Mo_number 34 = .ok (.goto (-29), 3) := by decide +kernel
theorem d_Mo_number_37 : decode b_Mo_number 37 = .ok (.iload_n 3, 1) := by decide +kernel
theorem d_Mo_number_38 : decode b_Mo_number 38 = .ok (.ireturn, 1) := by decide +kernel
theorem d_Mo_sizeAt_0 : decode b_Mo_sizeAt 0 = .ok (.aload_n 0, 1) := by decide +kernel
theorem d_Mo_sizeAt_1 : decode b_Mo_sizeAt 1 = .ok (.getfield 35, 3) := by decide +kernel
theorem d_Mo_sizeAt_4 : decode b_Mo_sizeAt 4 = .ok (.iload_n 1, 1) := by decide +kernel
theorem d_Mo_sizeAt_5 : decode b_Mo_sizeAt 5 = .ok (.iconst 1, 1) := by decide +kernel
theorem d_Mo_sizeAt_6 : decode b_Mo_sizeAt 6 = .ok (.iadd, 1) := by decide +kernel
theorem d_Mo_sizeAt_7 : decode b_Mo_sizeAt 7 = .ok (.baload, 1) := by decide +kernel
theorem d_Mo_sizeAt_8 : decode b_Mo_sizeAt 8 = .ok (.sipush 255, 3) := by decide +kernel
theorem d_Mo_sizeAt_11 : decode b_Mo_sizeAt 11 = .ok (.iand, 1) := by decide +kernel
theorem d_Mo_sizeAt_12 : decode b_Mo_sizeAt 12 = .ok (.aload_n 0, 1) := by decide +kernel
theorem d_Mo_sizeAt_13 : decode b_Mo_sizeAt 13 = .ok (.iload_n 1, 1) := by decide +kernel
theorem d_Mo_sizeAt_14 : decode b_Mo_sizeAt 14 = .ok (.iconst 2, 1) := by decide +kernel
theorem d_Mo_sizeAt_15 : decode b_Mo_sizeAt 15 = .ok (.iadd, 1) := by decide +kernel
theorem d_Mo_sizeAt_16 : decode b_Mo_sizeAt 16 = .ok (.iconst 2, 1) := by decide +kernel
theorem d_Mo_sizeAt_17 : decode b_Mo_sizeAt 17 = .ok (.invokevirtual 81, 3) := by decide +kernel
theorem d_Mo_sizeAt_20 : decode b_Mo_sizeAt 20 = .ok (.iadd, 1) := by decide +kernel
theorem d_Mo_sizeAt_21 : decode b_Mo_sizeAt 21 = .ok (.ireturn, 1) := by decide +kernel
theorem d_Mo_recordAt_0 : decode b_Mo_recordAt 0 = .ok (.iload_n 1, 1) := by decide +kernel
theorem d_Mo_recordAt_1 : decode b_Mo_recordAt 1 = .ok (.ifCond .ge 5, 3) := by decide +kernel
theorem d_Mo_recordAt_4 : decode b_Mo_recordAt 4 = .ok (.iconst (-1), 1) := by decide +kernel
theorem d_Mo_recordAt_5 : decode b_Mo_recordAt 5 = .ok (.ireturn, 1) := by decide +kernel
theorem d_Mo_recordAt_6 : decode b_Mo_recordAt 6 = .ok (.iload_n 1, 1) := by decide +kernel
theorem d_Mo_recordAt_7 : decode b_Mo_recordAt 7 = .ok (.istore_n 2, 1) := by decide +kernel
theorem d_Mo_recordAt_8 : decode b_Mo_recordAt 8 = .ok (.aload_n 0, 1) := by decide +kernel
theorem d_Mo_recordAt_9 : decode b_Mo_recordAt 9 = .ok (.iconst 0, 1) := by decide +kernel
theorem d_Mo_recordAt_10 : decode b_Mo_recordAt 10 = .ok (.putfield 85, 3) := by decide +kernel
theorem d_Mo_recordAt_13 : decode b_Mo_recordAt 13 = .ok (.aload_n 0, 1) := by decide +kernel
theorem d_Mo_recordAt_14 : decode b_Mo_recordAt 14 = .ok (.getfield 85, 3) := by decide +kernel
theorem d_Mo_recordAt_17 : decode b_Mo_recordAt 17 = .ok (.aload_n 0, 1) := by decide +kernel
theorem d_Mo_recordAt_18 : decode b_Mo_recordAt 18 = .ok (.invokevirtual 67, 3) := by decide +kernel
theorem d_Mo_recordAt_21 : decode b_Mo_recordAt 21 = .ok (.if_icmp .ge 81, 3) := by decide +kernel
theorem d_Mo_recordAt_24 : decode b_Mo_recordAt 24 = .ok (.aload_n 0, 1) := by decide +kernel
theorem d_Mo_recordAt_25 : decode b_Mo_recordAt 25 = .ok (.aload_n 0, 1) := by decide +kernel
theorem d_Mo_recordAt_26 : decode b_Mo_recordAt 26 = .ok (.getfield 85, 3) := by decide +kernel
theorem d_Mo_recordAt_29 : decode b_Mo_recordAt 29 = .ok (.invokevirtual 75, 3) := by decide +kernel
theorem d_Mo_recordAt_32 : decode b_Mo_recordAt 32 = .ok (.istore_n 3, 1) := by decide +kernel
theorem d_Mo_recordAt_33 : decode b_Mo_recordAt 33 = .ok (.iload_n 2, 1) := by decide +kernel
theorem d_Mo_recordAt_34 : decode b_Mo_recordAt 34 = .ok (.aload_n 0, 1) := by decide +kernel
theorem d_Mo_recordAt_35 : decode b_Mo_recordAt 35 = .ok (.getfield 24, 3) := by decide +kernel
theorem d_Mo_recordAt_38 : decode b_Mo_recordAt 38 = .ok (.iload_n 3, 1) := by decide +kernel
theorem d_Mo_recordAt_39 : decode b_Mo_recordAt 39 = .ok (.iaload, 1) := by decide +kernel
theorem d_Mo_recordAt_40 : decode b_Mo_recordAt 40 = .ok (.if_icmp .lt 15, 3) := by decide +kernel
theorem d_Mo_recordAt_43 : decode b_Mo_recordAt 43 = .ok (.iload_n 2, 1) := by decide +kernel
theorem d_Mo_recordAt_44 : decode b_Mo_recordAt 44 = .ok (.aload_n 0, 1) := by decide +kernel
theorem d_Mo_recordAt_45 : decode b_Mo_recordAt 45 = .ok (.getfield 24, 3) := by decide +kernel
theorem d_Mo_recordAt_48 : decode b_Mo_recordAt 48 = .ok (.iload_n 3, 1) := by decide +kernel
theorem d_Mo_recordAt_49 : decode b_Mo_recordAt 49 = .ok (.iaload, 1) := by decide +kernel
theorem d_Mo_recordAt_50 : decode b_Mo_recordAt 50 = .ok (.isub, 1) := by decide +kernel
theorem d_Mo_recordAt_51 : decode b_Mo_recordAt 51 = .ok (.istore_n 2, 1) := by decide +kernel
theorem d_Mo_recordAt_52 : decode b_Mo_recordAt 52 = .ok (.goto 37, 3) := by decide +kernel
theorem d_Mo_recordAt_55 : decode b_Mo_recordAt 55 = .ok (.sipush 2040, 3) := by decide +kernel
theorem d_Mo_recordAt_58 : decode b_Mo_recordAt 58 = .ok (.iload_n 3, 1) := by decide +kernel
theorem d_Mo_recordAt_59 : decode b_Mo_recordAt 59 = .ok (.imul, 1) := by decide +kernel
theorem d_Mo_recordAt_60 : decode b_Mo_recordAt 60 = .ok (.istore 4, 2) := by decide +kernel
theorem d_Mo_recordAt_62 : decode b_Mo_recordAt 62 = .ok (.iload_n 2, 1) := by decide +kernel
theorem d_Mo_recordAt_63 : decode b_Mo_recordAt 63 = .ok (.ifCond .le 23, 3) := by decide +kernel
theorem d_Mo_recordAt_66 : decode b_Mo_recordAt 66 = .ok (.iload 4, 2) := by decide +kernel
theorem d_Mo_recordAt_68 : decode b_Mo_recordAt 68 = .ok (.bipush 9, 2) := by decide +kernel
theorem d_Mo_recordAt_70 : decode b_Mo_recordAt 70 = .ok (.aload_n 0, 1) := by decide +kernel
theorem d_Mo_recordAt_71 : decode b_Mo_recordAt 71 = .ok (.iload 4, 2) := by decide +kernel
theorem d_Mo_recordAt_73 : decode b_Mo_recordAt 73 = .ok (.invokevirtual 88, 3) := by decide +kernel
theorem d_Mo_recordAt_76 : decode b_Mo_recordAt 76 = .ok (.iadd, 1) := by decide +kernel
theorem d_Mo_recordAt_77 : decode b_Mo_recordAt 77 = .ok (.iadd, 1) := by decide +kernel
theorem d_Mo_recordAt_78 : decode b_Mo_recordAt 78 = .ok (.istore 4, 2) := by decide +kernel
theorem d_Mo_recordAt_80 : decode b_Mo_recordAt 80 = .ok (.iinc 2 (-1), 3) := by decide +kernel
theorem d_Mo_recordAt_83 : decode b_Mo_recordAt 83 = .ok (.goto (-21), 3) := by decide +kernel
theorem d_Mo_recordAt_86 : decode b_Mo_recordAt 86 = .ok (.iload 4, 2) := by decide +kernel
theorem d_Mo_recordAt_88 : decode b_Mo_recordAt 88 = .ok (.ireturn, 1) := by decide +kernel
theorem d_Mo_recordAt_89 : decode b_Mo_recordAt 89 = .ok (.aload_n 0, 1) := by decide +kernel
theorem d_Mo_recordAt_90 : decode b_Mo_recordAt 90 = .ok (.dup, 1) := by decide +kernel
theorem d_Mo_recordAt_91 : decode b_Mo_recordAt 91 = .ok (.getfield 85, 3) := by decide +kernel
theorem d_Mo_recordAt_94 : decode b_Mo_recordAt 94 = .ok (.iconst 1, 1) := by decide +kernel
theorem d_Mo_recordAt_95 : decode b_Mo_recordAt 95 = .ok (.iadd, 1) := by decide +kernel
theorem d_Mo_recordAt_96 : decode b_Mo_recordAt 96 = .ok (.putfield 85, 3) := by decide +kernel
theorem d_Mo_recordAt_99 : decode b_Mo_recordAt 99 = .ok (.goto (-86), 3) := by decide +kernel
theorem d_Mo_recordAt_102 : decode b_Mo_recordAt 102 = .ok (.iconst (-1), 1) := by decide +kernel
theorem d_Mo_recordAt_103 : decode b_Mo_recordAt 103 = .ok (.ireturn, 1) := by decide +kernel
theorem d_Mo_record_0 : decode b_Mo_record 0 = .ok (.aload_n 0, 1) := by decide +kernel
theorem d_Mo_record_1 : decode b_Mo_record 1 = .ok (.iconst 0, 1) := by decide +kernel
theorem d_Mo_record_2 : decode b_Mo_record 2 = .ok (.putfield 38, 3) := by decide +kernel
theorem d_Mo_record_5 : decode b_Mo_record 5 = .ok (.iload_n 2, 1) := by decide +kernel
theorem d_Mo_record_6 : decode b_Mo_record 6 = .ok (.ifCond .lt 8, 3) := by decide +kernel
theorem d_Mo_record_9 : decode b_Mo_record 9 = .ok (.iload_n 2, 1) := by decide +kernel
theorem d_Mo_record_10 : decode b_Mo_record 10 = .ok (.iconst 4, 1) := by decide +kernel
theorem d_Mo_record_11 : decode b_Mo_record 11 = .ok (.if_icmp .le 9, 3) := by decide +kernel
theorem d_Mo_record_14 : decode b_Mo_record 14 = .ok (.aload_n 0, 1) := by decide +kernel
theorem d_Mo_record_15 : decode b_Mo_record 15 = .ok (.iconst 1, 1) := by decide +kernel
theorem d_Mo_record_16 : decode b_Mo_record 16 = .ok (.invokevirtual 45, 3) := by decide +kernel
theorem d_Mo_record_19 : decode b_Mo_record 19 = .ok (.ireturn, 1) := by decide +kernel
theorem d_Mo_record_20 : decode b_Mo_record 20 = .ok (.aload_n 0, 1) := by decide +kernel
theorem d_Mo_record_21 : decode b_Mo_record 21 = .ok (.getfield 41, 3) := by decide +kernel
theorem d_Mo_record_24 : decode b_Mo_record 24 = .ok (.ifCond .eq 9, 3) := by decide +kernel
theorem d_Mo_record_27 : decode b_Mo_record 27 = .ok (.aload_n 0, 1) := by decide +kernel
theorem d_Mo_record_28 : decode b_Mo_record 28 = .ok (.iconst 2, 1) := by decide +kernel
theorem d_Mo_record_29 : decode b_Mo_record 29 = .ok (.invokevirtual 45, 3) := by decide +kernel
theorem d_Mo_record_32 : decode b_Mo_record 32 = .ok (.ireturn, 1) := by decide +kernel
theorem d_Mo_record_33 : decode b_Mo_record 33 = .ok (.aload_n 0, 1) := by decide +kernel
theorem d_Mo_record_34 : decode b_Mo_record 34 = .ok (.iload_n 1, 1) := by decide +kernel
theorem d_Mo_record_35 : decode b_Mo_record 35 = .ok (.invokevirtual 91, 3) := by decide +kernel
theorem d_Mo_record_38 : decode b_Mo_record 38 = .ok (.istore_n 3, 1) := by decide +kernel
theorem d_Mo_record_39 : decode b_Mo_record 39 = .ok (.iload_n 3, 1) := by decide +kernel
theorem d_Mo_record_40 : decode b_Mo_record 40 = .ok (.ifCond .ge 9, 3) := by decide +kernel
theorem d_Mo_record_43 : decode b_Mo_record 43 = .ok (.aload_n 0, 1) := by decide +kernel
theorem d_Mo_record_44 : decode b_Mo_record 44 = .ok (.iconst 3, 1) := by decide +kernel
theorem d_Mo_record_45 : decode b_Mo_record 45 = .ok (.invokevirtual 45, 3) := by decide +kernel
theorem d_Mo_record_48 : decode b_Mo_record 48 = .ok (.ireturn, 1) := by decide +kernel
theorem d_Mo_record_49 : decode b_Mo_record 49 = .ok (.iload_n 2, 1) := by decide +kernel
theorem d_Mo_record_50 : decode b_Mo_record 50 = .ok (.tableswitch 68 0 3 #[30, 37, 46, 59], 30) := by decide +kernel
theorem d_Mo_record_80 : decode b_Mo_record 80 = .ok (.aload_n 0, 1) := by decide +kernel
theorem d_Mo_record_81 : decode b_Mo_record 81 = .ok (.getfield 35, 3) := by decide +kernel
theorem d_Mo_record_84 : decode b_Mo_record 84 = .ok (.iload_n 3, 1) := by decide +kernel
theorem d_Mo_record_85 : decode b_Mo_record 85 = .ok (.baload, 1) := by decide +kernel
theorem d_Mo_record_86 : decode b_Mo_record 86 = .ok (.ireturn, 1) := by decide +kernel
theorem d_Mo_record_87 : decode b_Mo_record 87 = .ok (.aload_n 0, 1) := by decide +kernel
theorem d_Mo_record_88 : decode b_Mo_record 88 = .ok (.iload_n 3, 1) := by decide +kernel
theorem d_Mo_record_89 : decode b_Mo_record 89 = .ok (.iconst 4, 1) := by decide +kernel
theorem d_Mo_record_90 : decode b_Mo_record 90 = .ok (.iadd, 1) := by decide +kernel
theorem d_Mo_record_91 : decode b_Mo_record 91 = .ok (.iconst 4, 1) := by decide +kernel
theorem d_Mo_record_92 : decode b_Mo_record 92 = .ok (.invokevirtual 81, 3) := by decide +kernel
theorem d_Mo_record_95 : decode b_Mo_record 95 = .ok (.ireturn, 1) := by decide +kernel
theorem d_Mo_record_96 : decode b_Mo_record 96 = .ok (.aload_n 0, 1) := by decide +kernel
theorem d_Mo_record_97 : decode b_Mo_record 97 = .ok (.getfield 35, 3) := by decide +kernel
theorem d_Mo_record_100 : decode b_Mo_record 100 = .ok (.iload_n 3, 1) := by decide +kernel
theorem d_Mo_record_101 : decode b_Mo_record 101 = .ok (.iconst 1, 1) := by decide +kernel
theorem d_Mo_record_102 : decode b_Mo_record 102 = .ok (.iadd, 1) := by decide +kernel
theorem d_Mo_record_103 : decode b_Mo_record 103 = .ok (.baload, 1) := by decide +kernel
theorem d_Mo_record_104 : decode b_Mo_record 104 = .ok (.sipush 255, 3) := by decide +kernel
theorem d_Mo_record_107 : decode b_Mo_record 107 = .ok (.iand, 1) := by decide +kernel
theorem d_Mo_record_108 : decode b_Mo_record 108 = .ok (.ireturn, 1) := by decide +kernel
theorem d_Mo_record_109 : decode b_Mo_record 109 = .ok (.aload_n 0, 1) := by decide +kernel
theorem d_Mo_record_110 : decode b_Mo_record 110 = .ok (.iload_n 3, 1) := by decide +kernel
theorem d_Mo_record_111 : decode b_Mo_record 111 = .ok (.iconst 2, 1) := by decide +kernel
theorem d_Mo_record_112 : decode b_Mo_record 112 = .ok (.iadd, 1) := by decide +kernel
theorem d_Mo_record_113 : decode b_Mo_record 113 = .ok (.iconst 2, 1) := by decide +kernel
theorem d_Mo_record_114 : decode b_Mo_record 114 = .ok (.invokevirtual 81, 3) := by decide +kernel
theorem d_Mo_record_117 : decode b_Mo_record 117 = .ok (.ireturn, 1) := by decide +kernel
theorem d_Mo_record_118 : decode b_Mo_record 118 = .ok (.aload_n 0, 1) := by decide +kernel
theorem d_Mo_record_119 : decode b_Mo_record 119 = .ok (.getfield 85, 3) := by decide +kernel
theorem d_Mo_record_122 : decode b_Mo_record 122 = .ok (.ireturn, 1) := by decide +kernel
theorem d_Mo_word_0 : decode b_Mo_word 0 = .ok (.aload_n 0, 1) := by decide +kernel
theorem d_Mo_word_1 : decode b_Mo_word 1 = .ok (.iconst 0, 1) := by decide +kernel
theorem d_Mo_word_2 : decode b_Mo_word 2 = .ok (.putfield 38, 3) := by decide +kernel
theorem d_Mo_word_5 : decode b_Mo_word 5 = .ok (.aload_n 0, 1) := by decide +kernel
theorem d_Mo_word_6 : decode b_Mo_word 6 = .ok (.getfield 41, 3) := by decide +kernel
theorem d_Mo_word_9 : decode b_Mo_word 9 = .ok (.ifCond .eq 10, 3) := by decide +kernel
theorem d_Mo_word_12 : decode b_Mo_word 12 = .ok (.aload_n 0, 1) := by decide +kernel
theorem d_Mo_word_13 : decode b_Mo_word 13 = .ok (.iconst 1, 1) := by decide +kernel
theorem d_Mo_word_14 : decode b_Mo_word 14 = .ok (.invokevirtual 45, 3) := by decide +kernel
theorem d_Mo_word_17 : decode b_Mo_word 17 = .ok (.i2l, 1) := by decide +kernel
theorem d_Mo_word_18 : decode b_Mo_word 18 = .ok (.lreturn, 1) := by decide +kernel
theorem d_Mo_word_19 : decode b_Mo_word 19 = .ok (.aload_n 0, 1) := by decide +kernel
theorem d_Mo_word_20 : decode b_Mo_word 20 = .ok (.iload_n 1, 1) := by decide +kernel
theorem d_Mo_word_21 : decode b_Mo_word 21 = .ok (.invokevirtual 91, 3) := by decide +kernel
theorem d_Mo_word_24 : decode b_Mo_word 24 = .ok (.istore_n 3, 1) := by decide +kernel
theorem d_Mo_word_25 : decode b_Mo_word 25 = .ok (.iload_n 3, 1) := by decide +kernel
theorem d_Mo_word_26 : decode b_Mo_word 26 = .ok (.ifCond .ge 10, 3) := by decide +kernel
theorem d_Mo_word_29 : decode b_Mo_word 29 = .ok (.aload_n 0, 1) := by decide +kernel
theorem d_Mo_word_30 : decode b_Mo_word 30 = .ok (.iconst 2, 1) := by decide +kernel
theorem d_Mo_word_31 : decode b_Mo_word 31 = .ok (.invokevirtual 45, 3) := by decide +kernel
theorem d_Mo_word_34 : decode b_Mo_word 34 = .ok (.i2l, 1) := by decide +kernel
theorem d_Mo_word_35 : decode b_Mo_word 35 = .ok (.lreturn, 1) := by decide +kernel
theorem d_Mo_word_36 : decode b_Mo_word 36 = .ok (.aload_n 0, 1) := by decide +kernel
theorem d_Mo_word_37 : decode b_Mo_word 37 = .ok (.iload_n 3, 1) := by decide +kernel
theorem d_Mo_word_38 : decode b_Mo_word 38 = .ok (.invokevirtual 88, 3) := by decide +kernel
theorem d_Mo_word_41 : decode b_Mo_word 41 = .ok (.istore 4, 2) := by decide +kernel
theorem d_Mo_word_43 : decode b_Mo_word 43 = .ok (.iload_n 2, 1) := by decide +kernel
theorem d_Mo_word_44 : decode b_Mo_word 44 = .ok (.ifCond .lt 9, 3) := by decide +kernel
theorem d_Mo_word_47 : decode b_Mo_word 47 = .ok (.iload_n 2, 1) := by decide +kernel
theorem d_Mo_word_48 : decode b_Mo_word 48 = .ok (.iload 4, 2) := by decide +kernel
theorem d_Mo_word_50 : decode b_Mo_word 50 = .ok (.if_icmp .lt 10, 3) := by decide +kernel
theorem d_Mo_word_53 : decode b_Mo_word 53 = .ok (.aload_n 0, 1) := by decide +kernel
theorem d_Mo_word_54 : decode b_Mo_word 54 = .ok (.iconst 3, 1) := by decide +kernel
theorem d_Mo_word_55 : decode b_Mo_word 55 = .ok (.invokevirtual 45, 3) := by decide +kernel
theorem d_Mo_word_58 : decode b_Mo_word 58 = .ok (.i2l, 1) := by decide +kernel
theorem d_Mo_word_59 : decode b_Mo_word 59 = .ok (.lreturn, 1) := by decide +kernel
theorem d_Mo_word_60 : decode b_Mo_word 60 = .ok (.lconst 0, 1) := by decide +kernel
theorem d_Mo_word_61 : decode b_Mo_word 61 = .ok (.lstore 5, 2) := by decide +kernel
theorem d_Mo_word_63 : decode b_Mo_word 63 = .ok (.iload_n 2, 1) := by decide +kernel
theorem d_Mo_word_64 : decode b_Mo_word 64 = .ok (.istore 7, 2) := by decide +kernel
theorem d_Mo_word_66 : decode b_Mo_word 66 = .ok (.iload 7, 2) := by decide +kernel
theorem d_Mo_word_68 : decode b_Mo_word 68 = .ok (.iload_n 2, 1) := by decide +kernel
theorem d_Mo_word_69 : decode b_Mo_word 69 = .ok (.bipush 8, 2) := by decide +kernel
theorem d_Mo_word_71 : decode b_Mo_word 71 = .ok (.iadd, 1) := by decide +kernel
theorem d_Mo_word_72 : decode b_Mo_word 72 = .ok (.if_icmp .ge 46, 3) := by decide +kernel
theorem d_Mo_word_75 : decode b_Mo_word 75 = .ok (.lload 5, 2) := by decide +kernel
theorem d_Mo_word_77 : decode b_Mo_word 77 = .ok (.ldc2_w 94, 3) := by decide +kernel
theorem d_Mo_word_80 : decode b_Mo_word 80 = .ok (.lmul, 1) := by decide +kernel
theorem d_Mo_word_81 : decode b_Mo_word 81 = .ok (.iload 7, 2) := by decide +kernel
theorem d_Mo_word_83 : decode b_Mo_word 83 = .ok (.iload 4, 2) := by decide +kernel
theorem d_Mo_word_85 : decode b_Mo_word 85 = .ok (.if_icmp .ge 22, 3) := by decide +kernel
theorem d_Mo_word_88 : decode b_Mo_word 88 = .ok (.aload_n 0, 1) := by decide +kernel
theorem d_Mo_word_89 : decode b_Mo_word 89 = .ok (.getfield 35, 3) := by decide +kernel
theorem d_Mo_word_92 : decode b_Mo_word 92 = .ok (.iload_n 3, 1) := by decide +kernel
theorem d_Mo_word_93 : decode b_Mo_word 93 = .ok (.bipush 9, 2) := by decide +kernel
theorem d_Mo_word_95 : decode b_Mo_word 95 = .ok (.iadd, 1) := by decide +kernel
theorem d_Mo_word_96 : decode b_Mo_word 96 = .ok (.iload 7, 2) := by decide +kernel
theorem d_Mo_word_98 : decode b_Mo_word 98 = .ok (.iadd, 1) := by decide +kernel
theorem d_Mo_word_99 : decode b_Mo_word 99 = .ok (.baload, 1) := by decide +kernel
theorem d_Mo_word_100 : decode b_Mo_word 100 = .ok (.sipush 255, 3) := by decide +kernel
theorem d_Mo_word_103 : decode b_Mo_word 103 = .ok (.iand, 1) := by decide +kernel
theorem d_Mo_word_104 : decode b_Mo_word 104 = .ok (.goto 4, 3) := by decide +kernel
theorem d_Mo_word_107 : decode b_Mo_word 107 = .ok (.iconst 0, 1) := by decide +kernel
theorem d_Mo_word_108 : decode b_Mo_word 108 = .ok (.i2l, 1) := by decide +kernel
theorem d_Mo_word_109 : decode b_Mo_word 109 = .ok (.ladd, 1) := by decide +kernel
theorem d_Mo_word_110 : decode b_Mo_word 110 = .ok (.lstore 5, 2) := by decide +kernel
theorem d_Mo_word_112 : decode b_Mo_word 112 = .ok (.iinc 7 1, 3) := by decide +kernel
theorem d_Mo_word_115 : decode b_Mo_word 115 = .ok (.goto (-49), 3) := by decide +kernel
theorem d_Mo_word_118 : decode b_Mo_word 118 = .ok (.lload 5, 2) := by decide +kernel
theorem d_Mo_word_120 : decode b_Mo_word 120 = .ok (.lreturn, 1) := by decide +kernel
theorem d_Mo_count_0 : decode b_Mo_count 0 = .ok (.aload_n 0, 1) := by decide +kernel
theorem d_Mo_count_1 : decode b_Mo_count 1 = .ok (.iconst 0, 1) := by decide +kernel
theorem d_Mo_count_2 : decode b_Mo_count 2 = .ok (.putfield 38, 3) := by decide +kernel
theorem d_Mo_count_5 : decode b_Mo_count 5 = .ok (.iload_n 1, 1) := by decide +kernel
theorem d_Mo_count_6 : decode b_Mo_count 6 = .ok (.ifCond .lt 8, 3) := by decide +kernel
theorem d_Mo_count_9 : decode b_Mo_count 9 = .ok (.iload_n 1, 1) := by decide +kernel
theorem d_Mo_count_10 : decode b_Mo_count 10 = .ok (.iconst 4, 1) := by decide +kernel
theorem d_Mo_count_11 : decode b_Mo_count 11 = .ok (.if_icmp .le 9, 3) := by decide +kernel
theorem d_Mo_count_14 : decode b_Mo_count 14 = .ok (.aload_n 0, 1) := by decide +kernel
theorem d_Mo_count_15 : decode b_Mo_count 15 = .ok (.iconst 1, 1) := by decide +kernel
theorem d_Mo_count_16 : decode b_Mo_count 16 = .ok (.invokevirtual 45, 3) := by decide +kernel
theorem d_Mo_count_19 : decode b_Mo_count 19 = .ok (.ireturn, 1) := by decide +kernel
theorem d_Mo_count_20 : decode b_Mo_count 20 = .ok (.aload_n 0, 1) := by decide +kernel
theorem d_Mo_count_21 : decode b_Mo_count 21 = .ok (.getfield 41, 3) := by decide +kernel
theorem d_Mo_count_24 : decode b_Mo_count 24 = .ok (.ifCond .eq 14, 3) := by decide +kernel
theorem d_Mo_count_27 : decode b_Mo_count 27 = .ok (.iload_n 1, 1) := by decide +kernel
theorem d_Mo_count_28 : decode b_Mo_count 28 = .ok (.iconst 2, 1) := by decide +kernel
theorem d_Mo_count_29 : decode b_Mo_count 29 = .ok (.if_icmp .ge 9, 3) := by decide +kernel
theorem d_Mo_count_32 : decode b_Mo_count 32 = .ok (.aload_n 0, 1) := by decide +kernel
theorem d_Mo_count_33 : decode b_Mo_count 33 = .ok (.iconst 2, 1) := by decide +kernel
theorem d_Mo_count_34 : decode b_Mo_count 34 = .ok (.invokevirtual 45, 3) := by decide +kernel
theorem d_Mo_count_37 : decode b_Mo_count 37 = .ok (.ireturn, 1) := by decide +kernel
theorem d_Mo_count_38 : decode b_Mo_count 38 = .ok (.iload_n 1, 1) := by decide +kernel
theorem d_Mo_count_39 : decode b_Mo_count 39 = .ok (.tableswitch 57 0 3 #[29, 34, 39, 52], 29) := by decide +kernel
theorem d_Mo_count_68 : decode b_Mo_count 68 = .ok (.aload_n 0, 1) := by decide +kernel
theorem d_Mo_count_69 : decode b_Mo_count 69 = .ok (.invokevirtual 78, 3) := by decide +kernel
theorem d_Mo_count_72 : decode b_Mo_count 72 = .ok (.ireturn, 1) := by decide +kernel
theorem d_Mo_count_73 : decode b_Mo_count 73 = .ok (.aload_n 0, 1) := by decide +kernel
theorem d_Mo_count_74 : decode b_Mo_count 74 = .ok (.invokevirtual 67, 3) := by decide +kernel
theorem d_Mo_count_77 : decode b_Mo_count 77 = .ok (.ireturn, 1) := by decide +kernel
theorem d_Mo_count_78 : decode b_Mo_count 78 = .ok (.aload_n 0, 1) := by decide +kernel
theorem d_Mo_count_79 : decode b_Mo_count 79 = .ok (.getfield 41, 3) := by decide +kernel
theorem d_Mo_count_82 : decode b_Mo_count 82 = .ok (.ifCond .eq 7, 3) := by decide +kernel
theorem d_Mo_count_85 : decode b_Mo_count 85 = .ok (.iconst 1, 1) := by decide +kernel
theorem d_Mo_count_86 : decode b_Mo_count 86 = .ok (.goto 4, 3) := by decide +kernel
theorem d_Mo_count_89 : decode b_Mo_count 89 = .ok (.iconst 0, 1) := by decide +kernel
theorem d_Mo_count_90 : decode b_Mo_count 90 = .ok (.ireturn, 1) := by decide +kernel
theorem d_Mo_count_91 : decode b_Mo_count 91 = .ok (.aload_n 0, 1) := by decide +kernel
theorem d_Mo_count_92 : decode b_Mo_count 92 = .ok (.getfield 49, 3) := by decide +kernel
theorem d_Mo_count_95 : decode b_Mo_count 95 = .ok (.ireturn, 1) := by decide +kernel
theorem d_Mo_count_96 : decode b_Mo_count 96 = .ok (.iconst 0, 1) := by decide +kernel
theorem d_Mo_count_97 : decode b_Mo_count 97 = .ok (.ireturn, 1) := by decide +kernel
