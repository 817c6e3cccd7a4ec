theorem d_Bk_init_0 : decode b_Bk_init 0 = .ok (.aload_n 0, 1) := by decide +kernel
theorem d_Bk_init_1 : decode b_Bk_init 1 = .ok (.invokespecial 3, 3) := by decide +kernel
theorem d_Bk_init_4 : decode b_Bk_init 4 = .ok (.aload_n 0, 1) := by decide +kernel
theorem d_Bk_init_5 : decode b_Bk_init 5 = .ok (.iconst 0, 1) := by decide +kernel
theorem d_Bk_init_6 : decode b_Bk_init 6 = .ok (.newarray .byte, 2) := by decide +kernel
theorem d_Bk_init_8 : decode b_Bk_init 8 = .ok (.putfield 9, 3) := by decide +kernel
theorem d_Bk_init_11 : decode b_Bk_init 11 = .ok (.aload_n 0, 1) := by decide +kernel
theorem d_Bk_init_12 : decode b_Bk_init 12 = .ok (.iconst 0, 1) := by decide +kernel
theorem d_Bk_init_13 : decode b_Bk_init 13 = .ok (.putfield 15, 3) := by decide +kernel
theorem d_Bk_init_16 : decode b_Bk_init 16 = .ok (.aload_n 0, 1) := by decide +kernel
theorem d_Bk_init_17 : decode b_Bk_init 17 = .ok (.iconst 0, 1) := by decide +kernel
theorem d_Bk_init_18 : decode b_Bk_init 18 = .ok (.putfield 19, 3) := by decide +kernel
theorem d_Bk_init_21 : decode b_Bk_init 21 = .ok (.aload_n 0, 1) := by decide +kernel
theorem d_Bk_init_22 : decode b_Bk_init 22 = .ok (.iconst 0, 1) := by decide +kernel
theorem d_Bk_init_23 : decode b_Bk_init 23 = .ok (.putfield 22, 3) := by decide +kernel
theorem d_Bk_init_26 : decode b_Bk_init 26 = .ok (.aload_n 0, 1) := by decide +kernel
theorem d_Bk_init_27 : decode b_Bk_init 27 = .ok (.bipush 6, 2) := by decide +kernel
theorem d_Bk_init_29 : decode b_Bk_init 29 = .ok (.putfield 25, 3) := by decide +kernel
theorem d_Bk_init_32 : decode b_Bk_init 32 = .ok (.return_, 1) := by decide +kernel
theorem d_Bk_erase_0 : decode b_Bk_erase 0 = .ok (.aload_n 0, 1) := by decide +kernel
theorem d_Bk_erase_1 : decode b_Bk_erase 1 = .ok (.getfield 9, 3) := by decide +kernel
theorem d_Bk_erase_4 : decode b_Bk_erase 4 = .ok (.arraylength, 1) := by decide +kernel
theorem d_Bk_erase_5 : decode b_Bk_erase 5 = .ok (.ifCond .ne 12, 3) := by decide +kernel
theorem d_Bk_erase_8 : decode b_Bk_erase 8 = .ok (.aload_n 0, 1) := by decide +kernel
theorem d_Bk_erase_9 : decode b_Bk_erase 9 = .ok (.sipush 2048, 3) := by decide +kernel
theorem d_Bk_erase_12 : decode b_Bk_erase 12 = .ok (.newarray .byte, 2) := by decide +kernel
theorem d_Bk_erase_14 : decode b_Bk_erase 14 = .ok (.putfield 9, 3) := by decide +kernel
theorem d_Bk_erase_17 : decode b_Bk_erase 17 = .ok (.aload_n 0, 1) := by decide +kernel
theorem d_Bk_erase_18 : decode b_Bk_erase 18 = .ok (.dup, 1) := by decide +kernel
theorem d_Bk_erase_19 : decode b_Bk_erase 19 = .ok (.getfield 15, 3) := by decide +kernel
theorem d_Bk_erase_22 : decode b_Bk_erase 22 = .ok (.iconst 1, 1) := by decide +kernel
theorem d_Bk_erase_23 : decode b_Bk_erase 23 = .ok (.iadd, 1) := by decide +kernel
theorem d_Bk_erase_24 : decode b_Bk_erase 24 = .ok (.putfield 15, 3) := by decide +kernel
theorem d_Bk_erase_27 : decode b_Bk_erase 27 = .ok (.aload_n 1, 1) := by decide +kernel
theorem d_Bk_erase_28 : decode b_Bk_erase 28 = .ok (.sipush 2048, 3) := by decide +kernel
theorem d_Bk_erase_31 : decode b_Bk_erase 31 = .ok (.invokevirtual 28, 3) := by decide +kernel
theorem d_Bk_erase_34 : decode b_Bk_erase 34 = .ok (.istore_n 2, 1) := by decide +kernel
theorem d_Bk_erase_35 : decode b_Bk_erase 35 = .ok (.iconst 0, 1) := by decide +kernel
theorem d_Bk_erase_36 : decode b_Bk_erase 36 = .ok (.istore_n 3, 1) := by decide +kernel
theorem d_Bk_erase_37 : decode b_Bk_erase 37 = .ok (.iload_n 3, 1) := by decide +kernel
theorem d_Bk_erase_38 : decode b_Bk_erase 38 = .ok (.iload_n 2, 1) := by decide +kernel
theorem d_Bk_erase_39 : decode b_Bk_erase 39 = .ok (.if_icmp .ge 16, 3) := by decide +kernel
theorem d_Bk_erase_42 : decode b_Bk_erase 42 = .ok (.aload_n 0, 1) := by decide +kernel
theorem d_Bk_erase_43 : decode b_Bk_erase 43 = .ok (.getfield 9, 3) := by decide +kernel
theorem d_Bk_erase_46 : decode b_Bk_erase 46 = .ok (.iload_n 3, 1) := by decide +kernel
theorem d_Bk_erase_47 : decode b_Bk_erase 47 = .ok (.iconst (-1), 1) := by decide +kernel
theorem d_Bk_erase_48 : decode b_Bk_erase 48 = .ok (.bastore, 1) := by decide +kernel
theorem d_Bk_erase_49 : decode b_Bk_erase 49 = .ok (.iinc 3 1, 3) := by decide +kernel
theorem d_Bk_erase_52 : decode b_Bk_erase 52 = .ok (.goto (-15), 3) := by decide +kernel
theorem d_Bk_erase_55 : decode b_Bk_erase 55 = .ok (.iload_n 2, 1) := by decide +kernel
theorem d_Bk_erase_56 : decode b_Bk_erase 56 = .ok (.sipush 2048, 3) := by decide +kernel
theorem d_Bk_erase_59 : decode b_Bk_erase 59 = .ok (.if_icmp .ne 7, 3) := by decide +kernel
theorem d_Bk_erase_62 : decode b_Bk_erase 62 = .ok (.iconst 1, 1) := by decide +kernel
theorem d_Bk_erase_63 : decode b_Bk_erase 63 = .ok (.goto 4, 3) := by decide +kernel
theorem d_Bk_erase_66 : decode b_Bk_erase 66 = .ok (.iconst 0, 1) := by decide +kernel
theorem d_Bk_erase_67 : decode b_Bk_erase 67 = .ok (.ireturn, 1) := by decide +kernel
theorem d_Bk_write_0 : decode b_Bk_write 0 = .ok (.aload_n 3, 1) := by decide +kernel
theorem d_Bk_write_1 : decode b_Bk_write 1 = .ok (.aload_n 2, 1) := by decide +kernel
theorem d_Bk_write_2 : decode b_Bk_write 2 = .ok (.getfield 34, 3) := by decide +kernel
theorem d_Bk_write_5 : decode b_Bk_write 5 = .ok (.invokevirtual 28, 3) := by decide +kernel
theorem d_Bk_write_8 : decode b_Bk_write 8 = .ok (.istore 4, 2) := by decide +kernel
theorem d_Bk_write_10 : decode b_Bk_write 10 = .ok (.iconst 0, 1) := by decide +kernel
theorem d_Bk_write_11 : decode b_Bk_write 11 = .ok (.istore 5, 2) := by decide +kernel
theorem d_Bk_write_13 : decode b_Bk_write 13 = .ok (.iload 5, 2) := by decide +kernel
theorem d_Bk_write_15 : decode b_Bk_write 15 = .ok (.iload 4, 2) := by decide +kernel
theorem d_Bk_write_17 : decode b_Bk_write 17 = .ok (.if_icmp .ge 23, 3) := by decide +kernel
theorem d_Bk_write_20 : decode b_Bk_write 20 = .ok (.aload_n 0, 1) := by decide +kernel
theorem d_Bk_write_21 : decode b_Bk_write 21 = .ok (.iload_n 1, 1) := by decide +kernel
theorem d_Bk_write_22 : decode b_Bk_write 22 = .ok (.iload 5, 2) := by decide +kernel
theorem d_Bk_write_24 : decode b_Bk_write 24 = .ok (.iadd, 1) := by decide +kernel
theorem d_Bk_write_25 : decode b_Bk_write 25 = .ok (.aload_n 2, 1) := by decide +kernel
theorem d_Bk_write_26 : decode b_Bk_write 26 = .ok (.iload 5, 2) := by decide +kernel
theorem d_Bk_write_28 : decode b_Bk_write 28 = .ok (.invokevirtual 39, 3) := by decide +kernel
theorem d_Bk_write_31 : decode b_Bk_write 31 = .ok (.invokevirtual 42, 3) := by decide +kernel
theorem d_Bk_write_34 : decode b_Bk_write 34 = .ok (.iinc 5 1, 3) := by decide +kernel
theorem d_Bk_write_37 : decode b_Bk_write 37 = .ok (.goto (-24), 3) := by decide +kernel
theorem d_Bk_write_40 : decode b_Bk_write 40 = .ok (.iload 4, 2) := by decide +kernel
theorem d_Bk_write_42 : decode b_Bk_write 42 = .ok (.aload_n 2, 1) := by decide +kernel
theorem d_Bk_write_43 : decode b_Bk_write 43 = .ok (.getfield 34, 3) := by decide +kernel
theorem d_Bk_write_46 : decode b_Bk_write 46 = .ok (.if_icmp .ne 7, 3) := by decide +kernel
theorem d_Bk_write_49 : decode b_Bk_write 49 = .ok (.iconst 1, 1) := by decide +kernel
theorem d_Bk_write_50 : decode b_Bk_write 50 = .ok (.goto 4, 3) := by decide +kernel
theorem d_Bk_write_53 : decode b_Bk_write 53 = .ok (.iconst 0, 1) := by decide +kernel
theorem d_Bk_write_54 : decode b_Bk_write 54 = .ok (.ireturn, 1) := by decide +kernel
theorem d_Bk_writeCell_0 : decode b_Bk_writeCell 0 = .ok (.iload_n 1, 1) := by decide +kernel
theorem d_Bk_writeCell_1 : decode b_Bk_writeCell 1 = .ok (.ifCond .lt 12, 3) := by decide +kernel
theorem d_Bk_writeCell_4 : decode b_Bk_writeCell 4 = .ok (.iload_n 1, 1) := by decide +kernel
theorem d_Bk_writeCell_5 : decode b_Bk_writeCell 5 = .ok (.aload_n 0, 1) := by decide +kernel
theorem d_Bk_writeCell_6 : decode b_Bk_writeCell 6 = .ok (.getfield 9, 3) := by decide +kernel
theorem d_Bk_writeCell_9 : decode b_Bk_writeCell 9 = .ok (.arraylength, 1) := by decide +kernel
theorem d_Bk_writeCell_10 : decode b_Bk_writeCell 10 = .ok (.if_icmp .lt 4, 3) := by decide +kernel
theorem d_Bk_writeCell_13 : decode b_Bk_writeCell 13 = .ok (.return_, 1) := by decide +kernel
theorem d_Bk_writeCell_14 : decode b_Bk_writeCell 14 = .ok (.aload_n 0, 1) := by decide +kernel
theorem d_Bk_writeCell_15 : decode b_Bk_writeCell 15 = .ok (.iload_n 1, 1) := by decide +kernel
theorem d_Bk_writeCell_16 : decode b_Bk_writeCell 16 = .ok (.invokevirtual 46, 3) := by decide +kernel
theorem d_Bk_writeCell_19 : decode b_Bk_writeCell 19 = .ok (.sipush 255, 3) := by decide +kernel
theorem d_Bk_writeCell_22 : decode b_Bk_writeCell 22 = .ok (.if_icmp .eq 13, 3) := by decide +kernel
theorem d_Bk_writeCell_25 : decode b_Bk_writeCell 25 = .ok (.aload_n 0, 1) := by decide +kernel
theorem d_Bk_writeCell_26 : decode b_Bk_writeCell 26 = .ok (.dup, 1) := by decide +kernel
theorem d_Bk_writeCell_27 : decode b_Bk_writeCell 27 = .ok (.getfield 19, 3) := by decide +kernel
theorem d_Bk_writeCell_30 : decode b_Bk_writeCell 30 = .ok (.iconst 1, 1) := by decide +kernel
theorem d_Bk_writeCell_31 : decode b_Bk_writeCell 31 = .ok (.iadd, 1) := by decide +kernel
theorem d_Bk_writeCell_32 : decode b_Bk_writeCell 32 = .ok (.putfield 19, 3) := by decide +kernel
theorem d_Bk_writeCell_35 : decode b_Bk_writeCell 35 = .ok (.aload_n 0, 1) := by decide +kernel
theorem d_Bk_writeCell_36 : decode b_Bk_writeCell 36 = .ok (.getfield 9, 3) := by decide +kernel
theorem d_Bk_writeCell_39 : decode b_Bk_writeCell 39 = .ok (.iload_n 1, 1) := by decide +kernel
theorem d_Bk_writeCell_40 : decode b_Bk_writeCell 40 = .ok (.iload_n 2, 1) := by decide +kernel
theorem d_Bk_writeCell_41 : decode b_Bk_writeCell 41 = .ok (.i2b, 1) := by decide +kernel
theorem d_Bk_writeCell_42 : decode b_Bk_writeCell 42 = .ok (.bastore, 1) := by decide +kernel
theorem d_Bk_writeCell_43 : decode b_Bk_writeCell 43 = .ok (.return_, 1) := by decide +kernel
theorem d_Bk_cell_0 : decode b_Bk_cell 0 = .ok (.iload_n 1, 1) := by decide +kernel
theorem d_Bk_cell_1 : decode b_Bk_cell 1 = .ok (.ifCond .lt 25, 3) := by decide +kernel
theorem d_Bk_cell_4 : decode b_Bk_cell 4 = .ok (.iload_n 1, 1) := by decide +kernel
theorem d_Bk_cell_5 : decode b_Bk_cell 5 = .ok (.aload_n 0, 1) := by decide +kernel
theorem d_Bk_cell_6 : decode b_Bk_cell 6 = .ok (.getfield 9, 3) := by decide +kernel
theorem d_Bk_cell_9 : decode b_Bk_cell 9 = .ok (.arraylength, 1) := by decide +kernel
theorem d_Bk_cell_10 : decode b_Bk_cell 10 = .ok (.if_icmp .ge 16, 3) := by decide +kernel
theorem d_Bk_cell_13 : decode b_Bk_cell 13 = .ok (.aload_n 0, 1) := by decide +kernel
theorem d_Bk_cell_14 : decode b_Bk_cell 14 = .ok (.getfield 9, 3) := by decide +kernel
theorem d_Bk_cell_17 : decode b_Bk_cell 17 = .ok (.iload_n 1, 1) := by decide +kernel
theorem d_Bk_cell_18 : decode b_Bk_cell 18 = .ok (.baload, 1) := by decide +kernel
theorem d_Bk_cell_19 : decode b_Bk_cell 19 = .ok (.sipush 255, 3) := by decide +kernel
theorem d_Bk_cell_22 : decode b_Bk_cell 22 = .ok (.iand, 1) := by decide +kernel
theorem d_Bk_cell_23 : decode b_Bk_cell 23 = .ok (.goto 6, 3) := by decide +kernel
theorem d_Bk_cell_26 : decode b_Bk_cell 26 = .ok (.sipush 255, 3) := by decide +kernel
theorem d_Bk_cell_29 : decode b_Bk_cell 29 = .ok (.ireturn, 1) := by decide +kernel
theorem d_Bk_number_0 : decode b_Bk_number 0 = .ok (.iconst 0, 1) := by decide +kernel
theorem d_Bk_number_1 : decode b_Bk_number 1 = .ok (.istore_n 3, 1) := by decide +kernel
theorem d_Bk_number_2 : decode b_Bk_number 2 = .ok (.iconst 0, 1) := by decide +kernel
theorem d_Bk_number_3 : decode b_Bk_number 3 = .ok (.istore 4, 2) := by decide +kernel
theorem d_Bk_number_5 : decode b_Bk_number 5 = .ok (.iload 4, 2) := by decide +kernel
theorem d_Bk_number_7 : decode b_Bk_number 7 = .ok (.iload_n 2, 1) := by decide +kernel
theorem d_Bk_number_8 : decode b_Bk_number 8 = .ok (.if_icmp .ge 23, 3) := by decide +kernel
theorem d_Bk_number_11 : decode b_Bk_number 11 = .ok (.iload_n 3, 1) := by decide +kernel
theorem d_Bk_number_12 : decode b_Bk_number 12 = .ok (.bipush 8, 2) := by decide +kernel
theorem d_Bk_number_14 : decode b_Bk_number 14 = .ok (.ishl, 1) := by decide +kernel
theorem d_Bk_number_15 : decode b_Bk_number 15 = .ok (.aload_n 0, 1) := by decide +kernel
theorem d_Bk_number_16 : decode b_Bk_number 16 = .ok (.iload_n 1, 1) := by decide +kernel
theorem d_Bk_number_17 : decode b_Bk_number 17 = .ok (.iload 4, 2) := by decide +kernel
theorem d_Bk_number_19 : decode b_Bk_number 19 = .ok (.iadd, 1) := by decide +kernel
theorem d_Bk_number_20 : decode b_Bk_number 20 = .ok (.invokevirtual 46, 3) := by decide +kernel
theorem d_Bk_number_23 : decode b_Bk_number 23 = .ok (.ior, 1) := by decide +kernel
theorem d_Bk_number_24 : decode b_Bk_number 24 = .ok (.istore_n 3, 1) := by decide +kernel
theorem d_Bk_number_25 : decode b_Bk_number 25 = .ok (.iinc 4 1, 3) := by decide +kernel
theorem d_Bk_number_28 : decode b_Bk_number 28 = .ok (.goto (-23), 3) := by decide +kernel
theorem d_Bk_number_31 : decode b_Bk_number 31 = .ok (.iload_n 3, 1) := by decide +kernel
theorem d_Bk_number_32 : decode b_Bk_number 32 = .ok (.ireturn, 1) := by decide +kernel
theorem d_Bk_isBegun_0 : decode b_Bk_isBegun 0 = .ok (.aload_n 0, 1) := by decide +kernel
theorem d_Bk_isBegun_1 : decode b_Bk_isBegun 1 = .ok (.iconst 0, 1) := by decide +kernel
theorem d_Bk_isBegun_2 : decode b_Bk_isBegun 2 = .ok (.invokevirtual 46, 3) := by decide +kernel
theorem d_Bk_isBegun_5 : decode b_Bk_isBegun 5 = .ok (.bipush 90, 2) := by decide +kernel
theorem d_Bk_isBegun_7 : decode b_Bk_isBegun 7 = .ok (.if_icmp .ne 17, 3) := by decide +kernel
theorem d_Bk_isBegun_10 : decode b_Bk_isBegun 10 = .ok (.aload_n 0, 1) := by decide +kernel
theorem d_Bk_isBegun_11 : decode b_Bk_isBegun 11 = .ok (.iconst 5, 1) := by decide +kernel
theorem d_Bk_isBegun_12 : decode b_Bk_isBegun 12 = .ok (.invokevirtual 46, 3) := by decide +kernel
theorem d_Bk_isBegun_15 : decode b_Bk_isBegun 15 = .ok (.bipush 90, 2) := by decide +kernel
theorem d_Bk_isBegun_17 : decode b_Bk_isBegun 17 = .ok (.if_icmp .ne 7, 3) := by decide +kernel
theorem d_Bk_isBegun_20 : decode b_Bk_isBegun 20 = .ok (.iconst 1, 1) := by decide +kernel
theorem d_Bk_isBegun_21 : decode b_Bk_isBegun 21 = .ok (.goto 4, 3) := by decide +kernel
theorem d_Bk_isBegun_24 : decode b_Bk_isBegun 24 = .ok (.iconst 0, 1) := by decide +kernel
theorem d_Bk_isBegun_25 : decode b_Bk_isBegun 25 = .ok (.ireturn, 1) := by decide +kernel
theorem d_Bk_hasRoom_0 : decode b_Bk_hasRoom 0 = .ok (.aload_n 0, 1) := by decide +kernel
theorem d_Bk_hasRoom_1 : decode b_Bk_hasRoom 1 = .ok (.getfield 25, 3) := by decide +kernel
theorem d_Bk_hasRoom_4 : decode b_Bk_hasRoom 4 = .ok (.iload_n 1, 1) := by decide +kernel
theorem d_Bk_hasRoom_5 : decode b_Bk_hasRoom 5 = .ok (.iadd, 1) := by decide +kernel
theorem d_Bk_hasRoom_6 : decode b_Bk_hasRoom 6 = .ok (.sipush 2046, 3) := by decide +kernel
theorem d_Bk_hasRoom_9 : decode b_Bk_hasRoom 9 = .ok (.if_icmp .gt 7, 3) := by decide +kernel
theorem d_Bk_hasRoom_12 : decode b_Bk_hasRoom 12 = .ok (.iconst 1, 1) := by decide +kernel
theorem d_Bk_hasRoom_13 : decode b_Bk_hasRoom 13 = .ok (.goto 4, 3) := by decide +kernel
theorem d_Bk_hasRoom_16 : decode b_Bk_hasRoom 16 = .ok (.iconst 0, 1) := by decide +kernel
theorem d_Bk_hasRoom_17 : decode b_Bk_hasRoom 17 = .ok (.ireturn, 1) := by decide +kernel
theorem d_Bk_findRecords_0 : decode b_Bk_findRecords 0 = .ok (.aload_n 0, 1) := by decide +kernel
theorem d_Bk_findRecords_1 : decode b_Bk_findRecords 1 = .ok (.iconst 0, 1) := by decide +kernel
theorem d_Bk_findRecords_2 : decode b_Bk_findRecords 2 = .ok (.putfield 22, 3) := by decide +kernel
theorem d_Bk_findRecords_5 : decode b_Bk_findRecords 5 = .ok (.aload_n 0, 1) := by decide +kernel
theorem d_Bk_findRecords_6 : decode b_Bk_findRecords 6 = .ok (.bipush 6, 2) := by decide +kernel
theorem d_Bk_findRecords_8 : decode b_Bk_findRecords 8 = .ok (.putfield 25, 3) := by decide +kernel
theorem d_Bk_findRecords_11 : decode b_Bk_findRecords 11 = .ok (.iconst 0, 1) := by decide +kernel
theorem d_Bk_findRecords_12 : decode b_Bk_findRecords 12 = .ok (.istore_n 1, 1) := by decide +kernel
theorem d_Bk_findRecords_13 : decode b_Bk_findRecords 13 = .ok (.iload_n 1, 1) := by decide +kernel
theorem d_Bk_findRecords_14 : decode b_Bk_findRecords 14 = .ok (.sipush 226, 3) := by decide +kernel
theorem d_Bk_findRecords_17 : decode b_Bk_findRecords 17 = .ok (.if_icmp .ge 43, 3) := by decide +kernel
theorem d_Bk_findRecords_20 : decode b_Bk_findRecords 20 = .ok (.aload_n 0, 1) := by decide +kernel
theorem d_Bk_findRecords_21 : decode b_Bk_findRecords 21 = .ok (.invokevirtual 49, 3) := by decide +kernel
theorem d_Bk_findRecords_24 : decode b_Bk_findRecords 24 = .ok (.ifCond .eq 36, 3) := by decide +kernel
theorem d_Bk_findRecords_27 : decode b_Bk_findRecords 27 = .ok (.aload_n 0, 1) := by decide +kernel
theorem d_Bk_findRecords_28 : decode b_Bk_findRecords 28 = .ok (.dup, 1) := by decide +kernel
theorem d_Bk_findRecords_29 : decode b_Bk_findRecords 29 = .ok (.getfield 25, 3) := by decide +kernel
theorem d_Bk_findRecords_32 : decode b_Bk_findRecords 32 = .ok (.aload_n 0, 1) := by decide +kernel
theorem d_Bk_findRecords_33 : decode b_Bk_findRecords 33 = .ok (.aload_n 0, 1) := by decide +kernel
theorem d_Bk_findRecords_34 : decode b_Bk_findRecords 34 = .ok (.getfield 25, 3) := by decide +kernel
theorem d_Bk_findRecords_37 : decode b_Bk_findRecords 37 = .ok (.invokevirtual 53, 3) := by decide +kernel
theorem d_Bk_findRecords_40 : decode b_Bk_findRecords 40 = .ok (.iadd, 1) := by decide +kernel
theorem d_Bk_findRecords_41 : decode b_Bk_findRecords 41 = .ok (.putfield 25, 3) := by decide +kernel
theorem d_Bk_findRecords_44 : decode b_Bk_findRecords 44 = .ok (.aload_n 0, 1) := by decide +kernel
theorem d_Bk_findRecords_45 : decode b_Bk_findRecords 45 = .ok (.dup, 1) := by decide +kernel
theorem d_Bk_findRecords_46 : decode b_Bk_findRecords 46 = .ok (.getfield 22, 3) := by decide +kernel
theorem d_Bk_findRecords_49 : decode b_Bk_findRecords 49 = .ok (.iconst 1, 1) := by decide +kernel
theorem d_Bk_findRecords_50 : decode b_Bk_findRecords 50 = .ok (.iadd, 1) := by decide +kernel
theorem d_Bk_findRecords_51 : decode b_Bk_findRecords 51 = .ok (.putfield 22, 3) := by decide +kernel
theorem d_Bk_findRecords_54 : decode b_Bk_findRecords 54 = .ok (.iinc 1 1, 3) := by decide +kernel
theorem d_Bk_findRecords_57 : decode b_Bk_findRecords 57 = .ok (.goto (-44), 3) := by decide +kernel
theorem d_Bk_findRecords_60 : decode b_Bk_findRecords 60 = .ok (.return_, 1) := by decide +kernel
theorem d_Bk_nextIsWhole_0 : decode b_Bk_nextIsWhole 0 = .ok (.aload_n 0, 1) := by decide +kernel
theorem d_Bk_nextIsWhole_1 : decode b_Bk_nextIsWhole 1 = .ok (.aload_n 0, 1) := by decide +kernel
theorem d_Bk_nextIsWhole_2 : decode b_Bk_nextIsWhole 2 = .ok (.getfield 25, 3) := by decide +kernel
theorem d_Bk_nextIsWhole_5 : decode b_Bk_nextIsWhole 5 = .ok (.invokevirtual 53, 3) := by decide +kernel
theorem d_Bk_nextIsWhole_8 : decode b_Bk_nextIsWhole 8 = .ok (.istore_n 1, 1) := by decide +kernel
theorem d_Bk_nextIsWhole_9 : decode b_Bk_nextIsWhole 9 = .ok (.aload_n 0, 1) := by decide +kernel
theorem d_Bk_nextIsWhole_10 : decode b_Bk_nextIsWhole 10 = .ok (.iload_n 1, 1) := by decide +kernel
theorem d_Bk_nextIsWhole_11 : decode b_Bk_nextIsWhole 11 = .ok (.invokevirtual 56, 3) := by decide +kernel
theorem d_Bk_nextIsWhole_14 : decode b_Bk_nextIsWhole 14 = .ok (.ifCond .eq 24, 3) := by decide +kernel
theorem d_Bk_nextIsWhole_17 : decode b_Bk_nextIsWhole 17 = .ok (.aload_n 0, 1) := by decide +kernel
theorem d_Bk_nextIsWhole_18 : decode b_Bk_nextIsWhole 18 = .ok (.aload_n 0, 1) := by decide +kernel
theorem d_Bk_nextIsWhole_19 : decode b_Bk_nextIsWhole 19 = .ok (.getfield 25, 3) := by decide +kernel
theorem d_Bk_nextIsWhole_22 : decode b_Bk_nextIsWhole 22 = .ok (.iload_n 1, 1) := by decide +kernel
theorem d_Bk_nextIsWhole_23 : decode b_Bk_nextIsWhole 23 = .ok (.iadd, 1) := by decide +kernel
theorem d_Bk_nextIsWhole_24 : decode b_Bk_nextIsWhole 24 = .ok (.iconst 1, 1) := by decide +kernel
theorem d_Bk_nextIsWhole_25 : decode b_Bk_nextIsWhole 25 = .ok (.isub, 1) := by decide +kernel
theorem d_Bk_nextIsWhole_26 : decode b_Bk_nextIsWhole 26 = .ok (.invokevirtual 46, 3) := by decide +kernel
theorem d_Bk_nextIsWhole_29 : decode b_Bk_nextIsWhole 29 = .ok (.bipush 90, 2) := by decide +kernel
theorem d_Bk_nextIsWhole_31 : decode b_Bk_nextIsWhole 31 = .ok (.if_icmp .ne 7, 3) := by decide +kernel
theorem d_Bk_nextIsWhole_34 : decode b_Bk_nextIsWhole 34 = .ok (.iconst 1, 1) := by decide +kernel
theorem d_Bk_nextIsWhole_35 : decode b_Bk_nextIsWhole 35 = .ok (.goto 4, 3) := by decide +kernel
theorem d_Bk_nextIsWhole_38 : decode b_Bk_nextIsWhole 38 = .ok (.iconst 0, 1) := by decide +kernel
theorem d_Bk_nextIsWhole_39 : decode b_Bk_nextIsWhole 39 = .ok (.ireturn, 1) := by decide +kernel
theorem d_Bk_sizeOf_0 : decode b_Bk_sizeOf 0 = .ok (.bipush 9, 2) := by decide +kernel
theorem d_Bk_sizeOf_2 : decode b_Bk_sizeOf 2 = .ok (.aload_n 0, 1) := by decide +kernel
theorem d_Bk_sizeOf_3 : decode b_Bk_sizeOf 3 = .ok (.iload_n 1, 1) := by decide +kernel
theorem d_Bk_sizeOf_4 : decode b_Bk_sizeOf 4 = .ok (.iconst 5, 1) := by decide +kernel
theorem d_Bk_sizeOf_5 : decode b_Bk_sizeOf 5 = .ok (.iadd, 1) := by decide +kernel
theorem d_Bk_sizeOf_6 : decode b_Bk_sizeOf 6 = .ok (.iconst 1, 1) := by decide +kernel
theorem d_Bk_sizeOf_7 : decode b_Bk_sizeOf 7 = .ok (.invokevirtual 60, 3) := by decide +kernel
theorem d_Bk_sizeOf_10 : decode b_Bk_sizeOf 10 = .ok (.iadd, 1) := by decide +kernel
theorem d_Bk_sizeOf_11 : decode b_Bk_sizeOf 11 = .ok (.aload_n 0, 1) := by decide +kernel
theorem d_Bk_sizeOf_12 : decode b_Bk_sizeOf 12 = .ok (.iload_n 1, 1) := by decide +kernel
theorem d_Bk_sizeOf_13 : decode b_Bk_sizeOf 13 = .ok (.bipush 6, 2) := by decide +kernel
theorem d_Bk_sizeOf_15 : decode b_Bk_sizeOf 15 = .ok (.iadd, 1) := by decide +kernel
theorem d_Bk_sizeOf_16 : decode b_Bk_sizeOf 16 = .ok (.iconst 2, 1) := by decide +kernel
theorem d_Bk_sizeOf_17 : decode b_Bk_sizeOf 17 = .ok (.invokevirtual 60, 3) := by decide +kernel
theorem d_Bk_sizeOf_20 : decode b_Bk_sizeOf 20 = .ok (.iadd, 1) := by decide +kernel
theorem d_Bk_sizeOf_21 : decode b_Bk_sizeOf 21 = .ok (.ireturn, 1) := by decide +kernel
theorem d_Bk_placeOf_0 : decode b_Bk_placeOf 0 = .ok (.bipush 6, 2) := by decide +kernel
theorem d_Bk_placeOf_2 : decode b_Bk_placeOf 2 = .ok (.istore_n 2, 1) := by decide +kernel
theorem d_Bk_placeOf_3 : decode b_Bk_placeOf 3 = .ok (.iconst 0, 1) := by decide +kernel
theorem d_Bk_placeOf_4 : decode b_Bk_placeOf 4 = .ok (.istore_n 3, 1) := by decide +kernel
theorem d_Bk_placeOf_5 : decode b_Bk_placeOf 5 = .ok (.iload_n 3, 1) := by decide +kernel
theorem d_Bk_placeOf_6 : decode b_Bk_placeOf 6 = .ok (.iload_n 1, 1) := by decide +kernel
theorem d_Bk_placeOf_7 : decode b_Bk_placeOf 7 = .ok (.if_icmp .ge 17, 3) := by decide +kernel
theorem d_Bk_placeOf_10 : decode b_Bk_placeOf 10 = .ok (.iload_n 2, 1) := by decide +kernel
theorem d_Bk_placeOf_11 : decode b_Bk_placeOf 11 = .ok (.aload_n 0, 1) := by decide +kernel
theorem d_Bk_placeOf_12 : decode b_Bk_placeOf 12 = .ok (.iload_n 2, 1) := by decide +kernel
theorem d_Bk_placeOf_13 : decode b_Bk_placeOf 13 = .ok (.invokevirtual 53, 3) := by decide +kernel
theorem d_Bk_placeOf_16 : decode b_Bk_placeOf 16 = .ok (.iadd, 1) := by decide +kernel
theorem d_Bk_placeOf_17 : decode b_Bk_placeOf 17 = .ok (.istore_n 2, 1) := by decide +kernel
theorem d_Bk_placeOf_18 : decode b_Bk_placeOf 18 = .ok (.iinc 3 1, 3) := by decide +kernel
theorem d_Bk_placeOf_21 : decode b_Bk_placeOf 21 = .ok (.goto (-16), 3) := by decide +kernel
theorem d_Bk_placeOf_24 : decode b_Bk_placeOf 24 = .ok (.iload_n 2, 1) := by decide +kernel
theorem d_Bk_placeOf_25 : decode b_Bk_placeOf 25 = .ok (.ireturn, 1) := by decide +kernel
theorem d_By_init_0 : decode b_By_init 0 = .ok (.aload_n 0, 1) := by decide +kernel
theorem d_By_init_1 : decode b_By_init 1 = .ok (.invokespecial 3, 3) := by decide +kernel
theorem d_By_init_4 : decode b_By_init 4 = .ok (.aload_n 0, 1) := by decide +kernel
theorem d_By_init_5 : decode b_By_init 5 = .ok (.iload_n 1, 1) := by decide +kernel
theorem d_By_init_6 : decode b_By_init 6 = .ok (.newarray .byte, 2) := by decide +kernel
theorem d_By_init_8 : decode b_By_init 8 = .ok (.putfield 9, 3) := by decide +kernel
theorem d_By_init_11 : decode b_By_init 11 = .ok (.aload_n 0, 1) := by decide +kernel
theorem d_By_init_12 : decode b_By_init 12 = .ok (.iconst 0, 1) := by decide +kernel
theorem d_By_init_13 : decode b_By_init 13 = .ok (.putfield 15, 3) := by decide +kernel
theorem d_By_init_16 : decode b_By_init 16 = .ok (.return_, 1) := by decide +kernel
theorem d_By_add_0 : decode b_By_add 0 = .ok (.aload_n 0, 1) := by decide +kernel
theorem d_By_add_1 : decode b_By_add 1 = .ok (.getfield 15, 3) := by decide +kernel
theorem d_By_add_4 : decode b_By_add 4 = .ok (.aload_n 0, 1) := by decide +kernel
theorem d_By_add_5 : decode b_By_add 5 = .ok (.getfield 9, 3) := by decide +kernel
theorem d_By_add_8 : decode b_By_add 8 = .ok (.arraylength, 1) := by decide +kernel
theorem d_By_add_9 : decode b_By_add 9 = .ok (.if_icmp .ge 24, 3) := by decide +kernel
theorem d_By_add_12 : decode b_By_add 12 = .ok (.aload_n 0, 1) := by decide +kernel
theorem d_By_add_13 : decode b_By_add 13 = .ok (.getfield 9, 3) := by decide +kernel
theorem d_By_add_16 : decode b_By_add 16 = .ok (.aload_n 0, 1) := by decide +kernel
theorem d_By_add_17 : decode b_By_add 17 = .ok (.getfield 15, 3) := by decide +kernel
theorem d_By_add_20 : decode b_By_add 20 = .ok (.iload_n 1, 1) := by decide +kernel
theorem d_By_add_21 : decode b_By_add 21 = .ok (.i2b, 1) := by decide +kernel
theorem d_By_add_22 : decode b_By_add 22 = .ok (.bastore, 1) := by decide +kernel
theorem d_By_add_23 : decode b_By_add 23 = .ok (.aload_n 0, 1) := by decide +kernel
theorem d_By_add_24 : decode b_By_add 24 = .ok (.dup, 1) := by decide +kernel
theorem d_By_add_25 : decode b_By_add 25 = .ok (.getfield 15, 3) := by decide +kernel
theorem d_By_add_28 : decode b_By_add 28 = .ok (.iconst 1, 1) := by decide +kernel
theorem d_By_add_29 : decode b_By_add 29 = .ok (.iadd, 1) := by decide +kernel
theorem d_By_add_30 : decode b_By_add 30 = .ok (.putfield 15, 3) := by decide +kernel
theorem d_By_add_33 : decode b_By_add 33 = .ok (.return_, 1) := by decide +kernel
theorem d_By_addInt_0 : decode b_By_addInt 0 = .ok (.aload_n 0, 1) := by decide +kernel
theorem d_By_addInt_1 : decode b_By_addInt 1 = .ok (.iload_n 1, 1) := by decide +kernel
theorem d_By_addInt_2 : decode b_By_addInt 2 = .ok (.bipush 24, 2) := by decide +kernel
theorem d_By_addInt_4 : decode b_By_addInt 4 = .ok (.ishr, 1) := by decide +kernel
theorem d_By_addInt_5 : decode b_By_addInt 5 = .ok (.invokevirtual 19, 3) := by decide +kernel
theorem d_By_addInt_8 : decode b_By_addInt 8 = .ok (.aload_n 0, 1) := by decide +kernel
theorem d_By_addInt_9 : decode b_By_addInt 9 = .ok (.iload_n 1, 1) := by decide +kernel
theorem d_By_addInt_10 : decode b_By_addInt 10 = .ok (.bipush 16, 2) := by decide +kernel
theorem d_By_addInt_12 : decode b_By_addInt 12 = .ok (.ishr, 1) := by decide +kernel
theorem d_By_addInt_13 : decode b_By_addInt 13 = .ok (.invokevirtual 19, 3) := by decide +kernel
theorem d_By_addInt_16 : decode b_By_addInt 16 = .ok (.aload_n 0, 1) := by decide +kernel
theorem d_By_addInt_17 : decode b_By_addInt 17 = .ok (.iload_n 1, 1) := by decide +kernel
theorem d_By_addInt_18 : decode b_By_addInt 18 = .ok (.bipush 8, 2) := by decide +kernel
theorem d_By_addInt_20 : decode b_By_addInt 20 = .ok (.ishr, 1) := by decide +kernel
theorem d_By_addInt_21 : decode b_By_addInt 21 = .ok (.invokevirtual 19, 3) := by decide +kernel
theorem d_By_addInt_24 : decode b_By_addInt 24 = .ok (.aload_n 0, 1) := by decide +kernel
theorem d_By_addInt_25 : decode b_By_addInt 25 = .ok (.iload_n 1, 1) := by decide +kernel
theorem d_By_addInt_26 : decode b_By_addInt 26 = .ok (.invokevirtual 19, 3) := by decide +kernel
theorem d_By_addInt_29 : decode b_By_addInt 29 = .ok (.return_, 1) := by decide +kernel
theorem d_By_addAll_0 : decode b_By_addAll 0 = .ok (.iconst 0, 1) := by decide +kernel
theorem d_By_addAll_1 : decode b_By_addAll 1 = .ok (.istore_n 2, 1) := by decide +kernel
theorem d_By_addAll_2 : decode b_By_addAll 2 = .ok (.iload_n 2, 1) := by decide +kernel
theorem d_By_addAll_3 : decode b_By_addAll 3 = .ok (.aload_n 1, 1) := by decide +kernel
theorem d_By_addAll_4 : decode b_By_addAll 4 = .ok (.getfield 15, 3) := by decide +kernel
theorem d_By_addAll_7 : decode b_By_addAll 7 = .ok (.if_icmp .ge 18, 3) := by decide +kernel
theorem d_By_addAll_10 : decode b_By_addAll 10 = .ok (.aload_n 0, 1) := by decide +kernel
theorem d_By_addAll_11 : decode b_By_addAll 11 = .ok (.aload_n 1, 1) := by decide +kernel
theorem d_By_addAll_12 : decode b_By_addAll 12 = .ok (.iload_n 2, 1) := by decide +kernel
theorem d_By_addAll_13 : decode b_By_addAll 13 = .ok (.invokevirtual 23, 3) := by decide +kernel
theorem d_By_addAll_16 : decode b_By_addAll 16 = .ok (.invokevirtual 19, 3) := by decide +kernel
theorem d_By_addAll_19 : decode b_By_addAll 19 = .ok (.iinc 2 1, 3) := by decide +kernel
theorem d_By_addAll_22 : decode b_By_addAll 22 = .ok (.goto (-20), 3) := by decide +kernel
theorem d_By_addAll_25 : decode b_By_addAll 25 = .ok (.return_, 1) := by decide +kernel
theorem d_By_get_0 : decode b_By_get 0 = .ok (.iload_n 1, 1) := by decide +kernel
theorem d_By_get_1 : decode b_By_get 1 = .ok (.ifCond .lt 24, 3) := by decide +kernel
theorem d_By_get_4 : decode b_By_get 4 = .ok (.iload_n 1, 1) := by decide +kernel
theorem d_By_get_5 : decode b_By_get 5 = .ok (.aload_n 0, 1) := by decide +kernel
theorem d_By_get_6 : decode b_By_get 6 = .ok (.getfield 15, 3) := by decide +kernel
theorem d_By_get_9 : decode b_By_get 9 = .ok (.if_icmp .ge 16, 3) := by decide +kernel
theorem d_By_get_12 : decode b_By_get 12 = .ok (.aload_n 0, 1) := by decide +kernel
theorem d_By_get_13 : decode b_By_get 13 = .ok (.getfield 9, 3) := by decide +kernel
theorem d_By_get_16 : decode b_By_get 16 = .ok (.iload_n 1, 1) := by decide +kernel
theorem d_By_get_17 : decode b_By_get 17 = .ok (.baload, 1) := by decide +kernel
theorem d_By_get_18 : decode b_By_get 18 = .ok (.sipush 255, 3) := by decide +kernel
theorem d_By_get_21 : decode b_By_get 21 = .ok (.iand, 1) := by decide +kernel
theorem d_By_get_22 : decode b_By_get 22 = .ok (.goto 4, 3) := by decide +kernel
theorem d_By_get_25 : decode b_By_get 25 = .ok (.iconst 0, 1) := by decide +kernel
theorem d_By_get_26 : decode b_By_get 26 = .ok (.ireturn, 1) := by decide +kernel
theorem d_Cu_init_0 : decode b_Cu_init 0 = .ok (.aload_n 0, 1) := by decide +kernel
theorem d_Cu_init_1 : decode b_Cu_init 1 = .ok (.invokespecial 1, 3) := by decide +kernel
theorem d_Cu_init_4 : decode b_Cu_init 4 = .ok (.aload_n 0, 1) := by decide +kernel
theorem d_Cu_init_5 : decode b_Cu_init 5 = .ok (.iconst 0, 1) := by decide +kernel
theorem d_Cu_init_6 : decode b_Cu_init 6 = .ok (.putfield 7, 3) := by decide +kernel
theorem d_Cu_init_9 : decode b_Cu_init 9 = .ok (.aload_n 0, 1) := by decide +kernel
theorem d_Cu_init_10 : decode b_Cu_init 10 = .ok (.iconst 0, 1) := by decide +kernel
theorem d_Cu_init_11 : decode b_Cu_init 11 = .ok (.putfield 13, 3) := by decide +kernel
theorem d_Cu_init_14 : decode b_Cu_init 14 = .ok (.aload_n 0, 1) := by decide +kernel
theorem d_Cu_init_15 : decode b_Cu_init 15 = .ok (.iconst 0, 1) := by decide +kernel
theorem d_Cu_init_16 : decode b_Cu_init 16 = .ok (.putfield 17, 3) := by decide +kernel
theorem d_Cu_init_19 : decode b_Cu_init 19 = .ok (.return_, 1) := by decide +kernel
theorem d_Cu_set_0 : decode b_Cu_set 0 = .ok (.aload_n 0, 1) := by decide +kernel
theorem d_Cu_set_1 : decode b_Cu_set 1 = .ok (.iconst 1, 1) := by decide +kernel
theorem d_Cu_set_2 : decode b_Cu_set 2 = .ok (.putfield 7, 3) := by decide +kernel
theorem d_Cu_set_5 : decode b_Cu_set 5 = .ok (.aload_n 0, 1) := by decide +kernel
theorem d_Cu_set_6 : decode b_Cu_set 6 = .ok (.iload_n 1, 1) := by decide +kernel
theorem d_Cu_set_7 : decode b_Cu_set 7 = .ok (.putfield 13, 3) := by decide +kernel
theorem d_Cu_set_10 : decode b_Cu_set 10 = .ok (.aload_n 0, 1) := by decide +kernel
theorem d_Cu_set_11 : decode b_Cu_set 11 = .ok (.iload_n 2, 1) := by decide +kernel
theorem d_Cu_set_12 : decode b_Cu_set 12 = .ok (.putfield 17, 3) := by decide +kernel
theorem d_Cu_set_15 : decode b_Cu_set 15 = .ok (.return_, 1) := by decide +kernel
theorem d_Cu_bytesDone_0 : decode b_Cu_bytesDone 0 = .ok (.aload_n 0, 1) := by decide +kernel
theorem d_Cu_bytesDone_1 : decode b_Cu_bytesDone 1 = .ok (.getfield 7, 3) := by decide +kernel
theorem d_Cu_bytesDone_4 : decode b_Cu_bytesDone 4 = .ok (.ifCond .ne 5, 3) := by decide +kernel
theorem d_Cu_bytesDone_7 : decode b_Cu_bytesDone 7 = .ok (.iload_n 1, 1) := by decide +kernel
theorem d_Cu_bytesDone_8 : decode b_Cu_bytesDone 8 = .ok (.ireturn, 1) := by decide +kernel
theorem d_Cu_bytesDone_9 : decode b_Cu_bytesDone 9 = .ok (.aload_n 0, 1) := by decide +kernel
theorem d_Cu_bytesDone_10 : decode b_Cu_bytesDone 10 = .ok (.getfield 13, 3) := by decide +kernel
theorem d_Cu_bytesDone_13 : decode b_Cu_bytesDone 13 = .ok (.ifCond .le 15, 3) := by decide +kernel
theorem d_Cu_bytesDone_16 : decode b_Cu_bytesDone 16 = .ok (.aload_n 0, 1) := by decide +kernel
theorem d_Cu_bytesDone_17 : decode b_Cu_bytesDone 17 = .ok (.dup, 1) := by decide +kernel
theorem d_Cu_bytesDone_18 : decode b_Cu_bytesDone 18 = .ok (.getfield 13, 3) := by decide +kernel
theorem d_Cu_bytesDone_21 : decode b_Cu_bytesDone 21 = .ok (.iconst 1, 1) := by decide +kernel
theorem d_Cu_bytesDone_22 : decode b_Cu_bytesDone 22 = .ok (.isub, 1) := by decide +kernel
theorem d_Cu_bytesDone_23 : decode b_Cu_bytesDone 23 = .ok (.putfield 13, 3) := by decide +kernel
theorem d_Cu_bytesDone_26 : decode b_Cu_bytesDone 26 = .ok (.iload_n 1, 1) := by decide +kernel
theorem d_Cu_bytesDone_27 : decode b_Cu_bytesDone 27 = .ok (.ireturn, 1) := by decide +kernel
theorem d_Cu_bytesDone_28 : decode b_Cu_bytesDone 28 = .ok (.aload_n 0, 1) := by decide +kernel
theorem d_Cu_bytesDone_29 : decode b_Cu_bytesDone 29 = .ok (.iconst 0, 1) := by decide +kernel
theorem d_Cu_bytesDone_30 : decode b_Cu_bytesDone 30 = .ok (.putfield 7, 3) := by decide +kernel
theorem d_Cu_bytesDone_33 : decode b_Cu_bytesDone 33 = .ok (.aload_n 0, 1) := by decide +kernel
theorem d_Cu_bytesDone_34 : decode b_Cu_bytesDone 34 = .ok (.getfield 17, 3) := by decide +kernel
theorem d_Cu_bytesDone_37 : decode b_Cu_bytesDone 37 = .ok (.iload_n 1, 1) := by decide +kernel
theorem d_Cu_bytesDone_38 : decode b_Cu_bytesDone 38 = .ok (.iconst 1, 1) := by decide +kernel
theorem d_Cu_bytesDone_39 : decode b_Cu_bytesDone 39 = .ok (.isub, 1) := by decide +kernel
theorem d_Cu_bytesDone_40 : decode b_Cu_bytesDone 40 = .ok (.invokestatic 20, 3) := by decide +kernel
theorem d_Cu_bytesDone_43 : decode b_Cu_bytesDone 43 = .ok (.ireturn, 1) := by decide +kernel
theorem d_Lg_init_0 : decode b_Lg_init 0 = .ok (.aload_n 0, 1) := by decide +kernel
theorem d_Lg_init_1 : decode b_Lg_init 1 = .ok (.invokespecial 3, 3) := by decide +kernel
theorem d_Lg_init_4 : decode b_Lg_init 4 = .ok (.aload_n 0, 1) := by decide +kernel
theorem d_Lg_init_5 : decode b_Lg_init 5 = .ok (.bipush 24, 2) := by decide +kernel
theorem d_Lg_init_7 : decode b_Lg_init 7 = .ok (.anewarray 9, 3) := by decide +kernel
theorem d_Lg_init_10 : decode b_Lg_init 10 = .ok (.putfield 11, 3) := by decide +kernel
theorem d_Lg_init_13 : decode b_Lg_init 13 = .ok (.iconst 0, 1) := by decide +kernel
theorem d_Lg_init_14 : decode b_Lg_init 14 = .ok (.istore_n 1, 1) := by decide +kernel
theorem d_Lg_init_15 : decode b_Lg_init 15 = .ok (.iload_n 1, 1) := by decide +kernel
theorem d_Lg_init_16 : decode b_Lg_init 16 = .ok (.bipush 24, 2) := by decide +kernel
theorem d_Lg_init_18 : decode b_Lg_init 18 = .ok (.if_icmp .ge 22, 3) := by decide +kernel
theorem d_Lg_init_21 : decode b_Lg_init 21 = .ok (.aload_n 0, 1) := by decide +kernel
theorem d_Lg_init_22 : decode b_Lg_init 22 = .ok (.getfield 11, 3) := by decide +kernel
theorem d_Lg_init_25 : decode b_Lg_init 25 = .ok (.iload_n 1, 1) := by decide +kernel
theorem d_Lg_init_26 : decode b_Lg_init 26 = .ok (.new 9, 3) := by decide +kernel
theorem d_Lg_init_29 : decode b_Lg_init 29 = .ok (.dup, 1) := by decide +kernel
theorem d_Lg_init_30 : decode b_Lg_init 30 = .ok (.invokespecial 17, 3) := by decide +kernel
theorem d_Lg_init_33 : decode b_Lg_init 33 = .ok (.aastore, 1) := by decide +kernel
theorem d_Lg_init_34 : decode b_Lg_init 34 = .ok (.iinc 1 1, 3) := by decide +kernel
theorem d_Lg_init_37 : decode b_Lg_init 37 = .ok (.goto (-22), 3) := by decide +kernel
theorem d_Lg_init_40 : decode b_Lg_init 40 = .ok (.aload_n 0, 1) := by decide +kernel
theorem d_Lg_init_41 : decode b_Lg_init 41 = .ok (.bipush 24, 2) := by decide +kernel
theorem d_Lg_init_43 : decode b_Lg_init 43 = .ok (.newarray .int, 2) := by decide +kernel
theorem d_Lg_init_45 : decode b_Lg_init 45 = .ok (.putfield 18, 3) := by decide +kernel
theorem d_Lg_init_48 : decode b_Lg_init 48 = .ok (.aload_n 0, 1) := by decide +kernel
theorem d_Lg_init_49 : decode b_Lg_init 49 = .ok (.iconst 0, 1) := by decide +kernel
theorem d_Lg_init_50 : decode b_Lg_init 50 = .ok (.putfield 22, 3) := by decide +kernel
theorem d_Lg_init_53 : decode b_Lg_init 53 = .ok (.aload_n 0, 1) := by decide +kernel
theorem d_Lg_init_54 : decode b_Lg_init 54 = .ok (.iconst 0, 1) := by decide +kernel
theorem d_Lg_init_55 : decode b_Lg_init 55 = .ok (.putfield 26, 3) := by decide +kernel
theorem d_Lg_init_58 : decode b_Lg_init 58 = .ok (.aload_n 0, 1) := by decide +kernel
theorem d_Lg_init_59 : decode b_Lg_init 59 = .ok (.iconst 0, 1) := by decide +kernel
theorem d_Lg_init_60 : decode b_Lg_init 60 = .ok (.putfield 30, 3) := by decide +kernel
theorem d_Lg_init_63 : decode b_Lg_init 63 = .ok (.aload_n 0, 1) := by decide +kernel
theorem d_Lg_init_64 : decode b_Lg_init 64 = .ok (.new 33, 3) := by decide +kernel
theorem d_Lg_init_67 : decode b_Lg_init 67 = .ok (.dup, 1) := by decide +kernel
theorem d_Lg_init_68 : decode b_Lg_init 68 = .ok (.invokespecial 35, 3) := by decide +kernel
theorem d_Lg_init_71 : decode b_Lg_init 71 = .ok (.putfield 36, 3) := by decide +kernel
theorem d_Lg_init_74 : decode b_Lg_init 74 = .ok (.aload_n 0, 1) := by decide +kernel
theorem d_Lg_init_75 : decode b_Lg_init 75 = .ok (.new 40, 3) := by decide +kernel
theorem d_Lg_init_78 : decode b_Lg_init 78 = .ok (.dup, 1) := by decide +kernel
theorem d_Lg_init_79 : decode b_Lg_init 79 = .ok (.sipush 1054, 3) := by decide +kernel
theorem d_Lg_init_82 : decode b_Lg_init 82 = .ok (.invokespecial 42, 3) := by decide +kernel
theorem d_Lg_init_85 : decode b_Lg_init 85 = .ok (.putfield 45, 3) := by decide +kernel
theorem d_Lg_init_88 : decode b_Lg_init 88 = .ok (.return_, 1) := by decide +kernel
theorem d_Lg_block_0 : decode b_Lg_block 0 = .ok (.aload_n 0, 1) := by decide +kernel
theorem d_Lg_block_1 : decode b_Lg_block 1 = .ok (.getfield 11, 3) := by decide +kernel
theorem d_Lg_block_4 : decode b_Lg_block 4 = .ok (.aload_n 0, 1) := by decide +kernel
theorem d_Lg_block_5 : decode b_Lg_block 5 = .ok (.getfield 18, 3) := by decide +kernel
theorem d_Lg_block_8 : decode b_Lg_block 8 = .ok (.iload_n 1, 1) := by decide +kernel
theorem d_Lg_block_9 : decode b_Lg_block 9 = .ok (.iaload, 1) := by decide +kernel
theorem d_Lg_block_10 : decode b_Lg_block 10 = .ok (.aaload, 1) := by decide +kernel
theorem d_Lg_block_11 : decode b_Lg_block 11 = .ok (.areturn, 1) := by decide +kernel
theorem d_Lg_hasRoom_0 : decode b_Lg_hasRoom 0 = .ok (.aload_n 0, 1) := by decide +kernel
theorem d_Lg_hasRoom_1 : decode b_Lg_hasRoom 1 = .ok (.getfield 26, 3) := by decide +kernel
theorem d_Lg_hasRoom_4 : decode b_Lg_hasRoom 4 = .ok (.ifCond .eq 31, 3) := by decide +kernel
theorem d_Lg_hasRoom_7 : decode b_Lg_hasRoom 7 = .ok (.aload_n 0, 1) := by decide +kernel
theorem d_Lg_hasRoom_8 : decode b_Lg_hasRoom 8 = .ok (.getfield 22, 3) := by decide +kernel
theorem d_Lg_hasRoom_11 : decode b_Lg_hasRoom 11 = .ok (.ifCond .le 24, 3) := by decide +kernel
theorem d_Lg_hasRoom_14 : decode b_Lg_hasRoom 14 = .ok (.aload_n 0, 1) := by decide +kernel
theorem d_Lg_hasRoom_15 : decode b_Lg_hasRoom 15 = .ok (.aload_n 0, 1) := by decide +kernel
theorem d_Lg_hasRoom_16 : decode b_Lg_hasRoom 16 = .ok (.getfield 22, 3) := by decide +kernel
theorem d_Lg_hasRoom_19 : decode b_Lg_hasRoom 19 = .ok (.iconst 1, 1) := by decide +kernel
theorem d_Lg_hasRoom_20 : decode b_Lg_hasRoom 20 = .ok (.isub, 1) := by decide +kernel
theorem d_Lg_hasRoom_21 : decode b_Lg_hasRoom 21 = .ok (.invokevirtual 49, 3) := by decide +kernel
theorem d_Lg_hasRoom_24 : decode b_Lg_hasRoom 24 = .ok (.iload_n 1, 1) := by decide +kernel
theorem d_Lg_hasRoom_25 : decode b_Lg_hasRoom 25 = .ok (.invokevirtual 53, 3) := by decide +kernel
theorem d_Lg_hasRoom_28 : decode b_Lg_hasRoom 28 = .ok (.ifCond .eq 7, 3) := by decide +kernel
theorem d_Lg_hasRoom_31 : decode b_Lg_hasRoom 31 = .ok (.iconst 1, 1) := by decide +kernel
theorem d_Lg_hasRoom_32 : decode b_Lg_hasRoom 32 = .ok (.goto 4, 3) := by decide +kernel
theorem d_Lg_hasRoom_35 : decode b_Lg_hasRoom 35 = .ok (.iconst 0, 1) := by decide +kernel
theorem d_Lg_hasRoom_36 : decode b_Lg_hasRoom 36 = .ok (.ireturn, 1) := by decide +kernel
theorem d_Lg_recordsOfLast_0 : decode b_Lg_recordsOfLast 0 = .ok (.aload_n 0, 1) := by decide +kernel
theorem d_Lg_recordsOfLast_1 : decode b_Lg_recordsOfLast 1 = .ok (.getfield 22, 3) := by decide +kernel
theorem d_Lg_recordsOfLast_4 : decode b_Lg_recordsOfLast 4 = .ok (.ifCond .le 19, 3) := by decide +kernel
theorem d_Lg_recordsOfLast_7 : decode b_Lg_recordsOfLast 7 = .ok (.aload_n 0, 1) := by decide +kernel
theorem d_Lg_recordsOfLast_8 : decode b_Lg_recordsOfLast 8 = .ok (.aload_n 0, 1) := by decide +kernel
theorem d_Lg_recordsOfLast_9 : decode b_Lg_recordsOfLast 9 = .ok (.getfield 22, 3) := by decide +kernel
theorem d_Lg_recordsOfLast_12 : decode b_Lg_recordsOfLast 12 = .ok (.iconst 1, 1) := by decide +kernel
theorem d_Lg_recordsOfLast_13 : decode b_Lg_recordsOfLast 13 = .ok (.isub, 1) := by decide +kernel
theorem d_Lg_recordsOfLast_14 : decode b_Lg_recordsOfLast 14 = .ok (.invokevirtual 49, 3) := by decide +kernel
theorem d_Lg_recordsOfLast_17 : decode b_Lg_recordsOfLast 17 = .ok (.getfield 57, 3) := by decide +kernel
theorem d_Lg_recordsOfLast_20 : decode b_Lg_recordsOfLast 20 = .ok (.goto 4, 3) := by decide +kernel
theorem d_Lg_recordsOfLast_23 : decode b_Lg_recordsOfLast 23 = .ok (.iconst 0, 1) := by decide +kernel
theorem d_Lg_recordsOfLast_24 : decode b_Lg_recordsOfLast 24 = .ok (.ireturn, 1) := by decide +kernel
theorem d_Lg_records_0 : decode b_Lg_records 0 = .ok (.iconst 0, 1) := by decide +kernel
theorem d_Lg_records_1 : decode b_Lg_records 1 = .ok (.istore_n 1, 1) := by decide +kernel
theorem d_Lg_records_2 : decode b_Lg_records 2 = .ok (.iconst 0, 1) := by decide +kernel
theorem d_Lg_records_3 : decode b_Lg_records 3 = .ok (.istore_n 2, 1) := by decide +kernel
theorem d_Lg_records_4 : decode b_Lg_records 4 = .ok (.iload_n 2, 1) := by decide +kernel
theorem d_Lg_records_5 : decode b_Lg_records 5 = .ok (.aload_n 0, 1) := by decide +kernel
theorem d_Lg_records_6 : decode b_Lg_records 6 = .ok (.getfield 22, 3) := by decide +kernel
theorem d_Lg_records_9 : decode b_Lg_records 9 = .ok (.if_icmp .ge 20, 3) := by decide +kernel
theorem d_Lg_records_12 : decode b_Lg_records 12 = .ok (.iload_n 1, 1) := by decide +kernel
theorem d_Lg_records_13 : decode b_Lg_records 13 = .ok (.aload_n 0, 1) := by decide +kernel
theorem d_Lg_records_14 : decode b_Lg_records 14 = .ok (.iload_n 2, 1) := by decide +kernel
theorem d_Lg_records_15 : decode b_Lg_records 15 = .ok (.invokevirtual 49, 3) := by decide +kernel
theorem d_Lg_records_18 : decode b_Lg_records 18 = .ok (.getfield 57, 3) := by decide +kernel
theorem d_Lg_records_21 : decode b_Lg_records 21 = .ok (.iadd, 1) := by decide +kernel
theorem d_Lg_records_22 : decode b_Lg_records 22 = .ok (.istore_n 1, 1) := by decide +kernel
theorem d_Lg_records_23 : decode b_Lg_records 23 = .ok (.iinc 2 1, 3) := by decide +kernel
theorem d_Lg_records_26 : decode b_Lg_records 26 = .ok (.goto (-22), 3) := by decide +kernel
theorem d_Lg_records_29 : decode b_Lg_records 29 = .ok (.iload_n 1, 1) := by decide +kernel
theorem d_Lg_records_30 : decode b_Lg_records 30 = .ok (.ireturn, 1) := by decide +kernel
theorem d_Lg_overwritten_0 : decode b_Lg_overwritten 0 = .ok (.iconst 0, 1) := by decide +kernel
theorem d_Lg_overwritten_1 : decode b_Lg_overwritten 1 = .ok (.istore_n 1, 1) := by decide +kernel
theorem d_Lg_overwritten_2 : decode b_Lg_overwritten 2 = .ok (.iconst 0, 1) := by decide +kernel
theorem d_Lg_overwritten_3 : decode b_Lg_overwritten 3 = .ok (.istore_n 2, 1) := by decide +kernel
theorem d_Lg_overwritten_4 : decode b_Lg_overwritten 4 = .ok (.iload_n 2, 1) := by decide +kernel
theorem d_Lg_overwritten_5 : decode b_Lg_overwritten 5 = .ok (.bipush 24, 2) := by decide +kernel
theorem d_Lg_overwritten_7 : decode b_Lg_overwritten 7 = .ok (.if_icmp .ge 21, 3) := by decide +kernel
theorem d_Lg_overwritten_10 : decode b_Lg_overwritten 10 = .ok (.iload_n 1, 1) := by decide +kernel
theorem d_Lg_overwritten_11 : decode b_Lg_overwritten 11 = .ok (.aload_n 0, 1) := by decide +kernel
theorem d_Lg_overwritten_12 : decode b_Lg_overwritten 12 = .ok (.getfield 11, 3) := by decide +kernel
theorem d_Lg_overwritten_15 : decode b_Lg_overwritten 15 = .ok (.iload_n 2, 1) := by decide +kernel
theorem d_Lg_overwritten_16 : decode b_Lg_overwritten 16 = .ok (.aaload, 1) := by decide +kernel
theorem d_Lg_overwritten_17 : decode b_Lg_overwritten 17 = .ok (.getfield 60, 3) := by decide +kernel
theorem d_Lg_overwritten_20 : decode b_Lg_overwritten 20 = .ok (.iadd, 1) := by decide +kernel
theorem d_Lg_overwritten_21 : decode b_Lg_overwritten 21 = .ok (.istore_n 1, 1) := by decide +kernel
theorem d_Lg_overwritten_22 : decode b_Lg_overwritten 22 = .ok (.iinc 2 1, 3) := by decide +kernel
theorem d_Lg_overwritten_25 : decode b_Lg_overwritten 25 = .ok (.goto (-21), 3) := by decide +kernel
theorem d_Lg_overwritten_28 : decode b_Lg_overwritten 28 = .ok (.iload_n 1, 1) := by decide +kernel
theorem d_Lg_overwritten_29 : decode b_Lg_overwritten 29 = .ok (.ireturn, 1) := by decide +kernel
theorem d_Lg_takeBlock_0 : decode b_Lg_takeBlock 0 = .ok (.aload_n 0, 1) := by decide +kernel
theorem d_Lg_takeBlock_1 : decode b_Lg_takeBlock 1 = .ok (.invokevirtual 63, 3) := by decide +kernel
theorem d_Lg_takeBlock_4 : decode b_Lg_takeBlock 4 = .ok (.istore_n 1, 1) := by decide +kernel
theorem d_Lg_takeBlock_5 : decode b_Lg_takeBlock 5 = .ok (.iload_n 1, 1) := by decide +kernel
theorem d_Lg_takeBlock_6 : decode b_Lg_takeBlock 6 = .ok (.ifCond .lt 32, 3) := by decide +kernel
theorem d_Lg_takeBlock_9 : decode b_Lg_takeBlock 9 = .ok (.aload_n 0, 1) := by decide +kernel
theorem d_Lg_takeBlock_10 : decode b_Lg_takeBlock 10 = .ok (.getfield 11, 3) := by decide +kernel
theorem d_Lg_takeBlock_13 : decode b_Lg_takeBlock 13 = .ok (.iload_n 1, 1) := by decide +kernel
theorem d_Lg_takeBlock_14 : decode b_Lg_takeBlock 14 = .ok (.aaload, 1) := by decide +kernel
theorem d_Lg_takeBlock_15 : decode b_Lg_takeBlock 15 = .ok (.aload_n 0, 1) := by decide +kernel
theorem d_Lg_takeBlock_16 : decode b_Lg_takeBlock 16 = .ok (.getfield 36, 3) := by decide +kernel
theorem d_Lg_takeBlock_19 : decode b_Lg_takeBlock 19 = .ok (.invokevirtual 67, 3) := by decide +kernel
theorem d_Lg_takeBlock_22 : decode b_Lg_takeBlock 22 = .ok (.ifCond .eq 16, 3) := by decide +kernel
theorem d_Lg_takeBlock_25 : decode b_Lg_takeBlock 25 = .ok (.aload_n 0, 1) := by decide +kernel
theorem d_Lg_takeBlock_26 : decode b_Lg_takeBlock 26 = .ok (.aload_n 0, 1) := by decide +kernel
theorem d_Lg_takeBlock_27 : decode b_Lg_takeBlock 27 = .ok (.getfield 11, 3) := by decide +kernel
theorem d_Lg_takeBlock_30 : decode b_Lg_takeBlock 30 = .ok (.iload_n 1, 1) := by decide +kernel
theorem d_Lg_takeBlock_31 : decode b_Lg_takeBlock 31 = .ok (.aaload, 1) := by decide +kernel
theorem d_Lg_takeBlock_32 : decode b_Lg_takeBlock 32 = .ok (.invokevirtual 71, 3) := by decide +kernel
theorem d_Lg_takeBlock_35 : decode b_Lg_takeBlock 35 = .ok (.ifCond .ne 5, 3) := by decide +kernel
theorem d_Lg_takeBlock_38 : decode b_Lg_takeBlock 38 = .ok (.iconst 0, 1) := by decide +kernel
theorem d_Lg_takeBlock_39 : decode b_Lg_takeBlock 39 = .ok (.ireturn, 1) := by decide +kernel
theorem d_Lg_takeBlock_40 : decode b_Lg_takeBlock 40 = .ok (.aload_n 0, 1) := by decide +kernel
theorem d_Lg_takeBlock_41 : decode b_Lg_takeBlock 41 = .ok (.getfield 11, 3) := by decide +kernel
theorem d_Lg_takeBlock_44 : decode b_Lg_takeBlock 44 = .ok (.iload_n 1, 1) := by decide +kernel
theorem d_Lg_takeBlock_45 : decode b_Lg_takeBlock 45 = .ok (.aaload, 1) := by decide +kernel
theorem d_Lg_takeBlock_46 : decode b_Lg_takeBlock 46 = .ok (.invokevirtual 75, 3) := by decide +kernel
theorem d_Lg_takeBlock_49 : decode b_Lg_takeBlock 49 = .ok (.aload_n 0, 1) := by decide +kernel
theorem d_Lg_takeBlock_50 : decode b_Lg_takeBlock 50 = .ok (.iload_n 1, 1) := by decide +kernel
theorem d_Lg_takeBlock_51 : decode b_Lg_takeBlock 51 = .ok (.invokevirtual 78, 3) := by decide +kernel
theorem d_Lg_takeBlock_54 : decode b_Lg_takeBlock 54 = .ok (.aload_n 0, 1) := by decide +kernel
theorem d_Lg_takeBlock_55 : decode b_Lg_takeBlock 55 = .ok (.iconst 1, 1) := by decide +kernel
theorem d_Lg_takeBlock_56 : decode b_Lg_takeBlock 56 = .ok (.putfield 26, 3) := by decide +kernel
theorem d_Lg_takeBlock_59 : decode b_Lg_takeBlock 59 = .ok (.iconst 1, 1) := by decide +kernel
theorem d_Lg_takeBlock_60 : decode b_Lg_takeBlock 60 = .ok (.ireturn, 1) := by decide +kernel
theorem d_Lg_leastErased_0 : decode b_Lg_leastErased 0 = .ok (.iconst (-1), 1) := by decide +kernel
theorem d_Lg_leastErased_1 : decode b_Lg_leastErased 1 = .ok (.istore_n 1, 1) := by decide +kernel
theorem d_Lg_leastErased_2 : decode b_Lg_leastErased 2 = .ok (.iconst 0, 1) := by decide +kernel
theorem d_Lg_leastErased_3 : decode b_Lg_leastErased 3 = .ok (.istore_n 2, 1) := by decide +kernel
theorem d_Lg_leastErased_4 : decode b_Lg_leastErased 4 = .ok (.iload_n 2, 1) := by decide +kernel
theorem d_Lg_leastErased_5 : decode b_Lg_leastErased 5 = .ok (.bipush 24, 2) := by decide +kernel
theorem d_Lg_leastErased_7 : decode b_Lg_leastErased 7 = .ok (.if_icmp .ge 44, 3) := by decide +kernel
theorem d_Lg_leastErased_10 : decode b_Lg_leastErased 10 = .ok (.aload_n 0, 1) := by decide +kernel
theorem d_Lg_leastErased_11 : decode b_Lg_leastErased 11 = .ok (.iload_n 2, 1) := by decide +kernel
theorem d_Lg_leastErased_12 : decode b_Lg_leastErased 12 = .ok (.invokevirtual 81, 3) := by decide +kernel
theorem d_Lg_leastErased_15 : decode b_Lg_leastErased 15 = .ok (.ifCond .ne 30, 3) := by decide +kernel
theorem d_Lg_leastErased_18 : decode b_Lg_leastErased 18 = .ok (.iload_n 1, 1) := by decide +kernel
theorem d_Lg_leastErased_19 : decode b_Lg_leastErased 19 = .ok (.ifCond .lt 24, 3) := by decide +kernel
theorem d_Lg_leastErased_22 : decode b_Lg_leastErased 22 = .ok (.aload_n 0, 1) := by decide +kernel
theorem d_Lg_leastErased_23 : decode b_Lg_leastErased 23 = .ok (.getfield 11, 3) := by decide +kernel
theorem d_Lg_leastErased_26 : decode b_Lg_leastErased 26 = .ok (.iload_n 2, 1) := by decide +kernel
theorem d_Lg_leastErased_27 : decode b_Lg_leastErased 27 = .ok (.aaload, 1) := by decide +kernel
theorem d_Lg_leastErased_28 : decode b_Lg_leastErased 28 = .ok (.getfield 84, 3) := by decide +kernel
theorem d_Lg_leastErased_31 : decode b_Lg_leastErased 31 = .ok (.aload_n 0, 1) := by decide +kernel
theorem d_Lg_leastErased_32 : decode b_Lg_leastErased 32 = .ok (.getfield 11, 3) := by decide +kernel
theorem d_Lg_leastErased_35 : decode b_Lg_leastErased 35 = .ok (.iload_n 1, 1) := by decide +kernel
theorem d_Lg_leastErased_36 : decode b_Lg_leastErased 36 = .ok (.aaload, 1) := by decide +kernel
theorem d_Lg_leastErased_37 : decode b_Lg_leastErased 37 = .ok (.getfield 84, 3) := by decide +kernel
theorem d_Lg_leastErased_40 : decode b_Lg_leastErased 40 = .ok (.if_icmp .ge 5, 3) := by decide +kernel
theorem d_Lg_leastErased_43 : decode b_Lg_leastErased 43 = .ok (.iload_n 2, 1) := by decide +kernel
theorem d_Lg_leastErased_44 : decode b_Lg_leastErased 44 = .ok (.istore_n 1, 1) := by decide +kernel
theorem d_Lg_leastErased_45 : decode b_Lg_leastErased 45 = .ok (.iinc 2 1, 3) := by decide +kernel
theorem d_Lg_leastErased_48 : decode b_Lg_leastErased 48 = .ok (.goto (-44), 3) := by decide +kernel
theorem d_Lg_leastErased_51 : decode b_Lg_leastErased 51 = .ok (.iload_n 1, 1) := by decide +kernel
theorem d_Lg_leastErased_52 : decode b_Lg_leastErased 52 = .ok (.ireturn, 1) := by decide +kernel
theorem d_Lg_holds_0 : decode b_Lg_holds 0 = .ok (.iconst 0, 1) := by decide +kernel
theorem d_Lg_holds_1 : decode b_Lg_holds 1 = .ok (.istore_n 2, 1) := by decide +kernel
theorem d_Lg_holds_2 : decode b_Lg_holds 2 = .ok (.iload_n 2, 1) := by decide +kernel
theorem d_Lg_holds_3 : decode b_Lg_holds 3 = .ok (.aload_n 0, 1) := by decide +kernel
theorem d_Lg_holds_4 : decode b_Lg_holds 4 = .ok (.getfield 22, 3) := by decide +kernel
theorem d_Lg_holds_7 : decode b_Lg_holds 7 = .ok (.if_icmp .ge 21, 3) := by decide +kernel
theorem d_Lg_holds_10 : decode b_Lg_holds 10 = .ok (.aload_n 0, 1) := by decide +kernel
theorem d_Lg_holds_11 : decode b_Lg_holds 11 = .ok (.getfield 18, 3) := by decide +kernel
theorem d_Lg_holds_14 : decode b_Lg_holds 14 = .ok (.iload_n 2, 1) := by decide +kernel
theorem d_Lg_holds_15 : decode b_Lg_holds 15 = .ok (.iaload, 1) := by decide +kernel
theorem d_Lg_holds_16 : decode b_Lg_holds 16 = .ok (.iload_n 1, 1) := by decide +kernel
theorem d_Lg_holds_17 : decode b_Lg_holds 17 = .ok (.if_icmp .ne 5, 3) := by decide +kernel
theorem d_Lg_holds_20 : decode b_Lg_holds 20 = .ok (.iconst 1, 1) := by decide +kernel
theorem d_Lg_holds_21 : decode b_Lg_holds 21 = .ok (.ireturn, 1) := by decide +kernel
theorem d_Lg_holds_22 : decode b_Lg_holds 22 = .ok (.iinc 2 1, 3) := by decide +kernel
theorem d_Lg_holds_25 : decode b_Lg_holds 25 = .ok (.goto (-23), 3) := by decide +kernel
theorem d_Lg_holds_28 : decode b_Lg_holds 28 = .ok (.iconst 0, 1) := by decide +kernel
theorem d_Lg_holds_29 : decode b_Lg_holds 29 = .ok (.ireturn, 1) := by decide +kernel
theorem d_Lg_writeBeginning_0 : decode b_Lg_writeBeginning 0 = .ok (.aload_n 0, 1) := by decide +kernel
theorem d_Lg_writeBeginning_1 : decode b_Lg_writeBeginning 1 = .ok (.dup, 1) := by decide +kernel
theorem d_Lg_writeBeginning_2 : decode b_Lg_writeBeginning 2 = .ok (.getfield 30, 3) := by decide +kernel
theorem d_Lg_writeBeginning_5 : decode b_Lg_writeBeginning 5 = .ok (.iconst 1, 1) := by decide +kernel
theorem d_Lg_writeBeginning_6 : decode b_Lg_writeBeginning 6 = .ok (.iadd, 1) := by decide +kernel
theorem d_Lg_writeBeginning_7 : decode b_Lg_writeBeginning 7 = .ok (.putfield 30, 3) := by decide +kernel
theorem d_Lg_writeBeginning_10 : decode b_Lg_writeBeginning 10 = .ok (.aload_n 0, 1) := by decide +kernel
theorem d_Lg_writeBeginning_11 : decode b_Lg_writeBeginning 11 = .ok (.getfield 45, 3) := by decide +kernel
theorem d_Lg_writeBeginning_14 : decode b_Lg_writeBeginning 14 = .ok (.iconst 0, 1) := by decide +kernel
theorem d_Lg_writeBeginning_15 : decode b_Lg_writeBeginning 15 = .ok (.putfield 87, 3) := by decide +kernel
theorem d_Lg_writeBeginning_18 : decode b_Lg_writeBeginning 18 = .ok (.aload_n 0, 1) := by decide +kernel
theorem d_Lg_writeBeginning_19 : decode b_Lg_writeBeginning 19 = .ok (.getfield 45, 3) := by decide +kernel
theorem d_Lg_writeBeginning_22 : decode b_Lg_writeBeginning 22 = .ok (.bipush 90, 2) := by decide +kernel
theorem d_Lg_writeBeginning_24 : decode b_Lg_writeBeginning 24 = .ok (.invokevirtual 88, 3) := by decide +kernel
theorem d_Lg_writeBeginning_27 : decode b_Lg_writeBeginning 27 = .ok (.aload_n 0, 1) := by decide +kernel
theorem d_Lg_writeBeginning_28 : decode b_Lg_writeBeginning 28 = .ok (.getfield 45, 3) := by decide +kernel
theorem d_Lg_writeBeginning_31 : decode b_Lg_writeBeginning 31 = .ok (.aload_n 0, 1) := by decide +kernel
theorem d_Lg_writeBeginning_32 : decode b_Lg_writeBeginning 32 = .ok (.getfield 30, 3) := by decide +kernel
theorem d_Lg_writeBeginning_35 : decode b_Lg_writeBeginning 35 = .ok (.invokevirtual 91, 3) := by decide +kernel
theorem d_Lg_writeBeginning_38 : decode b_Lg_writeBeginning 38 = .ok (.aload_n 0, 1) := by decide +kernel
theorem d_Lg_writeBeginning_39 : decode b_Lg_writeBeginning 39 = .ok (.getfield 45, 3) := by decide +kernel
theorem d_Lg_writeBeginning_42 : decode b_Lg_writeBeginning 42 = .ok (.bipush 90, 2) := by decide +kernel
theorem d_Lg_writeBeginning_44 : decode b_Lg_writeBeginning 44 = .ok (.invokevirtual 88, 3) := by decide +kernel
theorem d_Lg_writeBeginning_47 : decode b_Lg_writeBeginning 47 = .ok (.aload_n 1, 1) := by decide +kernel
theorem d_Lg_writeBeginning_48 : decode b_Lg_writeBeginning 48 = .ok (.iconst 0, 1) := by decide +kernel
theorem d_Lg_writeBeginning_49 : decode b_Lg_writeBeginning 49 = .ok (.aload_n 0, 1) := by decide +kernel
theorem d_Lg_writeBeginning_50 : decode b_Lg_writeBeginning 50 = .ok (.getfield 45, 3) := by decide +kernel
theorem d_Lg_writeBeginning_53 : decode b_Lg_writeBeginning 53 = .ok (.aload_n 0, 1) := by decide +kernel
theorem d_Lg_writeBeginning_54 : decode b_Lg_writeBeginning 54 = .ok (.getfield 36, 3) := by decide +kernel
theorem d_Lg_writeBeginning_57 : decode b_Lg_writeBeginning 57 = .ok (.invokevirtual 94, 3) := by decide +kernel
theorem d_Lg_writeBeginning_60 : decode b_Lg_writeBeginning 60 = .ok (.ireturn, 1) := by decide +kernel
theorem d_Lg_writeRecord_0 : decode b_Lg_writeRecord 0 = .ok (.aload_n 0, 1) := by decide +kernel
theorem d_Lg_writeRecord_1 : decode b_Lg_writeRecord 1 = .ok (.bipush 9, 2) := by decide +kernel
theorem d_Lg_writeRecord_3 : decode b_Lg_writeRecord 3 = .ok (.aload 4, 2) := by decide +kernel
theorem d_Lg_writeRecord_5 : decode b_Lg_writeRecord 5 = .ok (.getfield 87, 3) := by decide +kernel
theorem d_Lg_writeRecord_8 : decode b_Lg_writeRecord 8 = .ok (.iadd, 1) := by decide +kernel
theorem d_Lg_writeRecord_9 : decode b_Lg_writeRecord 9 = .ok (.invokevirtual 98, 3) := by decide +kernel
theorem d_Lg_writeRecord_12 : decode b_Lg_writeRecord 12 = .ok (.ifCond .ne 5, 3) := by decide +kernel
theorem d_Lg_writeRecord_15 : decode b_Lg_writeRecord 15 = .ok (.iconst 0, 1) := by decide +kernel
theorem d_Lg_writeRecord_16 : decode b_Lg_writeRecord 16 = .ok (.ireturn, 1) := by decide +kernel
theorem d_Lg_writeRecord_17 : decode b_Lg_writeRecord 17 = .ok (.aload 4, 2) := by decide +kernel
theorem d_Lg_writeRecord_19 : decode b_Lg_writeRecord 19 = .ok (.getfield 87, 3) := by decide +kernel
theorem d_Lg_writeRecord_22 : decode b_Lg_writeRecord 22 = .ok (.iload_n 3, 1) := by decide +kernel
theorem d_Lg_writeRecord_23 : decode b_Lg_writeRecord 23 = .ok (.isub, 1) := by decide +kernel
theorem d_Lg_writeRecord_24 : decode b_Lg_writeRecord 24 = .ok (.istore 5, 2) := by decide +kernel
theorem d_Lg_writeRecord_26 : decode b_Lg_writeRecord 26 = .ok (.aload_n 0, 1) := by decide +kernel
theorem d_Lg_writeRecord_27 : decode b_Lg_writeRecord 27 = .ok (.getfield 45, 3) := by decide +kernel
theorem d_Lg_writeRecord_30 : decode b_Lg_writeRecord 30 = .ok (.iconst 0, 1) := by decide +kernel
theorem d_Lg_writeRecord_31 : decode b_Lg_writeRecord 31 = .ok (.putfield 87, 3) := by decide +kernel
theorem d_Lg_writeRecord_34 : decode b_Lg_writeRecord 34 = .ok (.aload_n 0, 1) := by decide +kernel
theorem d_Lg_writeRecord_35 : decode b_Lg_writeRecord 35 = .ok (.getfield 45, 3) := by decide +kernel
theorem d_Lg_writeRecord_38 : decode b_Lg_writeRecord 38 = .ok (.iload_n 1, 1) := by decide +kernel
theorem d_Lg_writeRecord_39 : decode b_Lg_writeRecord 39 = .ok (.invokevirtual 88, 3) := by decide +kernel
theorem d_Lg_writeRecord_42 : decode b_Lg_writeRecord 42 = .ok (.aload_n 0, 1) := by decide +kernel
theorem d_Lg_writeRecord_43 : decode b_Lg_writeRecord 43 = .ok (.getfield 45, 3) := by decide +kernel
theorem d_Lg_writeRecord_46 : decode b_Lg_writeRecord 46 = .ok (.iload_n 2, 1) := by decide +kernel
theorem d_Lg_writeRecord_47 : decode b_Lg_writeRecord 47 = .ok (.invokevirtual 91, 3) := by decide +kernel
theorem d_Lg_writeRecord_50 : decode b_Lg_writeRecord 50 = .ok (.aload_n 0, 1) := by decide +kernel
theorem d_Lg_writeRecord_51 : decode b_Lg_writeRecord 51 = .ok (.getfield 45, 3) := by decide +kernel
theorem d_Lg_writeRecord_54 : decode b_Lg_writeRecord 54 = .ok (.iload_n 3, 1) := by decide +kernel
theorem d_Lg_writeRecord_55 : decode b_Lg_writeRecord 55 = .ok (.invokevirtual 88, 3) := by decide +kernel
theorem d_Lg_writeRecord_58 : decode b_Lg_writeRecord 58 = .ok (.aload_n 0, 1) := by decide +kernel
theorem d_Lg_writeRecord_59 : decode b_Lg_writeRecord 59 = .ok (.getfield 45, 3) := by decide +kernel
theorem d_Lg_writeRecord_62 : decode b_Lg_writeRecord 62 = .ok (.iload 5, 2) := by decide +kernel
theorem d_Lg_writeRecord_64 : decode b_Lg_writeRecord 64 = .ok (.bipush 8, 2) := by decide +kernel
theorem d_Lg_writeRecord_66 : decode b_Lg_writeRecord 66 = .ok (.ishr, 1) := by decide +kernel
theorem d_Lg_writeRecord_67 : decode b_Lg_writeRecord 67 = .ok (.invokevirtual 88, 3) := by decide +kernel
theorem d_Lg_writeRecord_70 : decode b_Lg_writeRecord 70 = .ok (.aload_n 0, 1) := by decide +kernel
theorem d_Lg_writeRecord_71 : decode b_Lg_writeRecord 71 = .ok (.getfield 45, 3) := by decide +kernel
theorem d_Lg_writeRecord_74 : decode b_Lg_writeRecord 74 = .ok (.iload 5, 2) := by decide +kernel
theorem d_Lg_writeRecord_76 : decode b_Lg_writeRecord 76 = .ok (.invokevirtual 88, 3) := by decide +kernel
theorem d_Lg_writeRecord_79 : decode b_Lg_writeRecord 79 = .ok (.aload_n 0, 1) := by decide +kernel
theorem d_Lg_writeRecord_80 : decode b_Lg_writeRecord 80 = .ok (.getfield 45, 3) := by decide +kernel
theorem d_Lg_writeRecord_83 : decode b_Lg_writeRecord 83 = .ok (.aload 4, 2) := by decide +kernel
theorem d_Lg_writeRecord_85 : decode b_Lg_writeRecord 85 = .ok (.invokevirtual 99, 3) := by decide +kernel
theorem d_Lg_writeRecord_88 : decode b_Lg_writeRecord 88 = .ok (.aload_n 0, 1) := by decide +kernel
theorem d_Lg_writeRecord_89 : decode b_Lg_writeRecord 89 = .ok (.getfield 45, 3) := by decide +kernel
theorem d_Lg_writeRecord_92 : decode b_Lg_writeRecord 92 = .ok (.bipush 90, 2) := by decide +kernel
theorem d_Lg_writeRecord_94 : decode b_Lg_writeRecord 94 = .ok (.invokevirtual 88, 3) := by decide +kernel
theorem d_Lg_writeRecord_97 : decode b_Lg_writeRecord 97 = .ok (.aload_n 0, 1) := by decide +kernel
theorem d_Lg_writeRecord_98 : decode b_Lg_writeRecord 98 = .ok (.aload_n 0, 1) := by decide +kernel
theorem d_Lg_writeRecord_99 : decode b_Lg_writeRecord 99 = .ok (.getfield 22, 3) := by decide +kernel
theorem d_Lg_writeRecord_102 : decode b_Lg_writeRecord 102 = .ok (.iconst 1, 1) := by decide +kernel
theorem d_Lg_writeRecord_103 : decode b_Lg_writeRecord 103 = .ok (.isub, 1) := by decide +kernel
theorem d_Lg_writeRecord_104 : decode b_Lg_writeRecord 104 = .ok (.invokevirtual 49, 3) := by decide +kernel
theorem d_Lg_writeRecord_107 : decode b_Lg_writeRecord 107 = .ok (.astore 6, 2) := by decide +kernel
theorem d_Lg_writeRecord_109 : decode b_Lg_writeRecord 109 = .ok (.aload 6, 2) := by decide +kernel
theorem d_Lg_writeRecord_111 : decode b_Lg_writeRecord 111 = .ok (.aload 6, 2) := by decide +kernel
theorem d_Lg_writeRecord_113 : decode b_Lg_writeRecord 113 = .ok (.getfield 103, 3) := by decide +kernel
theorem d_Lg_writeRecord_116 : decode b_Lg_writeRecord 116 = .ok (.aload_n 0, 1) := by decide +kernel
theorem d_Lg_writeRecord_117 : decode b_Lg_writeRecord 117 = .ok (.getfield 45, 3) := by decide +kernel
theorem d_Lg_writeRecord_120 : decode b_Lg_writeRecord 120 = .ok (.aload_n 0, 1) := by decide +kernel
theorem d_Lg_writeRecord_121 : decode b_Lg_writeRecord 121 = .ok (.getfield 36, 3) := by decide +kernel
theorem d_Lg_writeRecord_124 : decode b_Lg_writeRecord 124 = .ok (.invokevirtual 94, 3) := by decide +kernel
theorem d_Lg_writeRecord_127 : decode b_Lg_writeRecord 127 = .ok (.ifCond .ne 5, 3) := by decide +kernel
theorem d_Lg_writeRecord_130 : decode b_Lg_writeRecord 130 = .ok (.iconst 0, 1) := by decide +kernel
theorem d_Lg_writeRecord_131 : decode b_Lg_writeRecord 131 = .ok (.ireturn, 1) := by decide +kernel
theorem d_Lg_writeRecord_132 : decode b_Lg_writeRecord 132 = .ok (.aload 6, 2) := by decide +kernel
theorem d_Lg_writeRecord_134 : decode b_Lg_writeRecord 134 = .ok (.dup, 1) := by decide +kernel
theorem d_Lg_writeRecord_135 : decode b_Lg_writeRecord 135 = .ok (.getfield 103, 3) := by decide +kernel
theorem d_Lg_writeRecord_138 : decode b_Lg_writeRecord 138 = .ok (.aload_n 0, 1) := by decide +kernel
theorem d_Lg_writeRecord_139 : decode b_Lg_writeRecord 139 = .ok (.getfield 45, 3) := by decide +kernel
theorem d_Lg_writeRecord_142 : decode b_Lg_writeRecord 142 = .ok (.getfield 87, 3) := by decide +kernel
theorem d_Lg_writeRecord_145 : decode b_Lg_writeRecord 145 = .ok (.iadd, 1) := by decide +kernel
theorem d_Lg_writeRecord_146 : decode b_Lg_writeRecord 146 = .ok (.putfield 103, 3) := by decide +kernel
theorem d_Lg_writeRecord_149 : decode b_Lg_writeRecord 149 = .ok (.aload 6, 2) := by decide +kernel
theorem d_Lg_writeRecord_151 : decode b_Lg_writeRecord 151 = .ok (.dup, 1) := by decide +kernel
theorem d_Lg_writeRecord_152 : decode b_Lg_writeRecord 152 = .ok (.getfield 57, 3) := by decide +kernel
theorem d_Lg_writeRecord_155 : decode b_Lg_writeRecord 155 = .ok (.iconst 1, 1) := by decide +kernel
theorem d_Lg_writeRecord_156 : decode b_Lg_writeRecord 156 = .ok (.iadd, 1) := by decide +kernel
theorem d_Lg_writeRecord_157 : decode b_Lg_writeRecord 157 = .ok (.putfield 57, 3) := by decide +kernel
theorem d_Lg_writeRecord_160 : decode b_Lg_writeRecord 160 = .ok (.iconst 1, 1) := by decide +kernel
theorem d_Lg_writeRecord_161 : decode b_Lg_writeRecord 161 = .ok (.ireturn, 1) := by decide +kernel
theorem d_Lg_drop_0 : decode b_Lg_drop 0 = .ok (.aload_n 0, 1) := by decide +kernel
theorem d_Lg_drop_1 : decode b_Lg_drop 1 = .ok (.dup, 1) := by decide +kernel
theorem d_Lg_drop_2 : decode b_Lg_drop 2 = .ok (.getfield 22, 3) := by decide +kernel
theorem d_Lg_drop_5 : decode b_Lg_drop 5 = .ok (.iconst 1, 1) := by decide +kernel
theorem d_Lg_drop_6 : decode b_Lg_drop 6 = .ok (.isub, 1) := by decide +kernel
theorem d_Lg_drop_7 : decode b_Lg_drop 7 = .ok (.putfield 22, 3) := by decide +kernel
theorem d_Lg_drop_10 : decode b_Lg_drop 10 = .ok (.iload_n 1, 1) := by decide +kernel
theorem d_Lg_drop_11 : decode b_Lg_drop 11 = .ok (.istore_n 2, 1) := by decide +kernel
theorem d_Lg_drop_12 : decode b_Lg_drop 12 = .ok (.iload_n 2, 1) := by decide +kernel
theorem d_Lg_drop_13 : decode b_Lg_drop 13 = .ok (.aload_n 0, 1) := by decide +kernel
theorem d_Lg_drop_14 : decode b_Lg_drop 14 = .ok (.getfield 22, 3) := by decide +kernel
theorem d_Lg_drop_17 : decode b_Lg_drop 17 = .ok (.if_icmp .ge 23, 3) := by decide +kernel
theorem d_Lg_drop_20 : decode b_Lg_drop 20 = .ok (.aload_n 0, 1) := by decide +kernel
theorem d_Lg_drop_21 : decode b_Lg_drop 21 = .ok (.getfield 18, 3) := by decide +kernel
theorem d_Lg_drop_24 : decode b_Lg_drop 24 = .ok (.iload_n 2, 1) := by decide +kernel
theorem d_Lg_drop_25 : decode b_Lg_drop 25 = .ok (.aload_n 0, 1) := by decide +kernel
theorem d_Lg_drop_26 : decode b_Lg_drop 26 = .ok (.getfield 18, 3) := by decide +kernel
theorem d_Lg_drop_29 : decode b_Lg_drop 29 = .ok (.iload_n 2, 1) := by decide +kernel
theorem d_Lg_drop_30 : decode b_Lg_drop 30 = .ok (.iconst 1, 1) := by decide +kernel
theorem d_Lg_drop_31 : decode b_Lg_drop 31 = .ok (.iadd, 1) := by decide +kernel
theorem d_Lg_drop_32 : decode b_Lg_drop 32 = .ok (.iaload, 1) := by decide +kernel
theorem d_Lg_drop_33 : decode b_Lg_drop 33 = .ok (.iastore, 1) := by decide +kernel
theorem d_Lg_drop_34 : decode b_Lg_drop 34 = .ok (.iinc 2 1, 3) := by decide +kernel
theorem d_Lg_drop_37 : decode b_Lg_drop 37 = .ok (.goto (-25), 3) := by decide +kernel
theorem d_Lg_drop_40 : decode b_Lg_drop 40 = .ok (.iload_n 1, 1) := by decide +kernel
theorem d_Lg_drop_41 : decode b_Lg_drop 41 = .ok (.aload_n 0, 1) := by decide +kernel
theorem d_Lg_drop_42 : decode b_Lg_drop 42 = .ok (.getfield 22, 3) := by decide +kernel
theorem d_Lg_drop_45 : decode b_Lg_drop 45 = .ok (.if_icmp .ne 8, 3) := by decide +kernel
theorem d_Lg_drop_48 : decode b_Lg_drop 48 = .ok (.aload_n 0, 1) := by decide +kernel
theorem d_Lg_drop_49 : decode b_Lg_drop 49 = .ok (.iconst 0, 1) := by decide +kernel
theorem d_Lg_drop_50 : decode b_Lg_drop 50 = .ok (.putfield 26, 3) := by decide +kernel
theorem d_Lg_drop_53 : decode b_Lg_drop 53 = .ok (.return_, 1) := by decide +kernel
theorem d_Lg_findOnChip_0 : decode b_Lg_findOnChip 0 = .ok (.aload_n 0, 1) := by decide +kernel
theorem d_Lg_findOnChip_1 : decode b_Lg_findOnChip 1 = .ok (.iconst 0, 1) := by decide +kernel
theorem d_Lg_findOnChip_2 : decode b_Lg_findOnChip 2 = .ok (.putfield 22, 3) := by decide +kernel
theorem d_Lg_findOnChip_5 : decode b_Lg_findOnChip 5 = .ok (.aload_n 0, 1) := by decide +kernel
theorem d_Lg_findOnChip_6 : decode b_Lg_findOnChip 6 = .ok (.iconst 0, 1) := by decide +kernel
theorem d_Lg_findOnChip_7 : decode b_Lg_findOnChip 7 = .ok (.putfield 26, 3) := by decide +kernel
theorem d_Lg_findOnChip_10 : decode b_Lg_findOnChip 10 = .ok (.iconst 0, 1) := by decide +kernel
theorem d_Lg_findOnChip_11 : decode b_Lg_findOnChip 11 = .ok (.istore_n 1, 1) := by decide +kernel
theorem d_Lg_findOnChip_12 : decode b_Lg_findOnChip 12 = .ok (.iload_n 1, 1) := by decide +kernel
theorem d_Lg_findOnChip_13 : decode b_Lg_findOnChip 13 = .ok (.bipush 24, 2) := by decide +kernel
theorem d_Lg_findOnChip_15 : decode b_Lg_findOnChip 15 = .ok (.if_icmp .ge 35, 3) := by decide +kernel
theorem d_Lg_findOnChip_18 : decode b_Lg_findOnChip 18 = .ok (.aload_n 0, 1) := by decide +kernel
theorem d_Lg_findOnChip_19 : decode b_Lg_findOnChip 19 = .ok (.getfield 11, 3) := by decide +kernel
theorem d_Lg_findOnChip_22 : decode b_Lg_findOnChip 22 = .ok (.iload_n 1, 1) := by decide +kernel
theorem d_Lg_findOnChip_23 : decode b_Lg_findOnChip 23 = .ok (.aaload, 1) := by decide +kernel
theorem d_Lg_findOnChip_24 : decode b_Lg_findOnChip 24 = .ok (.invokevirtual 106, 3) := by decide +kernel
theorem d_Lg_findOnChip_27 : decode b_Lg_findOnChip 27 = .ok (.ifCond .eq 17, 3) := by decide +kernel
theorem d_Lg_findOnChip_30 : decode b_Lg_findOnChip 30 = .ok (.aload_n 0, 1) := by decide +kernel
theorem d_Lg_findOnChip_31 : decode b_Lg_findOnChip 31 = .ok (.getfield 11, 3) := by decide +kernel
theorem d_Lg_findOnChip_34 : decode b_Lg_findOnChip 34 = .ok (.iload_n 1, 1) := by decide +kernel
theorem d_Lg_findOnChip_35 : decode b_Lg_findOnChip 35 = .ok (.aaload, 1) := by decide +kernel
theorem d_Lg_findOnChip_36 : decode b_Lg_findOnChip 36 = .ok (.invokevirtual 75, 3) := by decide +kernel
theorem d_Lg_findOnChip_39 : decode b_Lg_findOnChip 39 = .ok (.aload_n 0, 1) := by decide +kernel
theorem d_Lg_findOnChip_40 : decode b_Lg_findOnChip 40 = .ok (.iload_n 1, 1) := by decide +kernel
theorem d_Lg_findOnChip_41 : decode b_Lg_findOnChip 41 = .ok (.invokevirtual 78, 3) := by decide +kernel
theorem d_Lg_findOnChip_44 : decode b_Lg_findOnChip 44 = .ok (.iinc 1 1, 3) := by decide +kernel
theorem d_Lg_findOnChip_47 : decode b_Lg_findOnChip 47 = .ok (.goto (-35), 3) := by decide +kernel
theorem d_Lg_findOnChip_50 : decode b_Lg_findOnChip 50 = .ok (.return_, 1) := by decide +kernel
theorem d_Lg_enter_0 : decode b_Lg_enter 0 = .ok (.aload_n 0, 1) := by decide +kernel
theorem d_Lg_enter_1 : decode b_Lg_enter 1 = .ok (.getfield 11, 3) := by decide +kernel
theorem d_Lg_enter_4 : decode b_Lg_enter 4 = .ok (.iload_n 1, 1) := by decide +kernel
theorem d_Lg_enter_5 : decode b_Lg_enter 5 = .ok (.aaload, 1) := by decide +kernel
theorem d_Lg_enter_6 : decode b_Lg_enter 6 = .ok (.iconst 1, 1) := by decide +kernel
theorem d_Lg_enter_7 : decode b_Lg_enter 7 = .ok (.iconst 4, 1) := by decide +kernel
theorem d_Lg_enter_8 : decode b_Lg_enter 8 = .ok (.invokevirtual 110, 3) := by decide +kernel
theorem d_Lg_enter_11 : decode b_Lg_enter 11 = .ok (.istore_n 2, 1) := by decide +kernel
theorem d_Lg_enter_12 : decode b_Lg_enter 12 = .ok (.aload_n 0, 1) := by decide +kernel
theorem d_Lg_enter_13 : decode b_Lg_enter 13 = .ok (.getfield 22, 3) := by decide +kernel
theorem d_Lg_enter_16 : decode b_Lg_enter 16 = .ok (.istore_n 3, 1) := by decide +kernel
theorem d_Lg_enter_17 : decode b_Lg_enter 17 = .ok (.iload_n 3, 1) := by decide +kernel
theorem d_Lg_enter_18 : decode b_Lg_enter 18 = .ok (.ifCond .le 39, 3) := by decide +kernel
theorem d_Lg_enter_21 : decode b_Lg_enter 21 = .ok (.aload_n 0, 1) := by decide +kernel
theorem d_Lg_enter_22 : decode b_Lg_enter 22 = .ok (.iload_n 3, 1) := by decide +kernel
theorem d_Lg_enter_23 : decode b_Lg_enter 23 = .ok (.iconst 1, 1) := by decide +kernel
theorem d_Lg_enter_24 : decode b_Lg_enter 24 = .ok (.isub, 1) := by decide +kernel
theorem d_Lg_enter_25 : decode b_Lg_enter 25 = .ok (.invokevirtual 49, 3) := by decide +kernel
theorem d_Lg_enter_28 : decode b_Lg_enter 28 = .ok (.iconst 1, 1) := by decide +kernel
theorem d_Lg_enter_29 : decode b_Lg_enter 29 = .ok (.iconst 4, 1) := by decide +kernel
theorem d_Lg_enter_30 : decode b_Lg_enter 30 = .ok (.invokevirtual 110, 3) := by decide +kernel
theorem d_Lg_enter_33 : decode b_Lg_enter 33 = .ok (.iload_n 2, 1) := by decide +kernel
theorem d_Lg_enter_34 : decode b_Lg_enter 34 = .ok (.if_icmp .le 23, 3) := by decide +kernel
theorem d_Lg_enter_37 : decode b_Lg_enter 37 = .ok (.aload_n 0, 1) := by decide +kernel
theorem d_Lg_enter_38 : decode b_Lg_enter 38 = .ok (.getfield 18, 3) := by decide +kernel
theorem d_Lg_enter_41 : decode b_Lg_enter 41 = .ok (.iload_n 3, 1) := by decide +kernel
theorem d_Lg_enter_42 : decode b_Lg_enter 42 = .ok (.aload_n 0, 1) := by decide +kernel
theorem d_Lg_enter_43 : decode b_Lg_enter 43 = .ok (.getfield 18, 3) := by decide +kernel
theorem d_Lg_enter_46 : decode b_Lg_enter 46 = .ok (.iload_n 3, 1) := by decide +kernel
theorem d_Lg_enter_47 : decode b_Lg_enter 47 = .ok (.iconst 1, 1) := by decide +kernel
theorem d_Lg_enter_48 : decode b_Lg_enter 48 = .ok (.isub, 1) := by decide +kernel
theorem d_Lg_enter_49 : decode b_Lg_enter 49 = .ok (.iaload, 1) := by decide +kernel
theorem d_Lg_enter_50 : decode b_Lg_enter 50 = .ok (.iastore, 1) := by decide +kernel
theorem d_Lg_enter_51 : decode b_Lg_enter 51 = .ok (.iinc 3 (-1), 3) := by decide +kernel
theorem d_Lg_enter_54 : decode b_Lg_enter 54 = .ok (.goto (-37), 3) := by decide +kernel
theorem d_Lg_enter_57 : decode b_Lg_enter 57 = .ok (.aload_n 0, 1) := by decide +kernel
theorem d_Lg_enter_58 : decode b_Lg_enter 58 = .ok (.getfield 18, 3) := by decide +kernel
theorem d_Lg_enter_61 : decode b_Lg_enter 61 = .ok (.iload_n 3, 1) := by decide +kernel
theorem d_Lg_enter_62 : decode b_Lg_enter 62 = .ok (.iload_n 1, 1) := by decide +kernel
theorem d_Lg_enter_63 : decode b_Lg_enter 63 = .ok (.iastore, 1) := by decide +kernel
theorem d_Lg_enter_64 : decode b_Lg_enter 64 = .ok (.aload_n 0, 1) := by decide +kernel
theorem d_Lg_enter_65 : decode b_Lg_enter 65 = .ok (.dup, 1) := by decide +kernel
theorem d_Lg_enter_66 : decode b_Lg_enter 66 = .ok (.getfield 22, 3) := by decide +kernel
theorem d_Lg_enter_69 : decode b_Lg_enter 69 = .ok (.iconst 1, 1) := by decide +kernel
theorem d_Lg_enter_70 : decode b_Lg_enter 70 = .ok (.iadd, 1) := by decide +kernel
theorem d_Lg_enter_71 : decode b_Lg_enter 71 = .ok (.putfield 22, 3) := by decide +kernel
theorem d_Lg_enter_74 : decode b_Lg_enter 74 = .ok (.return_, 1) := by decide +kernel
theorem d_Lg_find_0 : decode b_Lg_find 0 = .ok (.iload_n 1, 1) := by decide +kernel
theorem d_Lg_find_1 : decode b_Lg_find 1 = .ok (.ifCond .ge 5, 3) := by decide +kernel
theorem d_Lg_find_4 : decode b_Lg_find 4 = .ok (.iconst (-1), 1) := by decide +kernel
theorem d_Lg_find_5 : decode b_Lg_find 5 = .ok (.ireturn, 1) := by decide +kernel
theorem d_Lg_find_6 : decode b_Lg_find 6 = .ok (.iload_n 1, 1) := by decide +kernel
theorem d_Lg_find_7 : decode b_Lg_find 7 = .ok (.istore_n 2, 1) := by decide +kernel
theorem d_Lg_find_8 : decode b_Lg_find 8 = .ok (.iconst 0, 1) := by decide +kernel
theorem d_Lg_find_9 : decode b_Lg_find 9 = .ok (.istore_n 3, 1) := by decide +kernel
theorem d_Lg_find_10 : decode b_Lg_find 10 = .ok (.iload_n 3, 1) := by decide +kernel
theorem d_Lg_find_11 : decode b_Lg_find 11 = .ok (.aload_n 0, 1) := by decide +kernel
theorem d_Lg_find_12 : decode b_Lg_find 12 = .ok (.getfield 22, 3) := by decide +kernel
theorem d_Lg_find_15 : decode b_Lg_find 15 = .ok (.if_icmp .ge 46, 3) := by decide +kernel
theorem d_Lg_find_18 : decode b_Lg_find 18 = .ok (.aload_n 0, 1) := by decide +kernel
theorem d_Lg_find_19 : decode b_Lg_find 19 = .ok (.iload_n 3, 1) := by decide +kernel
theorem d_Lg_find_20 : decode b_Lg_find 20 = .ok (.invokevirtual 49, 3) := by decide +kernel
theorem d_Lg_find_23 : decode b_Lg_find 23 = .ok (.astore 4, 2) := by decide +kernel
theorem d_Lg_find_25 : decode b_Lg_find 25 = .ok (.iload_n 2, 1) := by decide +kernel
theorem d_Lg_find_26 : decode b_Lg_find 26 = .ok (.aload 4, 2) := by decide +kernel
theorem d_Lg_find_28 : decode b_Lg_find 28 = .ok (.getfield 57, 3) := by decide +kernel
theorem d_Lg_find_31 : decode b_Lg_find 31 = .ok (.if_icmp .ge 16, 3) := by decide +kernel
theorem d_Lg_find_34 : decode b_Lg_find 34 = .ok (.iload_n 3, 1) := by decide +kernel
theorem d_Lg_find_35 : decode b_Lg_find 35 = .ok (.sipush 2048, 3) := by decide +kernel
theorem d_Lg_find_38 : decode b_Lg_find 38 = .ok (.imul, 1) := by decide +kernel
theorem d_Lg_find_39 : decode b_Lg_find 39 = .ok (.aload 4, 2) := by decide +kernel
theorem d_Lg_find_41 : decode b_Lg_find 41 = .ok (.iload_n 2, 1) := by decide +kernel
theorem d_Lg_find_42 : decode b_Lg_find 42 = .ok (.invokevirtual 114, 3) := by decide +kernel
theorem d_Lg_find_45 : decode b_Lg_find 45 = .ok (.iadd, 1) := by decide +kernel
theorem d_Lg_find_46 : decode b_Lg_find 46 = .ok (.ireturn, 1) := by decide +kernel
theorem d_Lg_find_47 : decode b_Lg_find 47 = .ok (.iload_n 2, 1) := by decide +kernel
theorem d_Lg_find_48 : decode b_Lg_find 48 = .ok (.aload 4, 2) := by decide +kernel
theorem d_Lg_find_50 : decode b_Lg_find 50 = .ok (.getfield 57, 3) := by decide +kernel
theorem d_Lg_find_53 : decode b_Lg_find 53 = .ok (.isub, 1) := by decide +kernel
theorem d_Lg_find_54 : decode b_Lg_find 54 = .ok (.istore_n 2, 1) := by decide +kernel
theorem d_Lg_find_55 : decode b_Lg_find 55 = .ok (.iinc 3 1, 3) := by decide +kernel
theorem d_Lg_find_58 : decode b_Lg_find 58 = .ok (.goto (-48), 3) := by decide +kernel
theorem d_Lg_find_61 : decode b_Lg_find 61 = .ok (.iconst (-1), 1) := by decide +kernel
theorem d_Lg_find_62 : decode b_Lg_find 62 = .ok (.ireturn, 1) := by decide +kernel
theorem d_Lg_number_0 : decode b_Lg_number 0 = .ok (.aload_n 0, 1) := by decide +kernel
theorem d_Lg_number_1 : decode b_Lg_number 1 = .ok (.iload_n 1, 1) := by decide +kernel
theorem d_Lg_number_2 : decode b_Lg_number 2 = .ok (.sipush 2048, 3) := by decide +kernel
theorem d_Lg_number_5 : decode b_Lg_number 5 = .ok (.idiv, 1) := by decide +kernel
theorem d_Lg_number_6 : decode b_Lg_number 6 = .ok (.invokevirtual 49, 3) := by decide +kernel
theorem d_Lg_number_9 : decode b_Lg_number 9 = .ok (.iload_n 1, 1) := by decide +kernel
theorem d_Lg_number_10 : decode b_Lg_number 10 = .ok (.sipush 2048, 3) := by decide +kernel
theorem d_Lg_number_13 : decode b_Lg_number 13 = .ok (.irem, 1) := by decide +kernel
theorem d_Lg_number_14 : decode b_Lg_number 14 = .ok (.iload_n 2, 1) := by decide +kernel
theorem d_Lg_number_15 : decode b_Lg_number 15 = .ok (.invokevirtual 110, 3) := by decide +kernel
theorem d_Lg_number_18 : decode b_Lg_number 18 = .ok (.ireturn, 1) := by decide +kernel
