theorem dX0_init_0 : decode cX0_init 0 = .ok (.aload_n 0, 1) := by decide +kernel
theorem dX0_init_1 : decode cX0_init 1 = .ok (.invokespecial 3, 3) := by decide +kernel
theorem dX0_init_4 : decode cX0_init 4 = .ok (.aload_n 0, 1) := by decide +kernel
theorem dX0_init_5 : decode cX0_init 5 = .ok (.iconst 0, 1) := by decide +kernel
theorem dX0_init_6 : decode cX0_init 6 = .ok (.putfield 9, 3) := by decide +kernel
theorem dX0_init_9 : decode cX0_init 9 = .ok (.aload_n 0, 1) := by decide +kernel
theorem dX0_init_10 : decode cX0_init 10 = .ok (.iconst 0, 1) := by decide +kernel
theorem dX0_init_11 : decode cX0_init 11 = .ok (.putfield 15, 3) := by decide +kernel
theorem dX0_init_14 : decode cX0_init 14 = .ok (.aload_n 0, 1) := by decide +kernel
theorem dX0_init_15 : decode cX0_init 15 = .ok (.iconst 0, 1) := by decide +kernel
theorem dX0_init_16 : decode cX0_init 16 = .ok (.putfield 18, 3) := by decide +kernel
theorem dX0_init_19 : decode cX0_init 19 = .ok (.aload_n 0, 1) := by decide +kernel
theorem dX0_init_20 : decode cX0_init 20 = .ok (.iconst 0, 1) := by decide +kernel
theorem dX0_init_21 : decode cX0_init 21 = .ok (.putfield 21, 3) := by decide +kernel
theorem dX0_init_24 : decode cX0_init 24 = .ok (.aload_n 0, 1) := by decide +kernel
theorem dX0_init_25 : decode cX0_init 25 = .ok (.iconst 1, 1) := by decide +kernel
theorem dX0_init_26 : decode cX0_init 26 = .ok (.putfield 24, 3) := by decide +kernel
theorem dX0_init_29 : decode cX0_init 29 = .ok (.aload_n 0, 1) := by decide +kernel
theorem dX0_init_30 : decode cX0_init 30 = .ok (.iconst 0, 1) := by decide +kernel
theorem dX0_init_31 : decode cX0_init 31 = .ok (.putfield 27, 3) := by decide +kernel
theorem dX0_init_34 : decode cX0_init 34 = .ok (.return_, 1) := by decide +kernel
theorem dX0_turnName_0 : decode cX0_turnName 0 = .ok (.aload_n 0, 1) := by decide +kernel
theorem dX0_turnName_1 : decode cX0_turnName 1 = .ok (.getfield 24, 3) := by decide +kernel
theorem dX0_turnName_4 : decode cX0_turnName 4 = .ok (.iload_n 1, 1) := by decide +kernel
theorem dX0_turnName_5 : decode cX0_turnName 5 = .ok (.imul, 1) := by decide +kernel
theorem dX0_turnName_6 : decode cX0_turnName 6 = .ok (.aload_n 0, 1) := by decide +kernel
theorem dX0_turnName_7 : decode cX0_turnName 7 = .ok (.getfield 27, 3) := by decide +kernel
theorem dX0_turnName_10 : decode cX0_turnName 10 = .ok (.iadd, 1) := by decide +kernel
theorem dX0_turnName_11 : decode cX0_turnName 11 = .ok (.bipush 100, 2) := by decide +kernel
theorem dX0_turnName_13 : decode cX0_turnName 13 = .ok (.irem, 1) := by decide +kernel
theorem dX0_turnName_14 : decode cX0_turnName 14 = .ok (.ireturn, 1) := by decide +kernel
theorem dX1_init_0 : decode cX1_init 0 = .ok (.aload_n 0, 1) := by decide +kernel
theorem dX1_init_1 : decode cX1_init 1 = .ok (.invokespecial 3, 3) := by decide +kernel
theorem dX1_init_4 : decode cX1_init 4 = .ok (.aload_n 0, 1) := by decide +kernel
theorem dX1_init_5 : decode cX1_init 5 = .ok (.sipush 288, 3) := by decide +kernel
theorem dX1_init_8 : decode cX1_init 8 = .ok (.newarray .int, 2) := by decide +kernel
theorem dX1_init_10 : decode cX1_init 10 = .ok (.putfield 9, 3) := by decide +kernel
theorem dX1_init_13 : decode cX1_init 13 = .ok (.return_, 1) := by decide +kernel
theorem dX1_placeOf_0 : decode cX1_placeOf 0 = .ok (.iload_n 0, 1) := by decide +kernel
theorem dX1_placeOf_1 : decode cX1_placeOf 1 = .ok (.ifCond .lt 32, 3) := by decide +kernel
theorem dX1_placeOf_4 : decode cX1_placeOf 4 = .ok (.iload_n 0, 1) := by decide +kernel
theorem dX1_placeOf_5 : decode cX1_placeOf 5 = .ok (.iconst 4, 1) := by decide +kernel
theorem dX1_placeOf_6 : decode cX1_placeOf 6 = .ok (.if_icmp .ge 27, 3) := by decide +kernel
theorem dX1_placeOf_9 : decode cX1_placeOf 9 = .ok (.iload_n 1, 1) := by decide +kernel
theorem dX1_placeOf_10 : decode cX1_placeOf 10 = .ok (.ifCond .lt 23, 3) := by decide +kernel
theorem dX1_placeOf_13 : decode cX1_placeOf 13 = .ok (.iload_n 1, 1) := by decide +kernel
theorem dX1_placeOf_14 : decode cX1_placeOf 14 = .ok (.bipush 12, 2) := by decide +kernel
theorem dX1_placeOf_16 : decode cX1_placeOf 16 = .ok (.if_icmp .ge 17, 3) := by decide +kernel
theorem dX1_placeOf_19 : decode cX1_placeOf 19 = .ok (.iload_n 2, 1) := by decide +kernel
theorem dX1_placeOf_20 : decode cX1_placeOf 20 = .ok (.ifCond .lt 13, 3) := by decide +kernel
theorem dX1_placeOf_23 : decode cX1_placeOf 23 = .ok (.iload_n 2, 1) := by decide +kernel
theorem dX1_placeOf_24 : decode cX1_placeOf 24 = .ok (.bipush 6, 2) := by decide +kernel
theorem dX1_placeOf_26 : decode cX1_placeOf 26 = .ok (.if_icmp .ge 7, 3) := by decide +kernel
theorem dX1_placeOf_29 : decode cX1_placeOf 29 = .ok (.iconst 1, 1) := by decide +kernel
theorem dX1_placeOf_30 : decode cX1_placeOf 30 = .ok (.goto 4, 3) := by decide +kernel
theorem dX1_placeOf_33 : decode cX1_placeOf 33 = .ok (.iconst 0, 1) := by decide +kernel
theorem dX1_placeOf_34 : decode cX1_placeOf 34 = .ok (.istore_n 3, 1) := by decide +kernel
theorem dX1_placeOf_35 : decode cX1_placeOf 35 = .ok (.iload_n 3, 1) := by decide +kernel
theorem dX1_placeOf_36 : decode cX1_placeOf 36 = .ok (.ifCond .eq 17, 3) := by decide +kernel
theorem dX1_placeOf_39 : decode cX1_placeOf 39 = .ok (.iload_n 0, 1) := by decide +kernel
theorem dX1_placeOf_40 : decode cX1_placeOf 40 = .ok (.bipush 12, 2) := by decide +kernel
theorem dX1_placeOf_42 : decode cX1_placeOf 42 = .ok (.imul, 1) := by decide +kernel
theorem dX1_placeOf_43 : decode cX1_placeOf 43 = .ok (.iload_n 1, 1) := by decide +kernel
theorem dX1_placeOf_44 : decode cX1_placeOf 44 = .ok (.iadd, 1) := by decide +kernel
theorem dX1_placeOf_45 : decode cX1_placeOf 45 = .ok (.bipush 6, 2) := by decide +kernel
theorem dX1_placeOf_47 : decode cX1_placeOf 47 = .ok (.imul, 1) := by decide +kernel
theorem dX1_placeOf_48 : decode cX1_placeOf 48 = .ok (.iload_n 2, 1) := by decide +kernel
theorem dX1_placeOf_49 : decode cX1_placeOf 49 = .ok (.iadd, 1) := by decide +kernel
theorem dX1_placeOf_50 : decode cX1_placeOf 50 = .ok (.goto 4, 3) := by decide +kernel
theorem dX1_placeOf_53 : decode cX1_placeOf 53 = .ok (.iconst (-1), 1) := by decide +kernel
theorem dX1_placeOf_54 : decode cX1_placeOf 54 = .ok (.ireturn, 1) := by decide +kernel
theorem dX1_read_0 : decode cX1_read 0 = .ok (.iload_n 1, 1) := by decide +kernel
theorem dX1_read_1 : decode cX1_read 1 = .ok (.iload_n 2, 1) := by decide +kernel
theorem dX1_read_2 : decode cX1_read 2 = .ok (.iload_n 3, 1) := by decide +kernel
theorem dX1_read_3 : decode cX1_read 3 = .ok (.invokestatic 15, 3) := by decide +kernel
theorem dX1_read_6 : decode cX1_read 6 = .ok (.istore 4, 2) := by decide +kernel
theorem dX1_read_8 : decode cX1_read 8 = .ok (.iload 4, 2) := by decide +kernel
theorem dX1_read_10 : decode cX1_read 10 = .ok (.ifCond .ge 8, 3) := by decide +kernel
theorem dX1_read_13 : decode cX1_read 13 = .ok (.ldc 19, 2) := by decide +kernel
theorem dX1_read_15 : decode cX1_read 15 = .ok (.goto 10, 3) := by decide +kernel
theorem dX1_read_18 : decode cX1_read 18 = .ok (.aload_n 0, 1) := by decide +kernel
theorem dX1_read_19 : decode cX1_read 19 = .ok (.getfield 9, 3) := by decide +kernel
theorem dX1_read_22 : decode cX1_read 22 = .ok (.iload 4, 2) := by decide +kernel
theorem dX1_read_24 : decode cX1_read 24 = .ok (.iaload, 1) := by decide +kernel
theorem dX1_read_25 : decode cX1_read 25 = .ok (.ireturn, 1) := by decide +kernel
theorem dX1_write_0 : decode cX1_write 0 = .ok (.iload_n 1, 1) := by decide +kernel
theorem dX1_write_1 : decode cX1_write 1 = .ok (.iload_n 2, 1) := by decide +kernel
theorem dX1_write_2 : decode cX1_write 2 = .ok (.iload_n 3, 1) := by decide +kernel
theorem dX1_write_3 : decode cX1_write 3 = .ok (.invokestatic 15, 3) := by decide +kernel
theorem dX1_write_6 : decode cX1_write 6 = .ok (.istore 5, 2) := by decide +kernel
theorem dX1_write_8 : decode cX1_write 8 = .ok (.iload 5, 2) := by decide +kernel
theorem dX1_write_10 : decode cX1_write 10 = .ok (.ifCond .lt 12, 3) := by decide +kernel
theorem dX1_write_13 : decode cX1_write 13 = .ok (.aload_n 0, 1) := by decide +kernel
theorem dX1_write_14 : decode cX1_write 14 = .ok (.getfield 9, 3) := by decide +kernel
theorem dX1_write_17 : decode cX1_write 17 = .ok (.iload 5, 2) := by decide +kernel
theorem dX1_write_19 : decode cX1_write 19 = .ok (.iload 4, 2) := by decide +kernel
theorem dX1_write_21 : decode cX1_write 21 = .ok (.iastore, 1) := by decide +kernel
theorem dX1_write_22 : decode cX1_write 22 = .ok (.return_, 1) := by decide +kernel
theorem dX2_init_0 : decode cX2_init 0 = .ok (.aload_n 0, 1) := by decide +kernel
theorem dX2_init_1 : decode cX2_init 1 = .ok (.invokespecial 3, 3) := by decide +kernel
theorem dX2_init_4 : decode cX2_init 4 = .ok (.aload_n 0, 1) := by decide +kernel
theorem dX2_init_5 : decode cX2_init 5 = .ok (.iconst 0, 1) := by decide +kernel
theorem dX2_init_6 : decode cX2_init 6 = .ok (.putfield 9, 3) := by decide +kernel
theorem dX2_init_9 : decode cX2_init 9 = .ok (.aload_n 0, 1) := by decide +kernel
theorem dX2_init_10 : decode cX2_init 10 = .ok (.iconst 0, 1) := by decide +kernel
theorem dX2_init_11 : decode cX2_init 11 = .ok (.putfield 15, 3) := by decide +kernel
theorem dX2_init_14 : decode cX2_init 14 = .ok (.return_, 1) := by decide +kernel
theorem dX2_open_0 : decode cX2_open 0 = .ok (.aload_n 0, 1) := by decide +kernel
theorem dX2_open_1 : decode cX2_open 1 = .ok (.bipush 30, 2) := by decide +kernel
theorem dX2_open_3 : decode cX2_open 3 = .ok (.putfield 9, 3) := by decide +kernel
theorem dX2_open_6 : decode cX2_open 6 = .ok (.aload_n 0, 1) := by decide +kernel
theorem dX2_open_7 : decode cX2_open 7 = .ok (.bipush 30, 2) := by decide +kernel
theorem dX2_open_9 : decode cX2_open 9 = .ok (.putfield 15, 3) := by decide +kernel
theorem dX2_open_12 : decode cX2_open 12 = .ok (.return_, 1) := by decide +kernel
theorem dX2_narrow_0 : decode cX2_narrow 0 = .ok (.aload_n 0, 1) := by decide +kernel
theorem dX2_narrow_1 : decode cX2_narrow 1 = .ok (.aload_n 0, 1) := by decide +kernel
theorem dX2_narrow_2 : decode cX2_narrow 2 = .ok (.getfield 9, 3) := by decide +kernel
theorem dX2_narrow_5 : decode cX2_narrow 5 = .ok (.iload_n 1, 1) := by decide +kernel
theorem dX2_narrow_6 : decode cX2_narrow 6 = .ok (.invokestatic 18, 3) := by decide +kernel
theorem dX2_narrow_9 : decode cX2_narrow 9 = .ok (.putfield 9, 3) := by decide +kernel
theorem dX2_narrow_12 : decode cX2_narrow 12 = .ok (.aload_n 0, 1) := by decide +kernel
theorem dX2_narrow_13 : decode cX2_narrow 13 = .ok (.aload_n 0, 1) := by decide +kernel
theorem dX2_narrow_14 : decode cX2_narrow 14 = .ok (.getfield 15, 3) := by decide +kernel
theorem dX2_narrow_17 : decode cX2_narrow 17 = .ok (.sipush 9999, 3) := by decide +kernel
theorem dX2_narrow_20 : decode cX2_narrow 20 = .ok (.iload_n 1, 1) := by decide +kernel
theorem dX2_narrow_21 : decode cX2_narrow 21 = .ok (.isub, 1) := by decide +kernel
theorem dX2_narrow_22 : decode cX2_narrow 22 = .ok (.invokestatic 18, 3) := by decide +kernel
theorem dX2_narrow_25 : decode cX2_narrow 25 = .ok (.putfield 15, 3) := by decide +kernel
theorem dX2_narrow_28 : decode cX2_narrow 28 = .ok (.return_, 1) := by decide +kernel
theorem dX2_lets_0 : decode cX2_lets 0 = .ok (.iload_n 1, 1) := by decide +kernel
theorem dX2_lets_1 : decode cX2_lets 1 = .ok (.aload_n 0, 1) := by decide +kernel
theorem dX2_lets_2 : decode cX2_lets 2 = .ok (.getfield 9, 3) := by decide +kernel
theorem dX2_lets_5 : decode cX2_lets 5 = .ok (.ineg, 1) := by decide +kernel
theorem dX2_lets_6 : decode cX2_lets 6 = .ok (.if_icmp .lt 15, 3) := by decide +kernel
theorem dX2_lets_9 : decode cX2_lets 9 = .ok (.iload_n 1, 1) := by decide +kernel
theorem dX2_lets_10 : decode cX2_lets 10 = .ok (.aload_n 0, 1) := by decide +kernel
theorem dX2_lets_11 : decode cX2_lets 11 = .ok (.getfield 15, 3) := by decide +kernel
theorem dX2_lets_14 : decode cX2_lets 14 = .ok (.if_icmp .gt 7, 3) := by decide +kernel
theorem dX2_lets_17 : decode cX2_lets 17 = .ok (.iconst 1, 1) := by decide +kernel
theorem dX2_lets_18 : decode cX2_lets 18 = .ok (.goto 4, 3) := by decide +kernel
theorem dX2_lets_21 : decode cX2_lets 21 = .ok (.iconst 0, 1) := by decide +kernel
theorem dX2_lets_22 : decode cX2_lets 22 = .ok (.ireturn, 1) := by decide +kernel
theorem dX3_init_0 : decode cX3_init 0 = .ok (.aload_n 0, 1) := by decide +kernel
theorem dX3_init_1 : decode cX3_init 1 = .ok (.invokespecial 3, 3) := by decide +kernel
theorem dX3_init_4 : decode cX3_init 4 = .ok (.aload_n 0, 1) := by decide +kernel
theorem dX3_init_5 : decode cX3_init 5 = .ok (.iconst 0, 1) := by decide +kernel
theorem dX3_init_6 : decode cX3_init 6 = .ok (.putfield 9, 3) := by decide +kernel
theorem dX3_init_9 : decode cX3_init 9 = .ok (.aload_n 0, 1) := by decide +kernel
theorem dX3_init_10 : decode cX3_init 10 = .ok (.iconst 0, 1) := by decide +kernel
theorem dX3_init_11 : decode cX3_init 11 = .ok (.putfield 15, 3) := by decide +kernel
theorem dX3_init_14 : decode cX3_init 14 = .ok (.aload_n 0, 1) := by decide +kernel
theorem dX3_init_15 : decode cX3_init 15 = .ok (.iconst 0, 1) := by decide +kernel
theorem dX3_init_16 : decode cX3_init 16 = .ok (.putfield 18, 3) := by decide +kernel
theorem dX3_init_19 : decode cX3_init 19 = .ok (.aload_n 0, 1) := by decide +kernel
theorem dX3_init_20 : decode cX3_init 20 = .ok (.iconst 0, 1) := by decide +kernel
theorem dX3_init_21 : decode cX3_init 21 = .ok (.putfield 21, 3) := by decide +kernel
theorem dX3_init_24 : decode cX3_init 24 = .ok (.aload_n 0, 1) := by decide +kernel
theorem dX3_init_25 : decode cX3_init 25 = .ok (.iconst 0, 1) := by decide +kernel
theorem dX3_init_26 : decode cX3_init 26 = .ok (.putfield 24, 3) := by decide +kernel
theorem dX3_init_29 : decode cX3_init 29 = .ok (.aload_n 0, 1) := by decide +kernel
theorem dX3_init_30 : decode cX3_init 30 = .ok (.iconst 0, 1) := by decide +kernel
theorem dX3_init_31 : decode cX3_init 31 = .ok (.putfield 27, 3) := by decide +kernel
theorem dX3_init_34 : decode cX3_init 34 = .ok (.aload_n 0, 1) := by decide +kernel
theorem dX3_init_35 : decode cX3_init 35 = .ok (.iconst 0, 1) := by decide +kernel
theorem dX3_init_36 : decode cX3_init 36 = .ok (.putfield 30, 3) := by decide +kernel
theorem dX3_init_39 : decode cX3_init 39 = .ok (.return_, 1) := by decide +kernel
theorem dX3_setOrder_0 : decode cX3_setOrder 0 = .ok (.aload_n 0, 1) := by decide +kernel
theorem dX3_setOrder_1 : decode cX3_setOrder 1 = .ok (.iconst 0, 1) := by decide +kernel
theorem dX3_setOrder_2 : decode cX3_setOrder 2 = .ok (.putfield 9, 3) := by decide +kernel
theorem dX3_setOrder_5 : decode cX3_setOrder 5 = .ok (.aload_n 0, 1) := by decide +kernel
theorem dX3_setOrder_6 : decode cX3_setOrder 6 = .ok (.iload_n 1, 1) := by decide +kernel
theorem dX3_setOrder_7 : decode cX3_setOrder 7 = .ok (.putfield 15, 3) := by decide +kernel
theorem dX3_setOrder_10 : decode cX3_setOrder 10 = .ok (.aload_n 0, 1) := by decide +kernel
theorem dX3_setOrder_11 : decode cX3_setOrder 11 = .ok (.iload_n 2, 1) := by decide +kernel
theorem dX3_setOrder_12 : decode cX3_setOrder 12 = .ok (.putfield 18, 3) := by decide +kernel
theorem dX3_setOrder_15 : decode cX3_setOrder 15 = .ok (.aload_n 0, 1) := by decide +kernel
theorem dX3_setOrder_16 : decode cX3_setOrder 16 = .ok (.iload_n 3, 1) := by decide +kernel
theorem dX3_setOrder_17 : decode cX3_setOrder 17 = .ok (.putfield 21, 3) := by decide +kernel
theorem dX3_setOrder_20 : decode cX3_setOrder 20 = .ok (.return_, 1) := by decide +kernel
theorem dX3_setAgree_0 : decode cX3_setAgree 0 = .ok (.aload_n 0, 1) := by decide +kernel
theorem dX3_setAgree_1 : decode cX3_setAgree 1 = .ok (.iconst 1, 1) := by decide +kernel
theorem dX3_setAgree_2 : decode cX3_setAgree 2 = .ok (.putfield 9, 3) := by decide +kernel
theorem dX3_setAgree_5 : decode cX3_setAgree 5 = .ok (.aload_n 0, 1) := by decide +kernel
theorem dX3_setAgree_6 : decode cX3_setAgree 6 = .ok (.iload_n 1, 1) := by decide +kernel
theorem dX3_setAgree_7 : decode cX3_setAgree 7 = .ok (.putfield 15, 3) := by decide +kernel
theorem dX3_setAgree_10 : decode cX3_setAgree 10 = .ok (.aload_n 0, 1) := by decide +kernel
theorem dX3_setAgree_11 : decode cX3_setAgree 11 = .ok (.iload_n 2, 1) := by decide +kernel
theorem dX3_setAgree_12 : decode cX3_setAgree 12 = .ok (.putfield 18, 3) := by decide +kernel
theorem dX3_setAgree_15 : decode cX3_setAgree 15 = .ok (.aload_n 0, 1) := by decide +kernel
theorem dX3_setAgree_16 : decode cX3_setAgree 16 = .ok (.iload_n 3, 1) := by decide +kernel
theorem dX3_setAgree_17 : decode cX3_setAgree 17 = .ok (.putfield 24, 3) := by decide +kernel
theorem dX3_setAgree_20 : decode cX3_setAgree 20 = .ok (.aload_n 0, 1) := by decide +kernel
theorem dX3_setAgree_21 : decode cX3_setAgree 21 = .ok (.iload 4, 2) := by decide +kernel
theorem dX3_setAgree_23 : decode cX3_setAgree 23 = .ok (.putfield 21, 3) := by decide +kernel
theorem dX3_setAgree_26 : decode cX3_setAgree 26 = .ok (.aload_n 0, 1) := by decide +kernel
theorem dX3_setAgree_27 : decode cX3_setAgree 27 = .ok (.iload 5, 2) := by decide +kernel
theorem dX3_setAgree_29 : decode cX3_setAgree 29 = .ok (.putfield 27, 3) := by decide +kernel
theorem dX3_setAgree_32 : decode cX3_setAgree 32 = .ok (.aload_n 0, 1) := by decide +kernel
theorem dX3_setAgree_33 : decode cX3_setAgree 33 = .ok (.iload 6, 2) := by decide +kernel
theorem dX3_setAgree_35 : decode cX3_setAgree 35 = .ok (.putfield 30, 3) := by decide +kernel
theorem dX3_setAgree_38 : decode cX3_setAgree 38 = .ok (.return_, 1) := by decide +kernel
theorem dX3_setFound_0 : decode cX3_setFound 0 = .ok (.aload_n 0, 1) := by decide +kernel
theorem dX3_setFound_1 : decode cX3_setFound 1 = .ok (.iconst 2, 1) := by decide +kernel
theorem dX3_setFound_2 : decode cX3_setFound 2 = .ok (.putfield 9, 3) := by decide +kernel
theorem dX3_setFound_5 : decode cX3_setFound 5 = .ok (.aload_n 0, 1) := by decide +kernel
theorem dX3_setFound_6 : decode cX3_setFound 6 = .ok (.iload_n 1, 1) := by decide +kernel
theorem dX3_setFound_7 : decode cX3_setFound 7 = .ok (.putfield 15, 3) := by decide +kernel
theorem dX3_setFound_10 : decode cX3_setFound 10 = .ok (.aload_n 0, 1) := by decide +kernel
theorem dX3_setFound_11 : decode cX3_setFound 11 = .ok (.iload_n 2, 1) := by decide +kernel
theorem dX3_setFound_12 : decode cX3_setFound 12 = .ok (.putfield 18, 3) := by decide +kernel
theorem dX3_setFound_15 : decode cX3_setFound 15 = .ok (.return_, 1) := by decide +kernel
theorem dX4_init_0 : decode cX4_init 0 = .ok (.aload_n 0, 1) := by decide +kernel
theorem dX4_init_1 : decode cX4_init 1 = .ok (.invokespecial 3, 3) := by decide +kernel
theorem dX4_init_4 : decode cX4_init 4 = .ok (.aload_n 0, 1) := by decide +kernel
theorem dX4_init_5 : decode cX4_init 5 = .ok (.bipush 6, 2) := by decide +kernel
theorem dX4_init_7 : decode cX4_init 7 = .ok (.anewarray 9, 3) := by decide +kernel
theorem dX4_init_10 : decode cX4_init 10 = .ok (.putfield 11, 3) := by decide +kernel
theorem dX4_init_13 : decode cX4_init 13 = .ok (.aload_n 0, 1) := by decide +kernel
theorem dX4_init_14 : decode cX4_init 14 = .ok (.iconst 5, 1) := by decide +kernel
theorem dX4_init_15 : decode cX4_init 15 = .ok (.newarray .int, 2) := by decide +kernel
theorem dX4_init_17 : decode cX4_init 17 = .ok (.dup, 1) := by decide +kernel
theorem dX4_init_18 : decode cX4_init 18 = .ok (.iconst 0, 1) := by decide +kernel
theorem dX4_init_19 : decode cX4_init 19 = .ok (.iconst 1, 1) := by decide +kernel
theorem dX4_init_20 : decode cX4_init 20 = .ok (.iastore, 1) := by decide +kernel
theorem dX4_init_21 : decode cX4_init 21 = .ok (.dup, 1) := by decide +kernel
theorem dX4_init_22 : decode cX4_init 22 = .ok (.iconst 1, 1) := by decide +kernel
theorem dX4_init_23 : decode cX4_init 23 = .ok (.iconst 1, 1) := by decide +kernel
theorem dX4_init_24 : decode cX4_init 24 = .ok (.iastore, 1) := by decide +kernel
theorem dX4_init_25 : decode cX4_init 25 = .ok (.dup, 1) := by decide +kernel
theorem dX4_init_26 : decode cX4_init 26 = .ok (.iconst 2, 1) := by decide +kernel
theorem dX4_init_27 : decode cX4_init 27 = .ok (.iconst 1, 1) := by decide +kernel
theorem dX4_init_28 : decode cX4_init 28 = .ok (.iastore, 1) := by decide +kernel
theorem dX4_init_29 : decode cX4_init 29 = .ok (.dup, 1) := by decide +kernel
theorem dX4_init_30 : decode cX4_init 30 = .ok (.iconst 3, 1) := by decide +kernel
theorem dX4_init_31 : decode cX4_init 31 = .ok (.iconst 1, 1) := by decide +kernel
theorem dX4_init_32 : decode cX4_init 32 = .ok (.iastore, 1) := by decide +kernel
theorem dX4_init_33 : decode cX4_init 33 = .ok (.dup, 1) := by decide +kernel
theorem dX4_init_34 : decode cX4_init 34 = .ok (.iconst 4, 1) := by decide +kernel
theorem dX4_init_35 : decode cX4_init 35 = .ok (.iconst 1, 1) := by decide +kernel
theorem dX4_init_36 : decode cX4_init 36 = .ok (.iastore, 1) := by decide +kernel
theorem dX4_init_37 : decode cX4_init 37 = .ok (.putfield 17, 3) := by decide +kernel
theorem dX4_init_40 : decode cX4_init 40 = .ok (.aload_n 0, 1) := by decide +kernel
theorem dX4_init_41 : decode cX4_init 41 = .ok (.iconst 5, 1) := by decide +kernel
theorem dX4_init_42 : decode cX4_init 42 = .ok (.newarray .int, 2) := by decide +kernel
theorem dX4_init_44 : decode cX4_init 44 = .ok (.dup, 1) := by decide +kernel
theorem dX4_init_45 : decode cX4_init 45 = .ok (.iconst 0, 1) := by decide +kernel
theorem dX4_init_46 : decode cX4_init 46 = .ok (.iconst 0, 1) := by decide +kernel
theorem dX4_init_47 : decode cX4_init 47 = .ok (.iastore, 1) := by decide +kernel
theorem dX4_init_48 : decode cX4_init 48 = .ok (.dup, 1) := by decide +kernel
theorem dX4_init_49 : decode cX4_init 49 = .ok (.iconst 1, 1) := by decide +kernel
theorem dX4_init_50 : decode cX4_init 50 = .ok (.iconst 0, 1) := by decide +kernel
theorem dX4_init_51 : decode cX4_init 51 = .ok (.iastore, 1) := by decide +kernel
theorem dX4_init_52 : decode cX4_init 52 = .ok (.dup, 1) := by decide +kernel
theorem dX4_init_53 : decode cX4_init 53 = .ok (.iconst 2, 1) := by decide +kernel
theorem dX4_init_54 : decode cX4_init 54 = .ok (.iconst 0, 1) := by decide +kernel
theorem dX4_init_55 : decode cX4_init 55 = .ok (.iastore, 1) := by decide +kernel
theorem dX4_init_56 : decode cX4_init 56 = .ok (.dup, 1) := by decide +kernel
theorem dX4_init_57 : decode cX4_init 57 = .ok (.iconst 3, 1) := by decide +kernel
theorem dX4_init_58 : decode cX4_init 58 = .ok (.iconst 0, 1) := by decide +kernel
theorem dX4_init_59 : decode cX4_init 59 = .ok (.iastore, 1) := by decide +kernel
theorem dX4_init_60 : decode cX4_init 60 = .ok (.dup, 1) := by decide +kernel
theorem dX4_init_61 : decode cX4_init 61 = .ok (.iconst 4, 1) := by decide +kernel
theorem dX4_init_62 : decode cX4_init 62 = .ok (.iconst 0, 1) := by decide +kernel
theorem dX4_init_63 : decode cX4_init 63 = .ok (.iastore, 1) := by decide +kernel
theorem dX4_init_64 : decode cX4_init 64 = .ok (.putfield 21, 3) := by decide +kernel
theorem dX4_init_67 : decode cX4_init 67 = .ok (.aload_n 0, 1) := by decide +kernel
theorem dX4_init_68 : decode cX4_init 68 = .ok (.iconst 1, 1) := by decide +kernel
theorem dX4_init_69 : decode cX4_init 69 = .ok (.putfield 24, 3) := by decide +kernel
theorem dX4_init_72 : decode cX4_init 72 = .ok (.aload_n 0, 1) := by decide +kernel
theorem dX4_init_73 : decode cX4_init 73 = .ok (.iconst 0, 1) := by decide +kernel
theorem dX4_init_74 : decode cX4_init 74 = .ok (.putfield 28, 3) := by decide +kernel
theorem dX4_init_77 : decode cX4_init 77 = .ok (.aload_n 0, 1) := by decide +kernel
theorem dX4_init_78 : decode cX4_init 78 = .ok (.iconst 0, 1) := by decide +kernel
theorem dX4_init_79 : decode cX4_init 79 = .ok (.putfield 31, 3) := by decide +kernel
theorem dX4_init_82 : decode cX4_init 82 = .ok (.iconst 0, 1) := by decide +kernel
theorem dX4_init_83 : decode cX4_init 83 = .ok (.istore_n 1, 1) := by decide +kernel
theorem dX4_init_84 : decode cX4_init 84 = .ok (.iload_n 1, 1) := by decide +kernel
theorem dX4_init_85 : decode cX4_init 85 = .ok (.bipush 6, 2) := by decide +kernel
theorem dX4_init_87 : decode cX4_init 87 = .ok (.if_icmp .ge 22, 3) := by decide +kernel
theorem dX4_init_90 : decode cX4_init 90 = .ok (.aload_n 0, 1) := by decide +kernel
theorem dX4_init_91 : decode cX4_init 91 = .ok (.getfield 11, 3) := by decide +kernel
theorem dX4_init_94 : decode cX4_init 94 = .ok (.iload_n 1, 1) := by decide +kernel
theorem dX4_init_95 : decode cX4_init 95 = .ok (.new 9, 3) := by decide +kernel
theorem dX4_init_98 : decode cX4_init 98 = .ok (.dup, 1) := by decide +kernel
theorem dX4_init_99 : decode cX4_init 99 = .ok (.invokespecial 34, 3) := by decide +kernel
theorem dX4_init_102 : decode cX4_init 102 = .ok (.aastore, 1) := by decide +kernel
theorem dX4_init_103 : decode cX4_init 103 = .ok (.iinc 1 1, 3) := by decide +kernel
theorem dX4_init_106 : decode cX4_init 106 = .ok (.goto (-22), 3) := by decide +kernel
theorem dX4_init_109 : decode cX4_init 109 = .ok (.return_, 1) := by decide +kernel
theorem dX4_columnNumbered_0 : decode cX4_columnNumbered 0 = .ok (.iload_n 1, 1) := by decide +kernel
theorem dX4_columnNumbered_1 : decode cX4_columnNumbered 1 = .ok (.ifCond .lt 26, 3) := by decide +kernel
theorem dX4_columnNumbered_4 : decode cX4_columnNumbered 4 = .ok (.iload_n 1, 1) := by decide +kernel
theorem dX4_columnNumbered_5 : decode cX4_columnNumbered 5 = .ok (.aload_n 0, 1) := by decide +kernel
theorem dX4_columnNumbered_6 : decode cX4_columnNumbered 6 = .ok (.getfield 24, 3) := by decide +kernel
theorem dX4_columnNumbered_9 : decode cX4_columnNumbered 9 = .ok (.if_icmp .ge 18, 3) := by decide +kernel
theorem dX4_columnNumbered_12 : decode cX4_columnNumbered 12 = .ok (.iload_n 1, 1) := by decide +kernel
theorem dX4_columnNumbered_13 : decode cX4_columnNumbered 13 = .ok (.bipush 6, 2) := by decide +kernel
theorem dX4_columnNumbered_15 : decode cX4_columnNumbered 15 = .ok (.if_icmp .ge 12, 3) := by decide +kernel
theorem dX4_columnNumbered_18 : decode cX4_columnNumbered 18 = .ok (.aload_n 0, 1) := by decide +kernel
theorem dX4_columnNumbered_19 : decode cX4_columnNumbered 19 = .ok (.getfield 11, 3) := by decide +kernel
theorem dX4_columnNumbered_22 : decode cX4_columnNumbered 22 = .ok (.iload_n 1, 1) := by decide +kernel
theorem dX4_columnNumbered_23 : decode cX4_columnNumbered 23 = .ok (.aaload, 1) := by decide +kernel
theorem dX4_columnNumbered_24 : decode cX4_columnNumbered 24 = .ok (.goto 4, 3) := by decide +kernel
theorem dX4_columnNumbered_27 : decode cX4_columnNumbered 27 = .ok (.aconst_null, 1) := by decide +kernel
theorem dX4_columnNumbered_28 : decode cX4_columnNumbered 28 = .ok (.areturn, 1) := by decide +kernel
theorem dX4_addColumn_0 : decode cX4_addColumn 0 = .ok (.aload_n 0, 1) := by decide +kernel
theorem dX4_addColumn_1 : decode cX4_addColumn 1 = .ok (.getfield 24, 3) := by decide +kernel
theorem dX4_addColumn_4 : decode cX4_addColumn 4 = .ok (.bipush 6, 2) := by decide +kernel
theorem dX4_addColumn_6 : decode cX4_addColumn 6 = .ok (.if_icmp .lt 6, 3) := by decide +kernel
theorem dX4_addColumn_9 : decode cX4_addColumn 9 = .ok (.bipush (-4), 2) := by decide +kernel
theorem dX4_addColumn_11 : decode cX4_addColumn 11 = .ok (.ireturn, 1) := by decide +kernel
theorem dX4_addColumn_12 : decode cX4_addColumn 12 = .ok (.aload_n 0, 1) := by decide +kernel
theorem dX4_addColumn_13 : decode cX4_addColumn 13 = .ok (.getfield 11, 3) := by decide +kernel
theorem dX4_addColumn_16 : decode cX4_addColumn 16 = .ok (.aload_n 0, 1) := by decide +kernel
theorem dX4_addColumn_17 : decode cX4_addColumn 17 = .ok (.getfield 24, 3) := by decide +kernel
theorem dX4_addColumn_20 : decode cX4_addColumn 20 = .ok (.aaload, 1) := by decide +kernel
theorem dX4_addColumn_21 : decode cX4_addColumn 21 = .ok (.iload_n 1, 1) := by decide +kernel
theorem dX4_addColumn_22 : decode cX4_addColumn 22 = .ok (.putfield 35, 3) := by decide +kernel
theorem dX4_addColumn_25 : decode cX4_addColumn 25 = .ok (.aload_n 0, 1) := by decide +kernel
theorem dX4_addColumn_26 : decode cX4_addColumn 26 = .ok (.getfield 11, 3) := by decide +kernel
theorem dX4_addColumn_29 : decode cX4_addColumn 29 = .ok (.aload_n 0, 1) := by decide +kernel
theorem dX4_addColumn_30 : decode cX4_addColumn 30 = .ok (.getfield 24, 3) := by decide +kernel
theorem dX4_addColumn_33 : decode cX4_addColumn 33 = .ok (.aaload, 1) := by decide +kernel
theorem dX4_addColumn_34 : decode cX4_addColumn 34 = .ok (.iload_n 2, 1) := by decide +kernel
theorem dX4_addColumn_35 : decode cX4_addColumn 35 = .ok (.putfield 38, 3) := by decide +kernel
theorem dX4_addColumn_38 : decode cX4_addColumn 38 = .ok (.aload_n 0, 1) := by decide +kernel
theorem dX4_addColumn_39 : decode cX4_addColumn 39 = .ok (.dup, 1) := by decide +kernel
theorem dX4_addColumn_40 : decode cX4_addColumn 40 = .ok (.getfield 24, 3) := by decide +kernel
theorem dX4_addColumn_43 : decode cX4_addColumn 43 = .ok (.iconst 1, 1) := by decide +kernel
theorem dX4_addColumn_44 : decode cX4_addColumn 44 = .ok (.iadd, 1) := by decide +kernel
theorem dX4_addColumn_45 : decode cX4_addColumn 45 = .ok (.putfield 24, 3) := by decide +kernel
theorem dX4_addColumn_48 : decode cX4_addColumn 48 = .ok (.aload_n 0, 1) := by decide +kernel
theorem dX4_addColumn_49 : decode cX4_addColumn 49 = .ok (.getfield 24, 3) := by decide +kernel
theorem dX4_addColumn_52 : decode cX4_addColumn 52 = .ok (.iconst 1, 1) := by decide +kernel
theorem dX4_addColumn_53 : decode cX4_addColumn 53 = .ok (.isub, 1) := by decide +kernel
theorem dX4_addColumn_54 : decode cX4_addColumn 54 = .ok (.ireturn, 1) := by decide +kernel
theorem dX4_isShifted_0 : decode cX4_isShifted 0 = .ok (.aload_n 0, 1) := by decide +kernel
theorem dX4_isShifted_1 : decode cX4_isShifted 1 = .ok (.iload_n 1, 1) := by decide +kernel
theorem dX4_isShifted_2 : decode cX4_isShifted 2 = .ok (.invokevirtual 41, 3) := by decide +kernel
theorem dX4_isShifted_5 : decode cX4_isShifted 5 = .ok (.astore_n 2, 1) := by decide +kernel
theorem dX4_isShifted_6 : decode cX4_isShifted 6 = .ok (.aload_n 2, 1) := by decide +kernel
theorem dX4_isShifted_7 : decode cX4_isShifted 7 = .ok (.ifnull 15, 3) := by decide +kernel
theorem dX4_isShifted_10 : decode cX4_isShifted 10 = .ok (.aload_n 2, 1) := by decide +kernel
theorem dX4_isShifted_11 : decode cX4_isShifted 11 = .ok (.getfield 45, 3) := by decide +kernel
theorem dX4_isShifted_14 : decode cX4_isShifted 14 = .ok (.iconst 2, 1) := by decide +kernel
theorem dX4_isShifted_15 : decode cX4_isShifted 15 = .ok (.if_icmp .ne 7, 3) := by decide +kernel
theorem dX4_isShifted_18 : decode cX4_isShifted 18 = .ok (.iconst 1, 1) := by decide +kernel
theorem dX4_isShifted_19 : decode cX4_isShifted 19 = .ok (.goto 4, 3) := by decide +kernel
theorem dX4_isShifted_22 : decode cX4_isShifted 22 = .ok (.iconst 0, 1) := by decide +kernel
theorem dX4_isShifted_23 : decode cX4_isShifted 23 = .ok (.ireturn, 1) := by decide +kernel
theorem dX4_hasShift_0 : decode cX4_hasShift 0 = .ok (.iconst 0, 1) := by decide +kernel
theorem dX4_hasShift_1 : decode cX4_hasShift 1 = .ok (.istore_n 1, 1) := by decide +kernel
theorem dX4_hasShift_2 : decode cX4_hasShift 2 = .ok (.iload_n 1, 1) := by decide +kernel
theorem dX4_hasShift_3 : decode cX4_hasShift 3 = .ok (.aload_n 0, 1) := by decide +kernel
theorem dX4_hasShift_4 : decode cX4_hasShift 4 = .ok (.getfield 24, 3) := by decide +kernel
theorem dX4_hasShift_7 : decode cX4_hasShift 7 = .ok (.if_icmp .ge 19, 3) := by decide +kernel
theorem dX4_hasShift_10 : decode cX4_hasShift 10 = .ok (.aload_n 0, 1) := by decide +kernel
theorem dX4_hasShift_11 : decode cX4_hasShift 11 = .ok (.iload_n 1, 1) := by decide +kernel
theorem dX4_hasShift_12 : decode cX4_hasShift 12 = .ok (.invokevirtual 48, 3) := by decide +kernel
theorem dX4_hasShift_15 : decode cX4_hasShift 15 = .ok (.ifCond .eq 5, 3) := by decide +kernel
theorem dX4_hasShift_18 : decode cX4_hasShift 18 = .ok (.iconst 1, 1) := by decide +kernel
theorem dX4_hasShift_19 : decode cX4_hasShift 19 = .ok (.ireturn, 1) := by decide +kernel
theorem dX4_hasShift_20 : decode cX4_hasShift 20 = .ok (.iinc 1 1, 3) := by decide +kernel
theorem dX4_hasShift_23 : decode cX4_hasShift 23 = .ok (.goto (-21), 3) := by decide +kernel
theorem dX4_hasShift_26 : decode cX4_hasShift 26 = .ok (.iconst 0, 1) := by decide +kernel
theorem dX4_hasShift_27 : decode cX4_hasShift 27 = .ok (.ireturn, 1) := by decide +kernel
theorem dX4_turnsKeys_0 : decode cX4_turnsKeys 0 = .ok (.aload_n 0, 1) := by decide +kernel
theorem dX4_turnsKeys_1 : decode cX4_turnsKeys 1 = .ok (.getfield 11, 3) := by decide +kernel
theorem dX4_turnsKeys_4 : decode cX4_turnsKeys 4 = .ok (.iconst 0, 1) := by decide +kernel
theorem dX4_turnsKeys_5 : decode cX4_turnsKeys 5 = .ok (.aaload, 1) := by decide +kernel
theorem dX4_turnsKeys_6 : decode cX4_turnsKeys 6 = .ok (.getfield 45, 3) := by decide +kernel
theorem dX4_turnsKeys_9 : decode cX4_turnsKeys 9 = .ok (.iconst 1, 1) := by decide +kernel
theorem dX4_turnsKeys_10 : decode cX4_turnsKeys 10 = .ok (.if_icmp .ne 7, 3) := by decide +kernel
theorem dX4_turnsKeys_13 : decode cX4_turnsKeys 13 = .ok (.iconst 1, 1) := by decide +kernel
theorem dX4_turnsKeys_14 : decode cX4_turnsKeys 14 = .ok (.goto 4, 3) := by decide +kernel
theorem dX4_turnsKeys_17 : decode cX4_turnsKeys 17 = .ok (.iconst 0, 1) := by decide +kernel
theorem dX4_turnsKeys_18 : decode cX4_turnsKeys 18 = .ok (.ireturn, 1) := by decide +kernel
theorem dX4_setDigit_0 : decode cX4_setDigit 0 = .ok (.iload_n 1, 1) := by decide +kernel
theorem dX4_setDigit_1 : decode cX4_setDigit 1 = .ok (.iconst 1, 1) := by decide +kernel
theorem dX4_setDigit_2 : decode cX4_setDigit 2 = .ok (.if_icmp .lt 22, 3) := by decide +kernel
theorem dX4_setDigit_5 : decode cX4_setDigit 5 = .ok (.iload_n 1, 1) := by decide +kernel
theorem dX4_setDigit_6 : decode cX4_setDigit 6 = .ok (.iconst 4, 1) := by decide +kernel
theorem dX4_setDigit_7 : decode cX4_setDigit 7 = .ok (.if_icmp .gt 17, 3) := by decide +kernel
theorem dX4_setDigit_10 : decode cX4_setDigit 10 = .ok (.aload_n 0, 1) := by decide +kernel
theorem dX4_setDigit_11 : decode cX4_setDigit 11 = .ok (.getfield 17, 3) := by decide +kernel
theorem dX4_setDigit_14 : decode cX4_setDigit 14 = .ok (.iload_n 1, 1) := by decide +kernel
theorem dX4_setDigit_15 : decode cX4_setDigit 15 = .ok (.iload_n 2, 1) := by decide +kernel
theorem dX4_setDigit_16 : decode cX4_setDigit 16 = .ok (.iastore, 1) := by decide +kernel
theorem dX4_setDigit_17 : decode cX4_setDigit 17 = .ok (.aload_n 0, 1) := by decide +kernel
theorem dX4_setDigit_18 : decode cX4_setDigit 18 = .ok (.getfield 21, 3) := by decide +kernel
theorem dX4_setDigit_21 : decode cX4_setDigit 21 = .ok (.iload_n 1, 1) := by decide +kernel
theorem dX4_setDigit_22 : decode cX4_setDigit 22 = .ok (.iload_n 3, 1) := by decide +kernel
theorem dX4_setDigit_23 : decode cX4_setDigit 23 = .ok (.iastore, 1) := by decide +kernel
theorem dX4_setDigit_24 : decode cX4_setDigit 24 = .ok (.return_, 1) := by decide +kernel
theorem dX4_turnKey_0 : decode cX4_turnKey 0 = .ok (.iload_n 1, 1) := by decide +kernel
theorem dX4_turnKey_1 : decode cX4_turnKey 1 = .ok (.bipush 10, 2) := by decide +kernel
theorem dX4_turnKey_3 : decode cX4_turnKey 3 = .ok (.idiv, 1) := by decide +kernel
theorem dX4_turnKey_4 : decode cX4_turnKey 4 = .ok (.istore_n 2, 1) := by decide +kernel
theorem dX4_turnKey_5 : decode cX4_turnKey 5 = .ok (.iconst 0, 1) := by decide +kernel
theorem dX4_turnKey_6 : decode cX4_turnKey 6 = .ok (.istore_n 3, 1) := by decide +kernel
theorem dX4_turnKey_7 : decode cX4_turnKey 7 = .ok (.iconst 1, 1) := by decide +kernel
theorem dX4_turnKey_8 : decode cX4_turnKey 8 = .ok (.istore 4, 2) := by decide +kernel
theorem dX4_turnKey_10 : decode cX4_turnKey 10 = .ok (.iconst 1, 1) := by decide +kernel
theorem dX4_turnKey_11 : decode cX4_turnKey 11 = .ok (.istore 5, 2) := by decide +kernel
theorem dX4_turnKey_13 : decode cX4_turnKey 13 = .ok (.iload 5, 2) := by decide +kernel
theorem dX4_turnKey_15 : decode cX4_turnKey 15 = .ok (.iconst 4, 1) := by decide +kernel
theorem dX4_turnKey_16 : decode cX4_turnKey 16 = .ok (.if_icmp .gt 50, 3) := by decide +kernel
theorem dX4_turnKey_19 : decode cX4_turnKey 19 = .ok (.iload_n 3, 1) := by decide +kernel
theorem dX4_turnKey_20 : decode cX4_turnKey 20 = .ok (.aload_n 0, 1) := by decide +kernel
theorem dX4_turnKey_21 : decode cX4_turnKey 21 = .ok (.getfield 17, 3) := by decide +kernel
theorem dX4_turnKey_24 : decode cX4_turnKey 24 = .ok (.iload 5, 2) := by decide +kernel
theorem dX4_turnKey_26 : decode cX4_turnKey 26 = .ok (.iaload, 1) := by decide +kernel
theorem dX4_turnKey_27 : decode cX4_turnKey 27 = .ok (.iload_n 2, 1) := by decide +kernel
theorem dX4_turnKey_28 : decode cX4_turnKey 28 = .ok (.bipush 10, 2) := by decide +kernel
theorem dX4_turnKey_30 : decode cX4_turnKey 30 = .ok (.irem, 1) := by decide +kernel
theorem dX4_turnKey_31 : decode cX4_turnKey 31 = .ok (.imul, 1) := by decide +kernel
theorem dX4_turnKey_32 : decode cX4_turnKey 32 = .ok (.aload_n 0, 1) := by decide +kernel
theorem dX4_turnKey_33 : decode cX4_turnKey 33 = .ok (.getfield 21, 3) := by decide +kernel
theorem dX4_turnKey_36 : decode cX4_turnKey 36 = .ok (.iload 5, 2) := by decide +kernel
theorem dX4_turnKey_38 : decode cX4_turnKey 38 = .ok (.iaload, 1) := by decide +kernel
theorem dX4_turnKey_39 : decode cX4_turnKey 39 = .ok (.iadd, 1) := by decide +kernel
theorem dX4_turnKey_40 : decode cX4_turnKey 40 = .ok (.bipush 10, 2) := by decide +kernel
theorem dX4_turnKey_42 : decode cX4_turnKey 42 = .ok (.irem, 1) := by decide +kernel
theorem dX4_turnKey_43 : decode cX4_turnKey 43 = .ok (.iload 4, 2) := by decide +kernel
theorem dX4_turnKey_45 : decode cX4_turnKey 45 = .ok (.imul, 1) := by decide +kernel
theorem dX4_turnKey_46 : decode cX4_turnKey 46 = .ok (.iadd, 1) := by decide +kernel
theorem dX4_turnKey_47 : decode cX4_turnKey 47 = .ok (.istore_n 3, 1) := by decide +kernel
theorem dX4_turnKey_48 : decode cX4_turnKey 48 = .ok (.iload_n 2, 1) := by decide +kernel
theorem dX4_turnKey_49 : decode cX4_turnKey 49 = .ok (.bipush 10, 2) := by decide +kernel
theorem dX4_turnKey_51 : decode cX4_turnKey 51 = .ok (.idiv, 1) := by decide +kernel
theorem dX4_turnKey_52 : decode cX4_turnKey 52 = .ok (.istore_n 2, 1) := by decide +kernel
theorem dX4_turnKey_53 : decode cX4_turnKey 53 = .ok (.iload 4, 2) := by decide +kernel
theorem dX4_turnKey_55 : decode cX4_turnKey 55 = .ok (.bipush 10, 2) := by decide +kernel
theorem dX4_turnKey_57 : decode cX4_turnKey 57 = .ok (.imul, 1) := by decide +kernel
theorem dX4_turnKey_58 : decode cX4_turnKey 58 = .ok (.istore 4, 2) := by decide +kernel
theorem dX4_turnKey_60 : decode cX4_turnKey 60 = .ok (.iinc 5 1, 3) := by decide +kernel
theorem dX4_turnKey_63 : decode cX4_turnKey 63 = .ok (.goto (-50), 3) := by decide +kernel
theorem dX4_turnKey_66 : decode cX4_turnKey 66 = .ok (.iload_n 3, 1) := by decide +kernel
theorem dX4_turnKey_67 : decode cX4_turnKey 67 = .ok (.bipush 10, 2) := by decide +kernel
theorem dX4_turnKey_69 : decode cX4_turnKey 69 = .ok (.imul, 1) := by decide +kernel
theorem dX4_turnKey_70 : decode cX4_turnKey 70 = .ok (.iload_n 3, 1) := by decide +kernel
theorem dX4_turnKey_71 : decode cX4_turnKey 71 = .ok (.invokestatic 52, 3) := by decide +kernel
theorem dX4_turnKey_74 : decode cX4_turnKey 74 = .ok (.iadd, 1) := by decide +kernel
theorem dX4_turnKey_75 : decode cX4_turnKey 75 = .ok (.ireturn, 1) := by decide +kernel
theorem dX5_init_0 : decode cX5_init 0 = .ok (.aload_n 0, 1) := by decide +kernel
theorem dX5_init_1 : decode cX5_init 1 = .ok (.invokespecial 3, 3) := by decide +kernel
theorem dX5_init_4 : decode cX5_init 4 = .ok (.aload_n 0, 1) := by decide +kernel
theorem dX5_init_5 : decode cX5_init 5 = .ok (.bipush 6, 2) := by decide +kernel
theorem dX5_init_7 : decode cX5_init 7 = .ok (.newarray .int, 2) := by decide +kernel
theorem dX5_init_9 : decode cX5_init 9 = .ok (.putfield 9, 3) := by decide +kernel
theorem dX5_init_12 : decode cX5_init 12 = .ok (.aload_n 0, 1) := by decide +kernel
theorem dX5_init_13 : decode cX5_init 13 = .ok (.bipush 24, 2) := by decide +kernel
theorem dX5_init_15 : decode cX5_init 15 = .ok (.newarray .int, 2) := by decide +kernel
theorem dX5_init_17 : decode cX5_init 17 = .ok (.putfield 15, 3) := by decide +kernel
theorem dX5_init_20 : decode cX5_init 20 = .ok (.aload_n 0, 1) := by decide +kernel
theorem dX5_init_21 : decode cX5_init 21 = .ok (.sipush 288, 3) := by decide +kernel
theorem dX5_init_24 : decode cX5_init 24 = .ok (.newarray .int, 2) := by decide +kernel
theorem dX5_init_26 : decode cX5_init 26 = .ok (.putfield 18, 3) := by decide +kernel
theorem dX5_init_29 : decode cX5_init 29 = .ok (.aload_n 0, 1) := by decide +kernel
theorem dX5_init_30 : decode cX5_init 30 = .ok (.bipush 12, 2) := by decide +kernel
theorem dX5_init_32 : decode cX5_init 32 = .ok (.newarray .int, 2) := by decide +kernel
theorem dX5_init_34 : decode cX5_init 34 = .ok (.putfield 21, 3) := by decide +kernel
theorem dX5_init_37 : decode cX5_init 37 = .ok (.aload_n 0, 1) := by decide +kernel
theorem dX5_init_38 : decode cX5_init 38 = .ok (.iconst 0, 1) := by decide +kernel
theorem dX5_init_39 : decode cX5_init 39 = .ok (.putfield 24, 3) := by decide +kernel
theorem dX5_init_42 : decode cX5_init 42 = .ok (.aload_n 0, 1) := by decide +kernel
theorem dX5_init_43 : decode cX5_init 43 = .ok (.iconst 0, 1) := by decide +kernel
theorem dX5_init_44 : decode cX5_init 44 = .ok (.putfield 28, 3) := by decide +kernel
theorem dX5_init_47 : decode cX5_init 47 = .ok (.return_, 1) := by decide +kernel
theorem dX5_widthAt_0 : decode cX5_widthAt 0 = .ok (.iload_n 0, 1) := by decide +kernel
theorem dX5_widthAt_1 : decode cX5_widthAt 1 = .ok (.ifCond .lt 16, 3) := by decide +kernel
theorem dX5_widthAt_4 : decode cX5_widthAt 4 = .ok (.iload_n 0, 1) := by decide +kernel
theorem dX5_widthAt_5 : decode cX5_widthAt 5 = .ok (.iconst 4, 1) := by decide +kernel
theorem dX5_widthAt_6 : decode cX5_widthAt 6 = .ok (.if_icmp .ge 11, 3) := by decide +kernel
theorem dX5_widthAt_9 : decode cX5_widthAt 9 = .ok (.getstatic 31, 3) := by decide +kernel
theorem dX5_widthAt_12 : decode cX5_widthAt 12 = .ok (.iload_n 0, 1) := by decide +kernel
theorem dX5_widthAt_13 : decode cX5_widthAt 13 = .ok (.iaload, 1) := by decide +kernel
theorem dX5_widthAt_14 : decode cX5_widthAt 14 = .ok (.goto 4, 3) := by decide +kernel
theorem dX5_widthAt_17 : decode cX5_widthAt 17 = .ok (.iconst 1, 1) := by decide +kernel
theorem dX5_widthAt_18 : decode cX5_widthAt 18 = .ok (.ireturn, 1) := by decide +kernel
theorem dX5_begin_0 : decode cX5_begin 0 = .ok (.aload_n 0, 1) := by decide +kernel
theorem dX5_begin_1 : decode cX5_begin 1 = .ok (.iconst 0, 1) := by decide +kernel
theorem dX5_begin_2 : decode cX5_begin 2 = .ok (.putfield 24, 3) := by decide +kernel
theorem dX5_begin_5 : decode cX5_begin 5 = .ok (.aload_n 0, 1) := by decide +kernel
theorem dX5_begin_6 : decode cX5_begin 6 = .ok (.iload_n 1, 1) := by decide +kernel
theorem dX5_begin_7 : decode cX5_begin 7 = .ok (.bipush 12, 2) := by decide +kernel
theorem dX5_begin_9 : decode cX5_begin 9 = .ok (.invokestatic 34, 3) := by decide +kernel
theorem dX5_begin_12 : decode cX5_begin 12 = .ok (.putfield 28, 3) := by decide +kernel
theorem dX5_begin_15 : decode cX5_begin 15 = .ok (.return_, 1) := by decide +kernel
theorem dX5_addColumn_0 : decode cX5_addColumn 0 = .ok (.aload_n 0, 1) := by decide +kernel
theorem dX5_addColumn_1 : decode cX5_addColumn 1 = .ok (.getfield 24, 3) := by decide +kernel
theorem dX5_addColumn_4 : decode cX5_addColumn 4 = .ok (.bipush 6, 2) := by decide +kernel
theorem dX5_addColumn_6 : decode cX5_addColumn 6 = .ok (.if_icmp .lt 5, 3) := by decide +kernel
theorem dX5_addColumn_9 : decode cX5_addColumn 9 = .ok (.iconst (-1), 1) := by decide +kernel
theorem dX5_addColumn_10 : decode cX5_addColumn 10 = .ok (.ireturn, 1) := by decide +kernel
theorem dX5_addColumn_11 : decode cX5_addColumn 11 = .ok (.aload_n 0, 1) := by decide +kernel
theorem dX5_addColumn_12 : decode cX5_addColumn 12 = .ok (.getfield 9, 3) := by decide +kernel
theorem dX5_addColumn_15 : decode cX5_addColumn 15 = .ok (.aload_n 0, 1) := by decide +kernel
theorem dX5_addColumn_16 : decode cX5_addColumn 16 = .ok (.getfield 24, 3) := by decide +kernel
theorem dX5_addColumn_19 : decode cX5_addColumn 19 = .ok (.iload_n 1, 1) := by decide +kernel
theorem dX5_addColumn_20 : decode cX5_addColumn 20 = .ok (.iastore, 1) := by decide +kernel
theorem dX5_addColumn_21 : decode cX5_addColumn 21 = .ok (.aload_n 0, 1) := by decide +kernel
theorem dX5_addColumn_22 : decode cX5_addColumn 22 = .ok (.dup, 1) := by decide +kernel
theorem dX5_addColumn_23 : decode cX5_addColumn 23 = .ok (.getfield 24, 3) := by decide +kernel
theorem dX5_addColumn_26 : decode cX5_addColumn 26 = .ok (.iconst 1, 1) := by decide +kernel
theorem dX5_addColumn_27 : decode cX5_addColumn 27 = .ok (.iadd, 1) := by decide +kernel
theorem dX5_addColumn_28 : decode cX5_addColumn 28 = .ok (.putfield 24, 3) := by decide +kernel
theorem dX5_addColumn_31 : decode cX5_addColumn 31 = .ok (.aload_n 0, 1) := by decide +kernel
theorem dX5_addColumn_32 : decode cX5_addColumn 32 = .ok (.getfield 24, 3) := by decide +kernel
theorem dX5_addColumn_35 : decode cX5_addColumn 35 = .ok (.iconst 1, 1) := by decide +kernel
theorem dX5_addColumn_36 : decode cX5_addColumn 36 = .ok (.isub, 1) := by decide +kernel
theorem dX5_addColumn_37 : decode cX5_addColumn 37 = .ok (.ireturn, 1) := by decide +kernel
theorem dX5_columnNumber_0 : decode cX5_columnNumber 0 = .ok (.iload_n 1, 1) := by decide +kernel
theorem dX5_columnNumber_1 : decode cX5_columnNumber 1 = .ok (.ifCond .lt 20, 3) := by decide +kernel
theorem dX5_columnNumber_4 : decode cX5_columnNumber 4 = .ok (.iload_n 1, 1) := by decide +kernel
theorem dX5_columnNumber_5 : decode cX5_columnNumber 5 = .ok (.aload_n 0, 1) := by decide +kernel
theorem dX5_columnNumber_6 : decode cX5_columnNumber 6 = .ok (.getfield 24, 3) := by decide +kernel
theorem dX5_columnNumber_9 : decode cX5_columnNumber 9 = .ok (.if_icmp .ge 12, 3) := by decide +kernel
theorem dX5_columnNumber_12 : decode cX5_columnNumber 12 = .ok (.aload_n 0, 1) := by decide +kernel
theorem dX5_columnNumber_13 : decode cX5_columnNumber 13 = .ok (.getfield 9, 3) := by decide +kernel
theorem dX5_columnNumber_16 : decode cX5_columnNumber 16 = .ok (.iload_n 1, 1) := by decide +kernel
theorem dX5_columnNumber_17 : decode cX5_columnNumber 17 = .ok (.iaload, 1) := by decide +kernel
theorem dX5_columnNumber_18 : decode cX5_columnNumber 18 = .ok (.goto 4, 3) := by decide +kernel
theorem dX5_columnNumber_21 : decode cX5_columnNumber 21 = .ok (.iconst (-1), 1) := by decide +kernel
theorem dX5_columnNumber_22 : decode cX5_columnNumber 22 = .ok (.ireturn, 1) := by decide +kernel
theorem dX5_setLoss_0 : decode cX5_setLoss 0 = .ok (.aload_n 0, 1) := by decide +kernel
theorem dX5_setLoss_1 : decode cX5_setLoss 1 = .ok (.iload_n 1, 1) := by decide +kernel
theorem dX5_setLoss_2 : decode cX5_setLoss 2 = .ok (.iload_n 2, 1) := by decide +kernel
theorem dX5_setLoss_3 : decode cX5_setLoss 3 = .ok (.invokevirtual 40, 3) := by decide +kernel
theorem dX5_setLoss_6 : decode cX5_setLoss 6 = .ok (.ifCond .eq 14, 3) := by decide +kernel
theorem dX5_setLoss_9 : decode cX5_setLoss 9 = .ok (.aload_n 0, 1) := by decide +kernel
theorem dX5_setLoss_10 : decode cX5_setLoss 10 = .ok (.getfield 15, 3) := by decide +kernel
theorem dX5_setLoss_13 : decode cX5_setLoss 13 = .ok (.iload_n 1, 1) := by decide +kernel
theorem dX5_setLoss_14 : decode cX5_setLoss 14 = .ok (.iconst 4, 1) := by decide +kernel
theorem dX5_setLoss_15 : decode cX5_setLoss 15 = .ok (.imul, 1) := by decide +kernel
theorem dX5_setLoss_16 : decode cX5_setLoss 16 = .ok (.iload_n 2, 1) := by decide +kernel
theorem dX5_setLoss_17 : decode cX5_setLoss 17 = .ok (.iadd, 1) := by decide +kernel
theorem dX5_setLoss_18 : decode cX5_setLoss 18 = .ok (.iload_n 3, 1) := by decide +kernel
theorem dX5_setLoss_19 : decode cX5_setLoss 19 = .ok (.iastore, 1) := by decide +kernel
theorem dX5_setLoss_20 : decode cX5_setLoss 20 = .ok (.return_, 1) := by decide +kernel
theorem dX5_setSame_0 : decode cX5_setSame 0 = .ok (.aload_n 0, 1) := by decide +kernel
theorem dX5_setSame_1 : decode cX5_setSame 1 = .ok (.iload_n 1, 1) := by decide +kernel
theorem dX5_setSame_2 : decode cX5_setSame 2 = .ok (.iload_n 2, 1) := by decide +kernel
theorem dX5_setSame_3 : decode cX5_setSame 3 = .ok (.invokevirtual 40, 3) := by decide +kernel
theorem dX5_setSame_6 : decode cX5_setSame 6 = .ok (.ifCond .eq 32, 3) := by decide +kernel
theorem dX5_setSame_9 : decode cX5_setSame 9 = .ok (.iload_n 3, 1) := by decide +kernel
theorem dX5_setSame_10 : decode cX5_setSame 10 = .ok (.ifCond .lt 28, 3) := by decide +kernel
theorem dX5_setSame_13 : decode cX5_setSame 13 = .ok (.iload_n 3, 1) := by decide +kernel
theorem dX5_setSame_14 : decode cX5_setSame 14 = .ok (.aload_n 0, 1) := by decide +kernel
theorem dX5_setSame_15 : decode cX5_setSame 15 = .ok (.getfield 28, 3) := by decide +kernel
theorem dX5_setSame_18 : decode cX5_setSame 18 = .ok (.if_icmp .ge 20, 3) := by decide +kernel
theorem dX5_setSame_21 : decode cX5_setSame 21 = .ok (.aload_n 0, 1) := by decide +kernel
theorem dX5_setSame_22 : decode cX5_setSame 22 = .ok (.getfield 18, 3) := by decide +kernel
theorem dX5_setSame_25 : decode cX5_setSame 25 = .ok (.iload_n 1, 1) := by decide +kernel
theorem dX5_setSame_26 : decode cX5_setSame 26 = .ok (.iconst 4, 1) := by decide +kernel
theorem dX5_setSame_27 : decode cX5_setSame 27 = .ok (.imul, 1) := by decide +kernel
theorem dX5_setSame_28 : decode cX5_setSame 28 = .ok (.iload_n 2, 1) := by decide +kernel
theorem dX5_setSame_29 : decode cX5_setSame 29 = .ok (.iadd, 1) := by decide +kernel
theorem dX5_setSame_30 : decode cX5_setSame 30 = .ok (.bipush 12, 2) := by decide +kernel
theorem dX5_setSame_32 : decode cX5_setSame 32 = .ok (.imul, 1) := by decide +kernel
theorem dX5_setSame_33 : decode cX5_setSame 33 = .ok (.iload_n 3, 1) := by decide +kernel
theorem dX5_setSame_34 : decode cX5_setSame 34 = .ok (.iadd, 1) := by decide +kernel
theorem dX5_setSame_35 : decode cX5_setSame 35 = .ok (.iload 4, 2) := by decide +kernel
theorem dX5_setSame_37 : decode cX5_setSame 37 = .ok (.iastore, 1) := by decide +kernel
theorem dX5_setSame_38 : decode cX5_setSame 38 = .ok (.return_, 1) := by decide +kernel
theorem dX5_setOthers_0 : decode cX5_setOthers 0 = .ok (.iload_n 1, 1) := by decide +kernel
theorem dX5_setOthers_1 : decode cX5_setOthers 1 = .ok (.ifCond .lt 18, 3) := by decide +kernel
theorem dX5_setOthers_4 : decode cX5_setOthers 4 = .ok (.iload_n 1, 1) := by decide +kernel
theorem dX5_setOthers_5 : decode cX5_setOthers 5 = .ok (.aload_n 0, 1) := by decide +kernel
theorem dX5_setOthers_6 : decode cX5_setOthers 6 = .ok (.getfield 28, 3) := by decide +kernel
theorem dX5_setOthers_9 : decode cX5_setOthers 9 = .ok (.if_icmp .ge 10, 3) := by decide +kernel
theorem dX5_setOthers_12 : decode cX5_setOthers 12 = .ok (.aload_n 0, 1) := by decide +kernel
theorem dX5_setOthers_13 : decode cX5_setOthers 13 = .ok (.getfield 21, 3) := by decide +kernel
theorem dX5_setOthers_16 : decode cX5_setOthers 16 = .ok (.iload_n 1, 1) := by decide +kernel
theorem dX5_setOthers_17 : decode cX5_setOthers 17 = .ok (.iload_n 2, 1) := by decide +kernel
theorem dX5_setOthers_18 : decode cX5_setOthers 18 = .ok (.iastore, 1) := by decide +kernel
theorem dX5_setOthers_19 : decode cX5_setOthers 19 = .ok (.return_, 1) := by decide +kernel
theorem dX5_isChoice_0 : decode cX5_isChoice 0 = .ok (.iload_n 1, 1) := by decide +kernel
theorem dX5_isChoice_1 : decode cX5_isChoice 1 = .ok (.ifCond .lt 24, 3) := by decide +kernel
theorem dX5_isChoice_4 : decode cX5_isChoice 4 = .ok (.iload_n 1, 1) := by decide +kernel
theorem dX5_isChoice_5 : decode cX5_isChoice 5 = .ok (.aload_n 0, 1) := by decide +kernel
theorem dX5_isChoice_6 : decode cX5_isChoice 6 = .ok (.getfield 24, 3) := by decide +kernel
theorem dX5_isChoice_9 : decode cX5_isChoice 9 = .ok (.if_icmp .ge 16, 3) := by decide +kernel
theorem dX5_isChoice_12 : decode cX5_isChoice 12 = .ok (.iload_n 2, 1) := by decide +kernel
theorem dX5_isChoice_13 : decode cX5_isChoice 13 = .ok (.ifCond .lt 12, 3) := by decide +kernel
theorem dX5_isChoice_16 : decode cX5_isChoice 16 = .ok (.iload_n 2, 1) := by decide +kernel
theorem dX5_isChoice_17 : decode cX5_isChoice 17 = .ok (.iconst 4, 1) := by decide +kernel
theorem dX5_isChoice_18 : decode cX5_isChoice 18 = .ok (.if_icmp .ge 7, 3) := by decide +kernel
theorem dX5_isChoice_21 : decode cX5_isChoice 21 = .ok (.iconst 1, 1) := by decide +kernel
theorem dX5_isChoice_22 : decode cX5_isChoice 22 = .ok (.goto 4, 3) := by decide +kernel
theorem dX5_isChoice_25 : decode cX5_isChoice 25 = .ok (.iconst 0, 1) := by decide +kernel
theorem dX5_isChoice_26 : decode cX5_isChoice 26 = .ok (.ireturn, 1) := by decide +kernel
theorem dX5_choiceOf_0 : decode cX5_choiceOf 0 = .ok (.iload_n 1, 1) := by decide +kernel
theorem dX5_choiceOf_1 : decode cX5_choiceOf 1 = .ok (.iconst 2, 1) := by decide +kernel
theorem dX5_choiceOf_2 : decode cX5_choiceOf 2 = .ok (.aload_n 0, 1) := by decide +kernel
theorem dX5_choiceOf_3 : decode cX5_choiceOf 3 = .ok (.getfield 24, 3) := by decide +kernel
theorem dX5_choiceOf_6 : decode cX5_choiceOf 6 = .ok (.iconst 1, 1) := by decide +kernel
theorem dX5_choiceOf_7 : decode cX5_choiceOf 7 = .ok (.isub, 1) := by decide +kernel
theorem dX5_choiceOf_8 : decode cX5_choiceOf 8 = .ok (.iload_n 2, 1) := by decide +kernel
theorem dX5_choiceOf_9 : decode cX5_choiceOf 9 = .ok (.isub, 1) := by decide +kernel
theorem dX5_choiceOf_10 : decode cX5_choiceOf 10 = .ok (.imul, 1) := by decide +kernel
theorem dX5_choiceOf_11 : decode cX5_choiceOf 11 = .ok (.ishr, 1) := by decide +kernel
theorem dX5_choiceOf_12 : decode cX5_choiceOf 12 = .ok (.iconst 3, 1) := by decide +kernel
theorem dX5_choiceOf_13 : decode cX5_choiceOf 13 = .ok (.iand, 1) := by decide +kernel
theorem dX5_choiceOf_14 : decode cX5_choiceOf 14 = .ok (.ireturn, 1) := by decide +kernel
theorem dX5_lossOf_0 : decode cX5_lossOf 0 = .ok (.iconst 0, 1) := by decide +kernel
theorem dX5_lossOf_1 : decode cX5_lossOf 1 = .ok (.istore_n 2, 1) := by decide +kernel
theorem dX5_lossOf_2 : decode cX5_lossOf 2 = .ok (.iconst 0, 1) := by decide +kernel
theorem dX5_lossOf_3 : decode cX5_lossOf 3 = .ok (.istore_n 3, 1) := by decide +kernel
theorem dX5_lossOf_4 : decode cX5_lossOf 4 = .ok (.iload_n 3, 1) := by decide +kernel
theorem dX5_lossOf_5 : decode cX5_lossOf 5 = .ok (.aload_n 0, 1) := by decide +kernel
theorem dX5_lossOf_6 : decode cX5_lossOf 6 = .ok (.getfield 24, 3) := by decide +kernel
theorem dX5_lossOf_9 : decode cX5_lossOf 9 = .ok (.if_icmp .ge 27, 3) := by decide +kernel
theorem dX5_lossOf_12 : decode cX5_lossOf 12 = .ok (.iload_n 2, 1) := by decide +kernel
theorem dX5_lossOf_13 : decode cX5_lossOf 13 = .ok (.aload_n 0, 1) := by decide +kernel
theorem dX5_lossOf_14 : decode cX5_lossOf 14 = .ok (.getfield 15, 3) := by decide +kernel
theorem dX5_lossOf_17 : decode cX5_lossOf 17 = .ok (.iload_n 3, 1) := by decide +kernel
theorem dX5_lossOf_18 : decode cX5_lossOf 18 = .ok (.iconst 4, 1) := by decide +kernel
theorem dX5_lossOf_19 : decode cX5_lossOf 19 = .ok (.imul, 1) := by decide +kernel
theorem dX5_lossOf_20 : decode cX5_lossOf 20 = .ok (.aload_n 0, 1) := by decide +kernel
theorem dX5_lossOf_21 : decode cX5_lossOf 21 = .ok (.iload_n 1, 1) := by decide +kernel
theorem dX5_lossOf_22 : decode cX5_lossOf 22 = .ok (.iload_n 3, 1) := by decide +kernel
theorem dX5_lossOf_23 : decode cX5_lossOf 23 = .ok (.invokevirtual 44, 3) := by decide +kernel
theorem dX5_lossOf_26 : decode cX5_lossOf 26 = .ok (.iadd, 1) := by decide +kernel
theorem dX5_lossOf_27 : decode cX5_lossOf 27 = .ok (.iaload, 1) := by decide +kernel
theorem dX5_lossOf_28 : decode cX5_lossOf 28 = .ok (.iadd, 1) := by decide +kernel
theorem dX5_lossOf_29 : decode cX5_lossOf 29 = .ok (.istore_n 2, 1) := by decide +kernel
theorem dX5_lossOf_30 : decode cX5_lossOf 30 = .ok (.iinc 3 1, 3) := by decide +kernel
theorem dX5_lossOf_33 : decode cX5_lossOf 33 = .ok (.goto (-29), 3) := by decide +kernel
theorem dX5_lossOf_36 : decode cX5_lossOf 36 = .ok (.iload_n 2, 1) := by decide +kernel
theorem dX5_lossOf_37 : decode cX5_lossOf 37 = .ok (.ireturn, 1) := by decide +kernel
theorem dX5_isSafe_0 : decode cX5_isSafe 0 = .ok (.iconst 0, 1) := by decide +kernel
theorem dX5_isSafe_1 : decode cX5_isSafe 1 = .ok (.istore_n 3, 1) := by decide +kernel
theorem dX5_isSafe_2 : decode cX5_isSafe 2 = .ok (.iload_n 3, 1) := by decide +kernel
theorem dX5_isSafe_3 : decode cX5_isSafe 3 = .ok (.aload_n 0, 1) := by decide +kernel
theorem dX5_isSafe_4 : decode cX5_isSafe 4 = .ok (.getfield 28, 3) := by decide +kernel
theorem dX5_isSafe_7 : decode cX5_isSafe 7 = .ok (.if_icmp .ge 73, 3) := by decide +kernel
theorem dX5_isSafe_10 : decode cX5_isSafe 10 = .ok (.aload_n 0, 1) := by decide +kernel
theorem dX5_isSafe_11 : decode cX5_isSafe 11 = .ok (.getfield 21, 3) := by decide +kernel
theorem dX5_isSafe_14 : decode cX5_isSafe 14 = .ok (.iload_n 3, 1) := by decide +kernel
theorem dX5_isSafe_15 : decode cX5_isSafe 15 = .ok (.iaload, 1) := by decide +kernel
theorem dX5_isSafe_16 : decode cX5_isSafe 16 = .ok (.istore 4, 2) := by decide +kernel
theorem dX5_isSafe_18 : decode cX5_isSafe 18 = .ok (.iconst 0, 1) := by decide +kernel
theorem dX5_isSafe_19 : decode cX5_isSafe 19 = .ok (.istore 5, 2) := by decide +kernel
theorem dX5_isSafe_21 : decode cX5_isSafe 21 = .ok (.iload 5, 2) := by decide +kernel
theorem dX5_isSafe_23 : decode cX5_isSafe 23 = .ok (.aload_n 0, 1) := by decide +kernel
theorem dX5_isSafe_24 : decode cX5_isSafe 24 = .ok (.getfield 24, 3) := by decide +kernel
theorem dX5_isSafe_27 : decode cX5_isSafe 27 = .ok (.if_icmp .ge 36, 3) := by decide +kernel
theorem dX5_isSafe_30 : decode cX5_isSafe 30 = .ok (.iload 4, 2) := by decide +kernel
theorem dX5_isSafe_32 : decode cX5_isSafe 32 = .ok (.aload_n 0, 1) := by decide +kernel
theorem dX5_isSafe_33 : decode cX5_isSafe 33 = .ok (.getfield 18, 3) := by decide +kernel
theorem dX5_isSafe_36 : decode cX5_isSafe 36 = .ok (.iload 5, 2) := by decide +kernel
theorem dX5_isSafe_38 : decode cX5_isSafe 38 = .ok (.iconst 4, 1) := by decide +kernel
theorem dX5_isSafe_39 : decode cX5_isSafe 39 = .ok (.imul, 1) := by decide +kernel
theorem dX5_isSafe_40 : decode cX5_isSafe 40 = .ok (.aload_n 0, 1) := by decide +kernel
theorem dX5_isSafe_41 : decode cX5_isSafe 41 = .ok (.iload_n 1, 1) := by decide +kernel
theorem dX5_isSafe_42 : decode cX5_isSafe 42 = .ok (.iload 5, 2) := by decide +kernel
theorem dX5_isSafe_44 : decode cX5_isSafe 44 = .ok (.invokevirtual 44, 3) := by decide +kernel
theorem dX5_isSafe_47 : decode cX5_isSafe 47 = .ok (.iadd, 1) := by decide +kernel
theorem dX5_isSafe_48 : decode cX5_isSafe 48 = .ok (.bipush 12, 2) := by decide +kernel
theorem dX5_isSafe_50 : decode cX5_isSafe 50 = .ok (.imul, 1) := by decide +kernel
theorem dX5_isSafe_51 : decode cX5_isSafe 51 = .ok (.iload_n 3, 1) := by decide +kernel
theorem dX5_isSafe_52 : decode cX5_isSafe 52 = .ok (.iadd, 1) := by decide +kernel
theorem dX5_isSafe_53 : decode cX5_isSafe 53 = .ok (.iaload, 1) := by decide +kernel
theorem dX5_isSafe_54 : decode cX5_isSafe 54 = .ok (.iand, 1) := by decide +kernel
theorem dX5_isSafe_55 : decode cX5_isSafe 55 = .ok (.istore 4, 2) := by decide +kernel
theorem dX5_isSafe_57 : decode cX5_isSafe 57 = .ok (.iinc 5 1, 3) := by decide +kernel
theorem dX5_isSafe_60 : decode cX5_isSafe 60 = .ok (.goto (-39), 3) := by decide +kernel
theorem dX5_isSafe_63 : decode cX5_isSafe 63 = .ok (.iload 4, 2) := by decide +kernel
theorem dX5_isSafe_65 : decode cX5_isSafe 65 = .ok (.invokestatic 47, 3) := by decide +kernel
theorem dX5_isSafe_68 : decode cX5_isSafe 68 = .ok (.iload_n 2, 1) := by decide +kernel
theorem dX5_isSafe_69 : decode cX5_isSafe 69 = .ok (.if_icmp .ge 5, 3) := by decide +kernel
theorem dX5_isSafe_72 : decode cX5_isSafe 72 = .ok (.iconst 0, 1) := by decide +kernel
theorem dX5_isSafe_73 : decode cX5_isSafe 73 = .ok (.ireturn, 1) := by decide +kernel
theorem dX5_isSafe_74 : decode cX5_isSafe 74 = .ok (.iinc 3 1, 3) := by decide +kernel
theorem dX5_isSafe_77 : decode cX5_isSafe 77 = .ok (.goto (-75), 3) := by decide +kernel
theorem dX5_isSafe_80 : decode cX5_isSafe 80 = .ok (.iconst 1, 1) := by decide +kernel
theorem dX5_isSafe_81 : decode cX5_isSafe 81 = .ok (.ireturn, 1) := by decide +kernel
theorem dX5_leastWay_0 : decode cX5_leastWay 0 = .ok (.iconst (-1), 1) := by decide +kernel
theorem dX5_leastWay_1 : decode cX5_leastWay 1 = .ok (.istore_n 2, 1) := by decide +kernel
theorem dX5_leastWay_2 : decode cX5_leastWay 2 = .ok (.iconst 0, 1) := by decide +kernel
theorem dX5_leastWay_3 : decode cX5_leastWay 3 = .ok (.istore_n 3, 1) := by decide +kernel
theorem dX5_leastWay_4 : decode cX5_leastWay 4 = .ok (.iconst 0, 1) := by decide +kernel
theorem dX5_leastWay_5 : decode cX5_leastWay 5 = .ok (.istore 4, 2) := by decide +kernel
theorem dX5_leastWay_7 : decode cX5_leastWay 7 = .ok (.iload 4, 2) := by decide +kernel
theorem dX5_leastWay_9 : decode cX5_leastWay 9 = .ok (.iconst 1, 1) := by decide +kernel
theorem dX5_leastWay_10 : decode cX5_leastWay 10 = .ok (.iconst 2, 1) := by decide +kernel
theorem dX5_leastWay_11 : decode cX5_leastWay 11 = .ok (.aload_n 0, 1) := by decide +kernel
theorem dX5_leastWay_12 : decode cX5_leastWay 12 = .ok (.getfield 24, 3) := by decide +kernel
theorem dX5_leastWay_15 : decode cX5_leastWay 15 = .ok (.imul, 1) := by decide +kernel
theorem dX5_leastWay_16 : decode cX5_leastWay 16 = .ok (.ishl, 1) := by decide +kernel
theorem dX5_leastWay_17 : decode cX5_leastWay 17 = .ok (.if_icmp .ge 44, 3) := by decide +kernel
theorem dX5_leastWay_20 : decode cX5_leastWay 20 = .ok (.aload_n 0, 1) := by decide +kernel
theorem dX5_leastWay_21 : decode cX5_leastWay 21 = .ok (.iload 4, 2) := by decide +kernel
theorem dX5_leastWay_23 : decode cX5_leastWay 23 = .ok (.invokevirtual 53, 3) := by decide +kernel
theorem dX5_leastWay_26 : decode cX5_leastWay 26 = .ok (.istore 5, 2) := by decide +kernel
theorem dX5_leastWay_28 : decode cX5_leastWay 28 = .ok (.iload_n 2, 1) := by decide +kernel
theorem dX5_leastWay_29 : decode cX5_leastWay 29 = .ok (.iconst (-1), 1) := by decide +kernel
theorem dX5_leastWay_30 : decode cX5_leastWay 30 = .ok (.if_icmp .eq 9, 3) := by decide +kernel
theorem dX5_leastWay_33 : decode cX5_leastWay 33 = .ok (.iload 5, 2) := by decide +kernel
theorem dX5_leastWay_35 : decode cX5_leastWay 35 = .ok (.iload_n 3, 1) := by decide +kernel
theorem dX5_leastWay_36 : decode cX5_leastWay 36 = .ok (.if_icmp .ge 19, 3) := by decide +kernel
theorem dX5_leastWay_39 : decode cX5_leastWay 39 = .ok (.aload_n 0, 1) := by decide +kernel
theorem dX5_leastWay_40 : decode cX5_leastWay 40 = .ok (.iload 4, 2) := by decide +kernel
theorem dX5_leastWay_42 : decode cX5_leastWay 42 = .ok (.iload_n 1, 1) := by decide +kernel
theorem dX5_leastWay_43 : decode cX5_leastWay 43 = .ok (.invokevirtual 56, 3) := by decide +kernel
theorem dX5_leastWay_46 : decode cX5_leastWay 46 = .ok (.ifCond .eq 9, 3) := by decide +kernel
theorem dX5_leastWay_49 : decode cX5_leastWay 49 = .ok (.iload 4, 2) := by decide +kernel
theorem dX5_leastWay_51 : decode cX5_leastWay 51 = .ok (.istore_n 2, 1) := by decide +kernel
theorem dX5_leastWay_52 : decode cX5_leastWay 52 = .ok (.iload 5, 2) := by decide +kernel
theorem dX5_leastWay_54 : decode cX5_leastWay 54 = .ok (.istore_n 3, 1) := by decide +kernel
theorem dX5_leastWay_55 : decode cX5_leastWay 55 = .ok (.iinc 4 1, 3) := by decide +kernel
theorem dX5_leastWay_58 : decode cX5_leastWay 58 = .ok (.goto (-51), 3) := by decide +kernel
theorem dX5_leastWay_61 : decode cX5_leastWay 61 = .ok (.iload_n 2, 1) := by decide +kernel
theorem dX5_leastWay_62 : decode cX5_leastWay 62 = .ok (.ireturn, 1) := by decide +kernel
theorem dX6_init_0 : decode cX6_init 0 = .ok (.aload_n 0, 1) := by decide +kernel
theorem dX6_init_1 : decode cX6_init 1 = .ok (.invokespecial 3, 3) := by decide +kernel
theorem dX6_init_4 : decode cX6_init 4 = .ok (.aload_n 0, 1) := by decide +kernel
theorem dX6_init_5 : decode cX6_init 5 = .ok (.iconst 4, 1) := by decide +kernel
theorem dX6_init_6 : decode cX6_init 6 = .ok (.anewarray 11, 3) := by decide +kernel
theorem dX6_init_9 : decode cX6_init 9 = .ok (.putfield 13, 3) := by decide +kernel
theorem dX6_init_12 : decode cX6_init 12 = .ok (.aload_n 0, 1) := by decide +kernel
theorem dX6_init_13 : decode cX6_init 13 = .ok (.bipush 8, 2) := by decide +kernel
theorem dX6_init_15 : decode cX6_init 15 = .ok (.anewarray 17, 3) := by decide +kernel
theorem dX6_init_18 : decode cX6_init 18 = .ok (.putfield 19, 3) := by decide +kernel
theorem dX6_init_21 : decode cX6_init 21 = .ok (.aload_n 0, 1) := by decide +kernel
theorem dX6_init_22 : decode cX6_init 22 = .ok (.bipush 6, 2) := by decide +kernel
theorem dX6_init_24 : decode cX6_init 24 = .ok (.newarray .int, 2) := by decide +kernel
theorem dX6_init_26 : decode cX6_init 26 = .ok (.putfield 23, 3) := by decide +kernel
theorem dX6_init_29 : decode cX6_init 29 = .ok (.aload_n 0, 1) := by decide +kernel
theorem dX6_init_30 : decode cX6_init 30 = .ok (.new 27, 3) := by decide +kernel
theorem dX6_init_33 : decode cX6_init 33 = .ok (.dup, 1) := by decide +kernel
theorem dX6_init_34 : decode cX6_init 34 = .ok (.invokespecial 29, 3) := by decide +kernel
theorem dX6_init_37 : decode cX6_init 37 = .ok (.putfield 30, 3) := by decide +kernel
theorem dX6_init_40 : decode cX6_init 40 = .ok (.aload_n 0, 1) := by decide +kernel
theorem dX6_init_41 : decode cX6_init 41 = .ok (.new 34, 3) := by decide +kernel
theorem dX6_init_44 : decode cX6_init 44 = .ok (.dup, 1) := by decide +kernel
theorem dX6_init_45 : decode cX6_init 45 = .ok (.invokespecial 36, 3) := by decide +kernel
theorem dX6_init_48 : decode cX6_init 48 = .ok (.putfield 37, 3) := by decide +kernel
theorem dX6_init_51 : decode cX6_init 51 = .ok (.aload_n 0, 1) := by decide +kernel
theorem dX6_init_52 : decode cX6_init 52 = .ok (.new 41, 3) := by decide +kernel
theorem dX6_init_55 : decode cX6_init 55 = .ok (.dup, 1) := by decide +kernel
theorem dX6_init_56 : decode cX6_init 56 = .ok (.invokespecial 43, 3) := by decide +kernel
theorem dX6_init_59 : decode cX6_init 59 = .ok (.putfield 44, 3) := by decide +kernel
theorem dX6_init_62 : decode cX6_init 62 = .ok (.aload_n 0, 1) := by decide +kernel
theorem dX6_init_63 : decode cX6_init 63 = .ok (.new 27, 3) := by decide +kernel
theorem dX6_init_66 : decode cX6_init 66 = .ok (.dup, 1) := by decide +kernel
theorem dX6_init_67 : decode cX6_init 67 = .ok (.invokespecial 29, 3) := by decide +kernel
theorem dX6_init_70 : decode cX6_init 70 = .ok (.putfield 48, 3) := by decide +kernel
theorem dX6_init_73 : decode cX6_init 73 = .ok (.aload_n 0, 1) := by decide +kernel
theorem dX6_init_74 : decode cX6_init 74 = .ok (.new 27, 3) := by decide +kernel
theorem dX6_init_77 : decode cX6_init 77 = .ok (.dup, 1) := by decide +kernel
theorem dX6_init_78 : decode cX6_init 78 = .ok (.invokespecial 29, 3) := by decide +kernel
theorem dX6_init_81 : decode cX6_init 81 = .ok (.putfield 51, 3) := by decide +kernel
theorem dX6_init_84 : decode cX6_init 84 = .ok (.aload_n 0, 1) := by decide +kernel
theorem dX6_init_85 : decode cX6_init 85 = .ok (.iconst 0, 1) := by decide +kernel
theorem dX6_init_86 : decode cX6_init 86 = .ok (.putfield 54, 3) := by decide +kernel
theorem dX6_init_89 : decode cX6_init 89 = .ok (.aload_n 0, 1) := by decide +kernel
theorem dX6_init_90 : decode cX6_init 90 = .ok (.iconst 0, 1) := by decide +kernel
theorem dX6_init_91 : decode cX6_init 91 = .ok (.putfield 58, 3) := by decide +kernel
theorem dX6_init_94 : decode cX6_init 94 = .ok (.aload_n 0, 1) := by decide +kernel
theorem dX6_init_95 : decode cX6_init 95 = .ok (.iconst 0, 1) := by decide +kernel
theorem dX6_init_96 : decode cX6_init 96 = .ok (.putfield 61, 3) := by decide +kernel
theorem dX6_init_99 : decode cX6_init 99 = .ok (.aload_n 0, 1) := by decide +kernel
theorem dX6_init_100 : decode cX6_init 100 = .ok (.iconst 0, 1) := by decide +kernel
theorem dX6_init_101 : decode cX6_init 101 = .ok (.putfield 64, 3) := by decide +kernel
theorem dX6_init_104 : decode cX6_init 104 = .ok (.aload_n 0, 1) := by decide +kernel
theorem dX6_init_105 : decode cX6_init 105 = .ok (.iconst 0, 1) := by decide +kernel
theorem dX6_init_106 : decode cX6_init 106 = .ok (.putfield 67, 3) := by decide +kernel
theorem dX6_init_109 : decode cX6_init 109 = .ok (.iconst 0, 1) := by decide +kernel
theorem dX6_init_110 : decode cX6_init 110 = .ok (.istore_n 1, 1) := by decide +kernel
theorem dX6_init_111 : decode cX6_init 111 = .ok (.iload_n 1, 1) := by decide +kernel
theorem dX6_init_112 : decode cX6_init 112 = .ok (.iconst 4, 1) := by decide +kernel
theorem dX6_init_113 : decode cX6_init 113 = .ok (.if_icmp .ge 22, 3) := by decide +kernel
theorem dX6_init_116 : decode cX6_init 116 = .ok (.aload_n 0, 1) := by decide +kernel
theorem dX6_init_117 : decode cX6_init 117 = .ok (.getfield 13, 3) := by decide +kernel
theorem dX6_init_120 : decode cX6_init 120 = .ok (.iload_n 1, 1) := by decide +kernel
theorem dX6_init_121 : decode cX6_init 121 = .ok (.new 11, 3) := by decide +kernel
theorem dX6_init_124 : decode cX6_init 124 = .ok (.dup, 1) := by decide +kernel
theorem dX6_init_125 : decode cX6_init 125 = .ok (.invokespecial 71, 3) := by decide +kernel
theorem dX6_init_128 : decode cX6_init 128 = .ok (.aastore, 1) := by decide +kernel
theorem dX6_init_129 : decode cX6_init 129 = .ok (.iinc 1 1, 3) := by decide +kernel
theorem dX6_init_132 : decode cX6_init 132 = .ok (.goto (-21), 3) := by decide +kernel
theorem dX6_init_135 : decode cX6_init 135 = .ok (.iconst 0, 1) := by decide +kernel
theorem dX6_init_136 : decode cX6_init 136 = .ok (.istore_n 1, 1) := by decide +kernel
theorem dX6_init_137 : decode cX6_init 137 = .ok (.iload_n 1, 1) := by decide +kernel
theorem dX6_init_138 : decode cX6_init 138 = .ok (.bipush 8, 2) := by decide +kernel
theorem dX6_init_140 : decode cX6_init 140 = .ok (.if_icmp .ge 22, 3) := by decide +kernel
theorem dX6_init_143 : decode cX6_init 143 = .ok (.aload_n 0, 1) := by decide +kernel
theorem dX6_init_144 : decode cX6_init 144 = .ok (.getfield 19, 3) := by decide +kernel
theorem dX6_init_147 : decode cX6_init 147 = .ok (.iload_n 1, 1) := by decide +kernel
theorem dX6_init_148 : decode cX6_init 148 = .ok (.new 17, 3) := by decide +kernel
theorem dX6_init_151 : decode cX6_init 151 = .ok (.dup, 1) := by decide +kernel
theorem dX6_init_152 : decode cX6_init 152 = .ok (.invokespecial 72, 3) := by decide +kernel
theorem dX6_init_155 : decode cX6_init 155 = .ok (.aastore, 1) := by decide +kernel
theorem dX6_init_156 : decode cX6_init 156 = .ok (.iinc 1 1, 3) := by decide +kernel
theorem dX6_init_159 : decode cX6_init 159 = .ok (.goto (-22), 3) := by decide +kernel
theorem dX6_init_162 : decode cX6_init 162 = .ok (.return_, 1) := by decide +kernel
theorem dX6_table_0 : decode cX6_table 0 = .ok (.aload_n 0, 1) := by decide +kernel
theorem dX6_table_1 : decode cX6_table 1 = .ok (.getfield 54, 3) := by decide +kernel
theorem dX6_table_4 : decode cX6_table 4 = .ok (.iconst 4, 1) := by decide +kernel
theorem dX6_table_5 : decode cX6_table 5 = .ok (.if_icmp .lt 6, 3) := by decide +kernel
theorem dX6_table_8 : decode cX6_table 8 = .ok (.bipush (-4), 2) := by decide +kernel
theorem dX6_table_10 : decode cX6_table 10 = .ok (.ireturn, 1) := by decide +kernel
theorem dX6_table_11 : decode cX6_table 11 = .ok (.aload_n 0, 1) := by decide +kernel
theorem dX6_table_12 : decode cX6_table 12 = .ok (.iconst 0, 1) := by decide +kernel
theorem dX6_table_13 : decode cX6_table 13 = .ok (.putfield 67, 3) := by decide +kernel
theorem dX6_table_16 : decode cX6_table 16 = .ok (.aload_n 0, 1) := by decide +kernel
theorem dX6_table_17 : decode cX6_table 17 = .ok (.dup, 1) := by decide +kernel
theorem dX6_table_18 : decode cX6_table 18 = .ok (.getfield 54, 3) := by decide +kernel
theorem dX6_table_21 : decode cX6_table 21 = .ok (.iconst 1, 1) := by decide +kernel
theorem dX6_table_22 : decode cX6_table 22 = .ok (.iadd, 1) := by decide +kernel
theorem dX6_table_23 : decode cX6_table 23 = .ok (.putfield 54, 3) := by decide +kernel
theorem dX6_table_26 : decode cX6_table 26 = .ok (.aload_n 0, 1) := by decide +kernel
theorem dX6_table_27 : decode cX6_table 27 = .ok (.getfield 54, 3) := by decide +kernel
theorem dX6_table_30 : decode cX6_table 30 = .ok (.iconst 1, 1) := by decide +kernel
theorem dX6_table_31 : decode cX6_table 31 = .ok (.isub, 1) := by decide +kernel
theorem dX6_table_32 : decode cX6_table 32 = .ok (.ireturn, 1) := by decide +kernel
theorem dX6_column_0 : decode cX6_column 0 = .ok (.aload_n 0, 1) := by decide +kernel
theorem dX6_column_1 : decode cX6_column 1 = .ok (.iload_n 1, 1) := by decide +kernel
theorem dX6_column_2 : decode cX6_column 2 = .ok (.invokevirtual 73, 3) := by decide +kernel
theorem dX6_column_5 : decode cX6_column 5 = .ok (.astore 4, 2) := by decide +kernel
theorem dX6_column_7 : decode cX6_column 7 = .ok (.aload 4, 2) := by decide +kernel
theorem dX6_column_9 : decode cX6_column 9 = .ok (.ifnull 16, 3) := by decide +kernel
theorem dX6_column_12 : decode cX6_column 12 = .ok (.iload_n 2, 1) := by decide +kernel
theorem dX6_column_13 : decode cX6_column 13 = .ok (.iconst 1, 1) := by decide +kernel
theorem dX6_column_14 : decode cX6_column 14 = .ok (.if_icmp .ne 13, 3) := by decide +kernel
theorem dX6_column_17 : decode cX6_column 17 = .ok (.aload_n 0, 1) := by decide +kernel
theorem dX6_column_18 : decode cX6_column 18 = .ok (.iload_n 3, 1) := by decide +kernel
theorem dX6_column_19 : decode cX6_column 19 = .ok (.invokevirtual 73, 3) := by decide +kernel
theorem dX6_column_22 : decode cX6_column 22 = .ok (.ifnonnull 5, 3) := by decide +kernel
theorem dX6_column_25 : decode cX6_column 25 = .ok (.iconst (-1), 1) := by decide +kernel
theorem dX6_column_26 : decode cX6_column 26 = .ok (.ireturn, 1) := by decide +kernel
theorem dX6_column_27 : decode cX6_column 27 = .ok (.iload_n 2, 1) := by decide +kernel
theorem dX6_column_28 : decode cX6_column 28 = .ok (.iconst 1, 1) := by decide +kernel
theorem dX6_column_29 : decode cX6_column 29 = .ok (.if_icmp .lt 17, 3) := by decide +kernel
theorem dX6_column_32 : decode cX6_column 32 = .ok (.iload_n 2, 1) := by decide +kernel
theorem dX6_column_33 : decode cX6_column 33 = .ok (.iconst 4, 1) := by decide +kernel
theorem dX6_column_34 : decode cX6_column 34 = .ok (.if_icmp .gt 12, 3) := by decide +kernel
theorem dX6_column_37 : decode cX6_column 37 = .ok (.iload_n 2, 1) := by decide +kernel
theorem dX6_column_38 : decode cX6_column 38 = .ok (.iconst 1, 1) := by decide +kernel
theorem dX6_column_39 : decode cX6_column 39 = .ok (.if_icmp .eq 10, 3) := by decide +kernel
theorem dX6_column_42 : decode cX6_column 42 = .ok (.iload_n 3, 1) := by decide +kernel
theorem dX6_column_43 : decode cX6_column 43 = .ok (.ifCond .eq 6, 3) := by decide +kernel
theorem dX6_column_46 : decode cX6_column 46 = .ok (.bipush (-2), 2) := by decide +kernel
theorem dX6_column_48 : decode cX6_column 48 = .ok (.ireturn, 1) := by decide +kernel
theorem dX6_column_49 : decode cX6_column 49 = .ok (.aload 4, 2) := by decide +kernel
theorem dX6_column_51 : decode cX6_column 51 = .ok (.getfield 77, 3) := by decide +kernel
theorem dX6_column_54 : decode cX6_column 54 = .ok (.ifCond .le 6, 3) := by decide +kernel
theorem dX6_column_57 : decode cX6_column 57 = .ok (.bipush (-3), 2) := by decide +kernel
theorem dX6_column_59 : decode cX6_column 59 = .ok (.ireturn, 1) := by decide +kernel
theorem dX6_column_60 : decode cX6_column 60 = .ok (.aload 4, 2) := by decide +kernel
theorem dX6_column_62 : decode cX6_column 62 = .ok (.getfield 80, 3) := by decide +kernel
theorem dX6_column_65 : decode cX6_column 65 = .ok (.bipush 6, 2) := by decide +kernel
theorem dX6_column_67 : decode cX6_column 67 = .ok (.if_icmp .lt 6, 3) := by decide +kernel
theorem dX6_column_70 : decode cX6_column 70 = .ok (.bipush (-4), 2) := by decide +kernel
theorem dX6_column_72 : decode cX6_column 72 = .ok (.ireturn, 1) := by decide +kernel
theorem dX6_column_73 : decode cX6_column 73 = .ok (.aload_n 0, 1) := by decide +kernel
theorem dX6_column_74 : decode cX6_column 74 = .ok (.iconst 0, 1) := by decide +kernel
theorem dX6_column_75 : decode cX6_column 75 = .ok (.putfield 67, 3) := by decide +kernel
theorem dX6_column_78 : decode cX6_column 78 = .ok (.aload 4, 2) := by decide +kernel
theorem dX6_column_80 : decode cX6_column 80 = .ok (.iload_n 2, 1) := by decide +kernel
theorem dX6_column_81 : decode cX6_column 81 = .ok (.iload_n 3, 1) := by decide +kernel
theorem dX6_column_82 : decode cX6_column 82 = .ok (.invokevirtual 83, 3) := by decide +kernel
theorem dX6_column_85 : decode cX6_column 85 = .ok (.ireturn, 1) := by decide +kernel
theorem dX6_cell_0 : decode cX6_cell 0 = .ok (.aload_n 0, 1) := by decide +kernel
theorem dX6_cell_1 : decode cX6_cell 1 = .ok (.getfield 61, 3) := by decide +kernel
theorem dX6_cell_4 : decode cX6_cell 4 = .ok (.bipush 6, 2) := by decide +kernel
theorem dX6_cell_6 : decode cX6_cell 6 = .ok (.if_icmp .lt 6, 3) := by decide +kernel
theorem dX6_cell_9 : decode cX6_cell 9 = .ok (.bipush (-4), 2) := by decide +kernel
theorem dX6_cell_11 : decode cX6_cell 11 = .ok (.ireturn, 1) := by decide +kernel
theorem dX6_cell_12 : decode cX6_cell 12 = .ok (.aload_n 0, 1) := by decide +kernel
theorem dX6_cell_13 : decode cX6_cell 13 = .ok (.getfield 23, 3) := by decide +kernel
theorem dX6_cell_16 : decode cX6_cell 16 = .ok (.aload_n 0, 1) := by decide +kernel
theorem dX6_cell_17 : decode cX6_cell 17 = .ok (.getfield 61, 3) := by decide +kernel
theorem dX6_cell_20 : decode cX6_cell 20 = .ok (.iload_n 1, 1) := by decide +kernel
theorem dX6_cell_21 : decode cX6_cell 21 = .ok (.iastore, 1) := by decide +kernel
theorem dX6_cell_22 : decode cX6_cell 22 = .ok (.aload_n 0, 1) := by decide +kernel
theorem dX6_cell_23 : decode cX6_cell 23 = .ok (.dup, 1) := by decide +kernel
theorem dX6_cell_24 : decode cX6_cell 24 = .ok (.getfield 61, 3) := by decide +kernel
theorem dX6_cell_27 : decode cX6_cell 27 = .ok (.iconst 1, 1) := by decide +kernel
theorem dX6_cell_28 : decode cX6_cell 28 = .ok (.iadd, 1) := by decide +kernel
theorem dX6_cell_29 : decode cX6_cell 29 = .ok (.putfield 61, 3) := by decide +kernel
theorem dX6_cell_32 : decode cX6_cell 32 = .ok (.aload_n 0, 1) := by decide +kernel
theorem dX6_cell_33 : decode cX6_cell 33 = .ok (.getfield 61, 3) := by decide +kernel
theorem dX6_cell_36 : decode cX6_cell 36 = .ok (.ireturn, 1) := by decide +kernel
theorem dX6_row_0 : decode cX6_row 0 = .ok (.aload_n 0, 1) := by decide +kernel
theorem dX6_row_1 : decode cX6_row 1 = .ok (.iload_n 1, 1) := by decide +kernel
theorem dX6_row_2 : decode cX6_row 2 = .ok (.invokevirtual 73, 3) := by decide +kernel
theorem dX6_row_5 : decode cX6_row 5 = .ok (.astore_n 2, 1) := by decide +kernel
theorem dX6_row_6 : decode cX6_row 6 = .ok (.aload_n 2, 1) := by decide +kernel
theorem dX6_row_7 : decode cX6_row 7 = .ok (.ifnonnull 5, 3) := by decide +kernel
theorem dX6_row_10 : decode cX6_row 10 = .ok (.iconst (-1), 1) := by decide +kernel
theorem dX6_row_11 : decode cX6_row 11 = .ok (.ireturn, 1) := by decide +kernel
theorem dX6_row_12 : decode cX6_row 12 = .ok (.aload_n 0, 1) := by decide +kernel
theorem dX6_row_13 : decode cX6_row 13 = .ok (.aload_n 2, 1) := by decide +kernel
theorem dX6_row_14 : decode cX6_row 14 = .ok (.invokevirtual 87, 3) := by decide +kernel
theorem dX6_row_17 : decode cX6_row 17 = .ok (.ifCond .ne 6, 3) := by decide +kernel
theorem dX6_row_20 : decode cX6_row 20 = .ok (.bipush (-2), 2) := by decide +kernel
theorem dX6_row_22 : decode cX6_row 22 = .ok (.ireturn, 1) := by decide +kernel
theorem dX6_row_23 : decode cX6_row 23 = .ok (.aload_n 0, 1) := by decide +kernel
theorem dX6_row_24 : decode cX6_row 24 = .ok (.aload_n 0, 1) := by decide +kernel
theorem dX6_row_25 : decode cX6_row 25 = .ok (.getfield 30, 3) := by decide +kernel
theorem dX6_row_28 : decode cX6_row 28 = .ok (.iload_n 1, 1) := by decide +kernel
theorem dX6_row_29 : decode cX6_row 29 = .ok (.iconst 0, 1) := by decide +kernel
theorem dX6_row_30 : decode cX6_row 30 = .ok (.aload_n 0, 1) := by decide +kernel
theorem dX6_row_31 : decode cX6_row 31 = .ok (.getfield 23, 3) := by decide +kernel
theorem dX6_row_34 : decode cX6_row 34 = .ok (.iconst 0, 1) := by decide +kernel
theorem dX6_row_35 : decode cX6_row 35 = .ok (.iaload, 1) := by decide +kernel
theorem dX6_row_36 : decode cX6_row 36 = .ok (.invokevirtual 91, 3) := by decide +kernel
theorem dX6_row_39 : decode cX6_row 39 = .ok (.ifCond .le 6, 3) := by decide +kernel
theorem dX6_row_42 : decode cX6_row 42 = .ok (.bipush (-3), 2) := by decide +kernel
theorem dX6_row_44 : decode cX6_row 44 = .ok (.ireturn, 1) := by decide +kernel
theorem dX6_row_45 : decode cX6_row 45 = .ok (.aload_n 2, 1) := by decide +kernel
theorem dX6_row_46 : decode cX6_row 46 = .ok (.getfield 77, 3) := by decide +kernel
theorem dX6_row_49 : decode cX6_row 49 = .ok (.bipush 12, 2) := by decide +kernel
theorem dX6_row_51 : decode cX6_row 51 = .ok (.if_icmp .lt 6, 3) := by decide +kernel
theorem dX6_row_54 : decode cX6_row 54 = .ok (.bipush (-4), 2) := by decide +kernel
theorem dX6_row_56 : decode cX6_row 56 = .ok (.ireturn, 1) := by decide +kernel
theorem dX6_row_57 : decode cX6_row 57 = .ok (.aload_n 2, 1) := by decide +kernel
theorem dX6_row_58 : decode cX6_row 58 = .ok (.getfield 77, 3) := by decide +kernel
theorem dX6_row_61 : decode cX6_row 61 = .ok (.istore_n 3, 1) := by decide +kernel
theorem dX6_row_62 : decode cX6_row 62 = .ok (.iconst 0, 1) := by decide +kernel
theorem dX6_row_63 : decode cX6_row 63 = .ok (.istore 4, 2) := by decide +kernel
theorem dX6_row_65 : decode cX6_row 65 = .ok (.iload 4, 2) := by decide +kernel
theorem dX6_row_67 : decode cX6_row 67 = .ok (.aload_n 0, 1) := by decide +kernel
theorem dX6_row_68 : decode cX6_row 68 = .ok (.getfield 61, 3) := by decide +kernel
theorem dX6_row_71 : decode cX6_row 71 = .ok (.if_icmp .ge 27, 3) := by decide +kernel
theorem dX6_row_74 : decode cX6_row 74 = .ok (.aload_n 0, 1) := by decide +kernel
theorem dX6_row_75 : decode cX6_row 75 = .ok (.getfield 30, 3) := by decide +kernel
theorem dX6_row_78 : decode cX6_row 78 = .ok (.iload_n 1, 1) := by decide +kernel
theorem dX6_row_79 : decode cX6_row 79 = .ok (.iload_n 3, 1) := by decide +kernel
theorem dX6_row_80 : decode cX6_row 80 = .ok (.iload 4, 2) := by decide +kernel
theorem dX6_row_82 : decode cX6_row 82 = .ok (.aload_n 0, 1) := by decide +kernel
theorem dX6_row_83 : decode cX6_row 83 = .ok (.getfield 23, 3) := by decide +kernel
theorem dX6_row_86 : decode cX6_row 86 = .ok (.iload 4, 2) := by decide +kernel
theorem dX6_row_88 : decode cX6_row 88 = .ok (.iaload, 1) := by decide +kernel
theorem dX6_row_89 : decode cX6_row 89 = .ok (.invokevirtual 95, 3) := by decide +kernel
theorem dX6_row_92 : decode cX6_row 92 = .ok (.iinc 4 1, 3) := by decide +kernel
theorem dX6_row_95 : decode cX6_row 95 = .ok (.goto (-30), 3) := by decide +kernel
theorem dX6_row_98 : decode cX6_row 98 = .ok (.aload_n 2, 1) := by decide +kernel
theorem dX6_row_99 : decode cX6_row 99 = .ok (.iload_n 3, 1) := by decide +kernel
theorem dX6_row_100 : decode cX6_row 100 = .ok (.iconst 1, 1) := by decide +kernel
theorem dX6_row_101 : decode cX6_row 101 = .ok (.iadd, 1) := by decide +kernel
theorem dX6_row_102 : decode cX6_row 102 = .ok (.putfield 77, 3) := by decide +kernel
theorem dX6_row_105 : decode cX6_row 105 = .ok (.aload_n 0, 1) := by decide +kernel
theorem dX6_row_106 : decode cX6_row 106 = .ok (.iconst 0, 1) := by decide +kernel
theorem dX6_row_107 : decode cX6_row 107 = .ok (.putfield 61, 3) := by decide +kernel
theorem dX6_row_110 : decode cX6_row 110 = .ok (.aload_n 0, 1) := by decide +kernel
theorem dX6_row_111 : decode cX6_row 111 = .ok (.iconst 0, 1) := by decide +kernel
theorem dX6_row_112 : decode cX6_row 112 = .ok (.putfield 67, 3) := by decide +kernel
theorem dX6_row_115 : decode cX6_row 115 = .ok (.iload_n 3, 1) := by decide +kernel
theorem dX6_row_116 : decode cX6_row 116 = .ok (.ireturn, 1) := by decide +kernel
theorem dX6_wipe_0 : decode cX6_wipe 0 = .ok (.aload_n 0, 1) := by decide +kernel
theorem dX6_wipe_1 : decode cX6_wipe 1 = .ok (.getfield 61, 3) := by decide +kernel
theorem dX6_wipe_4 : decode cX6_wipe 4 = .ok (.istore_n 1, 1) := by decide +kernel
theorem dX6_wipe_5 : decode cX6_wipe 5 = .ok (.aload_n 0, 1) := by decide +kernel
theorem dX6_wipe_6 : decode cX6_wipe 6 = .ok (.iconst 0, 1) := by decide +kernel
theorem dX6_wipe_7 : decode cX6_wipe 7 = .ok (.putfield 61, 3) := by decide +kernel
theorem dX6_wipe_10 : decode cX6_wipe 10 = .ok (.iload_n 1, 1) := by decide +kernel
theorem dX6_wipe_11 : decode cX6_wipe 11 = .ok (.ireturn, 1) := by decide +kernel
theorem dX6_owner_0 : decode cX6_owner 0 = .ok (.aload_n 0, 1) := by decide +kernel
theorem dX6_owner_1 : decode cX6_owner 1 = .ok (.iload_n 1, 1) := by decide +kernel
theorem dX6_owner_2 : decode cX6_owner 2 = .ok (.invokevirtual 73, 3) := by decide +kernel
theorem dX6_owner_5 : decode cX6_owner 5 = .ok (.astore_n 3, 1) := by decide +kernel
theorem dX6_owner_6 : decode cX6_owner 6 = .ok (.aload_n 0, 1) := by decide +kernel
theorem dX6_owner_7 : decode cX6_owner 7 = .ok (.iload_n 1, 1) := by decide +kernel
theorem dX6_owner_8 : decode cX6_owner 8 = .ok (.iload_n 2, 1) := by decide +kernel
theorem dX6_owner_9 : decode cX6_owner 9 = .ok (.invokevirtual 99, 3) := by decide +kernel
theorem dX6_owner_12 : decode cX6_owner 12 = .ok (.astore 4, 2) := by decide +kernel
theorem dX6_owner_14 : decode cX6_owner 14 = .ok (.aload_n 3, 1) := by decide +kernel
theorem dX6_owner_15 : decode cX6_owner 15 = .ok (.ifnull 8, 3) := by decide +kernel
theorem dX6_owner_18 : decode cX6_owner 18 = .ok (.aload 4, 2) := by decide +kernel
theorem dX6_owner_20 : decode cX6_owner 20 = .ok (.ifnonnull 5, 3) := by decide +kernel
theorem dX6_owner_23 : decode cX6_owner 23 = .ok (.iconst (-1), 1) := by decide +kernel
theorem dX6_owner_24 : decode cX6_owner 24 = .ok (.ireturn, 1) := by decide +kernel
theorem dX6_owner_25 : decode cX6_owner 25 = .ok (.aload 4, 2) := by decide +kernel
theorem dX6_owner_27 : decode cX6_owner 27 = .ok (.getfield 103, 3) := by decide +kernel
theorem dX6_owner_30 : decode cX6_owner 30 = .ok (.iconst 1, 1) := by decide +kernel
theorem dX6_owner_31 : decode cX6_owner 31 = .ok (.if_icmp .eq 14, 3) := by decide +kernel
theorem dX6_owner_34 : decode cX6_owner 34 = .ok (.aload 4, 2) := by decide +kernel
theorem dX6_owner_36 : decode cX6_owner 36 = .ok (.getfield 103, 3) := by decide +kernel
theorem dX6_owner_39 : decode cX6_owner 39 = .ok (.ifCond .eq 6, 3) := by decide +kernel
theorem dX6_owner_42 : decode cX6_owner 42 = .ok (.bipush (-2), 2) := by decide +kernel
theorem dX6_owner_44 : decode cX6_owner 44 = .ok (.ireturn, 1) := by decide +kernel
theorem dX6_owner_45 : decode cX6_owner 45 = .ok (.aload_n 3, 1) := by decide +kernel
theorem dX6_owner_46 : decode cX6_owner 46 = .ok (.getfield 108, 3) := by decide +kernel
theorem dX6_owner_49 : decode cX6_owner 49 = .ok (.istore 5, 2) := by decide +kernel
theorem dX6_owner_51 : decode cX6_owner 51 = .ok (.aload_n 3, 1) := by decide +kernel
theorem dX6_owner_52 : decode cX6_owner 52 = .ok (.iload_n 2, 1) := by decide +kernel
theorem dX6_owner_53 : decode cX6_owner 53 = .ok (.putfield 108, 3) := by decide +kernel
theorem dX6_owner_56 : decode cX6_owner 56 = .ok (.iload 5, 2) := by decide +kernel
theorem dX6_owner_58 : decode cX6_owner 58 = .ok (.ireturn, 1) := by decide +kernel
theorem dX6_mask_0 : decode cX6_mask 0 = .ok (.aload_n 0, 1) := by decide +kernel
theorem dX6_mask_1 : decode cX6_mask 1 = .ok (.iload_n 1, 1) := by decide +kernel
theorem dX6_mask_2 : decode cX6_mask 2 = .ok (.iload_n 2, 1) := by decide +kernel
theorem dX6_mask_3 : decode cX6_mask 3 = .ok (.invokevirtual 99, 3) := by decide +kernel
theorem dX6_mask_6 : decode cX6_mask 6 = .ok (.astore 5, 2) := by decide +kernel
theorem dX6_mask_8 : decode cX6_mask 8 = .ok (.aload 5, 2) := by decide +kernel
theorem dX6_mask_10 : decode cX6_mask 10 = .ok (.ifnonnull 5, 3) := by decide +kernel
theorem dX6_mask_13 : decode cX6_mask 13 = .ok (.iconst (-1), 1) := by decide +kernel
theorem dX6_mask_14 : decode cX6_mask 14 = .ok (.ireturn, 1) := by decide +kernel
theorem dX6_mask_15 : decode cX6_mask 15 = .ok (.aload 5, 2) := by decide +kernel
theorem dX6_mask_17 : decode cX6_mask 17 = .ok (.getfield 103, 3) := by decide +kernel
theorem dX6_mask_20 : decode cX6_mask 20 = .ok (.iload_n 3, 1) := by decide +kernel
theorem dX6_mask_21 : decode cX6_mask 21 = .ok (.invokestatic 111, 3) := by decide +kernel
theorem dX6_mask_24 : decode cX6_mask 24 = .ok (.ifCond .eq 12, 3) := by decide +kernel
theorem dX6_mask_27 : decode cX6_mask 27 = .ok (.iload_n 3, 1) := by decide +kernel
theorem dX6_mask_28 : decode cX6_mask 28 = .ok (.iload 4, 2) := by decide +kernel
theorem dX6_mask_30 : decode cX6_mask 30 = .ok (.invokestatic 115, 3) := by decide +kernel
theorem dX6_mask_33 : decode cX6_mask 33 = .ok (.ifCond .ne 6, 3) := by decide +kernel
theorem dX6_mask_36 : decode cX6_mask 36 = .ok (.bipush (-2), 2) := by decide +kernel
theorem dX6_mask_38 : decode cX6_mask 38 = .ok (.ireturn, 1) := by decide +kernel
theorem dX6_mask_39 : decode cX6_mask 39 = .ok (.aload 5, 2) := by decide +kernel
theorem dX6_mask_41 : decode cX6_mask 41 = .ok (.iload_n 3, 1) := by decide +kernel
theorem dX6_mask_42 : decode cX6_mask 42 = .ok (.putfield 118, 3) := by decide +kernel
theorem dX6_mask_45 : decode cX6_mask 45 = .ok (.aload 5, 2) := by decide +kernel
theorem dX6_mask_47 : decode cX6_mask 47 = .ok (.iload 4, 2) := by decide +kernel
theorem dX6_mask_49 : decode cX6_mask 49 = .ok (.putfield 121, 3) := by decide +kernel
theorem dX6_mask_52 : decode cX6_mask 52 = .ok (.iconst 0, 1) := by decide +kernel
theorem dX6_mask_53 : decode cX6_mask 53 = .ok (.ireturn, 1) := by decide +kernel
theorem dX6_dial_0 : decode cX6_dial 0 = .ok (.aload_n 0, 1) := by decide +kernel
theorem dX6_dial_1 : decode cX6_dial 1 = .ok (.iload_n 1, 1) := by decide +kernel
theorem dX6_dial_2 : decode cX6_dial 2 = .ok (.invokevirtual 73, 3) := by decide +kernel
theorem dX6_dial_5 : decode cX6_dial 5 = .ok (.astore 6, 2) := by decide +kernel
theorem dX6_dial_7 : decode cX6_dial 7 = .ok (.aload_n 0, 1) := by decide +kernel
theorem dX6_dial_8 : decode cX6_dial 8 = .ok (.iload_n 1, 1) := by decide +kernel
theorem dX6_dial_9 : decode cX6_dial 9 = .ok (.iload_n 2, 1) := by decide +kernel
theorem dX6_dial_10 : decode cX6_dial 10 = .ok (.invokevirtual 99, 3) := by decide +kernel
theorem dX6_dial_13 : decode cX6_dial 13 = .ok (.astore 7, 2) := by decide +kernel
theorem dX6_dial_15 : decode cX6_dial 15 = .ok (.aload 6, 2) := by decide +kernel
theorem dX6_dial_17 : decode cX6_dial 17 = .ok (.ifnull 8, 3) := by decide +kernel
theorem dX6_dial_20 : decode cX6_dial 20 = .ok (.aload 7, 2) := by decide +kernel
theorem dX6_dial_22 : decode cX6_dial 22 = .ok (.ifnonnull 5, 3) := by decide +kernel
theorem dX6_dial_25 : decode cX6_dial 25 = .ok (.iconst (-1), 1) := by decide +kernel
theorem dX6_dial_26 : decode cX6_dial 26 = .ok (.ireturn, 1) := by decide +kernel
theorem dX6_dial_27 : decode cX6_dial 27 = .ok (.aload 7, 2) := by decide +kernel
theorem dX6_dial_29 : decode cX6_dial 29 = .ok (.getfield 103, 3) := by decide +kernel
theorem dX6_dial_32 : decode cX6_dial 32 = .ok (.ifCond .ne 14, 3) := by decide +kernel
theorem dX6_dial_35 : decode cX6_dial 35 = .ok (.aload 6, 2) := by decide +kernel
theorem dX6_dial_37 : decode cX6_dial 37 = .ok (.iload_n 3, 1) := by decide +kernel
theorem dX6_dial_38 : decode cX6_dial 38 = .ok (.iload 4, 2) := by decide +kernel
theorem dX6_dial_40 : decode cX6_dial 40 = .ok (.iload 5, 2) := by decide +kernel
theorem dX6_dial_42 : decode cX6_dial 42 = .ok (.invokestatic 124, 3) := by decide +kernel
theorem dX6_dial_45 : decode cX6_dial 45 = .ok (.ireturn, 1) := by decide +kernel
theorem dX6_dial_46 : decode cX6_dial 46 = .ok (.aload 7, 2) := by decide +kernel
theorem dX6_dial_48 : decode cX6_dial 48 = .ok (.getfield 103, 3) := by decide +kernel
theorem dX6_dial_51 : decode cX6_dial 51 = .ok (.iconst 4, 1) := by decide +kernel
theorem dX6_dial_52 : decode cX6_dial 52 = .ok (.if_icmp .ne 7, 3) := by decide +kernel
theorem dX6_dial_55 : decode cX6_dial 55 = .ok (.iload_n 3, 1) := by decide +kernel
theorem dX6_dial_56 : decode cX6_dial 56 = .ok (.ifCond .eq 5, 3) := by decide +kernel
theorem dX6_dial_59 : decode cX6_dial 59 = .ok (.iconst (-1), 1) := by decide +kernel
theorem dX6_dial_60 : decode cX6_dial 60 = .ok (.ireturn, 1) := by decide +kernel
theorem dX6_dial_61 : decode cX6_dial 61 = .ok (.iload 4, 2) := by decide +kernel
theorem dX6_dial_63 : decode cX6_dial 63 = .ok (.iconst 1, 1) := by decide +kernel
theorem dX6_dial_64 : decode cX6_dial 64 = .ok (.if_icmp .lt 36, 3) := by decide +kernel
theorem dX6_dial_67 : decode cX6_dial 67 = .ok (.iload 4, 2) := by decide +kernel
theorem dX6_dial_69 : decode cX6_dial 69 = .ok (.bipush 99, 2) := by decide +kernel
theorem dX6_dial_71 : decode cX6_dial 71 = .ok (.if_icmp .gt 29, 3) := by decide +kernel
theorem dX6_dial_74 : decode cX6_dial 74 = .ok (.iload 4, 2) := by decide +kernel
theorem dX6_dial_76 : decode cX6_dial 76 = .ok (.iconst 2, 1) := by decide +kernel
theorem dX6_dial_77 : decode cX6_dial 77 = .ok (.irem, 1) := by decide +kernel
theorem dX6_dial_78 : decode cX6_dial 78 = .ok (.ifCond .eq 22, 3) := by decide +kernel
theorem dX6_dial_81 : decode cX6_dial 81 = .ok (.iload 4, 2) := by decide +kernel
theorem dX6_dial_83 : decode cX6_dial 83 = .ok (.iconst 5, 1) := by decide +kernel
theorem dX6_dial_84 : decode cX6_dial 84 = .ok (.irem, 1) := by decide +kernel
theorem dX6_dial_85 : decode cX6_dial 85 = .ok (.ifCond .eq 15, 3) := by decide +kernel
theorem dX6_dial_88 : decode cX6_dial 88 = .ok (.iload 5, 2) := by decide +kernel
theorem dX6_dial_90 : decode cX6_dial 90 = .ok (.ifCond .lt 10, 3) := by decide +kernel
theorem dX6_dial_93 : decode cX6_dial 93 = .ok (.iload 5, 2) := by decide +kernel
theorem dX6_dial_95 : decode cX6_dial 95 = .ok (.bipush 99, 2) := by decide +kernel
theorem dX6_dial_97 : decode cX6_dial 97 = .ok (.if_icmp .le 6, 3) := by decide +kernel
theorem dX6_dial_100 : decode cX6_dial 100 = .ok (.bipush (-2), 2) := by decide +kernel
theorem dX6_dial_102 : decode cX6_dial 102 = .ok (.ireturn, 1) := by decide +kernel
theorem dX6_dial_103 : decode cX6_dial 103 = .ok (.aload 7, 2) := by decide +kernel
theorem dX6_dial_105 : decode cX6_dial 105 = .ok (.iload 4, 2) := by decide +kernel
theorem dX6_dial_107 : decode cX6_dial 107 = .ok (.putfield 128, 3) := by decide +kernel
theorem dX6_dial_110 : decode cX6_dial 110 = .ok (.aload 7, 2) := by decide +kernel
theorem dX6_dial_112 : decode cX6_dial 112 = .ok (.iload 5, 2) := by decide +kernel
theorem dX6_dial_114 : decode cX6_dial 114 = .ok (.putfield 131, 3) := by decide +kernel
theorem dX6_dial_117 : decode cX6_dial 117 = .ok (.iconst 0, 1) := by decide +kernel
theorem dX6_dial_118 : decode cX6_dial 118 = .ok (.ireturn, 1) := by decide +kernel
theorem dX6_seed_0 : decode cX6_seed 0 = .ok (.iload_n 1, 1) := by decide +kernel
theorem dX6_seed_1 : decode cX6_seed 1 = .ok (.ifCond .lt 9, 3) := by decide +kernel
theorem dX6_seed_4 : decode cX6_seed 4 = .ok (.iload_n 1, 1) := by decide +kernel
theorem dX6_seed_5 : decode cX6_seed 5 = .ok (.bipush 60, 2) := by decide +kernel
theorem dX6_seed_7 : decode cX6_seed 7 = .ok (.if_icmp .le 6, 3) := by decide +kernel
theorem dX6_seed_10 : decode cX6_seed 10 = .ok (.bipush (-2), 2) := by decide +kernel
theorem dX6_seed_12 : decode cX6_seed 12 = .ok (.ireturn, 1) := by decide +kernel
theorem dX6_seed_13 : decode cX6_seed 13 = .ok (.aload_n 0, 1) := by decide +kernel
theorem dX6_seed_14 : decode cX6_seed 14 = .ok (.getfield 64, 3) := by decide +kernel
theorem dX6_seed_17 : decode cX6_seed 17 = .ok (.istore_n 2, 1) := by decide +kernel
theorem dX6_seed_18 : decode cX6_seed 18 = .ok (.aload_n 0, 1) := by decide +kernel
theorem dX6_seed_19 : decode cX6_seed 19 = .ok (.iload_n 1, 1) := by decide +kernel
theorem dX6_seed_20 : decode cX6_seed 20 = .ok (.putfield 64, 3) := by decide +kernel
theorem dX6_seed_23 : decode cX6_seed 23 = .ok (.iload_n 2, 1) := by decide +kernel
theorem dX6_seed_24 : decode cX6_seed 24 = .ok (.ireturn, 1) := by decide +kernel
theorem dX6_order_0 : decode cX6_order 0 = .ok (.aload_n 0, 1) := by decide +kernel
theorem dX6_order_1 : decode cX6_order 1 = .ok (.iload_n 1, 1) := by decide +kernel
theorem dX6_order_2 : decode cX6_order 2 = .ok (.iload_n 2, 1) := by decide +kernel
theorem dX6_order_3 : decode cX6_order 3 = .ok (.invokevirtual 99, 3) := by decide +kernel
theorem dX6_order_6 : decode cX6_order 6 = .ok (.astore 4, 2) := by decide +kernel
theorem dX6_order_8 : decode cX6_order 8 = .ok (.aload_n 0, 1) := by decide +kernel
theorem dX6_order_9 : decode cX6_order 9 = .ok (.iload_n 1, 1) := by decide +kernel
theorem dX6_order_10 : decode cX6_order 10 = .ok (.iload_n 3, 1) := by decide +kernel
theorem dX6_order_11 : decode cX6_order 11 = .ok (.invokevirtual 99, 3) := by decide +kernel
theorem dX6_order_14 : decode cX6_order 14 = .ok (.astore 5, 2) := by decide +kernel
theorem dX6_order_16 : decode cX6_order 16 = .ok (.aload 4, 2) := by decide +kernel
theorem dX6_order_18 : decode cX6_order 18 = .ok (.ifnull 8, 3) := by decide +kernel
theorem dX6_order_21 : decode cX6_order 21 = .ok (.aload 5, 2) := by decide +kernel
theorem dX6_order_23 : decode cX6_order 23 = .ok (.ifnonnull 5, 3) := by decide +kernel
theorem dX6_order_26 : decode cX6_order 26 = .ok (.iconst (-1), 1) := by decide +kernel
theorem dX6_order_27 : decode cX6_order 27 = .ok (.ireturn, 1) := by decide +kernel
theorem dX6_order_28 : decode cX6_order 28 = .ok (.iload_n 2, 1) := by decide +kernel
theorem dX6_order_29 : decode cX6_order 29 = .ok (.iload_n 3, 1) := by decide +kernel
theorem dX6_order_30 : decode cX6_order 30 = .ok (.if_icmp .eq 21, 3) := by decide +kernel
theorem dX6_order_33 : decode cX6_order 33 = .ok (.aload 4, 2) := by decide +kernel
theorem dX6_order_35 : decode cX6_order 35 = .ok (.getfield 103, 3) := by decide +kernel
theorem dX6_order_38 : decode cX6_order 38 = .ok (.iconst 2, 1) := by decide +kernel
theorem dX6_order_39 : decode cX6_order 39 = .ok (.if_icmp .ne 12, 3) := by decide +kernel
theorem dX6_order_42 : decode cX6_order 42 = .ok (.aload 5, 2) := by decide +kernel
theorem dX6_order_44 : decode cX6_order 44 = .ok (.getfield 103, 3) := by decide +kernel
theorem dX6_order_47 : decode cX6_order 47 = .ok (.iconst 2, 1) := by decide +kernel
theorem dX6_order_48 : decode cX6_order 48 = .ok (.if_icmp .eq 6, 3) := by decide +kernel
theorem dX6_order_51 : decode cX6_order 51 = .ok (.bipush (-2), 2) := by decide +kernel
theorem dX6_order_53 : decode cX6_order 53 = .ok (.ireturn, 1) := by decide +kernel
theorem dX6_order_54 : decode cX6_order 54 = .ok (.aload_n 0, 1) := by decide +kernel
theorem dX6_order_55 : decode cX6_order 55 = .ok (.invokevirtual 134, 3) := by decide +kernel
theorem dX6_order_58 : decode cX6_order 58 = .ok (.astore 6, 2) := by decide +kernel
theorem dX6_order_60 : decode cX6_order 60 = .ok (.aload 6, 2) := by decide +kernel
theorem dX6_order_62 : decode cX6_order 62 = .ok (.ifnonnull 6, 3) := by decide +kernel
theorem dX6_order_65 : decode cX6_order 65 = .ok (.bipush (-4), 2) := by decide +kernel
theorem dX6_order_67 : decode cX6_order 67 = .ok (.ireturn, 1) := by decide +kernel
theorem dX6_order_68 : decode cX6_order 68 = .ok (.aload 6, 2) := by decide +kernel
theorem dX6_order_70 : decode cX6_order 70 = .ok (.iload_n 1, 1) := by decide +kernel
theorem dX6_order_71 : decode cX6_order 71 = .ok (.iload_n 2, 1) := by decide +kernel
theorem dX6_order_72 : decode cX6_order 72 = .ok (.iload_n 3, 1) := by decide +kernel
theorem dX6_order_73 : decode cX6_order 73 = .ok (.invokevirtual 138, 3) := by decide +kernel
theorem dX6_order_76 : decode cX6_order 76 = .ok (.aload_n 0, 1) := by decide +kernel
theorem dX6_order_77 : decode cX6_order 77 = .ok (.invokevirtual 142, 3) := by decide +kernel
theorem dX6_order_80 : decode cX6_order 80 = .ok (.ireturn, 1) := by decide +kernel
theorem dX6_agree_0 : decode cX6_agree 0 = .ok (.aload_n 0, 1) := by decide +kernel
theorem dX6_agree_1 : decode cX6_agree 1 = .ok (.iload_n 1, 1) := by decide +kernel
theorem dX6_agree_2 : decode cX6_agree 2 = .ok (.iload_n 2, 1) := by decide +kernel
theorem dX6_agree_3 : decode cX6_agree 3 = .ok (.invokevirtual 99, 3) := by decide +kernel
theorem dX6_agree_6 : decode cX6_agree 6 = .ok (.astore 7, 2) := by decide +kernel
theorem dX6_agree_8 : decode cX6_agree 8 = .ok (.aload_n 0, 1) := by decide +kernel
theorem dX6_agree_9 : decode cX6_agree 9 = .ok (.iload_n 3, 1) := by decide +kernel
theorem dX6_agree_10 : decode cX6_agree 10 = .ok (.iload 4, 2) := by decide +kernel
theorem dX6_agree_12 : decode cX6_agree 12 = .ok (.invokevirtual 99, 3) := by decide +kernel
theorem dX6_agree_15 : decode cX6_agree 15 = .ok (.astore 8, 2) := by decide +kernel
theorem dX6_agree_17 : decode cX6_agree 17 = .ok (.aload_n 0, 1) := by decide +kernel
theorem dX6_agree_18 : decode cX6_agree 18 = .ok (.iload_n 3, 1) := by decide +kernel
theorem dX6_agree_19 : decode cX6_agree 19 = .ok (.iload 5, 2) := by decide +kernel
theorem dX6_agree_21 : decode cX6_agree 21 = .ok (.invokevirtual 99, 3) := by decide +kernel
theorem dX6_agree_24 : decode cX6_agree 24 = .ok (.astore 9, 2) := by decide +kernel
theorem dX6_agree_26 : decode cX6_agree 26 = .ok (.aload 7, 2) := by decide +kernel
theorem dX6_agree_28 : decode cX6_agree 28 = .ok (.ifnull 13, 3) := by decide +kernel
theorem dX6_agree_31 : decode cX6_agree 31 = .ok (.aload 8, 2) := by decide +kernel
theorem dX6_agree_33 : decode cX6_agree 33 = .ok (.ifnull 8, 3) := by decide +kernel
theorem dX6_agree_36 : decode cX6_agree 36 = .ok (.aload 9, 2) := by decide +kernel
theorem dX6_agree_38 : decode cX6_agree 38 = .ok (.ifnonnull 5, 3) := by decide +kernel
theorem dX6_agree_41 : decode cX6_agree 41 = .ok (.iconst (-1), 1) := by decide +kernel
theorem dX6_agree_42 : decode cX6_agree 42 = .ok (.ireturn, 1) := by decide +kernel
theorem dX6_agree_43 : decode cX6_agree 43 = .ok (.aload 7, 2) := by decide +kernel
theorem dX6_agree_45 : decode cX6_agree 45 = .ok (.getfield 103, 3) := by decide +kernel
theorem dX6_agree_48 : decode cX6_agree 48 = .ok (.iconst 3, 1) := by decide +kernel
theorem dX6_agree_49 : decode cX6_agree 49 = .ok (.if_icmp .ne 30, 3) := by decide +kernel
theorem dX6_agree_52 : decode cX6_agree 52 = .ok (.aload 8, 2) := by decide +kernel
theorem dX6_agree_54 : decode cX6_agree 54 = .ok (.getfield 103, 3) := by decide +kernel
theorem dX6_agree_57 : decode cX6_agree 57 = .ok (.iconst 3, 1) := by decide +kernel
theorem dX6_agree_58 : decode cX6_agree 58 = .ok (.if_icmp .ne 21, 3) := by decide +kernel
theorem dX6_agree_61 : decode cX6_agree 61 = .ok (.aload 9, 2) := by decide +kernel
theorem dX6_agree_63 : decode cX6_agree 63 = .ok (.getfield 103, 3) := by decide +kernel
theorem dX6_agree_66 : decode cX6_agree 66 = .ok (.iconst 1, 1) := by decide +kernel
theorem dX6_agree_67 : decode cX6_agree 67 = .ok (.if_icmp .ne 12, 3) := by decide +kernel
theorem dX6_agree_70 : decode cX6_agree 70 = .ok (.aload 9, 2) := by decide +kernel
theorem dX6_agree_72 : decode cX6_agree 72 = .ok (.getfield 146, 3) := by decide +kernel
theorem dX6_agree_75 : decode cX6_agree 75 = .ok (.iload_n 1, 1) := by decide +kernel
theorem dX6_agree_76 : decode cX6_agree 76 = .ok (.if_icmp .eq 6, 3) := by decide +kernel
theorem dX6_agree_79 : decode cX6_agree 79 = .ok (.bipush (-2), 2) := by decide +kernel
theorem dX6_agree_81 : decode cX6_agree 81 = .ok (.ireturn, 1) := by decide +kernel
theorem dX6_agree_82 : decode cX6_agree 82 = .ok (.iload_n 1, 1) := by decide +kernel
theorem dX6_agree_83 : decode cX6_agree 83 = .ok (.iload_n 3, 1) := by decide +kernel
theorem dX6_agree_84 : decode cX6_agree 84 = .ok (.if_icmp .eq 11, 3) := by decide +kernel
theorem dX6_agree_87 : decode cX6_agree 87 = .ok (.iload 6, 2) := by decide +kernel
theorem dX6_agree_89 : decode cX6_agree 89 = .ok (.invokestatic 149, 3) := by decide +kernel
theorem dX6_agree_92 : decode cX6_agree 92 = .ok (.ifCond .ne 6, 3) := by decide +kernel
theorem dX6_agree_95 : decode cX6_agree 95 = .ok (.bipush (-2), 2) := by decide +kernel
theorem dX6_agree_97 : decode cX6_agree 97 = .ok (.ireturn, 1) := by decide +kernel
theorem dX6_agree_98 : decode cX6_agree 98 = .ok (.aload_n 0, 1) := by decide +kernel
theorem dX6_agree_99 : decode cX6_agree 99 = .ok (.invokevirtual 134, 3) := by decide +kernel
theorem dX6_agree_102 : decode cX6_agree 102 = .ok (.astore 10, 2) := by decide +kernel
theorem dX6_agree_104 : decode cX6_agree 104 = .ok (.aload 10, 2) := by decide +kernel
theorem dX6_agree_106 : decode cX6_agree 106 = .ok (.ifnonnull 6, 3) := by decide +kernel
theorem dX6_agree_109 : decode cX6_agree 109 = .ok (.bipush (-4), 2) := by decide +kernel
theorem dX6_agree_111 : decode cX6_agree 111 = .ok (.ireturn, 1) := by decide +kernel
theorem dX6_agree_112 : decode cX6_agree 112 = .ok (.aload 10, 2) := by decide +kernel
theorem dX6_agree_114 : decode cX6_agree 114 = .ok (.iload_n 1, 1) := by decide +kernel
theorem dX6_agree_115 : decode cX6_agree 115 = .ok (.iload_n 2, 1) := by decide +kernel
theorem dX6_agree_116 : decode cX6_agree 116 = .ok (.iload_n 3, 1) := by decide +kernel
theorem dX6_agree_117 : decode cX6_agree 117 = .ok (.iload 4, 2) := by decide +kernel
theorem dX6_agree_119 : decode cX6_agree 119 = .ok (.iload 5, 2) := by decide +kernel
theorem dX6_agree_121 : decode cX6_agree 121 = .ok (.iload 6, 2) := by decide +kernel
theorem dX6_agree_123 : decode cX6_agree 123 = .ok (.iconst 1, 1) := by decide +kernel
theorem dX6_agree_124 : decode cX6_agree 124 = .ok (.if_icmp .ne 7, 3) := by decide +kernel
theorem dX6_agree_127 : decode cX6_agree 127 = .ok (.iconst 1, 1) := by decide +kernel
theorem dX6_agree_128 : decode cX6_agree 128 = .ok (.goto 4, 3) := by decide +kernel
theorem dX6_agree_131 : decode cX6_agree 131 = .ok (.iconst 0, 1) := by decide +kernel
theorem dX6_agree_132 : decode cX6_agree 132 = .ok (.invokevirtual 153, 3) := by decide +kernel
theorem dX6_agree_135 : decode cX6_agree 135 = .ok (.aload_n 0, 1) := by decide +kernel
theorem dX6_agree_136 : decode cX6_agree 136 = .ok (.invokevirtual 142, 3) := by decide +kernel
theorem dX6_agree_139 : decode cX6_agree 139 = .ok (.ireturn, 1) := by decide +kernel
theorem dX6_found_0 : decode cX6_found 0 = .ok (.aload_n 0, 1) := by decide +kernel
theorem dX6_found_1 : decode cX6_found 1 = .ok (.iload_n 1, 1) := by decide +kernel
theorem dX6_found_2 : decode cX6_found 2 = .ok (.iload_n 2, 1) := by decide +kernel
theorem dX6_found_3 : decode cX6_found 3 = .ok (.invokevirtual 99, 3) := by decide +kernel
theorem dX6_found_6 : decode cX6_found 6 = .ok (.astore_n 3, 1) := by decide +kernel
theorem dX6_found_7 : decode cX6_found 7 = .ok (.aload_n 3, 1) := by decide +kernel
theorem dX6_found_8 : decode cX6_found 8 = .ok (.ifnonnull 5, 3) := by decide +kernel
theorem dX6_found_11 : decode cX6_found 11 = .ok (.iconst (-1), 1) := by decide +kernel
theorem dX6_found_12 : decode cX6_found 12 = .ok (.ireturn, 1) := by decide +kernel
theorem dX6_found_13 : decode cX6_found 13 = .ok (.aload_n 3, 1) := by decide +kernel
theorem dX6_found_14 : decode cX6_found 14 = .ok (.getfield 103, 3) := by decide +kernel
theorem dX6_found_17 : decode cX6_found 17 = .ok (.iconst 1, 1) := by decide +kernel
theorem dX6_found_18 : decode cX6_found 18 = .ok (.if_icmp .eq 6, 3) := by decide +kernel
theorem dX6_found_21 : decode cX6_found 21 = .ok (.bipush (-2), 2) := by decide +kernel
theorem dX6_found_23 : decode cX6_found 23 = .ok (.ireturn, 1) := by decide +kernel
theorem dX6_found_24 : decode cX6_found 24 = .ok (.aload_n 0, 1) := by decide +kernel
theorem dX6_found_25 : decode cX6_found 25 = .ok (.invokevirtual 134, 3) := by decide +kernel
theorem dX6_found_28 : decode cX6_found 28 = .ok (.astore 4, 2) := by decide +kernel
theorem dX6_found_30 : decode cX6_found 30 = .ok (.aload 4, 2) := by decide +kernel
theorem dX6_found_32 : decode cX6_found 32 = .ok (.ifnonnull 6, 3) := by decide +kernel
theorem dX6_found_35 : decode cX6_found 35 = .ok (.bipush (-4), 2) := by decide +kernel
theorem dX6_found_37 : decode cX6_found 37 = .ok (.ireturn, 1) := by decide +kernel
theorem dX6_found_38 : decode cX6_found 38 = .ok (.aload 4, 2) := by decide +kernel
theorem dX6_found_40 : decode cX6_found 40 = .ok (.iload_n 1, 1) := by decide +kernel
theorem dX6_found_41 : decode cX6_found 41 = .ok (.iload_n 2, 1) := by decide +kernel
theorem dX6_found_42 : decode cX6_found 42 = .ok (.invokevirtual 157, 3) := by decide +kernel
theorem dX6_found_45 : decode cX6_found 45 = .ok (.aload_n 0, 1) := by decide +kernel
theorem dX6_found_46 : decode cX6_found 46 = .ok (.invokevirtual 142, 3) := by decide +kernel
theorem dX6_found_49 : decode cX6_found 49 = .ok (.ireturn, 1) := by decide +kernel
theorem dX6_unrule_0 : decode cX6_unrule 0 = .ok (.aload_n 0, 1) := by decide +kernel
theorem dX6_unrule_1 : decode cX6_unrule 1 = .ok (.getfield 58, 3) := by decide +kernel
theorem dX6_unrule_4 : decode cX6_unrule 4 = .ok (.istore_n 1, 1) := by decide +kernel
theorem dX6_unrule_5 : decode cX6_unrule 5 = .ok (.aload_n 0, 1) := by decide +kernel
theorem dX6_unrule_6 : decode cX6_unrule 6 = .ok (.iconst 0, 1) := by decide +kernel
theorem dX6_unrule_7 : decode cX6_unrule 7 = .ok (.putfield 58, 3) := by decide +kernel
theorem dX6_unrule_10 : decode cX6_unrule 10 = .ok (.iload_n 1, 1) := by decide +kernel
theorem dX6_unrule_11 : decode cX6_unrule 11 = .ok (.ireturn, 1) := by decide +kernel
theorem dX6_broken_0 : decode cX6_broken 0 = .ok (.iload_n 1, 1) := by decide +kernel
theorem dX6_broken_1 : decode cX6_broken 1 = .ok (.invokestatic 149, 3) := by decide +kernel
theorem dX6_broken_4 : decode cX6_broken 4 = .ok (.ifCond .ne 6, 3) := by decide +kernel
theorem dX6_broken_7 : decode cX6_broken 7 = .ok (.bipush (-2), 2) := by decide +kernel
theorem dX6_broken_9 : decode cX6_broken 9 = .ok (.ireturn, 1) := by decide +kernel
theorem dX6_broken_10 : decode cX6_broken 10 = .ok (.aload_n 0, 1) := by decide +kernel
theorem dX6_broken_11 : decode cX6_broken 11 = .ok (.iload_n 1, 1) := by decide +kernel
theorem dX6_broken_12 : decode cX6_broken 12 = .ok (.invokevirtual 161, 3) := by decide +kernel
theorem dX6_broken_15 : decode cX6_broken 15 = .ok (.astore_n 2, 1) := by decide +kernel
theorem dX6_broken_16 : decode cX6_broken 16 = .ok (.aload_n 2, 1) := by decide +kernel
theorem dX6_broken_17 : decode cX6_broken 17 = .ok (.ifnonnull 8, 3) := by decide +kernel
theorem dX6_broken_20 : decode cX6_broken 20 = .ok (.bipush (-3), 2) := by decide +kernel
theorem dX6_broken_22 : decode cX6_broken 22 = .ok (.goto 8, 3) := by decide +kernel
theorem dX6_broken_25 : decode cX6_broken 25 = .ok (.aload_n 0, 1) := by decide +kernel
theorem dX6_broken_26 : decode cX6_broken 26 = .ok (.aload_n 2, 1) := by decide +kernel
theorem dX6_broken_27 : decode cX6_broken 27 = .ok (.invokevirtual 165, 3) := by decide +kernel
theorem dX6_broken_30 : decode cX6_broken 30 = .ok (.ireturn, 1) := by decide +kernel
theorem dX6_make_0 : decode cX6_make 0 = .ok (.iconst 0, 1) := by decide +kernel
theorem dX6_make_1 : decode cX6_make 1 = .ok (.istore_n 1, 1) := by decide +kernel
theorem dX6_make_2 : decode cX6_make 2 = .ok (.iload_n 1, 1) := by decide +kernel
theorem dX6_make_3 : decode cX6_make 3 = .ok (.aload_n 0, 1) := by decide +kernel
theorem dX6_make_4 : decode cX6_make 4 = .ok (.getfield 54, 3) := by decide +kernel
theorem dX6_make_7 : decode cX6_make 7 = .ok (.if_icmp .ge 14, 3) := by decide +kernel
theorem dX6_make_10 : decode cX6_make 10 = .ok (.aload_n 0, 1) := by decide +kernel
theorem dX6_make_11 : decode cX6_make 11 = .ok (.iload_n 1, 1) := by decide +kernel
theorem dX6_make_12 : decode cX6_make 12 = .ok (.invokevirtual 169, 3) := by decide +kernel
theorem dX6_make_15 : decode cX6_make 15 = .ok (.iinc 1 1, 3) := by decide +kernel
theorem dX6_make_18 : decode cX6_make 18 = .ok (.goto (-16), 3) := by decide +kernel
theorem dX6_make_21 : decode cX6_make 21 = .ok (.aload_n 0, 1) := by decide +kernel
theorem dX6_make_22 : decode cX6_make 22 = .ok (.invokevirtual 173, 3) := by decide +kernel
theorem dX6_make_25 : decode cX6_make 25 = .ok (.aload_n 0, 1) := by decide +kernel
theorem dX6_make_26 : decode cX6_make 26 = .ok (.aload_n 0, 1) := by decide +kernel
theorem dX6_make_27 : decode cX6_make 27 = .ok (.getfield 51, 3) := by decide +kernel
theorem dX6_make_30 : decode cX6_make 30 = .ok (.invokevirtual 165, 3) := by decide +kernel
theorem dX6_make_33 : decode cX6_make 33 = .ok (.istore_n 1, 1) := by decide +kernel
theorem dX6_make_34 : decode cX6_make 34 = .ok (.iload_n 1, 1) := by decide +kernel
theorem dX6_make_35 : decode cX6_make 35 = .ok (.bipush 100, 2) := by decide +kernel
theorem dX6_make_37 : decode cX6_make 37 = .ok (.if_icmp .ne 26, 3) := by decide +kernel
theorem dX6_make_40 : decode cX6_make 40 = .ok (.aload_n 0, 1) := by decide +kernel
theorem dX6_make_41 : decode cX6_make 41 = .ok (.getfield 48, 3) := by decide +kernel
theorem dX6_make_44 : decode cX6_make 44 = .ok (.astore_n 2, 1) := by decide +kernel
theorem dX6_make_45 : decode cX6_make 45 = .ok (.aload_n 0, 1) := by decide +kernel
theorem dX6_make_46 : decode cX6_make 46 = .ok (.aload_n 0, 1) := by decide +kernel
theorem dX6_make_47 : decode cX6_make 47 = .ok (.getfield 51, 3) := by decide +kernel
theorem dX6_make_50 : decode cX6_make 50 = .ok (.putfield 48, 3) := by decide +kernel
theorem dX6_make_53 : decode cX6_make 53 = .ok (.aload_n 0, 1) := by decide +kernel
theorem dX6_make_54 : decode cX6_make 54 = .ok (.aload_n 2, 1) := by decide +kernel
theorem dX6_make_55 : decode cX6_make 55 = .ok (.putfield 51, 3) := by decide +kernel
theorem dX6_make_58 : decode cX6_make 58 = .ok (.aload_n 0, 1) := by decide +kernel
theorem dX6_make_59 : decode cX6_make 59 = .ok (.iconst 1, 1) := by decide +kernel
theorem dX6_make_60 : decode cX6_make 60 = .ok (.putfield 67, 3) := by decide +kernel
theorem dX6_make_63 : decode cX6_make 63 = .ok (.iload_n 1, 1) := by decide +kernel
theorem dX6_make_64 : decode cX6_make 64 = .ok (.ireturn, 1) := by decide +kernel
theorem dX6_at_0 : decode cX6_at 0 = .ok (.iload 4, 2) := by decide +kernel
theorem dX6_at_2 : decode cX6_at 2 = .ok (.invokestatic 149, 3) := by decide +kernel
theorem dX6_at_5 : decode cX6_at 5 = .ok (.ifCond .eq 21, 3) := by decide +kernel
theorem dX6_at_8 : decode cX6_at 8 = .ok (.aload_n 0, 1) := by decide +kernel
theorem dX6_at_9 : decode cX6_at 9 = .ok (.iload_n 1, 1) := by decide +kernel
theorem dX6_at_10 : decode cX6_at 10 = .ok (.iload_n 2, 1) := by decide +kernel
theorem dX6_at_11 : decode cX6_at 11 = .ok (.invokevirtual 176, 3) := by decide +kernel
theorem dX6_at_14 : decode cX6_at 14 = .ok (.ifCond .eq 12, 3) := by decide +kernel
theorem dX6_at_17 : decode cX6_at 17 = .ok (.aload_n 0, 1) := by decide +kernel
theorem dX6_at_18 : decode cX6_at 18 = .ok (.iload_n 1, 1) := by decide +kernel
theorem dX6_at_19 : decode cX6_at 19 = .ok (.iload_n 3, 1) := by decide +kernel
theorem dX6_at_20 : decode cX6_at 20 = .ok (.invokevirtual 99, 3) := by decide +kernel
theorem dX6_at_23 : decode cX6_at 23 = .ok (.ifnonnull 6, 3) := by decide +kernel
theorem dX6_at_26 : decode cX6_at 26 = .ok (.ldc 179, 2) := by decide +kernel
theorem dX6_at_28 : decode cX6_at 28 = .ok (.ireturn, 1) := by decide +kernel
theorem dX6_at_29 : decode cX6_at 29 = .ok (.aload_n 0, 1) := by decide +kernel
theorem dX6_at_30 : decode cX6_at 30 = .ok (.iload 4, 2) := by decide +kernel
theorem dX6_at_32 : decode cX6_at 32 = .ok (.invokevirtual 161, 3) := by decide +kernel
theorem dX6_at_35 : decode cX6_at 35 = .ok (.astore 5, 2) := by decide +kernel
theorem dX6_at_37 : decode cX6_at 37 = .ok (.aload 5, 2) := by decide +kernel
theorem dX6_at_39 : decode cX6_at 39 = .ok (.ifnonnull 8, 3) := by decide +kernel
theorem dX6_at_42 : decode cX6_at 42 = .ok (.ldc 179, 2) := by decide +kernel
theorem dX6_at_44 : decode cX6_at 44 = .ok (.goto 11, 3) := by decide +kernel
theorem dX6_at_47 : decode cX6_at 47 = .ok (.aload 5, 2) := by decide +kernel
theorem dX6_at_49 : decode cX6_at 49 = .ok (.iload_n 1, 1) := by decide +kernel
theorem dX6_at_50 : decode cX6_at 50 = .ok (.iload_n 2, 1) := by decide +kernel
theorem dX6_at_51 : decode cX6_at 51 = .ok (.iload_n 3, 1) := by decide +kernel
theorem dX6_at_52 : decode cX6_at 52 = .ok (.invokevirtual 180, 3) := by decide +kernel
theorem dX6_at_55 : decode cX6_at 55 = .ok (.ireturn, 1) := by decide +kernel
theorem dX6_turned_0 : decode cX6_turned 0 = .ok (.aload_n 0, 1) := by decide +kernel
theorem dX6_turned_1 : decode cX6_turned 1 = .ok (.iload_n 1, 1) := by decide +kernel
theorem dX6_turned_2 : decode cX6_turned 2 = .ok (.invokevirtual 73, 3) := by decide +kernel
theorem dX6_turned_5 : decode cX6_turned 5 = .ok (.astore 4, 2) := by decide +kernel
theorem dX6_turned_7 : decode cX6_turned 7 = .ok (.aload_n 0, 1) := by decide +kernel
theorem dX6_turned_8 : decode cX6_turned 8 = .ok (.iload_n 1, 1) := by decide +kernel
theorem dX6_turned_9 : decode cX6_turned 9 = .ok (.iload_n 2, 1) := by decide +kernel
theorem dX6_turned_10 : decode cX6_turned 10 = .ok (.invokevirtual 99, 3) := by decide +kernel
theorem dX6_turned_13 : decode cX6_turned 13 = .ok (.astore 5, 2) := by decide +kernel
theorem dX6_turned_15 : decode cX6_turned 15 = .ok (.aload 4, 2) := by decide +kernel
theorem dX6_turned_17 : decode cX6_turned 17 = .ok (.ifnull 25, 3) := by decide +kernel
theorem dX6_turned_20 : decode cX6_turned 20 = .ok (.aload 5, 2) := by decide +kernel
theorem dX6_turned_22 : decode cX6_turned 22 = .ok (.ifnull 20, 3) := by decide +kernel
theorem dX6_turned_25 : decode cX6_turned 25 = .ok (.aload 5, 2) := by decide +kernel
theorem dX6_turned_27 : decode cX6_turned 27 = .ok (.getfield 103, 3) := by decide +kernel
theorem dX6_turned_30 : decode cX6_turned 30 = .ok (.ifCond .eq 14, 3) := by decide +kernel
theorem dX6_turned_33 : decode cX6_turned 33 = .ok (.aload 5, 2) := by decide +kernel
theorem dX6_turned_35 : decode cX6_turned 35 = .ok (.getfield 103, 3) := by decide +kernel
theorem dX6_turned_38 : decode cX6_turned 38 = .ok (.iconst 4, 1) := by decide +kernel
theorem dX6_turned_39 : decode cX6_turned 39 = .ok (.if_icmp .eq 5, 3) := by decide +kernel
theorem dX6_turned_42 : decode cX6_turned 42 = .ok (.iconst (-1), 1) := by decide +kernel
theorem dX6_turned_43 : decode cX6_turned 43 = .ok (.ireturn, 1) := by decide +kernel
theorem dX6_turned_44 : decode cX6_turned 44 = .ok (.iload_n 3, 1) := by decide +kernel
theorem dX6_turned_45 : decode cX6_turned 45 = .ok (.ldc 179, 2) := by decide +kernel
theorem dX6_turned_47 : decode cX6_turned 47 = .ok (.if_icmp .eq 15, 3) := by decide +kernel
theorem dX6_turned_50 : decode cX6_turned 50 = .ok (.aload 5, 2) := by decide +kernel
theorem dX6_turned_52 : decode cX6_turned 52 = .ok (.getfield 103, 3) := by decide +kernel
theorem dX6_turned_55 : decode cX6_turned 55 = .ok (.iload_n 3, 1) := by decide +kernel
theorem dX6_turned_56 : decode cX6_turned 56 = .ok (.invokestatic 184, 3) := by decide +kernel
theorem dX6_turned_59 : decode cX6_turned 59 = .ok (.ifCond .ne 6, 3) := by decide +kernel
theorem dX6_turned_62 : decode cX6_turned 62 = .ok (.bipush (-2), 2) := by decide +kernel
theorem dX6_turned_64 : decode cX6_turned 64 = .ok (.ireturn, 1) := by decide +kernel
theorem dX6_turned_65 : decode cX6_turned 65 = .ok (.aload 5, 2) := by decide +kernel
theorem dX6_turned_67 : decode cX6_turned 67 = .ok (.getfield 103, 3) := by decide +kernel
theorem dX6_turned_70 : decode cX6_turned 70 = .ok (.ifCond .ne 12, 3) := by decide +kernel
theorem dX6_turned_73 : decode cX6_turned 73 = .ok (.aload 4, 2) := by decide +kernel
theorem dX6_turned_75 : decode cX6_turned 75 = .ok (.iload_n 3, 1) := by decide +kernel
theorem dX6_turned_76 : decode cX6_turned 76 = .ok (.invokevirtual 187, 3) := by decide +kernel
theorem dX6_turned_79 : decode cX6_turned 79 = .ok (.goto 9, 3) := by decide +kernel
theorem dX6_turned_82 : decode cX6_turned 82 = .ok (.aload 5, 2) := by decide +kernel
theorem dX6_turned_84 : decode cX6_turned 84 = .ok (.iload_n 3, 1) := by decide +kernel
theorem dX6_turned_85 : decode cX6_turned 85 = .ok (.invokevirtual 191, 3) := by decide +kernel
theorem dX6_turned_88 : decode cX6_turned 88 = .ok (.ireturn, 1) := by decide +kernel
theorem dX6_shift_0 : decode cX6_shift 0 = .ok (.iload_n 1, 1) := by decide +kernel
theorem dX6_shift_1 : decode cX6_shift 1 = .ok (.invokestatic 194, 3) := by decide +kernel
theorem dX6_shift_4 : decode cX6_shift 4 = .ok (.ifCond .eq 11, 3) := by decide +kernel
theorem dX6_shift_7 : decode cX6_shift 7 = .ok (.aload_n 0, 1) := by decide +kernel
theorem dX6_shift_8 : decode cX6_shift 8 = .ok (.iload_n 1, 1) := by decide +kernel
theorem dX6_shift_9 : decode cX6_shift 9 = .ok (.invokevirtual 197, 3) := by decide +kernel
theorem dX6_shift_12 : decode cX6_shift 12 = .ok (.goto 5, 3) := by decide +kernel
theorem dX6_shift_15 : decode cX6_shift 15 = .ok (.ldc 179, 2) := by decide +kernel
theorem dX6_shift_17 : decode cX6_shift 17 = .ok (.ireturn, 1) := by decide +kernel
theorem dX6_count_0 : decode cX6_count 0 = .ok (.aload_n 0, 1) := by decide +kernel
theorem dX6_count_1 : decode cX6_count 1 = .ok (.iload_n 1, 1) := by decide +kernel
theorem dX6_count_2 : decode cX6_count 2 = .ok (.iload_n 2, 1) := by decide +kernel
theorem dX6_count_3 : decode cX6_count 3 = .ok (.invokevirtual 99, 3) := by decide +kernel
theorem dX6_count_6 : decode cX6_count 6 = .ok (.ifnonnull 5, 3) := by decide +kernel
theorem dX6_count_9 : decode cX6_count 9 = .ok (.iconst (-1), 1) := by decide +kernel
theorem dX6_count_10 : decode cX6_count 10 = .ok (.ireturn, 1) := by decide +kernel
theorem dX6_count_11 : decode cX6_count 11 = .ok (.iload 4, 2) := by decide +kernel
theorem dX6_count_13 : decode cX6_count 13 = .ok (.invokestatic 149, 3) := by decide +kernel
theorem dX6_count_16 : decode cX6_count 16 = .ok (.ifCond .ne 6, 3) := by decide +kernel
theorem dX6_count_19 : decode cX6_count 19 = .ok (.bipush (-2), 2) := by decide +kernel
theorem dX6_count_21 : decode cX6_count 21 = .ok (.ireturn, 1) := by decide +kernel
theorem dX6_count_22 : decode cX6_count 22 = .ok (.aload_n 0, 1) := by decide +kernel
theorem dX6_count_23 : decode cX6_count 23 = .ok (.iload 4, 2) := by decide +kernel
theorem dX6_count_25 : decode cX6_count 25 = .ok (.invokevirtual 161, 3) := by decide +kernel
theorem dX6_count_28 : decode cX6_count 28 = .ok (.astore 5, 2) := by decide +kernel
theorem dX6_count_30 : decode cX6_count 30 = .ok (.aload 5, 2) := by decide +kernel
theorem dX6_count_32 : decode cX6_count 32 = .ok (.ifnonnull 8, 3) := by decide +kernel
theorem dX6_count_35 : decode cX6_count 35 = .ok (.bipush (-3), 2) := by decide +kernel
theorem dX6_count_37 : decode cX6_count 37 = .ok (.goto 12, 3) := by decide +kernel
theorem dX6_count_40 : decode cX6_count 40 = .ok (.aload_n 0, 1) := by decide +kernel
theorem dX6_count_41 : decode cX6_count 41 = .ok (.aload 5, 2) := by decide +kernel
theorem dX6_count_43 : decode cX6_count 43 = .ok (.iload_n 1, 1) := by decide +kernel
theorem dX6_count_44 : decode cX6_count 44 = .ok (.iload_n 2, 1) := by decide +kernel
theorem dX6_count_45 : decode cX6_count 45 = .ok (.iload_n 3, 1) := by decide +kernel
theorem dX6_count_46 : decode cX6_count 46 = .ok (.invokevirtual 91, 3) := by decide +kernel
theorem dX6_count_49 : decode cX6_count 49 = .ok (.ireturn, 1) := by decide +kernel
theorem dX6_joins_0 : decode cX6_joins 0 = .ok (.aload_n 0, 1) := by decide +kernel
theorem dX6_joins_1 : decode cX6_joins 1 = .ok (.iload_n 1, 1) := by decide +kernel
theorem dX6_joins_2 : decode cX6_joins 2 = .ok (.iload_n 2, 1) := by decide +kernel
theorem dX6_joins_3 : decode cX6_joins 3 = .ok (.invokevirtual 99, 3) := by decide +kernel
theorem dX6_joins_6 : decode cX6_joins 6 = .ok (.astore 4, 2) := by decide +kernel
theorem dX6_joins_8 : decode cX6_joins 8 = .ok (.aload 4, 2) := by decide +kernel
theorem dX6_joins_10 : decode cX6_joins 10 = .ok (.ifnonnull 5, 3) := by decide +kernel
theorem dX6_joins_13 : decode cX6_joins 13 = .ok (.iconst (-1), 1) := by decide +kernel
theorem dX6_joins_14 : decode cX6_joins 14 = .ok (.ireturn, 1) := by decide +kernel
theorem dX6_joins_15 : decode cX6_joins 15 = .ok (.aload 4, 2) := by decide +kernel
theorem dX6_joins_17 : decode cX6_joins 17 = .ok (.getfield 103, 3) := by decide +kernel
theorem dX6_joins_20 : decode cX6_joins 20 = .ok (.iconst 1, 1) := by decide +kernel
theorem dX6_joins_21 : decode cX6_joins 21 = .ok (.if_icmp .ne 10, 3) := by decide +kernel
theorem dX6_joins_24 : decode cX6_joins 24 = .ok (.iload_n 3, 1) := by decide +kernel
theorem dX6_joins_25 : decode cX6_joins 25 = .ok (.invokestatic 149, 3) := by decide +kernel
theorem dX6_joins_28 : decode cX6_joins 28 = .ok (.ifCond .ne 6, 3) := by decide +kernel
theorem dX6_joins_31 : decode cX6_joins 31 = .ok (.bipush (-2), 2) := by decide +kernel
theorem dX6_joins_33 : decode cX6_joins 33 = .ok (.ireturn, 1) := by decide +kernel
theorem dX6_joins_34 : decode cX6_joins 34 = .ok (.aload_n 0, 1) := by decide +kernel
theorem dX6_joins_35 : decode cX6_joins 35 = .ok (.iload_n 3, 1) := by decide +kernel
theorem dX6_joins_36 : decode cX6_joins 36 = .ok (.invokevirtual 161, 3) := by decide +kernel
theorem dX6_joins_39 : decode cX6_joins 39 = .ok (.astore 5, 2) := by decide +kernel
theorem dX6_joins_41 : decode cX6_joins 41 = .ok (.aload 5, 2) := by decide +kernel
theorem dX6_joins_43 : decode cX6_joins 43 = .ok (.ifnonnull 6, 3) := by decide +kernel
theorem dX6_joins_46 : decode cX6_joins 46 = .ok (.bipush (-3), 2) := by decide +kernel
theorem dX6_joins_48 : decode cX6_joins 48 = .ok (.ireturn, 1) := by decide +kernel
theorem dX6_joins_49 : decode cX6_joins 49 = .ok (.iconst 0, 1) := by decide +kernel
theorem dX6_joins_50 : decode cX6_joins 50 = .ok (.istore 6, 2) := by decide +kernel
theorem dX6_joins_52 : decode cX6_joins 52 = .ok (.iconst 0, 1) := by decide +kernel
theorem dX6_joins_53 : decode cX6_joins 53 = .ok (.istore 7, 2) := by decide +kernel
theorem dX6_joins_55 : decode cX6_joins 55 = .ok (.iload 7, 2) := by decide +kernel
theorem dX6_joins_57 : decode cX6_joins 57 = .ok (.aload_n 0, 1) := by decide +kernel
theorem dX6_joins_58 : decode cX6_joins 58 = .ok (.iload_n 1, 1) := by decide +kernel
theorem dX6_joins_59 : decode cX6_joins 59 = .ok (.invokevirtual 200, 3) := by decide +kernel
theorem dX6_joins_62 : decode cX6_joins 62 = .ok (.if_icmp .ge 35, 3) := by decide +kernel
theorem dX6_joins_65 : decode cX6_joins 65 = .ok (.iload 6, 2) := by decide +kernel
theorem dX6_joins_67 : decode cX6_joins 67 = .ok (.aload_n 0, 1) := by decide +kernel
theorem dX6_joins_68 : decode cX6_joins 68 = .ok (.aload 5, 2) := by decide +kernel
theorem dX6_joins_70 : decode cX6_joins 70 = .ok (.aload 4, 2) := by decide +kernel
theorem dX6_joins_72 : decode cX6_joins 72 = .ok (.getfield 146, 3) := by decide +kernel
theorem dX6_joins_75 : decode cX6_joins 75 = .ok (.iconst 0, 1) := by decide +kernel
theorem dX6_joins_76 : decode cX6_joins 76 = .ok (.aload 5, 2) := by decide +kernel
theorem dX6_joins_78 : decode cX6_joins 78 = .ok (.iload_n 1, 1) := by decide +kernel
theorem dX6_joins_79 : decode cX6_joins 79 = .ok (.iload 7, 2) := by decide +kernel
theorem dX6_joins_81 : decode cX6_joins 81 = .ok (.iload_n 2, 1) := by decide +kernel
theorem dX6_joins_82 : decode cX6_joins 82 = .ok (.invokevirtual 180, 3) := by decide +kernel
theorem dX6_joins_85 : decode cX6_joins 85 = .ok (.invokevirtual 91, 3) := by decide +kernel
theorem dX6_joins_88 : decode cX6_joins 88 = .ok (.iadd, 1) := by decide +kernel
theorem dX6_joins_89 : decode cX6_joins 89 = .ok (.istore 6, 2) := by decide +kernel
theorem dX6_joins_91 : decode cX6_joins 91 = .ok (.iinc 7 1, 3) := by decide +kernel
theorem dX6_joins_94 : decode cX6_joins 94 = .ok (.goto (-39), 3) := by decide +kernel
theorem dX6_joins_97 : decode cX6_joins 97 = .ok (.iload 6, 2) := by decide +kernel
theorem dX6_joins_99 : decode cX6_joins 99 = .ok (.ireturn, 1) := by decide +kernel
theorem dX6_miss_0 : decode cX6_miss 0 = .ok (.aload_n 0, 1) := by decide +kernel
theorem dX6_miss_1 : decode cX6_miss 1 = .ok (.iload_n 1, 1) := by decide +kernel
theorem dX6_miss_2 : decode cX6_miss 2 = .ok (.iload_n 2, 1) := by decide +kernel
theorem dX6_miss_3 : decode cX6_miss 3 = .ok (.invokevirtual 99, 3) := by decide +kernel
theorem dX6_miss_6 : decode cX6_miss 6 = .ok (.astore_n 3, 1) := by decide +kernel
theorem dX6_miss_7 : decode cX6_miss 7 = .ok (.aload_n 3, 1) := by decide +kernel
theorem dX6_miss_8 : decode cX6_miss 8 = .ok (.ifnonnull 5, 3) := by decide +kernel
theorem dX6_miss_11 : decode cX6_miss 11 = .ok (.iconst (-1), 1) := by decide +kernel
theorem dX6_miss_12 : decode cX6_miss 12 = .ok (.ireturn, 1) := by decide +kernel
theorem dX6_miss_13 : decode cX6_miss 13 = .ok (.aload_n 3, 1) := by decide +kernel
theorem dX6_miss_14 : decode cX6_miss 14 = .ok (.getfield 103, 3) := by decide +kernel
theorem dX6_miss_17 : decode cX6_miss 17 = .ok (.iconst 2, 1) := by decide +kernel
theorem dX6_miss_18 : decode cX6_miss 18 = .ok (.if_icmp .eq 14, 3) := by decide +kernel
theorem dX6_miss_21 : decode cX6_miss 21 = .ok (.aload_n 3, 1) := by decide +kernel
theorem dX6_miss_22 : decode cX6_miss 22 = .ok (.getfield 103, 3) := by decide +kernel
theorem dX6_miss_25 : decode cX6_miss 25 = .ok (.iconst 3, 1) := by decide +kernel
theorem dX6_miss_26 : decode cX6_miss 26 = .ok (.if_icmp .eq 6, 3) := by decide +kernel
theorem dX6_miss_29 : decode cX6_miss 29 = .ok (.bipush (-2), 2) := by decide +kernel
theorem dX6_miss_31 : decode cX6_miss 31 = .ok (.ireturn, 1) := by decide +kernel
theorem dX6_miss_32 : decode cX6_miss 32 = .ok (.aload_n 0, 1) := by decide +kernel
theorem dX6_miss_33 : decode cX6_miss 33 = .ok (.getfield 67, 3) := by decide +kernel
theorem dX6_miss_36 : decode cX6_miss 36 = .ok (.ifCond .ne 6, 3) := by decide +kernel
theorem dX6_miss_39 : decode cX6_miss 39 = .ok (.bipush (-3), 2) := by decide +kernel
theorem dX6_miss_41 : decode cX6_miss 41 = .ok (.ireturn, 1) := by decide +kernel
theorem dX6_miss_42 : decode cX6_miss 42 = .ok (.iconst 0, 1) := by decide +kernel
theorem dX6_miss_43 : decode cX6_miss 43 = .ok (.istore 4, 2) := by decide +kernel
theorem dX6_miss_45 : decode cX6_miss 45 = .ok (.iconst 0, 1) := by decide +kernel
theorem dX6_miss_46 : decode cX6_miss 46 = .ok (.istore 5, 2) := by decide +kernel
theorem dX6_miss_48 : decode cX6_miss 48 = .ok (.iload 5, 2) := by decide +kernel
theorem dX6_miss_50 : decode cX6_miss 50 = .ok (.aload_n 0, 1) := by decide +kernel
theorem dX6_miss_51 : decode cX6_miss 51 = .ok (.iload_n 1, 1) := by decide +kernel
theorem dX6_miss_52 : decode cX6_miss 52 = .ok (.invokevirtual 200, 3) := by decide +kernel
theorem dX6_miss_55 : decode cX6_miss 55 = .ok (.if_icmp .ge 62, 3) := by decide +kernel
theorem dX6_miss_58 : decode cX6_miss 58 = .ok (.aload_n 0, 1) := by decide +kernel
theorem dX6_miss_59 : decode cX6_miss 59 = .ok (.getfield 30, 3) := by decide +kernel
theorem dX6_miss_62 : decode cX6_miss 62 = .ok (.iload_n 1, 1) := by decide +kernel
theorem dX6_miss_63 : decode cX6_miss 63 = .ok (.iload 5, 2) := by decide +kernel
theorem dX6_miss_65 : decode cX6_miss 65 = .ok (.iload_n 2, 1) := by decide +kernel
theorem dX6_miss_66 : decode cX6_miss 66 = .ok (.invokevirtual 180, 3) := by decide +kernel
theorem dX6_miss_69 : decode cX6_miss 69 = .ok (.istore 6, 2) := by decide +kernel
theorem dX6_miss_71 : decode cX6_miss 71 = .ok (.aload_n 0, 1) := by decide +kernel
theorem dX6_miss_72 : decode cX6_miss 72 = .ok (.getfield 48, 3) := by decide +kernel
theorem dX6_miss_75 : decode cX6_miss 75 = .ok (.iload_n 1, 1) := by decide +kernel
theorem dX6_miss_76 : decode cX6_miss 76 = .ok (.iload 5, 2) := by decide +kernel
theorem dX6_miss_78 : decode cX6_miss 78 = .ok (.iload_n 2, 1) := by decide +kernel
theorem dX6_miss_79 : decode cX6_miss 79 = .ok (.invokevirtual 180, 3) := by decide +kernel
theorem dX6_miss_82 : decode cX6_miss 82 = .ok (.istore 7, 2) := by decide +kernel
theorem dX6_miss_84 : decode cX6_miss 84 = .ok (.iload 6, 2) := by decide +kernel
theorem dX6_miss_86 : decode cX6_miss 86 = .ok (.ldc 179, 2) := by decide +kernel
theorem dX6_miss_88 : decode cX6_miss 88 = .ok (.if_icmp .eq 23, 3) := by decide +kernel
theorem dX6_miss_91 : decode cX6_miss 91 = .ok (.iload 7, 2) := by decide +kernel
theorem dX6_miss_93 : decode cX6_miss 93 = .ok (.ldc 179, 2) := by decide +kernel
theorem dX6_miss_95 : decode cX6_miss 95 = .ok (.if_icmp .eq 16, 3) := by decide +kernel
theorem dX6_miss_98 : decode cX6_miss 98 = .ok (.iload 4, 2) := by decide +kernel
theorem dX6_miss_100 : decode cX6_miss 100 = .ok (.iload 7, 2) := by decide +kernel
theorem dX6_miss_102 : decode cX6_miss 102 = .ok (.iload 6, 2) := by decide +kernel
theorem dX6_miss_104 : decode cX6_miss 104 = .ok (.isub, 1) := by decide +kernel
theorem dX6_miss_105 : decode cX6_miss 105 = .ok (.invokestatic 203, 3) := by decide +kernel
theorem dX6_miss_108 : decode cX6_miss 108 = .ok (.iadd, 1) := by decide +kernel
theorem dX6_miss_109 : decode cX6_miss 109 = .ok (.istore 4, 2) := by decide +kernel
theorem dX6_miss_111 : decode cX6_miss 111 = .ok (.iinc 5 1, 3) := by decide +kernel
theorem dX6_miss_114 : decode cX6_miss 114 = .ok (.goto (-66), 3) := by decide +kernel
theorem dX6_miss_117 : decode cX6_miss 117 = .ok (.iload 4, 2) := by decide +kernel
theorem dX6_miss_119 : decode cX6_miss 119 = .ok (.ireturn, 1) := by decide +kernel
theorem dX6_could_0 : decode cX6_could 0 = .ok (.aload_n 0, 1) := by decide +kernel
theorem dX6_could_1 : decode cX6_could 1 = .ok (.iload_n 1, 1) := by decide +kernel
theorem dX6_could_2 : decode cX6_could 2 = .ok (.iload_n 2, 1) := by decide +kernel
theorem dX6_could_3 : decode cX6_could 3 = .ok (.invokevirtual 176, 3) := by decide +kernel
theorem dX6_could_6 : decode cX6_could 6 = .ok (.ifCond .ne 5, 3) := by decide +kernel
theorem dX6_could_9 : decode cX6_could 9 = .ok (.iconst (-1), 1) := by decide +kernel
theorem dX6_could_10 : decode cX6_could 10 = .ok (.ireturn, 1) := by decide +kernel
theorem dX6_could_11 : decode cX6_could 11 = .ok (.aload_n 0, 1) := by decide +kernel
theorem dX6_could_12 : decode cX6_could 12 = .ok (.iload_n 1, 1) := by decide +kernel
theorem dX6_could_13 : decode cX6_could 13 = .ok (.iload_n 3, 1) := by decide +kernel
theorem dX6_could_14 : decode cX6_could 14 = .ok (.invokevirtual 208, 3) := by decide +kernel
theorem dX6_could_17 : decode cX6_could 17 = .ok (.ifCond .ne 6, 3) := by decide +kernel
theorem dX6_could_20 : decode cX6_could 20 = .ok (.bipush (-2), 2) := by decide +kernel
theorem dX6_could_22 : decode cX6_could 22 = .ok (.ireturn, 1) := by decide +kernel
theorem dX6_could_23 : decode cX6_could 23 = .ok (.aload_n 0, 1) := by decide +kernel
theorem dX6_could_24 : decode cX6_could 24 = .ok (.iload_n 1, 1) := by decide +kernel
theorem dX6_could_25 : decode cX6_could 25 = .ok (.invokevirtual 169, 3) := by decide +kernel
theorem dX6_could_28 : decode cX6_could 28 = .ok (.aload_n 0, 1) := by decide +kernel
theorem dX6_could_29 : decode cX6_could 29 = .ok (.iload_n 1, 1) := by decide +kernel
theorem dX6_could_30 : decode cX6_could 30 = .ok (.iload_n 2, 1) := by decide +kernel
theorem dX6_could_31 : decode cX6_could 31 = .ok (.iload_n 3, 1) := by decide +kernel
theorem dX6_could_32 : decode cX6_could 32 = .ok (.invokevirtual 211, 3) := by decide +kernel
theorem dX6_could_35 : decode cX6_could 35 = .ok (.invokestatic 214, 3) := by decide +kernel
theorem dX6_could_38 : decode cX6_could 38 = .ok (.ireturn, 1) := by decide +kernel
theorem dX6_alike_0 : decode cX6_alike 0 = .ok (.aload_n 0, 1) := by decide +kernel
theorem dX6_alike_1 : decode cX6_alike 1 = .ok (.iload_n 1, 1) := by decide +kernel
theorem dX6_alike_2 : decode cX6_alike 2 = .ok (.invokevirtual 200, 3) := by decide +kernel
theorem dX6_alike_5 : decode cX6_alike 5 = .ok (.ifCond .ne 5, 3) := by decide +kernel
theorem dX6_alike_8 : decode cX6_alike 8 = .ok (.iconst (-1), 1) := by decide +kernel
theorem dX6_alike_9 : decode cX6_alike 9 = .ok (.ireturn, 1) := by decide +kernel
theorem dX6_alike_10 : decode cX6_alike 10 = .ok (.aload_n 0, 1) := by decide +kernel
theorem dX6_alike_11 : decode cX6_alike 11 = .ok (.iload_n 1, 1) := by decide +kernel
theorem dX6_alike_12 : decode cX6_alike 12 = .ok (.iload_n 2, 1) := by decide +kernel
theorem dX6_alike_13 : decode cX6_alike 13 = .ok (.invokevirtual 208, 3) := by decide +kernel
theorem dX6_alike_16 : decode cX6_alike 16 = .ok (.ifCond .ne 6, 3) := by decide +kernel
theorem dX6_alike_19 : decode cX6_alike 19 = .ok (.bipush (-2), 2) := by decide +kernel
theorem dX6_alike_21 : decode cX6_alike 21 = .ok (.ireturn, 1) := by decide +kernel
theorem dX6_alike_22 : decode cX6_alike 22 = .ok (.aload_n 0, 1) := by decide +kernel
theorem dX6_alike_23 : decode cX6_alike 23 = .ok (.iload_n 1, 1) := by decide +kernel
theorem dX6_alike_24 : decode cX6_alike 24 = .ok (.invokevirtual 169, 3) := by decide +kernel
theorem dX6_alike_27 : decode cX6_alike 27 = .ok (.bipush 12, 2) := by decide +kernel
theorem dX6_alike_29 : decode cX6_alike 29 = .ok (.istore_n 3, 1) := by decide +kernel
theorem dX6_alike_30 : decode cX6_alike 30 = .ok (.iconst 0, 1) := by decide +kernel
theorem dX6_alike_31 : decode cX6_alike 31 = .ok (.istore 4, 2) := by decide +kernel
theorem dX6_alike_33 : decode cX6_alike 33 = .ok (.iload 4, 2) := by decide +kernel
theorem dX6_alike_35 : decode cX6_alike 35 = .ok (.aload_n 0, 1) := by decide +kernel
theorem dX6_alike_36 : decode cX6_alike 36 = .ok (.iload_n 1, 1) := by decide +kernel
theorem dX6_alike_37 : decode cX6_alike 37 = .ok (.invokevirtual 200, 3) := by decide +kernel
theorem dX6_alike_40 : decode cX6_alike 40 = .ok (.if_icmp .ge 25, 3) := by decide +kernel
theorem dX6_alike_43 : decode cX6_alike 43 = .ok (.iload_n 3, 1) := by decide +kernel
theorem dX6_alike_44 : decode cX6_alike 44 = .ok (.aload_n 0, 1) := by decide +kernel
theorem dX6_alike_45 : decode cX6_alike 45 = .ok (.iload_n 1, 1) := by decide +kernel
theorem dX6_alike_46 : decode cX6_alike 46 = .ok (.iload 4, 2) := by decide +kernel
theorem dX6_alike_48 : decode cX6_alike 48 = .ok (.iload_n 2, 1) := by decide +kernel
theorem dX6_alike_49 : decode cX6_alike 49 = .ok (.invokevirtual 211, 3) := by decide +kernel
theorem dX6_alike_52 : decode cX6_alike 52 = .ok (.invokestatic 214, 3) := by decide +kernel
theorem dX6_alike_55 : decode cX6_alike 55 = .ok (.invokestatic 217, 3) := by decide +kernel
theorem dX6_alike_58 : decode cX6_alike 58 = .ok (.istore_n 3, 1) := by decide +kernel
theorem dX6_alike_59 : decode cX6_alike 59 = .ok (.iinc 4 1, 3) := by decide +kernel
theorem dX6_alike_62 : decode cX6_alike 62 = .ok (.goto (-29), 3) := by decide +kernel
theorem dX6_alike_65 : decode cX6_alike 65 = .ok (.iload_n 3, 1) := by decide +kernel
theorem dX6_alike_66 : decode cX6_alike 66 = .ok (.ireturn, 1) := by decide +kernel
theorem dX6_sure_0 : decode cX6_sure 0 = .ok (.aload_n 0, 1) := by decide +kernel
theorem dX6_sure_1 : decode cX6_sure 1 = .ok (.iload_n 1, 1) := by decide +kernel
theorem dX6_sure_2 : decode cX6_sure 2 = .ok (.iload_n 2, 1) := by decide +kernel
theorem dX6_sure_3 : decode cX6_sure 3 = .ok (.invokevirtual 176, 3) := by decide +kernel
theorem dX6_sure_6 : decode cX6_sure 6 = .ok (.ifCond .eq 13, 3) := by decide +kernel
theorem dX6_sure_9 : decode cX6_sure 9 = .ok (.aload_n 0, 1) := by decide +kernel
theorem dX6_sure_10 : decode cX6_sure 10 = .ok (.iload_n 1, 1) := by decide +kernel
theorem dX6_sure_11 : decode cX6_sure 11 = .ok (.iload 4, 2) := by decide +kernel
theorem dX6_sure_13 : decode cX6_sure 13 = .ok (.invokevirtual 99, 3) := by decide +kernel
theorem dX6_sure_16 : decode cX6_sure 16 = .ok (.ifnonnull 5, 3) := by decide +kernel
theorem dX6_sure_19 : decode cX6_sure 19 = .ok (.iconst (-1), 1) := by decide +kernel
theorem dX6_sure_20 : decode cX6_sure 20 = .ok (.ireturn, 1) := by decide +kernel
theorem dX6_sure_21 : decode cX6_sure 21 = .ok (.aload_n 0, 1) := by decide +kernel
theorem dX6_sure_22 : decode cX6_sure 22 = .ok (.iload_n 1, 1) := by decide +kernel
theorem dX6_sure_23 : decode cX6_sure 23 = .ok (.iload_n 3, 1) := by decide +kernel
theorem dX6_sure_24 : decode cX6_sure 24 = .ok (.invokevirtual 208, 3) := by decide +kernel
theorem dX6_sure_27 : decode cX6_sure 27 = .ok (.ifCond .ne 6, 3) := by decide +kernel
theorem dX6_sure_30 : decode cX6_sure 30 = .ok (.bipush (-2), 2) := by decide +kernel
theorem dX6_sure_32 : decode cX6_sure 32 = .ok (.ireturn, 1) := by decide +kernel
theorem dX6_sure_33 : decode cX6_sure 33 = .ok (.aload_n 0, 1) := by decide +kernel
theorem dX6_sure_34 : decode cX6_sure 34 = .ok (.iload_n 1, 1) := by decide +kernel
theorem dX6_sure_35 : decode cX6_sure 35 = .ok (.invokevirtual 169, 3) := by decide +kernel
theorem dX6_sure_38 : decode cX6_sure 38 = .ok (.aload_n 0, 1) := by decide +kernel
theorem dX6_sure_39 : decode cX6_sure 39 = .ok (.iload_n 1, 1) := by decide +kernel
theorem dX6_sure_40 : decode cX6_sure 40 = .ok (.iload_n 2, 1) := by decide +kernel
theorem dX6_sure_41 : decode cX6_sure 41 = .ok (.iload_n 3, 1) := by decide +kernel
theorem dX6_sure_42 : decode cX6_sure 42 = .ok (.invokevirtual 211, 3) := by decide +kernel
theorem dX6_sure_45 : decode cX6_sure 45 = .ok (.istore 5, 2) := by decide +kernel
theorem dX6_sure_47 : decode cX6_sure 47 = .ok (.aload_n 0, 1) := by decide +kernel
theorem dX6_sure_48 : decode cX6_sure 48 = .ok (.getfield 51, 3) := by decide +kernel
theorem dX6_sure_51 : decode cX6_sure 51 = .ok (.iload_n 1, 1) := by decide +kernel
theorem dX6_sure_52 : decode cX6_sure 52 = .ok (.iload_n 2, 1) := by decide +kernel
theorem dX6_sure_53 : decode cX6_sure 53 = .ok (.iload 4, 2) := by decide +kernel
theorem dX6_sure_55 : decode cX6_sure 55 = .ok (.invokevirtual 180, 3) := by decide +kernel
theorem dX6_sure_58 : decode cX6_sure 58 = .ok (.istore 6, 2) := by decide +kernel
theorem dX6_sure_60 : decode cX6_sure 60 = .ok (.iconst 0, 1) := by decide +kernel
theorem dX6_sure_61 : decode cX6_sure 61 = .ok (.istore 7, 2) := by decide +kernel
theorem dX6_sure_63 : decode cX6_sure 63 = .ok (.iload 7, 2) := by decide +kernel
theorem dX6_sure_65 : decode cX6_sure 65 = .ok (.aload_n 0, 1) := by decide +kernel
theorem dX6_sure_66 : decode cX6_sure 66 = .ok (.iload_n 1, 1) := by decide +kernel
theorem dX6_sure_67 : decode cX6_sure 67 = .ok (.invokevirtual 200, 3) := by decide +kernel
theorem dX6_sure_70 : decode cX6_sure 70 = .ok (.if_icmp .ge 38, 3) := by decide +kernel
theorem dX6_sure_73 : decode cX6_sure 73 = .ok (.iload 5, 2) := by decide +kernel
theorem dX6_sure_75 : decode cX6_sure 75 = .ok (.iload 7, 2) := by decide +kernel
theorem dX6_sure_77 : decode cX6_sure 77 = .ok (.invokestatic 220, 3) := by decide +kernel
theorem dX6_sure_80 : decode cX6_sure 80 = .ok (.ifCond .eq 22, 3) := by decide +kernel
theorem dX6_sure_83 : decode cX6_sure 83 = .ok (.aload_n 0, 1) := by decide +kernel
theorem dX6_sure_84 : decode cX6_sure 84 = .ok (.getfield 51, 3) := by decide +kernel
theorem dX6_sure_87 : decode cX6_sure 87 = .ok (.iload_n 1, 1) := by decide +kernel
theorem dX6_sure_88 : decode cX6_sure 88 = .ok (.iload 7, 2) := by decide +kernel
theorem dX6_sure_90 : decode cX6_sure 90 = .ok (.iload 4, 2) := by decide +kernel
theorem dX6_sure_92 : decode cX6_sure 92 = .ok (.invokevirtual 180, 3) := by decide +kernel
theorem dX6_sure_95 : decode cX6_sure 95 = .ok (.iload 6, 2) := by decide +kernel
theorem dX6_sure_97 : decode cX6_sure 97 = .ok (.if_icmp .eq 5, 3) := by decide +kernel
theorem dX6_sure_100 : decode cX6_sure 100 = .ok (.iconst 0, 1) := by decide +kernel
theorem dX6_sure_101 : decode cX6_sure 101 = .ok (.ireturn, 1) := by decide +kernel
theorem dX6_sure_102 : decode cX6_sure 102 = .ok (.iinc 7 1, 3) := by decide +kernel
theorem dX6_sure_105 : decode cX6_sure 105 = .ok (.goto (-42), 3) := by decide +kernel
theorem dX6_sure_108 : decode cX6_sure 108 = .ok (.iconst 1, 1) := by decide +kernel
theorem dX6_sure_109 : decode cX6_sure 109 = .ok (.ireturn, 1) := by decide +kernel
theorem dX6_loss_0 : decode cX6_loss 0 = .ok (.aload_n 0, 1) := by decide +kernel
theorem dX6_loss_1 : decode cX6_loss 1 = .ok (.iload_n 1, 1) := by decide +kernel
theorem dX6_loss_2 : decode cX6_loss 2 = .ok (.iload_n 2, 1) := by decide +kernel
theorem dX6_loss_3 : decode cX6_loss 3 = .ok (.invokevirtual 99, 3) := by decide +kernel
theorem dX6_loss_6 : decode cX6_loss 6 = .ok (.astore_n 3, 1) := by decide +kernel
theorem dX6_loss_7 : decode cX6_loss 7 = .ok (.aload_n 3, 1) := by decide +kernel
theorem dX6_loss_8 : decode cX6_loss 8 = .ok (.ifnonnull 5, 3) := by decide +kernel
theorem dX6_loss_11 : decode cX6_loss 11 = .ok (.iconst (-1), 1) := by decide +kernel
theorem dX6_loss_12 : decode cX6_loss 12 = .ok (.ireturn, 1) := by decide +kernel
theorem dX6_loss_13 : decode cX6_loss 13 = .ok (.aload_n 3, 1) := by decide +kernel
theorem dX6_loss_14 : decode cX6_loss 14 = .ok (.getfield 118, 3) := by decide +kernel
theorem dX6_loss_17 : decode cX6_loss 17 = .ok (.iconst 3, 1) := by decide +kernel
theorem dX6_loss_18 : decode cX6_loss 18 = .ok (.if_icmp .ne 16, 3) := by decide +kernel
theorem dX6_loss_21 : decode cX6_loss 21 = .ok (.aload_n 0, 1) := by decide +kernel
theorem dX6_loss_22 : decode cX6_loss 22 = .ok (.iload_n 1, 1) := by decide +kernel
theorem dX6_loss_23 : decode cX6_loss 23 = .ok (.iload_n 2, 1) := by decide +kernel
theorem dX6_loss_24 : decode cX6_loss 24 = .ok (.aload_n 3, 1) := by decide +kernel
theorem dX6_loss_25 : decode cX6_loss 25 = .ok (.getfield 121, 3) := by decide +kernel
theorem dX6_loss_28 : decode cX6_loss 28 = .ok (.invokevirtual 223, 3) := by decide +kernel
theorem dX6_loss_31 : decode cX6_loss 31 = .ok (.goto 5, 3) := by decide +kernel
theorem dX6_loss_34 : decode cX6_loss 34 = .ok (.bipush (-2), 2) := by decide +kernel
theorem dX6_loss_36 : decode cX6_loss 36 = .ok (.ireturn, 1) := by decide +kernel
theorem dX6_best_0 : decode cX6_best 0 = .ok (.aload_n 0, 1) := by decide +kernel
theorem dX6_best_1 : decode cX6_best 1 = .ok (.iload_n 1, 1) := by decide +kernel
theorem dX6_best_2 : decode cX6_best 2 = .ok (.invokevirtual 73, 3) := by decide +kernel
theorem dX6_best_5 : decode cX6_best 5 = .ok (.astore 4, 2) := by decide +kernel
theorem dX6_best_7 : decode cX6_best 7 = .ok (.aload 4, 2) := by decide +kernel
theorem dX6_best_9 : decode cX6_best 9 = .ok (.ifnonnull 5, 3) := by decide +kernel
theorem dX6_best_12 : decode cX6_best 12 = .ok (.iconst (-1), 1) := by decide +kernel
theorem dX6_best_13 : decode cX6_best 13 = .ok (.ireturn, 1) := by decide +kernel
theorem dX6_best_14 : decode cX6_best 14 = .ok (.aload_n 0, 1) := by decide +kernel
theorem dX6_best_15 : decode cX6_best 15 = .ok (.iload_n 1, 1) := by decide +kernel
theorem dX6_best_16 : decode cX6_best 16 = .ok (.iload_n 2, 1) := by decide +kernel
theorem dX6_best_17 : decode cX6_best 17 = .ok (.invokevirtual 208, 3) := by decide +kernel
theorem dX6_best_20 : decode cX6_best 20 = .ok (.ifCond .eq 8, 3) := by decide +kernel
theorem dX6_best_23 : decode cX6_best 23 = .ok (.iload_n 3, 1) := by decide +kernel
theorem dX6_best_24 : decode cX6_best 24 = .ok (.iconst 1, 1) := by decide +kernel
theorem dX6_best_25 : decode cX6_best 25 = .ok (.if_icmp .ge 6, 3) := by decide +kernel
theorem dX6_best_28 : decode cX6_best 28 = .ok (.bipush (-2), 2) := by decide +kernel
theorem dX6_best_30 : decode cX6_best 30 = .ok (.ireturn, 1) := by decide +kernel
theorem dX6_best_31 : decode cX6_best 31 = .ok (.aload 4, 2) := by decide +kernel
theorem dX6_best_33 : decode cX6_best 33 = .ok (.getfield 77, 3) := by decide +kernel
theorem dX6_best_36 : decode cX6_best 36 = .ok (.ifCond .ne 6, 3) := by decide +kernel
theorem dX6_best_39 : decode cX6_best 39 = .ok (.bipush (-3), 2) := by decide +kernel
theorem dX6_best_41 : decode cX6_best 41 = .ok (.ireturn, 1) := by decide +kernel
theorem dX6_best_42 : decode cX6_best 42 = .ok (.aload_n 0, 1) := by decide +kernel
theorem dX6_best_43 : decode cX6_best 43 = .ok (.iload_n 1, 1) := by decide +kernel
theorem dX6_best_44 : decode cX6_best 44 = .ok (.invokevirtual 169, 3) := by decide +kernel
theorem dX6_best_47 : decode cX6_best 47 = .ok (.aload_n 0, 1) := by decide +kernel
theorem dX6_best_48 : decode cX6_best 48 = .ok (.iload_n 1, 1) := by decide +kernel
theorem dX6_best_49 : decode cX6_best 49 = .ok (.iload_n 2, 1) := by decide +kernel
theorem dX6_best_50 : decode cX6_best 50 = .ok (.invokevirtual 226, 3) := by decide +kernel
theorem dX6_best_53 : decode cX6_best 53 = .ok (.aload_n 0, 1) := by decide +kernel
theorem dX6_best_54 : decode cX6_best 54 = .ok (.getfield 44, 3) := by decide +kernel
theorem dX6_best_57 : decode cX6_best 57 = .ok (.iload_n 3, 1) := by decide +kernel
theorem dX6_best_58 : decode cX6_best 58 = .ok (.invokevirtual 229, 3) := by decide +kernel
theorem dX6_best_61 : decode cX6_best 61 = .ok (.istore 5, 2) := by decide +kernel
theorem dX6_best_63 : decode cX6_best 63 = .ok (.iload 5, 2) := by decide +kernel
theorem dX6_best_65 : decode cX6_best 65 = .ok (.iconst (-1), 1) := by decide +kernel
theorem dX6_best_66 : decode cX6_best 66 = .ok (.if_icmp .ne 6, 3) := by decide +kernel
theorem dX6_best_69 : decode cX6_best 69 = .ok (.bipush (-3), 2) := by decide +kernel
theorem dX6_best_71 : decode cX6_best 71 = .ok (.ireturn, 1) := by decide +kernel
theorem dX6_best_72 : decode cX6_best 72 = .ok (.iconst 0, 1) := by decide +kernel
theorem dX6_best_73 : decode cX6_best 73 = .ok (.istore 6, 2) := by decide +kernel
theorem dX6_best_75 : decode cX6_best 75 = .ok (.iload 6, 2) := by decide +kernel
theorem dX6_best_77 : decode cX6_best 77 = .ok (.aload_n 0, 1) := by decide +kernel
theorem dX6_best_78 : decode cX6_best 78 = .ok (.getfield 44, 3) := by decide +kernel
theorem dX6_best_81 : decode cX6_best 81 = .ok (.getfield 232, 3) := by decide +kernel
theorem dX6_best_84 : decode cX6_best 84 = .ok (.if_icmp .ge 49, 3) := by decide +kernel
theorem dX6_best_87 : decode cX6_best 87 = .ok (.aload_n 0, 1) := by decide +kernel
theorem dX6_best_88 : decode cX6_best 88 = .ok (.iload_n 1, 1) := by decide +kernel
theorem dX6_best_89 : decode cX6_best 89 = .ok (.aload_n 0, 1) := by decide +kernel
theorem dX6_best_90 : decode cX6_best 90 = .ok (.getfield 44, 3) := by decide +kernel
theorem dX6_best_93 : decode cX6_best 93 = .ok (.iload 6, 2) := by decide +kernel
theorem dX6_best_95 : decode cX6_best 95 = .ok (.invokevirtual 233, 3) := by decide +kernel
theorem dX6_best_98 : decode cX6_best 98 = .ok (.invokevirtual 99, 3) := by decide +kernel
theorem dX6_best_101 : decode cX6_best 101 = .ok (.astore 7, 2) := by decide +kernel
theorem dX6_best_103 : decode cX6_best 103 = .ok (.aload 7, 2) := by decide +kernel
theorem dX6_best_105 : decode cX6_best 105 = .ok (.ifnull 22, 3) := by decide +kernel
theorem dX6_best_108 : decode cX6_best 108 = .ok (.aload 7, 2) := by decide +kernel
theorem dX6_best_110 : decode cX6_best 110 = .ok (.aload_n 0, 1) := by decide +kernel
theorem dX6_best_111 : decode cX6_best 111 = .ok (.getfield 44, 3) := by decide +kernel
theorem dX6_best_114 : decode cX6_best 114 = .ok (.iload 5, 2) := by decide +kernel
theorem dX6_best_116 : decode cX6_best 116 = .ok (.iload 6, 2) := by decide +kernel
theorem dX6_best_118 : decode cX6_best 118 = .ok (.invokevirtual 236, 3) := by decide +kernel
theorem dX6_best_121 : decode cX6_best 121 = .ok (.invokestatic 239, 3) := by decide +kernel
theorem dX6_best_124 : decode cX6_best 124 = .ok (.putfield 121, 3) := by decide +kernel
theorem dX6_best_127 : decode cX6_best 127 = .ok (.iinc 6 1, 3) := by decide +kernel
theorem dX6_best_130 : decode cX6_best 130 = .ok (.goto (-55), 3) := by decide +kernel
theorem dX6_best_133 : decode cX6_best 133 = .ok (.aload_n 0, 1) := by decide +kernel
theorem dX6_best_134 : decode cX6_best 134 = .ok (.getfield 44, 3) := by decide +kernel
theorem dX6_best_137 : decode cX6_best 137 = .ok (.iload 5, 2) := by decide +kernel
theorem dX6_best_139 : decode cX6_best 139 = .ok (.invokevirtual 242, 3) := by decide +kernel
theorem dX6_best_142 : decode cX6_best 142 = .ok (.ireturn, 1) := by decide +kernel
theorem dX6_about_0 : decode cX6_about 0 = .ok (.aload_n 0, 1) := by decide +kernel
theorem dX6_about_1 : decode cX6_about 1 = .ok (.iload_n 1, 1) := by decide +kernel
theorem dX6_about_2 : decode cX6_about 2 = .ok (.invokevirtual 73, 3) := by decide +kernel
theorem dX6_about_5 : decode cX6_about 5 = .ok (.astore 4, 2) := by decide +kernel
theorem dX6_about_7 : decode cX6_about 7 = .ok (.aload_n 0, 1) := by decide +kernel
theorem dX6_about_8 : decode cX6_about 8 = .ok (.iload_n 1, 1) := by decide +kernel
theorem dX6_about_9 : decode cX6_about 9 = .ok (.iload_n 2, 1) := by decide +kernel
theorem dX6_about_10 : decode cX6_about 10 = .ok (.invokevirtual 99, 3) := by decide +kernel
theorem dX6_about_13 : decode cX6_about 13 = .ok (.astore 5, 2) := by decide +kernel
theorem dX6_about_15 : decode cX6_about 15 = .ok (.aload 4, 2) := by decide +kernel
theorem dX6_about_17 : decode cX6_about 17 = .ok (.ifnull 18, 3) := by decide +kernel
theorem dX6_about_20 : decode cX6_about 20 = .ok (.aload 5, 2) := by decide +kernel
theorem dX6_about_22 : decode cX6_about 22 = .ok (.ifnull 13, 3) := by decide +kernel
theorem dX6_about_25 : decode cX6_about 25 = .ok (.iload_n 3, 1) := by decide +kernel
theorem dX6_about_26 : decode cX6_about 26 = .ok (.bipush 10, 2) := by decide +kernel
theorem dX6_about_28 : decode cX6_about 28 = .ok (.if_icmp .ge 9, 3) := by decide +kernel
theorem dX6_about_31 : decode cX6_about 31 = .ok (.iload_n 2, 1) := by decide +kernel
theorem dX6_about_32 : decode cX6_about 32 = .ok (.ifCond .eq 5, 3) := by decide +kernel
theorem dX6_about_35 : decode cX6_about 35 = .ok (.iconst (-1), 1) := by decide +kernel
theorem dX6_about_36 : decode cX6_about 36 = .ok (.ireturn, 1) := by decide +kernel
theorem dX6_about_37 : decode cX6_about 37 = .ok (.iload_n 3, 1) := by decide +kernel
theorem dX6_about_38 : decode cX6_about 38 = .ok (.tableswitch 125 0 13 #[70, 76, 82, 125, 125, 125, 125, 125, 125, 125, 88, 94, 113, 119], 70) := by decide +kernel
theorem dX6_about_108 : decode cX6_about 108 = .ok (.aload 4, 2) := by decide +kernel
theorem dX6_about_110 : decode cX6_about 110 = .ok (.getfield 80, 3) := by decide +kernel
theorem dX6_about_113 : decode cX6_about 113 = .ok (.ireturn, 1) := by decide +kernel
theorem dX6_about_114 : decode cX6_about 114 = .ok (.aload 4, 2) := by decide +kernel
theorem dX6_about_116 : decode cX6_about 116 = .ok (.getfield 77, 3) := by decide +kernel
theorem dX6_about_119 : decode cX6_about 119 = .ok (.ireturn, 1) := by decide +kernel
theorem dX6_about_120 : decode cX6_about 120 = .ok (.aload 4, 2) := by decide +kernel
theorem dX6_about_122 : decode cX6_about 122 = .ok (.getfield 108, 3) := by decide +kernel
theorem dX6_about_125 : decode cX6_about 125 = .ok (.ireturn, 1) := by decide +kernel
theorem dX6_about_126 : decode cX6_about 126 = .ok (.aload 5, 2) := by decide +kernel
theorem dX6_about_128 : decode cX6_about 128 = .ok (.getfield 103, 3) := by decide +kernel
theorem dX6_about_131 : decode cX6_about 131 = .ok (.ireturn, 1) := by decide +kernel
theorem dX6_about_132 : decode cX6_about 132 = .ok (.aload 5, 2) := by decide +kernel
theorem dX6_about_134 : decode cX6_about 134 = .ok (.getfield 103, 3) := by decide +kernel
theorem dX6_about_137 : decode cX6_about 137 = .ok (.iconst 1, 1) := by decide +kernel
theorem dX6_about_138 : decode cX6_about 138 = .ok (.if_icmp .ne 11, 3) := by decide +kernel
theorem dX6_about_141 : decode cX6_about 141 = .ok (.aload 5, 2) := by decide +kernel
theorem dX6_about_143 : decode cX6_about 143 = .ok (.getfield 146, 3) := by decide +kernel
theorem dX6_about_146 : decode cX6_about 146 = .ok (.goto 4, 3) := by decide +kernel
theorem dX6_about_149 : decode cX6_about 149 = .ok (.iconst (-1), 1) := by decide +kernel
theorem dX6_about_150 : decode cX6_about 150 = .ok (.ireturn, 1) := by decide +kernel
theorem dX6_about_151 : decode cX6_about 151 = .ok (.aload 5, 2) := by decide +kernel
theorem dX6_about_153 : decode cX6_about 153 = .ok (.getfield 118, 3) := by decide +kernel
theorem dX6_about_156 : decode cX6_about 156 = .ok (.ireturn, 1) := by decide +kernel
theorem dX6_about_157 : decode cX6_about 157 = .ok (.aload 5, 2) := by decide +kernel
theorem dX6_about_159 : decode cX6_about 159 = .ok (.getfield 121, 3) := by decide +kernel
theorem dX6_about_162 : decode cX6_about 162 = .ok (.ireturn, 1) := by decide +kernel
theorem dX6_about_163 : decode cX6_about 163 = .ok (.iconst (-1), 1) := by decide +kernel
theorem dX6_about_164 : decode cX6_about 164 = .ok (.ireturn, 1) := by decide +kernel
theorem dX6_all_0 : decode cX6_all 0 = .ok (.iload_n 1, 1) := by decide +kernel
theorem dX6_all_1 : decode cX6_all 1 = .ok (.tableswitch 68 0 4 #[35, 40, 45, 50, 55], 35) := by decide +kernel
theorem dX6_all_36 : decode cX6_all 36 = .ok (.aload_n 0, 1) := by decide +kernel
theorem dX6_all_37 : decode cX6_all 37 = .ok (.getfield 54, 3) := by decide +kernel
theorem dX6_all_40 : decode cX6_all 40 = .ok (.ireturn, 1) := by decide +kernel
