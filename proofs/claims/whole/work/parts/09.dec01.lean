theorem dX6_all_41 : decode cX6_all 41 = .ok (.aload_n 0, 1) := by decide +kernel
theorem dX6_all_42 : decode cX6_all 42 = .ok (.getfield 58, 3) := by decide +kernel
theorem dX6_all_45 : decode cX6_all 45 = .ok (.ireturn, 1) := by decide +kernel
theorem dX6_all_46 : decode cX6_all 46 = .ok (.aload_n 0, 1) := by decide +kernel
theorem dX6_all_47 : decode cX6_all 47 = .ok (.getfield 61, 3) := by decide +kernel
theorem dX6_all_50 : decode cX6_all 50 = .ok (.ireturn, 1) := by decide +kernel
theorem dX6_all_51 : decode cX6_all 51 = .ok (.aload_n 0, 1) := by decide +kernel
theorem dX6_all_52 : decode cX6_all 52 = .ok (.getfield 64, 3) := by decide +kernel
theorem dX6_all_55 : decode cX6_all 55 = .ok (.ireturn, 1) := by decide +kernel
theorem dX6_all_56 : decode cX6_all 56 = .ok (.aload_n 0, 1) := by decide +kernel
theorem dX6_all_57 : decode cX6_all 57 = .ok (.getfield 67, 3) := by decide +kernel
theorem dX6_all_60 : decode cX6_all 60 = .ok (.ifCond .eq 7, 3) := by decide +kernel
theorem dX6_all_63 : decode cX6_all 63 = .ok (.iconst 1, 1) := by decide +kernel
theorem dX6_all_64 : decode cX6_all 64 = .ok (.goto 4, 3) := by decide +kernel
theorem dX6_all_67 : decode cX6_all 67 = .ok (.iconst 0, 1) := by decide +kernel
theorem dX6_all_68 : decode cX6_all 68 = .ok (.ireturn, 1) := by decide +kernel
theorem dX6_all_69 : decode cX6_all 69 = .ok (.iconst (-1), 1) := by decide +kernel
theorem dX6_all_70 : decode cX6_all 70 = .ok (.ireturn, 1) := by decide +kernel
theorem dX6_tableAt_0 : decode cX6_tableAt 0 = .ok (.iload_n 1, 1) := by decide +kernel
theorem dX6_tableAt_1 : decode cX6_tableAt 1 = .ok (.ifCond .lt 25, 3) := by decide +kernel
theorem dX6_tableAt_4 : decode cX6_tableAt 4 = .ok (.iload_n 1, 1) := by decide +kernel
theorem dX6_tableAt_5 : decode cX6_tableAt 5 = .ok (.aload_n 0, 1) := by decide +kernel
theorem dX6_tableAt_6 : decode cX6_tableAt 6 = .ok (.getfield 54, 3) := by decide +kernel
theorem dX6_tableAt_9 : decode cX6_tableAt 9 = .ok (.if_icmp .ge 17, 3) := by decide +kernel
theorem dX6_tableAt_12 : decode cX6_tableAt 12 = .ok (.iload_n 1, 1) := by decide +kernel
theorem dX6_tableAt_13 : decode cX6_tableAt 13 = .ok (.iconst 4, 1) := by decide +kernel
theorem dX6_tableAt_14 : decode cX6_tableAt 14 = .ok (.if_icmp .ge 12, 3) := by decide +kernel
theorem dX6_tableAt_17 : decode cX6_tableAt 17 = .ok (.aload_n 0, 1) := by decide +kernel
theorem dX6_tableAt_18 : decode cX6_tableAt 18 = .ok (.getfield 13, 3) := by decide +kernel
theorem dX6_tableAt_21 : decode cX6_tableAt 21 = .ok (.iload_n 1, 1) := by decide +kernel
theorem dX6_tableAt_22 : decode cX6_tableAt 22 = .ok (.aaload, 1) := by decide +kernel
theorem dX6_tableAt_23 : decode cX6_tableAt 23 = .ok (.goto 4, 3) := by decide +kernel
theorem dX6_tableAt_26 : decode cX6_tableAt 26 = .ok (.aconst_null, 1) := by decide +kernel
theorem dX6_tableAt_27 : decode cX6_tableAt 27 = .ok (.areturn, 1) := by decide +kernel
theorem dX6_columnAt_0 : decode cX6_columnAt 0 = .ok (.aload_n 0, 1) := by decide +kernel
theorem dX6_columnAt_1 : decode cX6_columnAt 1 = .ok (.iload_n 1, 1) := by decide +kernel
theorem dX6_columnAt_2 : decode cX6_columnAt 2 = .ok (.invokevirtual 73, 3) := by decide +kernel
theorem dX6_columnAt_5 : decode cX6_columnAt 5 = .ok (.astore_n 3, 1) := by decide +kernel
theorem dX6_columnAt_6 : decode cX6_columnAt 6 = .ok (.aload_n 3, 1) := by decide +kernel
theorem dX6_columnAt_7 : decode cX6_columnAt 7 = .ok (.ifnonnull 7, 3) := by decide +kernel
theorem dX6_columnAt_10 : decode cX6_columnAt 10 = .ok (.aconst_null, 1) := by decide +kernel
theorem dX6_columnAt_11 : decode cX6_columnAt 11 = .ok (.goto 8, 3) := by decide +kernel
theorem dX6_columnAt_14 : decode cX6_columnAt 14 = .ok (.aload_n 3, 1) := by decide +kernel
theorem dX6_columnAt_15 : decode cX6_columnAt 15 = .ok (.iload_n 2, 1) := by decide +kernel
theorem dX6_columnAt_16 : decode cX6_columnAt 16 = .ok (.invokevirtual 245, 3) := by decide +kernel
theorem dX6_columnAt_19 : decode cX6_columnAt 19 = .ok (.areturn, 1) := by decide +kernel
theorem dX6_rowsOf_0 : decode cX6_rowsOf 0 = .ok (.aload_n 0, 1) := by decide +kernel
theorem dX6_rowsOf_1 : decode cX6_rowsOf 1 = .ok (.iload_n 1, 1) := by decide +kernel
theorem dX6_rowsOf_2 : decode cX6_rowsOf 2 = .ok (.invokevirtual 73, 3) := by decide +kernel
theorem dX6_rowsOf_5 : decode cX6_rowsOf 5 = .ok (.astore_n 2, 1) := by decide +kernel
theorem dX6_rowsOf_6 : decode cX6_rowsOf 6 = .ok (.aload_n 2, 1) := by decide +kernel
theorem dX6_rowsOf_7 : decode cX6_rowsOf 7 = .ok (.ifnonnull 7, 3) := by decide +kernel
theorem dX6_rowsOf_10 : decode cX6_rowsOf 10 = .ok (.iconst 0, 1) := by decide +kernel
theorem dX6_rowsOf_11 : decode cX6_rowsOf 11 = .ok (.goto 7, 3) := by decide +kernel
theorem dX6_rowsOf_14 : decode cX6_rowsOf 14 = .ok (.aload_n 2, 1) := by decide +kernel
theorem dX6_rowsOf_15 : decode cX6_rowsOf 15 = .ok (.getfield 77, 3) := by decide +kernel
theorem dX6_rowsOf_18 : decode cX6_rowsOf 18 = .ok (.ireturn, 1) := by decide +kernel
theorem dX6_columnsOf_0 : decode cX6_columnsOf 0 = .ok (.aload_n 0, 1) := by decide +kernel
theorem dX6_columnsOf_1 : decode cX6_columnsOf 1 = .ok (.iload_n 1, 1) := by decide +kernel
theorem dX6_columnsOf_2 : decode cX6_columnsOf 2 = .ok (.invokevirtual 73, 3) := by decide +kernel
theorem dX6_columnsOf_5 : decode cX6_columnsOf 5 = .ok (.astore_n 2, 1) := by decide +kernel
theorem dX6_columnsOf_6 : decode cX6_columnsOf 6 = .ok (.aload_n 2, 1) := by decide +kernel
theorem dX6_columnsOf_7 : decode cX6_columnsOf 7 = .ok (.ifnonnull 7, 3) := by decide +kernel
theorem dX6_columnsOf_10 : decode cX6_columnsOf 10 = .ok (.iconst 0, 1) := by decide +kernel
theorem dX6_columnsOf_11 : decode cX6_columnsOf 11 = .ok (.goto 7, 3) := by decide +kernel
theorem dX6_columnsOf_14 : decode cX6_columnsOf 14 = .ok (.aload_n 2, 1) := by decide +kernel
theorem dX6_columnsOf_15 : decode cX6_columnsOf 15 = .ok (.getfield 80, 3) := by decide +kernel
theorem dX6_columnsOf_18 : decode cX6_columnsOf 18 = .ok (.ireturn, 1) := by decide +kernel
theorem dX6_isRow_0 : decode cX6_isRow 0 = .ok (.iload_n 2, 1) := by decide +kernel
theorem dX6_isRow_1 : decode cX6_isRow 1 = .ok (.ifCond .lt 16, 3) := by decide +kernel
theorem dX6_isRow_4 : decode cX6_isRow 4 = .ok (.iload_n 2, 1) := by decide +kernel
theorem dX6_isRow_5 : decode cX6_isRow 5 = .ok (.aload_n 0, 1) := by decide +kernel
theorem dX6_isRow_6 : decode cX6_isRow 6 = .ok (.iload_n 1, 1) := by decide +kernel
theorem dX6_isRow_7 : decode cX6_isRow 7 = .ok (.invokevirtual 200, 3) := by decide +kernel
theorem dX6_isRow_10 : decode cX6_isRow 10 = .ok (.if_icmp .ge 7, 3) := by decide +kernel
theorem dX6_isRow_13 : decode cX6_isRow 13 = .ok (.iconst 1, 1) := by decide +kernel
theorem dX6_isRow_14 : decode cX6_isRow 14 = .ok (.goto 4, 3) := by decide +kernel
theorem dX6_isRow_17 : decode cX6_isRow 17 = .ok (.iconst 0, 1) := by decide +kernel
theorem dX6_isRow_18 : decode cX6_isRow 18 = .ok (.ireturn, 1) := by decide +kernel
theorem dX6_copyOf_0 : decode cX6_copyOf 0 = .ok (.iload_n 1, 1) := by decide +kernel
theorem dX6_copyOf_1 : decode cX6_copyOf 1 = .ok (.ifCond .ne 8, 3) := by decide +kernel
theorem dX6_copyOf_4 : decode cX6_copyOf 4 = .ok (.aload_n 0, 1) := by decide +kernel
theorem dX6_copyOf_5 : decode cX6_copyOf 5 = .ok (.getfield 30, 3) := by decide +kernel
theorem dX6_copyOf_8 : decode cX6_copyOf 8 = .ok (.areturn, 1) := by decide +kernel
theorem dX6_copyOf_9 : decode cX6_copyOf 9 = .ok (.aload_n 0, 1) := by decide +kernel
theorem dX6_copyOf_10 : decode cX6_copyOf 10 = .ok (.getfield 67, 3) := by decide +kernel
theorem dX6_copyOf_13 : decode cX6_copyOf 13 = .ok (.ifCond .eq 10, 3) := by decide +kernel
theorem dX6_copyOf_16 : decode cX6_copyOf 16 = .ok (.aload_n 0, 1) := by decide +kernel
theorem dX6_copyOf_17 : decode cX6_copyOf 17 = .ok (.getfield 48, 3) := by decide +kernel
theorem dX6_copyOf_20 : decode cX6_copyOf 20 = .ok (.goto 4, 3) := by decide +kernel
theorem dX6_copyOf_23 : decode cX6_copyOf 23 = .ok (.aconst_null, 1) := by decide +kernel
theorem dX6_copyOf_24 : decode cX6_copyOf 24 = .ok (.areturn, 1) := by decide +kernel
theorem dX6_areColumns_0 : decode cX6_areColumns 0 = .ok (.iload_n 2, 1) := by decide +kernel
theorem dX6_areColumns_1 : decode cX6_areColumns 1 = .ok (.ifCond .lt 18, 3) := by decide +kernel
theorem dX6_areColumns_4 : decode cX6_areColumns 4 = .ok (.iload_n 2, 1) := by decide +kernel
theorem dX6_areColumns_5 : decode cX6_areColumns 5 = .ok (.iconst 1, 1) := by decide +kernel
theorem dX6_areColumns_6 : decode cX6_areColumns 6 = .ok (.aload_n 0, 1) := by decide +kernel
theorem dX6_areColumns_7 : decode cX6_areColumns 7 = .ok (.iload_n 1, 1) := by decide +kernel
theorem dX6_areColumns_8 : decode cX6_areColumns 8 = .ok (.invokevirtual 249, 3) := by decide +kernel
theorem dX6_areColumns_11 : decode cX6_areColumns 11 = .ok (.ishl, 1) := by decide +kernel
theorem dX6_areColumns_12 : decode cX6_areColumns 12 = .ok (.if_icmp .ge 7, 3) := by decide +kernel
theorem dX6_areColumns_15 : decode cX6_areColumns 15 = .ok (.iconst 1, 1) := by decide +kernel
theorem dX6_areColumns_16 : decode cX6_areColumns 16 = .ok (.goto 4, 3) := by decide +kernel
theorem dX6_areColumns_19 : decode cX6_areColumns 19 = .ok (.iconst 0, 1) := by decide +kernel
theorem dX6_areColumns_20 : decode cX6_areColumns 20 = .ok (.ireturn, 1) := by decide +kernel
theorem dX6_rowsWith_0 : decode cX6_rowsWith 0 = .ok (.iconst 0, 1) := by decide +kernel
theorem dX6_rowsWith_1 : decode cX6_rowsWith 1 = .ok (.istore 5, 2) := by decide +kernel
theorem dX6_rowsWith_3 : decode cX6_rowsWith 3 = .ok (.iconst 0, 1) := by decide +kernel
theorem dX6_rowsWith_4 : decode cX6_rowsWith 4 = .ok (.istore 6, 2) := by decide +kernel
theorem dX6_rowsWith_6 : decode cX6_rowsWith 6 = .ok (.iload 6, 2) := by decide +kernel
theorem dX6_rowsWith_8 : decode cX6_rowsWith 8 = .ok (.aload_n 0, 1) := by decide +kernel
theorem dX6_rowsWith_9 : decode cX6_rowsWith 9 = .ok (.iload_n 2, 1) := by decide +kernel
theorem dX6_rowsWith_10 : decode cX6_rowsWith 10 = .ok (.invokevirtual 200, 3) := by decide +kernel
theorem dX6_rowsWith_13 : decode cX6_rowsWith 13 = .ok (.if_icmp .ge 25, 3) := by decide +kernel
theorem dX6_rowsWith_16 : decode cX6_rowsWith 16 = .ok (.aload_n 1, 1) := by decide +kernel
theorem dX6_rowsWith_17 : decode cX6_rowsWith 17 = .ok (.iload_n 2, 1) := by decide +kernel
theorem dX6_rowsWith_18 : decode cX6_rowsWith 18 = .ok (.iload 6, 2) := by decide +kernel
theorem dX6_rowsWith_20 : decode cX6_rowsWith 20 = .ok (.iload_n 3, 1) := by decide +kernel
theorem dX6_rowsWith_21 : decode cX6_rowsWith 21 = .ok (.invokevirtual 180, 3) := by decide +kernel
theorem dX6_rowsWith_24 : decode cX6_rowsWith 24 = .ok (.iload 4, 2) := by decide +kernel
theorem dX6_rowsWith_26 : decode cX6_rowsWith 26 = .ok (.if_icmp .ne 6, 3) := by decide +kernel
theorem dX6_rowsWith_29 : decode cX6_rowsWith 29 = .ok (.iinc 5 1, 3) := by decide +kernel
theorem dX6_rowsWith_32 : decode cX6_rowsWith 32 = .ok (.iinc 6 1, 3) := by decide +kernel
theorem dX6_rowsWith_35 : decode cX6_rowsWith 35 = .ok (.goto (-29), 3) := by decide +kernel
theorem dX6_rowsWith_38 : decode cX6_rowsWith 38 = .ok (.iload 5, 2) := by decide +kernel
theorem dX6_rowsWith_40 : decode cX6_rowsWith 40 = .ok (.ireturn, 1) := by decide +kernel
theorem dX6_isBit_0 : decode cX6_isBit 0 = .ok (.iload_n 0, 1) := by decide +kernel
theorem dX6_isBit_1 : decode cX6_isBit 1 = .ok (.ifCond .eq 8, 3) := by decide +kernel
theorem dX6_isBit_4 : decode cX6_isBit 4 = .ok (.iload_n 0, 1) := by decide +kernel
theorem dX6_isBit_5 : decode cX6_isBit 5 = .ok (.iconst 1, 1) := by decide +kernel
theorem dX6_isBit_6 : decode cX6_isBit 6 = .ok (.if_icmp .ne 7, 3) := by decide +kernel
theorem dX6_isBit_9 : decode cX6_isBit 9 = .ok (.iconst 1, 1) := by decide +kernel
theorem dX6_isBit_10 : decode cX6_isBit 10 = .ok (.goto 4, 3) := by decide +kernel
theorem dX6_isBit_13 : decode cX6_isBit 13 = .ok (.iconst 0, 1) := by decide +kernel
theorem dX6_isBit_14 : decode cX6_isBit 14 = .ok (.ireturn, 1) := by decide +kernel
theorem dX6_hasBit_0 : decode cX6_hasBit 0 = .ok (.iload_n 0, 1) := by decide +kernel
theorem dX6_hasBit_1 : decode cX6_hasBit 1 = .ok (.iload_n 1, 1) := by decide +kernel
theorem dX6_hasBit_2 : decode cX6_hasBit 2 = .ok (.ishr, 1) := by decide +kernel
theorem dX6_hasBit_3 : decode cX6_hasBit 3 = .ok (.iconst 1, 1) := by decide +kernel
theorem dX6_hasBit_4 : decode cX6_hasBit 4 = .ok (.iand, 1) := by decide +kernel
theorem dX6_hasBit_5 : decode cX6_hasBit 5 = .ok (.iconst 1, 1) := by decide +kernel
theorem dX6_hasBit_6 : decode cX6_hasBit 6 = .ok (.if_icmp .ne 7, 3) := by decide +kernel
theorem dX6_hasBit_9 : decode cX6_hasBit 9 = .ok (.iconst 1, 1) := by decide +kernel
theorem dX6_hasBit_10 : decode cX6_hasBit 10 = .ok (.goto 4, 3) := by decide +kernel
theorem dX6_hasBit_13 : decode cX6_hasBit 13 = .ok (.iconst 0, 1) := by decide +kernel
theorem dX6_hasBit_14 : decode cX6_hasBit 14 = .ok (.ireturn, 1) := by decide +kernel
theorem dX6_rightFigure_0 : decode cX6_rightFigure 0 = .ok (.iload_n 0, 1) := by decide +kernel
theorem dX6_rightFigure_1 : decode cX6_rightFigure 1 = .ok (.sipush 1000, 3) := by decide +kernel
theorem dX6_rightFigure_4 : decode cX6_rightFigure 4 = .ok (.idiv, 1) := by decide +kernel
theorem dX6_rightFigure_5 : decode cX6_rightFigure 5 = .ok (.bipush 10, 2) := by decide +kernel
theorem dX6_rightFigure_7 : decode cX6_rightFigure 7 = .ok (.irem, 1) := by decide +kernel
theorem dX6_rightFigure_8 : decode cX6_rightFigure 8 = .ok (.istore_n 1, 1) := by decide +kernel
theorem dX6_rightFigure_9 : decode cX6_rightFigure 9 = .ok (.iload_n 0, 1) := by decide +kernel
theorem dX6_rightFigure_10 : decode cX6_rightFigure 10 = .ok (.bipush 100, 2) := by decide +kernel
theorem dX6_rightFigure_12 : decode cX6_rightFigure 12 = .ok (.idiv, 1) := by decide +kernel
theorem dX6_rightFigure_13 : decode cX6_rightFigure 13 = .ok (.bipush 10, 2) := by decide +kernel
theorem dX6_rightFigure_15 : decode cX6_rightFigure 15 = .ok (.irem, 1) := by decide +kernel
theorem dX6_rightFigure_16 : decode cX6_rightFigure 16 = .ok (.istore_n 2, 1) := by decide +kernel
theorem dX6_rightFigure_17 : decode cX6_rightFigure 17 = .ok (.iload_n 0, 1) := by decide +kernel
theorem dX6_rightFigure_18 : decode cX6_rightFigure 18 = .ok (.bipush 10, 2) := by decide +kernel
theorem dX6_rightFigure_20 : decode cX6_rightFigure 20 = .ok (.idiv, 1) := by decide +kernel
theorem dX6_rightFigure_21 : decode cX6_rightFigure 21 = .ok (.bipush 10, 2) := by decide +kernel
theorem dX6_rightFigure_23 : decode cX6_rightFigure 23 = .ok (.irem, 1) := by decide +kernel
theorem dX6_rightFigure_24 : decode cX6_rightFigure 24 = .ok (.istore_n 3, 1) := by decide +kernel
theorem dX6_rightFigure_25 : decode cX6_rightFigure 25 = .ok (.iload_n 0, 1) := by decide +kernel
theorem dX6_rightFigure_26 : decode cX6_rightFigure 26 = .ok (.bipush 10, 2) := by decide +kernel
theorem dX6_rightFigure_28 : decode cX6_rightFigure 28 = .ok (.irem, 1) := by decide +kernel
theorem dX6_rightFigure_29 : decode cX6_rightFigure 29 = .ok (.istore 4, 2) := by decide +kernel
theorem dX6_rightFigure_31 : decode cX6_rightFigure 31 = .ok (.iload_n 1, 1) := by decide +kernel
theorem dX6_rightFigure_32 : decode cX6_rightFigure 32 = .ok (.iconst 2, 1) := by decide +kernel
theorem dX6_rightFigure_33 : decode cX6_rightFigure 33 = .ok (.iload_n 2, 1) := by decide +kernel
theorem dX6_rightFigure_34 : decode cX6_rightFigure 34 = .ok (.imul, 1) := by decide +kernel
theorem dX6_rightFigure_35 : decode cX6_rightFigure 35 = .ok (.iadd, 1) := by decide +kernel
theorem dX6_rightFigure_36 : decode cX6_rightFigure 36 = .ok (.iconst 3, 1) := by decide +kernel
theorem dX6_rightFigure_37 : decode cX6_rightFigure 37 = .ok (.iload_n 3, 1) := by decide +kernel
theorem dX6_rightFigure_38 : decode cX6_rightFigure 38 = .ok (.imul, 1) := by decide +kernel
theorem dX6_rightFigure_39 : decode cX6_rightFigure 39 = .ok (.iadd, 1) := by decide +kernel
theorem dX6_rightFigure_40 : decode cX6_rightFigure 40 = .ok (.iconst 4, 1) := by decide +kernel
theorem dX6_rightFigure_41 : decode cX6_rightFigure 41 = .ok (.iload 4, 2) := by decide +kernel
theorem dX6_rightFigure_43 : decode cX6_rightFigure 43 = .ok (.imul, 1) := by decide +kernel
theorem dX6_rightFigure_44 : decode cX6_rightFigure 44 = .ok (.iadd, 1) := by decide +kernel
theorem dX6_rightFigure_45 : decode cX6_rightFigure 45 = .ok (.bipush 10, 2) := by decide +kernel
theorem dX6_rightFigure_47 : decode cX6_rightFigure 47 = .ok (.irem, 1) := by decide +kernel
theorem dX6_rightFigure_48 : decode cX6_rightFigure 48 = .ok (.ireturn, 1) := by decide +kernel
theorem dX6_isKeyNumber_0 : decode cX6_isKeyNumber 0 = .ok (.iload_n 0, 1) := by decide +kernel
theorem dX6_isKeyNumber_1 : decode cX6_isKeyNumber 1 = .ok (.ifCond .lt 27, 3) := by decide +kernel
theorem dX6_isKeyNumber_4 : decode cX6_isKeyNumber 4 = .ok (.iload_n 0, 1) := by decide +kernel
theorem dX6_isKeyNumber_5 : decode cX6_isKeyNumber 5 = .ok (.ldc 252, 2) := by decide +kernel
theorem dX6_isKeyNumber_7 : decode cX6_isKeyNumber 7 = .ok (.if_icmp .gt 21, 3) := by decide +kernel
theorem dX6_isKeyNumber_10 : decode cX6_isKeyNumber 10 = .ok (.iload_n 0, 1) := by decide +kernel
theorem dX6_isKeyNumber_11 : decode cX6_isKeyNumber 11 = .ok (.bipush 10, 2) := by decide +kernel
theorem dX6_isKeyNumber_13 : decode cX6_isKeyNumber 13 = .ok (.irem, 1) := by decide +kernel
theorem dX6_isKeyNumber_14 : decode cX6_isKeyNumber 14 = .ok (.iload_n 0, 1) := by decide +kernel
theorem dX6_isKeyNumber_15 : decode cX6_isKeyNumber 15 = .ok (.bipush 10, 2) := by decide +kernel
theorem dX6_isKeyNumber_17 : decode cX6_isKeyNumber 17 = .ok (.idiv, 1) := by decide +kernel
theorem dX6_isKeyNumber_18 : decode cX6_isKeyNumber 18 = .ok (.invokestatic 253, 3) := by decide +kernel
theorem dX6_isKeyNumber_21 : decode cX6_isKeyNumber 21 = .ok (.if_icmp .ne 7, 3) := by decide +kernel
theorem dX6_isKeyNumber_24 : decode cX6_isKeyNumber 24 = .ok (.iconst 1, 1) := by decide +kernel
theorem dX6_isKeyNumber_25 : decode cX6_isKeyNumber 25 = .ok (.goto 4, 3) := by decide +kernel
theorem dX6_isKeyNumber_28 : decode cX6_isKeyNumber 28 = .ok (.iconst 0, 1) := by decide +kernel
theorem dX6_isKeyNumber_29 : decode cX6_isKeyNumber 29 = .ok (.ireturn, 1) := by decide +kernel
theorem dX6_isNumberOfKind_0 : decode cX6_isNumberOfKind 0 = .ok (.iload_n 0, 1) := by decide +kernel
theorem dX6_isNumberOfKind_1 : decode cX6_isNumberOfKind 1 = .ok (.tableswitch 93 0 4 #[35, 35, 40, 57, 77], 35) := by decide +kernel
theorem dX6_isNumberOfKind_36 : decode cX6_isNumberOfKind 36 = .ok (.iload_n 1, 1) := by decide +kernel
theorem dX6_isNumberOfKind_37 : decode cX6_isNumberOfKind 37 = .ok (.invokestatic 194, 3) := by decide +kernel
theorem dX6_isNumberOfKind_40 : decode cX6_isNumberOfKind 40 = .ok (.ireturn, 1) := by decide +kernel
theorem dX6_isNumberOfKind_41 : decode cX6_isNumberOfKind 41 = .ok (.iload_n 1, 1) := by decide +kernel
theorem dX6_isNumberOfKind_42 : decode cX6_isNumberOfKind 42 = .ok (.ifCond .lt 14, 3) := by decide +kernel
theorem dX6_isNumberOfKind_45 : decode cX6_isNumberOfKind 45 = .ok (.iload_n 1, 1) := by decide +kernel
theorem dX6_isNumberOfKind_46 : decode cX6_isNumberOfKind 46 = .ok (.sipush 9999, 3) := by decide +kernel
theorem dX6_isNumberOfKind_49 : decode cX6_isNumberOfKind 49 = .ok (.if_icmp .gt 7, 3) := by decide +kernel
theorem dX6_isNumberOfKind_52 : decode cX6_isNumberOfKind 52 = .ok (.iconst 1, 1) := by decide +kernel
theorem dX6_isNumberOfKind_53 : decode cX6_isNumberOfKind 53 = .ok (.goto 4, 3) := by decide +kernel
theorem dX6_isNumberOfKind_56 : decode cX6_isNumberOfKind 56 = .ok (.iconst 0, 1) := by decide +kernel
theorem dX6_isNumberOfKind_57 : decode cX6_isNumberOfKind 57 = .ok (.ireturn, 1) := by decide +kernel
theorem dX6_isNumberOfKind_58 : decode cX6_isNumberOfKind 58 = .ok (.iload_n 1, 1) := by decide +kernel
theorem dX6_isNumberOfKind_59 : decode cX6_isNumberOfKind 59 = .ok (.sipush (-9999), 3) := by decide +kernel
theorem dX6_isNumberOfKind_62 : decode cX6_isNumberOfKind 62 = .ok (.if_icmp .lt 14, 3) := by decide +kernel
theorem dX6_isNumberOfKind_65 : decode cX6_isNumberOfKind 65 = .ok (.iload_n 1, 1) := by decide +kernel
theorem dX6_isNumberOfKind_66 : decode cX6_isNumberOfKind 66 = .ok (.sipush 9999, 3) := by decide +kernel
theorem dX6_isNumberOfKind_69 : decode cX6_isNumberOfKind 69 = .ok (.if_icmp .gt 7, 3) := by decide +kernel
theorem dX6_isNumberOfKind_72 : decode cX6_isNumberOfKind 72 = .ok (.iconst 1, 1) := by decide +kernel
theorem dX6_isNumberOfKind_73 : decode cX6_isNumberOfKind 73 = .ok (.goto 4, 3) := by decide +kernel
theorem dX6_isNumberOfKind_76 : decode cX6_isNumberOfKind 76 = .ok (.iconst 0, 1) := by decide +kernel
theorem dX6_isNumberOfKind_77 : decode cX6_isNumberOfKind 77 = .ok (.ireturn, 1) := by decide +kernel
theorem dX6_isNumberOfKind_78 : decode cX6_isNumberOfKind 78 = .ok (.iload_n 1, 1) := by decide +kernel
theorem dX6_isNumberOfKind_79 : decode cX6_isNumberOfKind 79 = .ok (.ifCond .lt 13, 3) := by decide +kernel
theorem dX6_isNumberOfKind_82 : decode cX6_isNumberOfKind 82 = .ok (.iload_n 1, 1) := by decide +kernel
theorem dX6_isNumberOfKind_83 : decode cX6_isNumberOfKind 83 = .ok (.bipush 99, 2) := by decide +kernel
theorem dX6_isNumberOfKind_85 : decode cX6_isNumberOfKind 85 = .ok (.if_icmp .gt 7, 3) := by decide +kernel
theorem dX6_isNumberOfKind_88 : decode cX6_isNumberOfKind 88 = .ok (.iconst 1, 1) := by decide +kernel
theorem dX6_isNumberOfKind_89 : decode cX6_isNumberOfKind 89 = .ok (.goto 4, 3) := by decide +kernel
theorem dX6_isNumberOfKind_92 : decode cX6_isNumberOfKind 92 = .ok (.iconst 0, 1) := by decide +kernel
theorem dX6_isNumberOfKind_93 : decode cX6_isNumberOfKind 93 = .ok (.ireturn, 1) := by decide +kernel
theorem dX6_isNumberOfKind_94 : decode cX6_isNumberOfKind 94 = .ok (.iconst 0, 1) := by decide +kernel
theorem dX6_isNumberOfKind_95 : decode cX6_isNumberOfKind 95 = .ok (.ireturn, 1) := by decide +kernel
theorem dX6_waitingCellsFit_0 : decode cX6_waitingCellsFit 0 = .ok (.aload_n 0, 1) := by decide +kernel
theorem dX6_waitingCellsFit_1 : decode cX6_waitingCellsFit 1 = .ok (.getfield 61, 3) := by decide +kernel
theorem dX6_waitingCellsFit_4 : decode cX6_waitingCellsFit 4 = .ok (.aload_n 1, 1) := by decide +kernel
theorem dX6_waitingCellsFit_5 : decode cX6_waitingCellsFit 5 = .ok (.getfield 80, 3) := by decide +kernel
theorem dX6_waitingCellsFit_8 : decode cX6_waitingCellsFit 8 = .ok (.if_icmp .eq 5, 3) := by decide +kernel
theorem dX6_waitingCellsFit_11 : decode cX6_waitingCellsFit 11 = .ok (.iconst 0, 1) := by decide +kernel
theorem dX6_waitingCellsFit_12 : decode cX6_waitingCellsFit 12 = .ok (.ireturn, 1) := by decide +kernel
theorem dX6_waitingCellsFit_13 : decode cX6_waitingCellsFit 13 = .ok (.iconst 0, 1) := by decide +kernel
theorem dX6_waitingCellsFit_14 : decode cX6_waitingCellsFit 14 = .ok (.istore_n 2, 1) := by decide +kernel
theorem dX6_waitingCellsFit_15 : decode cX6_waitingCellsFit 15 = .ok (.iload_n 2, 1) := by decide +kernel
theorem dX6_waitingCellsFit_16 : decode cX6_waitingCellsFit 16 = .ok (.aload_n 0, 1) := by decide +kernel
theorem dX6_waitingCellsFit_17 : decode cX6_waitingCellsFit 17 = .ok (.getfield 61, 3) := by decide +kernel
theorem dX6_waitingCellsFit_20 : decode cX6_waitingCellsFit 20 = .ok (.if_icmp .ge 69, 3) := by decide +kernel
theorem dX6_waitingCellsFit_23 : decode cX6_waitingCellsFit 23 = .ok (.aload_n 1, 1) := by decide +kernel
theorem dX6_waitingCellsFit_24 : decode cX6_waitingCellsFit 24 = .ok (.iload_n 2, 1) := by decide +kernel
theorem dX6_waitingCellsFit_25 : decode cX6_waitingCellsFit 25 = .ok (.invokevirtual 245, 3) := by decide +kernel
theorem dX6_waitingCellsFit_28 : decode cX6_waitingCellsFit 28 = .ok (.astore_n 3, 1) := by decide +kernel
theorem dX6_waitingCellsFit_29 : decode cX6_waitingCellsFit 29 = .ok (.aload_n 3, 1) := by decide +kernel
theorem dX6_waitingCellsFit_30 : decode cX6_waitingCellsFit 30 = .ok (.ifnonnull 5, 3) := by decide +kernel
theorem dX6_waitingCellsFit_33 : decode cX6_waitingCellsFit 33 = .ok (.iconst 0, 1) := by decide +kernel
theorem dX6_waitingCellsFit_34 : decode cX6_waitingCellsFit 34 = .ok (.ireturn, 1) := by decide +kernel
theorem dX6_waitingCellsFit_35 : decode cX6_waitingCellsFit 35 = .ok (.aload_n 3, 1) := by decide +kernel
theorem dX6_waitingCellsFit_36 : decode cX6_waitingCellsFit 36 = .ok (.getfield 103, 3) := by decide +kernel
theorem dX6_waitingCellsFit_39 : decode cX6_waitingCellsFit 39 = .ok (.ifCond .eq 18, 3) := by decide +kernel
theorem dX6_waitingCellsFit_42 : decode cX6_waitingCellsFit 42 = .ok (.aload_n 0, 1) := by decide +kernel
theorem dX6_waitingCellsFit_43 : decode cX6_waitingCellsFit 43 = .ok (.getfield 23, 3) := by decide +kernel
theorem dX6_waitingCellsFit_46 : decode cX6_waitingCellsFit 46 = .ok (.iload_n 2, 1) := by decide +kernel
theorem dX6_waitingCellsFit_47 : decode cX6_waitingCellsFit 47 = .ok (.iaload, 1) := by decide +kernel
theorem dX6_waitingCellsFit_48 : decode cX6_waitingCellsFit 48 = .ok (.ldc 179, 2) := by decide +kernel
theorem dX6_waitingCellsFit_50 : decode cX6_waitingCellsFit 50 = .ok (.if_icmp .ne 7, 3) := by decide +kernel
theorem dX6_waitingCellsFit_53 : decode cX6_waitingCellsFit 53 = .ok (.iconst 1, 1) := by decide +kernel
theorem dX6_waitingCellsFit_54 : decode cX6_waitingCellsFit 54 = .ok (.goto 4, 3) := by decide +kernel
theorem dX6_waitingCellsFit_57 : decode cX6_waitingCellsFit 57 = .ok (.iconst 0, 1) := by decide +kernel
theorem dX6_waitingCellsFit_58 : decode cX6_waitingCellsFit 58 = .ok (.istore 4, 2) := by decide +kernel
theorem dX6_waitingCellsFit_60 : decode cX6_waitingCellsFit 60 = .ok (.iload 4, 2) := by decide +kernel
theorem dX6_waitingCellsFit_62 : decode cX6_waitingCellsFit 62 = .ok (.ifCond .ne 21, 3) := by decide +kernel
theorem dX6_waitingCellsFit_65 : decode cX6_waitingCellsFit 65 = .ok (.aload_n 3, 1) := by decide +kernel
theorem dX6_waitingCellsFit_66 : decode cX6_waitingCellsFit 66 = .ok (.getfield 103, 3) := by decide +kernel
theorem dX6_waitingCellsFit_69 : decode cX6_waitingCellsFit 69 = .ok (.aload_n 0, 1) := by decide +kernel
theorem dX6_waitingCellsFit_70 : decode cX6_waitingCellsFit 70 = .ok (.getfield 23, 3) := by decide +kernel
theorem dX6_waitingCellsFit_73 : decode cX6_waitingCellsFit 73 = .ok (.iload_n 2, 1) := by decide +kernel
theorem dX6_waitingCellsFit_74 : decode cX6_waitingCellsFit 74 = .ok (.iaload, 1) := by decide +kernel
theorem dX6_waitingCellsFit_75 : decode cX6_waitingCellsFit 75 = .ok (.invokestatic 184, 3) := by decide +kernel
theorem dX6_waitingCellsFit_78 : decode cX6_waitingCellsFit 78 = .ok (.ifCond .ne 5, 3) := by decide +kernel
theorem dX6_waitingCellsFit_81 : decode cX6_waitingCellsFit 81 = .ok (.iconst 0, 1) := by decide +kernel
theorem dX6_waitingCellsFit_82 : decode cX6_waitingCellsFit 82 = .ok (.ireturn, 1) := by decide +kernel
theorem dX6_waitingCellsFit_83 : decode cX6_waitingCellsFit 83 = .ok (.iinc 2 1, 3) := by decide +kernel
theorem dX6_waitingCellsFit_86 : decode cX6_waitingCellsFit 86 = .ok (.goto (-71), 3) := by decide +kernel
theorem dX6_waitingCellsFit_89 : decode cX6_waitingCellsFit 89 = .ok (.iconst 1, 1) := by decide +kernel
theorem dX6_waitingCellsFit_90 : decode cX6_waitingCellsFit 90 = .ok (.ireturn, 1) := by decide +kernel
theorem dX6_isMaskOf_0 : decode cX6_isMaskOf 0 = .ok (.iload_n 1, 1) := by decide +kernel
theorem dX6_isMaskOf_1 : decode cX6_isMaskOf 1 = .ok (.tableswitch 104 0 5 #[39, 41, 56, 67, 83, 94], 39) := by decide +kernel
theorem dX6_isMaskOf_40 : decode cX6_isMaskOf 40 = .ok (.iconst 1, 1) := by decide +kernel
theorem dX6_isMaskOf_41 : decode cX6_isMaskOf 41 = .ok (.ireturn, 1) := by decide +kernel
theorem dX6_isMaskOf_42 : decode cX6_isMaskOf 42 = .ok (.iload_n 0, 1) := by decide +kernel
theorem dX6_isMaskOf_43 : decode cX6_isMaskOf 43 = .ok (.ifCond .eq 8, 3) := by decide +kernel
theorem dX6_isMaskOf_46 : decode cX6_isMaskOf 46 = .ok (.iload_n 0, 1) := by decide +kernel
theorem dX6_isMaskOf_47 : decode cX6_isMaskOf 47 = .ok (.iconst 4, 1) := by decide +kernel
theorem dX6_isMaskOf_48 : decode cX6_isMaskOf 48 = .ok (.if_icmp .ne 7, 3) := by decide +kernel
theorem dX6_isMaskOf_51 : decode cX6_isMaskOf 51 = .ok (.iconst 1, 1) := by decide +kernel
theorem dX6_isMaskOf_52 : decode cX6_isMaskOf 52 = .ok (.goto 4, 3) := by decide +kernel
theorem dX6_isMaskOf_55 : decode cX6_isMaskOf 55 = .ok (.iconst 0, 1) := by decide +kernel
theorem dX6_isMaskOf_56 : decode cX6_isMaskOf 56 = .ok (.ireturn, 1) := by decide +kernel
theorem dX6_isMaskOf_57 : decode cX6_isMaskOf 57 = .ok (.iload_n 0, 1) := by decide +kernel
theorem dX6_isMaskOf_58 : decode cX6_isMaskOf 58 = .ok (.iconst 2, 1) := by decide +kernel
theorem dX6_isMaskOf_59 : decode cX6_isMaskOf 59 = .ok (.if_icmp .ne 7, 3) := by decide +kernel
theorem dX6_isMaskOf_62 : decode cX6_isMaskOf 62 = .ok (.iconst 1, 1) := by decide +kernel
theorem dX6_isMaskOf_63 : decode cX6_isMaskOf 63 = .ok (.goto 4, 3) := by decide +kernel
theorem dX6_isMaskOf_66 : decode cX6_isMaskOf 66 = .ok (.iconst 0, 1) := by decide +kernel
theorem dX6_isMaskOf_67 : decode cX6_isMaskOf 67 = .ok (.ireturn, 1) := by decide +kernel
theorem dX6_isMaskOf_68 : decode cX6_isMaskOf 68 = .ok (.iload_n 0, 1) := by decide +kernel
theorem dX6_isMaskOf_69 : decode cX6_isMaskOf 69 = .ok (.iconst 2, 1) := by decide +kernel
theorem dX6_isMaskOf_70 : decode cX6_isMaskOf 70 = .ok (.if_icmp .eq 8, 3) := by decide +kernel
theorem dX6_isMaskOf_73 : decode cX6_isMaskOf 73 = .ok (.iload_n 0, 1) := by decide +kernel
theorem dX6_isMaskOf_74 : decode cX6_isMaskOf 74 = .ok (.iconst 3, 1) := by decide +kernel
theorem dX6_isMaskOf_75 : decode cX6_isMaskOf 75 = .ok (.if_icmp .ne 7, 3) := by decide +kernel
theorem dX6_isMaskOf_78 : decode cX6_isMaskOf 78 = .ok (.iconst 1, 1) := by decide +kernel
theorem dX6_isMaskOf_79 : decode cX6_isMaskOf 79 = .ok (.goto 4, 3) := by decide +kernel
theorem dX6_isMaskOf_82 : decode cX6_isMaskOf 82 = .ok (.iconst 0, 1) := by decide +kernel
theorem dX6_isMaskOf_83 : decode cX6_isMaskOf 83 = .ok (.ireturn, 1) := by decide +kernel
theorem dX6_isMaskOf_84 : decode cX6_isMaskOf 84 = .ok (.iload_n 0, 1) := by decide +kernel
theorem dX6_isMaskOf_85 : decode cX6_isMaskOf 85 = .ok (.iconst 4, 1) := by decide +kernel
theorem dX6_isMaskOf_86 : decode cX6_isMaskOf 86 = .ok (.if_icmp .ne 7, 3) := by decide +kernel
theorem dX6_isMaskOf_89 : decode cX6_isMaskOf 89 = .ok (.iconst 1, 1) := by decide +kernel
theorem dX6_isMaskOf_90 : decode cX6_isMaskOf 90 = .ok (.goto 4, 3) := by decide +kernel
theorem dX6_isMaskOf_93 : decode cX6_isMaskOf 93 = .ok (.iconst 0, 1) := by decide +kernel
theorem dX6_isMaskOf_94 : decode cX6_isMaskOf 94 = .ok (.ireturn, 1) := by decide +kernel
theorem dX6_isMaskOf_95 : decode cX6_isMaskOf 95 = .ok (.iload_n 0, 1) := by decide +kernel
theorem dX6_isMaskOf_96 : decode cX6_isMaskOf 96 = .ok (.ifCond .eq 7, 3) := by decide +kernel
theorem dX6_isMaskOf_99 : decode cX6_isMaskOf 99 = .ok (.iconst 1, 1) := by decide +kernel
theorem dX6_isMaskOf_100 : decode cX6_isMaskOf 100 = .ok (.goto 4, 3) := by decide +kernel
theorem dX6_isMaskOf_103 : decode cX6_isMaskOf 103 = .ok (.iconst 0, 1) := by decide +kernel
theorem dX6_isMaskOf_104 : decode cX6_isMaskOf 104 = .ok (.ireturn, 1) := by decide +kernel
theorem dX6_isMaskOf_105 : decode cX6_isMaskOf 105 = .ok (.iconst 0, 1) := by decide +kernel
theorem dX6_isMaskOf_106 : decode cX6_isMaskOf 106 = .ok (.ireturn, 1) := by decide +kernel
theorem dX6_isNumberOf_0 : decode cX6_isNumberOf 0 = .ok (.iload_n 0, 1) := by decide +kernel
theorem dX6_isNumberOf_1 : decode cX6_isNumberOf 1 = .ok (.iconst 3, 1) := by decide +kernel
theorem dX6_isNumberOf_2 : decode cX6_isNumberOf 2 = .ok (.if_icmp .ne 21, 3) := by decide +kernel
theorem dX6_isNumberOf_5 : decode cX6_isNumberOf 5 = .ok (.iload_n 1, 1) := by decide +kernel
theorem dX6_isNumberOf_6 : decode cX6_isNumberOf 6 = .ok (.iconst 1, 1) := by decide +kernel
theorem dX6_isNumberOf_7 : decode cX6_isNumberOf 7 = .ok (.if_icmp .lt 14, 3) := by decide +kernel
theorem dX6_isNumberOf_10 : decode cX6_isNumberOf 10 = .ok (.iload_n 1, 1) := by decide +kernel
theorem dX6_isNumberOf_11 : decode cX6_isNumberOf 11 = .ok (.sipush 1000, 3) := by decide +kernel
theorem dX6_isNumberOf_14 : decode cX6_isNumberOf 14 = .ok (.if_icmp .gt 7, 3) := by decide +kernel
theorem dX6_isNumberOf_17 : decode cX6_isNumberOf 17 = .ok (.iconst 1, 1) := by decide +kernel
theorem dX6_isNumberOf_18 : decode cX6_isNumberOf 18 = .ok (.goto 4, 3) := by decide +kernel
theorem dX6_isNumberOf_21 : decode cX6_isNumberOf 21 = .ok (.iconst 0, 1) := by decide +kernel
theorem dX6_isNumberOf_22 : decode cX6_isNumberOf 22 = .ok (.ireturn, 1) := by decide +kernel
theorem dX6_isNumberOf_23 : decode cX6_isNumberOf 23 = .ok (.iload_n 0, 1) := by decide +kernel
theorem dX6_isNumberOf_24 : decode cX6_isNumberOf 24 = .ok (.iconst 4, 1) := by decide +kernel
theorem dX6_isNumberOf_25 : decode cX6_isNumberOf 25 = .ok (.if_icmp .ne 19, 3) := by decide +kernel
theorem dX6_isNumberOf_28 : decode cX6_isNumberOf 28 = .ok (.iload_n 1, 1) := by decide +kernel
theorem dX6_isNumberOf_29 : decode cX6_isNumberOf 29 = .ok (.ifCond .lt 13, 3) := by decide +kernel
theorem dX6_isNumberOf_32 : decode cX6_isNumberOf 32 = .ok (.iload_n 1, 1) := by decide +kernel
theorem dX6_isNumberOf_33 : decode cX6_isNumberOf 33 = .ok (.bipush 11, 2) := by decide +kernel
theorem dX6_isNumberOf_35 : decode cX6_isNumberOf 35 = .ok (.if_icmp .gt 7, 3) := by decide +kernel
theorem dX6_isNumberOf_38 : decode cX6_isNumberOf 38 = .ok (.iconst 1, 1) := by decide +kernel
theorem dX6_isNumberOf_39 : decode cX6_isNumberOf 39 = .ok (.goto 4, 3) := by decide +kernel
theorem dX6_isNumberOf_42 : decode cX6_isNumberOf 42 = .ok (.iconst 0, 1) := by decide +kernel
theorem dX6_isNumberOf_43 : decode cX6_isNumberOf 43 = .ok (.ireturn, 1) := by decide +kernel
theorem dX6_isNumberOf_44 : decode cX6_isNumberOf 44 = .ok (.iload_n 1, 1) := by decide +kernel
theorem dX6_isNumberOf_45 : decode cX6_isNumberOf 45 = .ok (.ifCond .ne 7, 3) := by decide +kernel
theorem dX6_isNumberOf_48 : decode cX6_isNumberOf 48 = .ok (.iconst 1, 1) := by decide +kernel
theorem dX6_isNumberOf_49 : decode cX6_isNumberOf 49 = .ok (.goto 4, 3) := by decide +kernel
theorem dX6_isNumberOf_52 : decode cX6_isNumberOf 52 = .ok (.iconst 0, 1) := by decide +kernel
theorem dX6_isNumberOf_53 : decode cX6_isNumberOf 53 = .ok (.ireturn, 1) := by decide +kernel
theorem dX6_dialDigit_0 : decode cX6_dialDigit 0 = .ok (.iload_n 1, 1) := by decide +kernel
theorem dX6_dialDigit_1 : decode cX6_dialDigit 1 = .ok (.iconst 1, 1) := by decide +kernel
theorem dX6_dialDigit_2 : decode cX6_dialDigit 2 = .ok (.if_icmp .lt 8, 3) := by decide +kernel
theorem dX6_dialDigit_5 : decode cX6_dialDigit 5 = .ok (.iload_n 1, 1) := by decide +kernel
theorem dX6_dialDigit_6 : decode cX6_dialDigit 6 = .ok (.iconst 4, 1) := by decide +kernel
theorem dX6_dialDigit_7 : decode cX6_dialDigit 7 = .ok (.if_icmp .le 5, 3) := by decide +kernel
theorem dX6_dialDigit_10 : decode cX6_dialDigit 10 = .ok (.iconst (-1), 1) := by decide +kernel
theorem dX6_dialDigit_11 : decode cX6_dialDigit 11 = .ok (.ireturn, 1) := by decide +kernel
theorem dX6_dialDigit_12 : decode cX6_dialDigit 12 = .ok (.iload_n 2, 1) := by decide +kernel
theorem dX6_dialDigit_13 : decode cX6_dialDigit 13 = .ok (.iconst 1, 1) := by decide +kernel
theorem dX6_dialDigit_14 : decode cX6_dialDigit 14 = .ok (.if_icmp .eq 20, 3) := by decide +kernel
theorem dX6_dialDigit_17 : decode cX6_dialDigit 17 = .ok (.iload_n 2, 1) := by decide +kernel
theorem dX6_dialDigit_18 : decode cX6_dialDigit 18 = .ok (.iconst 3, 1) := by decide +kernel
theorem dX6_dialDigit_19 : decode cX6_dialDigit 19 = .ok (.if_icmp .eq 15, 3) := by decide +kernel
theorem dX6_dialDigit_22 : decode cX6_dialDigit 22 = .ok (.iload_n 2, 1) := by decide +kernel
theorem dX6_dialDigit_23 : decode cX6_dialDigit 23 = .ok (.bipush 7, 2) := by decide +kernel
theorem dX6_dialDigit_25 : decode cX6_dialDigit 25 = .ok (.if_icmp .eq 9, 3) := by decide +kernel
theorem dX6_dialDigit_28 : decode cX6_dialDigit 28 = .ok (.iload_n 2, 1) := by decide +kernel
theorem dX6_dialDigit_29 : decode cX6_dialDigit 29 = .ok (.bipush 9, 2) := by decide +kernel
theorem dX6_dialDigit_31 : decode cX6_dialDigit 31 = .ok (.if_icmp .ne 7, 3) := by decide +kernel
theorem dX6_dialDigit_34 : decode cX6_dialDigit 34 = .ok (.iconst 1, 1) := by decide +kernel
theorem dX6_dialDigit_35 : decode cX6_dialDigit 35 = .ok (.goto 4, 3) := by decide +kernel
theorem dX6_dialDigit_38 : decode cX6_dialDigit 38 = .ok (.iconst 0, 1) := by decide +kernel
theorem dX6_dialDigit_39 : decode cX6_dialDigit 39 = .ok (.istore 4, 2) := by decide +kernel
theorem dX6_dialDigit_41 : decode cX6_dialDigit 41 = .ok (.iload 4, 2) := by decide +kernel
theorem dX6_dialDigit_43 : decode cX6_dialDigit 43 = .ok (.ifCond .eq 13, 3) := by decide +kernel
theorem dX6_dialDigit_46 : decode cX6_dialDigit 46 = .ok (.iload_n 3, 1) := by decide +kernel
theorem dX6_dialDigit_47 : decode cX6_dialDigit 47 = .ok (.ifCond .lt 9, 3) := by decide +kernel
theorem dX6_dialDigit_50 : decode cX6_dialDigit 50 = .ok (.iload_n 3, 1) := by decide +kernel
theorem dX6_dialDigit_51 : decode cX6_dialDigit 51 = .ok (.bipush 9, 2) := by decide +kernel
theorem dX6_dialDigit_53 : decode cX6_dialDigit 53 = .ok (.if_icmp .le 6, 3) := by decide +kernel
theorem dX6_dialDigit_56 : decode cX6_dialDigit 56 = .ok (.bipush (-2), 2) := by decide +kernel
theorem dX6_dialDigit_58 : decode cX6_dialDigit 58 = .ok (.ireturn, 1) := by decide +kernel
theorem dX6_dialDigit_59 : decode cX6_dialDigit 59 = .ok (.aload_n 0, 1) := by decide +kernel
theorem dX6_dialDigit_60 : decode cX6_dialDigit 60 = .ok (.iload_n 1, 1) := by decide +kernel
theorem dX6_dialDigit_61 : decode cX6_dialDigit 61 = .ok (.iload_n 2, 1) := by decide +kernel
theorem dX6_dialDigit_62 : decode cX6_dialDigit 62 = .ok (.iload_n 3, 1) := by decide +kernel
theorem dX6_dialDigit_63 : decode cX6_dialDigit 63 = .ok (.invokevirtual 256, 3) := by decide +kernel
theorem dX6_dialDigit_66 : decode cX6_dialDigit 66 = .ok (.iconst 0, 1) := by decide +kernel
theorem dX6_dialDigit_67 : decode cX6_dialDigit 67 = .ok (.ireturn, 1) := by decide +kernel
theorem dX6_draftMasked_0 : decode cX6_draftMasked 0 = .ok (.aload_n 0, 1) := by decide +kernel
theorem dX6_draftMasked_1 : decode cX6_draftMasked 1 = .ok (.iload_n 1, 1) := by decide +kernel
theorem dX6_draftMasked_2 : decode cX6_draftMasked 2 = .ok (.invokevirtual 73, 3) := by decide +kernel
theorem dX6_draftMasked_5 : decode cX6_draftMasked 5 = .ok (.astore_n 2, 1) := by decide +kernel
theorem dX6_draftMasked_6 : decode cX6_draftMasked 6 = .ok (.aload_n 2, 1) := by decide +kernel
theorem dX6_draftMasked_7 : decode cX6_draftMasked 7 = .ok (.ifnonnull 4, 3) := by decide +kernel
theorem dX6_draftMasked_10 : decode cX6_draftMasked 10 = .ok (.return_, 1) := by decide +kernel
theorem dX6_draftMasked_11 : decode cX6_draftMasked 11 = .ok (.aload_n 2, 1) := by decide +kernel
theorem dX6_draftMasked_12 : decode cX6_draftMasked 12 = .ok (.invokevirtual 259, 3) := by decide +kernel
theorem dX6_draftMasked_15 : decode cX6_draftMasked 15 = .ok (.istore_n 3, 1) := by decide +kernel
theorem dX6_draftMasked_16 : decode cX6_draftMasked 16 = .ok (.iconst 0, 1) := by decide +kernel
theorem dX6_draftMasked_17 : decode cX6_draftMasked 17 = .ok (.istore 4, 2) := by decide +kernel
theorem dX6_draftMasked_19 : decode cX6_draftMasked 19 = .ok (.iload 4, 2) := by decide +kernel
theorem dX6_draftMasked_21 : decode cX6_draftMasked 21 = .ok (.aload_n 2, 1) := by decide +kernel
theorem dX6_draftMasked_22 : decode cX6_draftMasked 22 = .ok (.getfield 77, 3) := by decide +kernel
theorem dX6_draftMasked_25 : decode cX6_draftMasked 25 = .ok (.if_icmp .ge 71, 3) := by decide +kernel
theorem dX6_draftMasked_28 : decode cX6_draftMasked 28 = .ok (.iload_n 3, 1) := by decide +kernel
theorem dX6_draftMasked_29 : decode cX6_draftMasked 29 = .ok (.ifCond .eq 17, 3) := by decide +kernel
theorem dX6_draftMasked_32 : decode cX6_draftMasked 32 = .ok (.aload_n 0, 1) := by decide +kernel
theorem dX6_draftMasked_33 : decode cX6_draftMasked 33 = .ok (.aload_n 0, 1) := by decide +kernel
theorem dX6_draftMasked_34 : decode cX6_draftMasked 34 = .ok (.iload_n 1, 1) := by decide +kernel
theorem dX6_draftMasked_35 : decode cX6_draftMasked 35 = .ok (.iload 4, 2) := by decide +kernel
theorem dX6_draftMasked_37 : decode cX6_draftMasked 37 = .ok (.invokevirtual 263, 3) := by decide +kernel
theorem dX6_draftMasked_40 : decode cX6_draftMasked 40 = .ok (.invokevirtual 197, 3) := by decide +kernel
theorem dX6_draftMasked_43 : decode cX6_draftMasked 43 = .ok (.goto 4, 3) := by decide +kernel
theorem dX6_draftMasked_46 : decode cX6_draftMasked 46 = .ok (.iconst 0, 1) := by decide +kernel
theorem dX6_draftMasked_47 : decode cX6_draftMasked 47 = .ok (.istore 5, 2) := by decide +kernel
theorem dX6_draftMasked_49 : decode cX6_draftMasked 49 = .ok (.iconst 0, 1) := by decide +kernel
theorem dX6_draftMasked_50 : decode cX6_draftMasked 50 = .ok (.istore 6, 2) := by decide +kernel
theorem dX6_draftMasked_52 : decode cX6_draftMasked 52 = .ok (.iload 6, 2) := by decide +kernel
theorem dX6_draftMasked_54 : decode cX6_draftMasked 54 = .ok (.aload_n 2, 1) := by decide +kernel
theorem dX6_draftMasked_55 : decode cX6_draftMasked 55 = .ok (.getfield 80, 3) := by decide +kernel
theorem dX6_draftMasked_58 : decode cX6_draftMasked 58 = .ok (.if_icmp .ge 32, 3) := by decide +kernel
theorem dX6_draftMasked_61 : decode cX6_draftMasked 61 = .ok (.aload_n 0, 1) := by decide +kernel
theorem dX6_draftMasked_62 : decode cX6_draftMasked 62 = .ok (.getfield 51, 3) := by decide +kernel
theorem dX6_draftMasked_65 : decode cX6_draftMasked 65 = .ok (.iload_n 1, 1) := by decide +kernel
theorem dX6_draftMasked_66 : decode cX6_draftMasked 66 = .ok (.iload 4, 2) := by decide +kernel
theorem dX6_draftMasked_68 : decode cX6_draftMasked 68 = .ok (.iload 6, 2) := by decide +kernel
theorem dX6_draftMasked_70 : decode cX6_draftMasked 70 = .ok (.aload_n 0, 1) := by decide +kernel
theorem dX6_draftMasked_71 : decode cX6_draftMasked 71 = .ok (.iload_n 1, 1) := by decide +kernel
theorem dX6_draftMasked_72 : decode cX6_draftMasked 72 = .ok (.iload 4, 2) := by decide +kernel
theorem dX6_draftMasked_74 : decode cX6_draftMasked 74 = .ok (.iload 6, 2) := by decide +kernel
theorem dX6_draftMasked_76 : decode cX6_draftMasked 76 = .ok (.iload 5, 2) := by decide +kernel
theorem dX6_draftMasked_78 : decode cX6_draftMasked 78 = .ok (.invokevirtual 266, 3) := by decide +kernel
theorem dX6_draftMasked_81 : decode cX6_draftMasked 81 = .ok (.invokevirtual 95, 3) := by decide +kernel
theorem dX6_draftMasked_84 : decode cX6_draftMasked 84 = .ok (.iinc 6 1, 3) := by decide +kernel
theorem dX6_draftMasked_87 : decode cX6_draftMasked 87 = .ok (.goto (-35), 3) := by decide +kernel
theorem dX6_draftMasked_90 : decode cX6_draftMasked 90 = .ok (.iinc 4 1, 3) := by decide +kernel
theorem dX6_draftMasked_93 : decode cX6_draftMasked 93 = .ok (.goto (-74), 3) := by decide +kernel
theorem dX6_draftMasked_96 : decode cX6_draftMasked 96 = .ok (.return_, 1) := by decide +kernel
theorem dX6_maskedCell_0 : decode cX6_maskedCell 0 = .ok (.aload_n 0, 1) := by decide +kernel
theorem dX6_maskedCell_1 : decode cX6_maskedCell 1 = .ok (.iload_n 1, 1) := by decide +kernel
theorem dX6_maskedCell_2 : decode cX6_maskedCell 2 = .ok (.invokevirtual 73, 3) := by decide +kernel
theorem dX6_maskedCell_5 : decode cX6_maskedCell 5 = .ok (.astore 5, 2) := by decide +kernel
theorem dX6_maskedCell_7 : decode cX6_maskedCell 7 = .ok (.aload_n 0, 1) := by decide +kernel
theorem dX6_maskedCell_8 : decode cX6_maskedCell 8 = .ok (.iload_n 1, 1) := by decide +kernel
theorem dX6_maskedCell_9 : decode cX6_maskedCell 9 = .ok (.iload_n 3, 1) := by decide +kernel
theorem dX6_maskedCell_10 : decode cX6_maskedCell 10 = .ok (.invokevirtual 99, 3) := by decide +kernel
theorem dX6_maskedCell_13 : decode cX6_maskedCell 13 = .ok (.astore 6, 2) := by decide +kernel
theorem dX6_maskedCell_15 : decode cX6_maskedCell 15 = .ok (.aload 5, 2) := by decide +kernel
theorem dX6_maskedCell_17 : decode cX6_maskedCell 17 = .ok (.ifnull 8, 3) := by decide +kernel
theorem dX6_maskedCell_20 : decode cX6_maskedCell 20 = .ok (.aload 6, 2) := by decide +kernel
theorem dX6_maskedCell_22 : decode cX6_maskedCell 22 = .ok (.ifnonnull 6, 3) := by decide +kernel
theorem dX6_maskedCell_25 : decode cX6_maskedCell 25 = .ok (.ldc 179, 2) := by decide +kernel
theorem dX6_maskedCell_27 : decode cX6_maskedCell 27 = .ok (.ireturn, 1) := by decide +kernel
theorem dX6_maskedCell_28 : decode cX6_maskedCell 28 = .ok (.aload 6, 2) := by decide +kernel
theorem dX6_maskedCell_30 : decode cX6_maskedCell 30 = .ok (.getfield 118, 3) := by decide +kernel
theorem dX6_maskedCell_33 : decode cX6_maskedCell 33 = .ok (.iconst 4, 1) := by decide +kernel
theorem dX6_maskedCell_34 : decode cX6_maskedCell 34 = .ok (.if_icmp .ne 16, 3) := by decide +kernel
theorem dX6_maskedCell_37 : decode cX6_maskedCell 37 = .ok (.aload_n 0, 1) := by decide +kernel
theorem dX6_maskedCell_38 : decode cX6_maskedCell 38 = .ok (.iload_n 1, 1) := by decide +kernel
theorem dX6_maskedCell_39 : decode cX6_maskedCell 39 = .ok (.iload_n 2, 1) := by decide +kernel
theorem dX6_maskedCell_40 : decode cX6_maskedCell 40 = .ok (.iload_n 3, 1) := by decide +kernel
theorem dX6_maskedCell_41 : decode cX6_maskedCell 41 = .ok (.aload 6, 2) := by decide +kernel
theorem dX6_maskedCell_43 : decode cX6_maskedCell 43 = .ok (.getfield 121, 3) := by decide +kernel
theorem dX6_maskedCell_46 : decode cX6_maskedCell 46 = .ok (.invokevirtual 270, 3) := by decide +kernel
theorem dX6_maskedCell_49 : decode cX6_maskedCell 49 = .ok (.ireturn, 1) := by decide +kernel
theorem dX6_maskedCell_50 : decode cX6_maskedCell 50 = .ok (.aload_n 0, 1) := by decide +kernel
theorem dX6_maskedCell_51 : decode cX6_maskedCell 51 = .ok (.getfield 30, 3) := by decide +kernel
theorem dX6_maskedCell_54 : decode cX6_maskedCell 54 = .ok (.iload_n 1, 1) := by decide +kernel
theorem dX6_maskedCell_55 : decode cX6_maskedCell 55 = .ok (.iload_n 2, 1) := by decide +kernel
theorem dX6_maskedCell_56 : decode cX6_maskedCell 56 = .ok (.iload_n 3, 1) := by decide +kernel
theorem dX6_maskedCell_57 : decode cX6_maskedCell 57 = .ok (.invokevirtual 180, 3) := by decide +kernel
theorem dX6_maskedCell_60 : decode cX6_maskedCell 60 = .ok (.istore 7, 2) := by decide +kernel
theorem dX6_maskedCell_62 : decode cX6_maskedCell 62 = .ok (.iload 7, 2) := by decide +kernel
theorem dX6_maskedCell_64 : decode cX6_maskedCell 64 = .ok (.ldc 179, 2) := by decide +kernel
theorem dX6_maskedCell_66 : decode cX6_maskedCell 66 = .ok (.if_icmp .eq 12, 3) := by decide +kernel
theorem dX6_maskedCell_69 : decode cX6_maskedCell 69 = .ok (.aload 6, 2) := by decide +kernel
theorem dX6_maskedCell_71 : decode cX6_maskedCell 71 = .ok (.getfield 118, 3) := by decide +kernel
theorem dX6_maskedCell_74 : decode cX6_maskedCell 74 = .ok (.iconst 5, 1) := by decide +kernel
theorem dX6_maskedCell_75 : decode cX6_maskedCell 75 = .ok (.if_icmp .ne 6, 3) := by decide +kernel
theorem dX6_maskedCell_78 : decode cX6_maskedCell 78 = .ok (.ldc 179, 2) := by decide +kernel
theorem dX6_maskedCell_80 : decode cX6_maskedCell 80 = .ok (.ireturn, 1) := by decide +kernel
theorem dX6_maskedCell_81 : decode cX6_maskedCell 81 = .ok (.aload 6, 2) := by decide +kernel
theorem dX6_maskedCell_83 : decode cX6_maskedCell 83 = .ok (.getfield 103, 3) := by decide +kernel
theorem dX6_maskedCell_86 : decode cX6_maskedCell 86 = .ok (.iconst 1, 1) := by decide +kernel
theorem dX6_maskedCell_87 : decode cX6_maskedCell 87 = .ok (.if_icmp .ne 15, 3) := by decide +kernel
theorem dX6_maskedCell_90 : decode cX6_maskedCell 90 = .ok (.aload_n 0, 1) := by decide +kernel
theorem dX6_maskedCell_91 : decode cX6_maskedCell 91 = .ok (.aload 6, 2) := by decide +kernel
theorem dX6_maskedCell_93 : decode cX6_maskedCell 93 = .ok (.getfield 146, 3) := by decide +kernel
theorem dX6_maskedCell_96 : decode cX6_maskedCell 96 = .ok (.iload 7, 2) := by decide +kernel
theorem dX6_maskedCell_98 : decode cX6_maskedCell 98 = .ok (.invokevirtual 273, 3) := by decide +kernel
theorem dX6_maskedCell_101 : decode cX6_maskedCell 101 = .ok (.ireturn, 1) := by decide +kernel
theorem dX6_maskedCell_102 : decode cX6_maskedCell 102 = .ok (.aload 6, 2) := by decide +kernel
theorem dX6_maskedCell_104 : decode cX6_maskedCell 104 = .ok (.getfield 118, 3) := by decide +kernel
theorem dX6_maskedCell_107 : decode cX6_maskedCell 107 = .ok (.tableswitch 71 1 3 #[25, 51, 57], 25) := by decide +kernel
theorem dX6_maskedCell_132 : decode cX6_maskedCell 132 = .ok (.aload 6, 2) := by decide +kernel
theorem dX6_maskedCell_134 : decode cX6_maskedCell 134 = .ok (.getfield 103, 3) := by decide +kernel
theorem dX6_maskedCell_137 : decode cX6_maskedCell 137 = .ok (.ifCond .ne 13, 3) := by decide +kernel
theorem dX6_maskedCell_140 : decode cX6_maskedCell 140 = .ok (.aload 5, 2) := by decide +kernel
theorem dX6_maskedCell_142 : decode cX6_maskedCell 142 = .ok (.iload 7, 2) := by decide +kernel
theorem dX6_maskedCell_144 : decode cX6_maskedCell 144 = .ok (.invokevirtual 187, 3) := by decide +kernel
theorem dX6_maskedCell_147 : decode cX6_maskedCell 147 = .ok (.goto 10, 3) := by decide +kernel
theorem dX6_maskedCell_150 : decode cX6_maskedCell 150 = .ok (.aload 6, 2) := by decide +kernel
theorem dX6_maskedCell_152 : decode cX6_maskedCell 152 = .ok (.iload 7, 2) := by decide +kernel
theorem dX6_maskedCell_154 : decode cX6_maskedCell 154 = .ok (.invokevirtual 191, 3) := by decide +kernel
theorem dX6_maskedCell_157 : decode cX6_maskedCell 157 = .ok (.ireturn, 1) := by decide +kernel
theorem dX6_maskedCell_158 : decode cX6_maskedCell 158 = .ok (.iload 7, 2) := by decide +kernel
theorem dX6_maskedCell_160 : decode cX6_maskedCell 160 = .ok (.iload 4, 2) := by decide +kernel
theorem dX6_maskedCell_162 : decode cX6_maskedCell 162 = .ok (.iadd, 1) := by decide +kernel
theorem dX6_maskedCell_163 : decode cX6_maskedCell 163 = .ok (.ireturn, 1) := by decide +kernel
theorem dX6_maskedCell_164 : decode cX6_maskedCell 164 = .ok (.iload 7, 2) := by decide +kernel
theorem dX6_maskedCell_166 : decode cX6_maskedCell 166 = .ok (.iload 7, 2) := by decide +kernel
theorem dX6_maskedCell_168 : decode cX6_maskedCell 168 = .ok (.aload 6, 2) := by decide +kernel
theorem dX6_maskedCell_170 : decode cX6_maskedCell 170 = .ok (.getfield 121, 3) := by decide +kernel
theorem dX6_maskedCell_173 : decode cX6_maskedCell 173 = .ok (.invokestatic 276, 3) := by decide +kernel
theorem dX6_maskedCell_176 : decode cX6_maskedCell 176 = .ok (.isub, 1) := by decide +kernel
theorem dX6_maskedCell_177 : decode cX6_maskedCell 177 = .ok (.ireturn, 1) := by decide +kernel
theorem dX6_maskedCell_178 : decode cX6_maskedCell 178 = .ok (.iload 7, 2) := by decide +kernel
theorem dX6_maskedCell_180 : decode cX6_maskedCell 180 = .ok (.ireturn, 1) := by decide +kernel
theorem dX6_turnedRef_0 : decode cX6_turnedRef 0 = .ok (.aload_n 0, 1) := by decide +kernel
theorem dX6_turnedRef_1 : decode cX6_turnedRef 1 = .ok (.iload_n 1, 1) := by decide +kernel
theorem dX6_turnedRef_2 : decode cX6_turnedRef 2 = .ok (.invokevirtual 73, 3) := by decide +kernel
theorem dX6_turnedRef_5 : decode cX6_turnedRef 5 = .ok (.astore_n 3, 1) := by decide +kernel
theorem dX6_turnedRef_6 : decode cX6_turnedRef 6 = .ok (.aload_n 3, 1) := by decide +kernel
theorem dX6_turnedRef_7 : decode cX6_turnedRef 7 = .ok (.ifnull 18, 3) := by decide +kernel
theorem dX6_turnedRef_10 : decode cX6_turnedRef 10 = .ok (.aload_n 3, 1) := by decide +kernel
theorem dX6_turnedRef_11 : decode cX6_turnedRef 11 = .ok (.invokevirtual 279, 3) := by decide +kernel
theorem dX6_turnedRef_14 : decode cX6_turnedRef 14 = .ok (.ifCond .eq 11, 3) := by decide +kernel
theorem dX6_turnedRef_17 : decode cX6_turnedRef 17 = .ok (.aload_n 3, 1) := by decide +kernel
theorem dX6_turnedRef_18 : decode cX6_turnedRef 18 = .ok (.iload_n 2, 1) := by decide +kernel
theorem dX6_turnedRef_19 : decode cX6_turnedRef 19 = .ok (.invokevirtual 187, 3) := by decide +kernel
theorem dX6_turnedRef_22 : decode cX6_turnedRef 22 = .ok (.goto 4, 3) := by decide +kernel
theorem dX6_turnedRef_25 : decode cX6_turnedRef 25 = .ok (.iload_n 2, 1) := by decide +kernel
theorem dX6_turnedRef_26 : decode cX6_turnedRef 26 = .ok (.ireturn, 1) := by decide +kernel
theorem dX6_dealtCell_0 : decode cX6_dealtCell 0 = .ok (.aload_n 0, 1) := by decide +kernel
theorem dX6_dealtCell_1 : decode cX6_dealtCell 1 = .ok (.iload_n 1, 1) := by decide +kernel
theorem dX6_dealtCell_2 : decode cX6_dealtCell 2 = .ok (.invokevirtual 200, 3) := by decide +kernel
theorem dX6_dealtCell_5 : decode cX6_dealtCell 5 = .ok (.istore 5, 2) := by decide +kernel
theorem dX6_dealtCell_7 : decode cX6_dealtCell 7 = .ok (.iload 5, 2) := by decide +kernel
theorem dX6_dealtCell_9 : decode cX6_dealtCell 9 = .ok (.iconst 1, 1) := by decide +kernel
theorem dX6_dealtCell_10 : decode cX6_dealtCell 10 = .ok (.if_icmp .ge 8, 3) := by decide +kernel
theorem dX6_dealtCell_13 : decode cX6_dealtCell 13 = .ok (.ldc 179, 2) := by decide +kernel
theorem dX6_dealtCell_15 : decode cX6_dealtCell 15 = .ok (.goto 19, 3) := by decide +kernel
theorem dX6_dealtCell_18 : decode cX6_dealtCell 18 = .ok (.aload_n 0, 1) := by decide +kernel
theorem dX6_dealtCell_19 : decode cX6_dealtCell 19 = .ok (.getfield 30, 3) := by decide +kernel
theorem dX6_dealtCell_22 : decode cX6_dealtCell 22 = .ok (.iload_n 1, 1) := by decide +kernel
theorem dX6_dealtCell_23 : decode cX6_dealtCell 23 = .ok (.iload_n 2, 1) := by decide +kernel
theorem dX6_dealtCell_24 : decode cX6_dealtCell 24 = .ok (.iload 4, 2) := by decide +kernel
theorem dX6_dealtCell_26 : decode cX6_dealtCell 26 = .ok (.iadd, 1) := by decide +kernel
theorem dX6_dealtCell_27 : decode cX6_dealtCell 27 = .ok (.iload 5, 2) := by decide +kernel
theorem dX6_dealtCell_29 : decode cX6_dealtCell 29 = .ok (.irem, 1) := by decide +kernel
theorem dX6_dealtCell_30 : decode cX6_dealtCell 30 = .ok (.iload_n 3, 1) := by decide +kernel
theorem dX6_dealtCell_31 : decode cX6_dealtCell 31 = .ok (.invokevirtual 180, 3) := by decide +kernel
theorem dX6_dealtCell_34 : decode cX6_dealtCell 34 = .ok (.ireturn, 1) := by decide +kernel
theorem dX6_tooFine_0 : decode cX6_tooFine 0 = .ok (.iload_n 1, 1) := by decide +kernel
theorem dX6_tooFine_1 : decode cX6_tooFine 1 = .ok (.iconst 1, 1) := by decide +kernel
theorem dX6_tooFine_2 : decode cX6_tooFine 2 = .ok (.if_icmp .ge 7, 3) := by decide +kernel
theorem dX6_tooFine_5 : decode cX6_tooFine 5 = .ok (.iconst 0, 1) := by decide +kernel
theorem dX6_tooFine_6 : decode cX6_tooFine 6 = .ok (.goto 8, 3) := by decide +kernel
theorem dX6_tooFine_9 : decode cX6_tooFine 9 = .ok (.iload_n 0, 1) := by decide +kernel
theorem dX6_tooFine_10 : decode cX6_tooFine 10 = .ok (.iload_n 1, 1) := by decide +kernel
theorem dX6_tooFine_11 : decode cX6_tooFine 11 = .ok (.invokestatic 282, 3) := by decide +kernel
theorem dX6_tooFine_14 : decode cX6_tooFine 14 = .ok (.ireturn, 1) := by decide +kernel
theorem dX6_lossBy_0 : decode cX6_lossBy 0 = .ok (.iconst 0, 1) := by decide +kernel
theorem dX6_lossBy_1 : decode cX6_lossBy 1 = .ok (.istore 4, 2) := by decide +kernel
theorem dX6_lossBy_3 : decode cX6_lossBy 3 = .ok (.iconst 0, 1) := by decide +kernel
theorem dX6_lossBy_4 : decode cX6_lossBy 4 = .ok (.istore 5, 2) := by decide +kernel
theorem dX6_lossBy_6 : decode cX6_lossBy 6 = .ok (.iload 5, 2) := by decide +kernel
theorem dX6_lossBy_8 : decode cX6_lossBy 8 = .ok (.aload_n 0, 1) := by decide +kernel
theorem dX6_lossBy_9 : decode cX6_lossBy 9 = .ok (.iload_n 1, 1) := by decide +kernel
theorem dX6_lossBy_10 : decode cX6_lossBy 10 = .ok (.invokevirtual 200, 3) := by decide +kernel
theorem dX6_lossBy_13 : decode cX6_lossBy 13 = .ok (.if_icmp .ge 40, 3) := by decide +kernel
theorem dX6_lossBy_16 : decode cX6_lossBy 16 = .ok (.aload_n 0, 1) := by decide +kernel
theorem dX6_lossBy_17 : decode cX6_lossBy 17 = .ok (.getfield 30, 3) := by decide +kernel
theorem dX6_lossBy_20 : decode cX6_lossBy 20 = .ok (.iload_n 1, 1) := by decide +kernel
theorem dX6_lossBy_21 : decode cX6_lossBy 21 = .ok (.iload 5, 2) := by decide +kernel
theorem dX6_lossBy_23 : decode cX6_lossBy 23 = .ok (.iload_n 2, 1) := by decide +kernel
theorem dX6_lossBy_24 : decode cX6_lossBy 24 = .ok (.invokevirtual 180, 3) := by decide +kernel
theorem dX6_lossBy_27 : decode cX6_lossBy 27 = .ok (.istore 6, 2) := by decide +kernel
theorem dX6_lossBy_29 : decode cX6_lossBy 29 = .ok (.iload 6, 2) := by decide +kernel
theorem dX6_lossBy_31 : decode cX6_lossBy 31 = .ok (.ldc 179, 2) := by decide +kernel
theorem dX6_lossBy_33 : decode cX6_lossBy 33 = .ok (.if_icmp .eq 14, 3) := by decide +kernel
theorem dX6_lossBy_36 : decode cX6_lossBy 36 = .ok (.iload 4, 2) := by decide +kernel
theorem dX6_lossBy_38 : decode cX6_lossBy 38 = .ok (.iload 6, 2) := by decide +kernel
theorem dX6_lossBy_40 : decode cX6_lossBy 40 = .ok (.iload_n 3, 1) := by decide +kernel
theorem dX6_lossBy_41 : decode cX6_lossBy 41 = .ok (.invokestatic 276, 3) := by decide +kernel
theorem dX6_lossBy_44 : decode cX6_lossBy 44 = .ok (.iadd, 1) := by decide +kernel
theorem dX6_lossBy_45 : decode cX6_lossBy 45 = .ok (.istore 4, 2) := by decide +kernel
theorem dX6_lossBy_47 : decode cX6_lossBy 47 = .ok (.iinc 5 1, 3) := by decide +kernel
theorem dX6_lossBy_50 : decode cX6_lossBy 50 = .ok (.goto (-44), 3) := by decide +kernel
theorem dX6_lossBy_53 : decode cX6_lossBy 53 = .ok (.iload 4, 2) := by decide +kernel
theorem dX6_lossBy_55 : decode cX6_lossBy 55 = .ok (.ireturn, 1) := by decide +kernel
theorem dX6_ownerOf_0 : decode cX6_ownerOf 0 = .ok (.aload_n 0, 1) := by decide +kernel
theorem dX6_ownerOf_1 : decode cX6_ownerOf 1 = .ok (.iload_n 1, 1) := by decide +kernel
theorem dX6_ownerOf_2 : decode cX6_ownerOf 2 = .ok (.invokevirtual 73, 3) := by decide +kernel
theorem dX6_ownerOf_5 : decode cX6_ownerOf 5 = .ok (.astore_n 3, 1) := by decide +kernel
theorem dX6_ownerOf_6 : decode cX6_ownerOf 6 = .ok (.aload_n 3, 1) := by decide +kernel
theorem dX6_ownerOf_7 : decode cX6_ownerOf 7 = .ok (.ifnonnull 8, 3) := by decide +kernel
theorem dX6_ownerOf_10 : decode cX6_ownerOf 10 = .ok (.ldc 179, 2) := by decide +kernel
theorem dX6_ownerOf_12 : decode cX6_ownerOf 12 = .ok (.goto 16, 3) := by decide +kernel
theorem dX6_ownerOf_15 : decode cX6_ownerOf 15 = .ok (.aload_n 0, 1) := by decide +kernel
theorem dX6_ownerOf_16 : decode cX6_ownerOf 16 = .ok (.getfield 30, 3) := by decide +kernel
theorem dX6_ownerOf_19 : decode cX6_ownerOf 19 = .ok (.iload_n 1, 1) := by decide +kernel
theorem dX6_ownerOf_20 : decode cX6_ownerOf 20 = .ok (.iload_n 2, 1) := by decide +kernel
theorem dX6_ownerOf_21 : decode cX6_ownerOf 21 = .ok (.aload_n 3, 1) := by decide +kernel
theorem dX6_ownerOf_22 : decode cX6_ownerOf 22 = .ok (.getfield 108, 3) := by decide +kernel
theorem dX6_ownerOf_25 : decode cX6_ownerOf 25 = .ok (.invokevirtual 180, 3) := by decide +kernel
theorem dX6_ownerOf_28 : decode cX6_ownerOf 28 = .ok (.ireturn, 1) := by decide +kernel
theorem dX6_shiftOf_0 : decode cX6_shiftOf 0 = .ok (.iload_n 1, 1) := by decide +kernel
theorem dX6_shiftOf_1 : decode cX6_shiftOf 1 = .ok (.ldc 179, 2) := by decide +kernel
theorem dX6_shiftOf_3 : decode cX6_shiftOf 3 = .ok (.if_icmp .ne 5, 3) := by decide +kernel
theorem dX6_shiftOf_6 : decode cX6_shiftOf 6 = .ok (.iconst 0, 1) := by decide +kernel
theorem dX6_shiftOf_7 : decode cX6_shiftOf 7 = .ok (.ireturn, 1) := by decide +kernel
theorem dX6_shiftOf_8 : decode cX6_shiftOf 8 = .ok (.aload_n 0, 1) := by decide +kernel
theorem dX6_shiftOf_9 : decode cX6_shiftOf 9 = .ok (.getfield 37, 3) := by decide +kernel
theorem dX6_shiftOf_12 : decode cX6_shiftOf 12 = .ok (.invokevirtual 285, 3) := by decide +kernel
theorem dX6_shiftOf_15 : decode cX6_shiftOf 15 = .ok (.iconst 0, 1) := by decide +kernel
theorem dX6_shiftOf_16 : decode cX6_shiftOf 16 = .ok (.istore_n 2, 1) := by decide +kernel
theorem dX6_shiftOf_17 : decode cX6_shiftOf 17 = .ok (.iload_n 2, 1) := by decide +kernel
theorem dX6_shiftOf_18 : decode cX6_shiftOf 18 = .ok (.aload_n 0, 1) := by decide +kernel
theorem dX6_shiftOf_19 : decode cX6_shiftOf 19 = .ok (.getfield 54, 3) := by decide +kernel
theorem dX6_shiftOf_22 : decode cX6_shiftOf 22 = .ok (.if_icmp .ge 15, 3) := by decide +kernel
theorem dX6_shiftOf_25 : decode cX6_shiftOf 25 = .ok (.aload_n 0, 1) := by decide +kernel
theorem dX6_shiftOf_26 : decode cX6_shiftOf 26 = .ok (.iload_n 2, 1) := by decide +kernel
theorem dX6_shiftOf_27 : decode cX6_shiftOf 27 = .ok (.iload_n 1, 1) := by decide +kernel
theorem dX6_shiftOf_28 : decode cX6_shiftOf 28 = .ok (.invokevirtual 288, 3) := by decide +kernel
theorem dX6_shiftOf_31 : decode cX6_shiftOf 31 = .ok (.iinc 2 1, 3) := by decide +kernel
theorem dX6_shiftOf_34 : decode cX6_shiftOf 34 = .ok (.goto (-17), 3) := by decide +kernel
theorem dX6_shiftOf_37 : decode cX6_shiftOf 37 = .ok (.iconst 0, 1) := by decide +kernel
theorem dX6_shiftOf_38 : decode cX6_shiftOf 38 = .ok (.istore_n 2, 1) := by decide +kernel
theorem dX6_shiftOf_39 : decode cX6_shiftOf 39 = .ok (.iload_n 2, 1) := by decide +kernel
theorem dX6_shiftOf_40 : decode cX6_shiftOf 40 = .ok (.bipush 61, 2) := by decide +kernel
theorem dX6_shiftOf_42 : decode cX6_shiftOf 42 = .ok (.if_icmp .ge 37, 3) := by decide +kernel
theorem dX6_shiftOf_45 : decode cX6_shiftOf 45 = .ok (.iload_n 1, 1) := by decide +kernel
theorem dX6_shiftOf_46 : decode cX6_shiftOf 46 = .ok (.aload_n 0, 1) := by decide +kernel
theorem dX6_shiftOf_47 : decode cX6_shiftOf 47 = .ok (.getfield 64, 3) := by decide +kernel
theorem dX6_shiftOf_50 : decode cX6_shiftOf 50 = .ok (.iadd, 1) := by decide +kernel
theorem dX6_shiftOf_51 : decode cX6_shiftOf 51 = .ok (.iload_n 2, 1) := by decide +kernel
theorem dX6_shiftOf_52 : decode cX6_shiftOf 52 = .ok (.iadd, 1) := by decide +kernel
theorem dX6_shiftOf_53 : decode cX6_shiftOf 53 = .ok (.bipush 61, 2) := by decide +kernel
theorem dX6_shiftOf_55 : decode cX6_shiftOf 55 = .ok (.irem, 1) := by decide +kernel
theorem dX6_shiftOf_56 : decode cX6_shiftOf 56 = .ok (.bipush 30, 2) := by decide +kernel
theorem dX6_shiftOf_58 : decode cX6_shiftOf 58 = .ok (.isub, 1) := by decide +kernel
theorem dX6_shiftOf_59 : decode cX6_shiftOf 59 = .ok (.istore_n 3, 1) := by decide +kernel
theorem dX6_shiftOf_60 : decode cX6_shiftOf 60 = .ok (.aload_n 0, 1) := by decide +kernel
theorem dX6_shiftOf_61 : decode cX6_shiftOf 61 = .ok (.getfield 37, 3) := by decide +kernel
theorem dX6_shiftOf_64 : decode cX6_shiftOf 64 = .ok (.iload_n 3, 1) := by decide +kernel
theorem dX6_shiftOf_65 : decode cX6_shiftOf 65 = .ok (.invokevirtual 291, 3) := by decide +kernel
theorem dX6_shiftOf_68 : decode cX6_shiftOf 68 = .ok (.ifCond .eq 5, 3) := by decide +kernel
theorem dX6_shiftOf_71 : decode cX6_shiftOf 71 = .ok (.iload_n 3, 1) := by decide +kernel
theorem dX6_shiftOf_72 : decode cX6_shiftOf 72 = .ok (.ireturn, 1) := by decide +kernel
theorem dX6_shiftOf_73 : decode cX6_shiftOf 73 = .ok (.iinc 2 1, 3) := by decide +kernel
theorem dX6_shiftOf_76 : decode cX6_shiftOf 76 = .ok (.goto (-37), 3) := by decide +kernel
theorem dX6_shiftOf_79 : decode cX6_shiftOf 79 = .ok (.iconst 0, 1) := by decide +kernel
theorem dX6_shiftOf_80 : decode cX6_shiftOf 80 = .ok (.ireturn, 1) := by decide +kernel
theorem dX6_narrowRoom_0 : decode cX6_narrowRoom 0 = .ok (.aload_n 0, 1) := by decide +kernel
theorem dX6_narrowRoom_1 : decode cX6_narrowRoom 1 = .ok (.iload_n 1, 1) := by decide +kernel
theorem dX6_narrowRoom_2 : decode cX6_narrowRoom 2 = .ok (.invokevirtual 73, 3) := by decide +kernel
theorem dX6_narrowRoom_5 : decode cX6_narrowRoom 5 = .ok (.astore_n 3, 1) := by decide +kernel
theorem dX6_narrowRoom_6 : decode cX6_narrowRoom 6 = .ok (.aload_n 3, 1) := by decide +kernel
theorem dX6_narrowRoom_7 : decode cX6_narrowRoom 7 = .ok (.ifnull 10, 3) := by decide +kernel
theorem dX6_narrowRoom_10 : decode cX6_narrowRoom 10 = .ok (.aload_n 3, 1) := by decide +kernel
theorem dX6_narrowRoom_11 : decode cX6_narrowRoom 11 = .ok (.invokevirtual 259, 3) := by decide +kernel
theorem dX6_narrowRoom_14 : decode cX6_narrowRoom 14 = .ok (.ifCond .ne 4, 3) := by decide +kernel
theorem dX6_narrowRoom_17 : decode cX6_narrowRoom 17 = .ok (.return_, 1) := by decide +kernel
theorem dX6_narrowRoom_18 : decode cX6_narrowRoom 18 = .ok (.iconst 0, 1) := by decide +kernel
theorem dX6_narrowRoom_19 : decode cX6_narrowRoom 19 = .ok (.istore 4, 2) := by decide +kernel
theorem dX6_narrowRoom_21 : decode cX6_narrowRoom 21 = .ok (.iload 4, 2) := by decide +kernel
theorem dX6_narrowRoom_23 : decode cX6_narrowRoom 23 = .ok (.aload_n 3, 1) := by decide +kernel
theorem dX6_narrowRoom_24 : decode cX6_narrowRoom 24 = .ok (.getfield 77, 3) := by decide +kernel
theorem dX6_narrowRoom_27 : decode cX6_narrowRoom 27 = .ok (.if_icmp .ge 28, 3) := by decide +kernel
theorem dX6_narrowRoom_30 : decode cX6_narrowRoom 30 = .ok (.aload_n 0, 1) := by decide +kernel
theorem dX6_narrowRoom_31 : decode cX6_narrowRoom 31 = .ok (.iload_n 1, 1) := by decide +kernel
theorem dX6_narrowRoom_32 : decode cX6_narrowRoom 32 = .ok (.iload 4, 2) := by decide +kernel
theorem dX6_narrowRoom_34 : decode cX6_narrowRoom 34 = .ok (.invokevirtual 263, 3) := by decide +kernel
theorem dX6_narrowRoom_37 : decode cX6_narrowRoom 37 = .ok (.iload_n 2, 1) := by decide +kernel
theorem dX6_narrowRoom_38 : decode cX6_narrowRoom 38 = .ok (.if_icmp .ne 11, 3) := by decide +kernel
theorem dX6_narrowRoom_41 : decode cX6_narrowRoom 41 = .ok (.aload_n 0, 1) := by decide +kernel
theorem dX6_narrowRoom_42 : decode cX6_narrowRoom 42 = .ok (.aload_n 3, 1) := by decide +kernel
theorem dX6_narrowRoom_43 : decode cX6_narrowRoom 43 = .ok (.iload_n 1, 1) := by decide +kernel
theorem dX6_narrowRoom_44 : decode cX6_narrowRoom 44 = .ok (.iload 4, 2) := by decide +kernel
theorem dX6_narrowRoom_46 : decode cX6_narrowRoom 46 = .ok (.invokevirtual 294, 3) := by decide +kernel
theorem dX6_narrowRoom_49 : decode cX6_narrowRoom 49 = .ok (.iinc 4 1, 3) := by decide +kernel
theorem dX6_narrowRoom_52 : decode cX6_narrowRoom 52 = .ok (.goto (-31), 3) := by decide +kernel
theorem dX6_narrowRoom_55 : decode cX6_narrowRoom 55 = .ok (.return_, 1) := by decide +kernel
theorem dX6_narrowRoomByRow_0 : decode cX6_narrowRoomByRow 0 = .ok (.iconst 0, 1) := by decide +kernel
theorem dX6_narrowRoomByRow_1 : decode cX6_narrowRoomByRow 1 = .ok (.istore 4, 2) := by decide +kernel
theorem dX6_narrowRoomByRow_3 : decode cX6_narrowRoomByRow 3 = .ok (.iload 4, 2) := by decide +kernel
theorem dX6_narrowRoomByRow_5 : decode cX6_narrowRoomByRow 5 = .ok (.aload_n 1, 1) := by decide +kernel
theorem dX6_narrowRoomByRow_6 : decode cX6_narrowRoomByRow 6 = .ok (.getfield 80, 3) := by decide +kernel
theorem dX6_narrowRoomByRow_9 : decode cX6_narrowRoomByRow 9 = .ok (.if_icmp .ge 47, 3) := by decide +kernel
theorem dX6_narrowRoomByRow_12 : decode cX6_narrowRoomByRow 12 = .ok (.aload_n 0, 1) := by decide +kernel
theorem dX6_narrowRoomByRow_13 : decode cX6_narrowRoomByRow 13 = .ok (.getfield 30, 3) := by decide +kernel
theorem dX6_narrowRoomByRow_16 : decode cX6_narrowRoomByRow 16 = .ok (.iload_n 2, 1) := by decide +kernel
theorem dX6_narrowRoomByRow_17 : decode cX6_narrowRoomByRow 17 = .ok (.iload_n 3, 1) := by decide +kernel
theorem dX6_narrowRoomByRow_18 : decode cX6_narrowRoomByRow 18 = .ok (.iload 4, 2) := by decide +kernel
theorem dX6_narrowRoomByRow_20 : decode cX6_narrowRoomByRow 20 = .ok (.invokevirtual 180, 3) := by decide +kernel
theorem dX6_narrowRoomByRow_23 : decode cX6_narrowRoomByRow 23 = .ok (.istore 5, 2) := by decide +kernel
theorem dX6_narrowRoomByRow_25 : decode cX6_narrowRoomByRow 25 = .ok (.iload 5, 2) := by decide +kernel
theorem dX6_narrowRoomByRow_27 : decode cX6_narrowRoomByRow 27 = .ok (.ldc 179, 2) := by decide +kernel
theorem dX6_narrowRoomByRow_29 : decode cX6_narrowRoomByRow 29 = .ok (.if_icmp .eq 21, 3) := by decide +kernel
theorem dX6_narrowRoomByRow_32 : decode cX6_narrowRoomByRow 32 = .ok (.aload_n 1, 1) := by decide +kernel
theorem dX6_narrowRoomByRow_33 : decode cX6_narrowRoomByRow 33 = .ok (.iload 4, 2) := by decide +kernel
theorem dX6_narrowRoomByRow_35 : decode cX6_narrowRoomByRow 35 = .ok (.invokevirtual 298, 3) := by decide +kernel
theorem dX6_narrowRoomByRow_38 : decode cX6_narrowRoomByRow 38 = .ok (.ifCond .eq 12, 3) := by decide +kernel
theorem dX6_narrowRoomByRow_41 : decode cX6_narrowRoomByRow 41 = .ok (.aload_n 0, 1) := by decide +kernel
theorem dX6_narrowRoomByRow_42 : decode cX6_narrowRoomByRow 42 = .ok (.getfield 37, 3) := by decide +kernel
theorem dX6_narrowRoomByRow_45 : decode cX6_narrowRoomByRow 45 = .ok (.iload 5, 2) := by decide +kernel
theorem dX6_narrowRoomByRow_47 : decode cX6_narrowRoomByRow 47 = .ok (.invokevirtual 301, 3) := by decide +kernel
theorem dX6_narrowRoomByRow_50 : decode cX6_narrowRoomByRow 50 = .ok (.iinc 4 1, 3) := by decide +kernel
theorem dX6_narrowRoomByRow_53 : decode cX6_narrowRoomByRow 53 = .ok (.goto (-50), 3) := by decide +kernel
theorem dX6_narrowRoomByRow_56 : decode cX6_narrowRoomByRow 56 = .ok (.return_, 1) := by decide +kernel
theorem dX6_nextRule_0 : decode cX6_nextRule 0 = .ok (.aload_n 0, 1) := by decide +kernel
theorem dX6_nextRule_1 : decode cX6_nextRule 1 = .ok (.getfield 58, 3) := by decide +kernel
theorem dX6_nextRule_4 : decode cX6_nextRule 4 = .ok (.bipush 8, 2) := by decide +kernel
theorem dX6_nextRule_6 : decode cX6_nextRule 6 = .ok (.if_icmp .ge 15, 3) := by decide +kernel
theorem dX6_nextRule_9 : decode cX6_nextRule 9 = .ok (.aload_n 0, 1) := by decide +kernel
theorem dX6_nextRule_10 : decode cX6_nextRule 10 = .ok (.getfield 19, 3) := by decide +kernel
theorem dX6_nextRule_13 : decode cX6_nextRule 13 = .ok (.aload_n 0, 1) := by decide +kernel
theorem dX6_nextRule_14 : decode cX6_nextRule 14 = .ok (.getfield 58, 3) := by decide +kernel
theorem dX6_nextRule_17 : decode cX6_nextRule 17 = .ok (.aaload, 1) := by decide +kernel
theorem dX6_nextRule_18 : decode cX6_nextRule 18 = .ok (.goto 4, 3) := by decide +kernel
theorem dX6_nextRule_21 : decode cX6_nextRule 21 = .ok (.aconst_null, 1) := by decide +kernel
theorem dX6_nextRule_22 : decode cX6_nextRule 22 = .ok (.areturn, 1) := by decide +kernel
theorem dX6_addRule_0 : decode cX6_addRule 0 = .ok (.aload_n 0, 1) := by decide +kernel
theorem dX6_addRule_1 : decode cX6_addRule 1 = .ok (.dup, 1) := by decide +kernel
theorem dX6_addRule_2 : decode cX6_addRule 2 = .ok (.getfield 58, 3) := by decide +kernel
theorem dX6_addRule_5 : decode cX6_addRule 5 = .ok (.iconst 1, 1) := by decide +kernel
theorem dX6_addRule_6 : decode cX6_addRule 6 = .ok (.iadd, 1) := by decide +kernel
theorem dX6_addRule_7 : decode cX6_addRule 7 = .ok (.putfield 58, 3) := by decide +kernel
theorem dX6_addRule_10 : decode cX6_addRule 10 = .ok (.aload_n 0, 1) := by decide +kernel
theorem dX6_addRule_11 : decode cX6_addRule 11 = .ok (.getfield 58, 3) := by decide +kernel
theorem dX6_addRule_14 : decode cX6_addRule 14 = .ok (.iconst 1, 1) := by decide +kernel
theorem dX6_addRule_15 : decode cX6_addRule 15 = .ok (.isub, 1) := by decide +kernel
theorem dX6_addRule_16 : decode cX6_addRule 16 = .ok (.ireturn, 1) := by decide +kernel
theorem dX6_firstBroken_0 : decode cX6_firstBroken 0 = .ok (.iconst 0, 1) := by decide +kernel
theorem dX6_firstBroken_1 : decode cX6_firstBroken 1 = .ok (.istore_n 2, 1) := by decide +kernel
theorem dX6_firstBroken_2 : decode cX6_firstBroken 2 = .ok (.iload_n 2, 1) := by decide +kernel
theorem dX6_firstBroken_3 : decode cX6_firstBroken 3 = .ok (.aload_n 0, 1) := by decide +kernel
theorem dX6_firstBroken_4 : decode cX6_firstBroken 4 = .ok (.getfield 58, 3) := by decide +kernel
theorem dX6_firstBroken_7 : decode cX6_firstBroken 7 = .ok (.if_icmp .ge 31, 3) := by decide +kernel
theorem dX6_firstBroken_10 : decode cX6_firstBroken 10 = .ok (.iload_n 2, 1) := by decide +kernel
theorem dX6_firstBroken_11 : decode cX6_firstBroken 11 = .ok (.bipush 8, 2) := by decide +kernel
theorem dX6_firstBroken_13 : decode cX6_firstBroken 13 = .ok (.if_icmp .ge 25, 3) := by decide +kernel
theorem dX6_firstBroken_16 : decode cX6_firstBroken 16 = .ok (.aload_n 0, 1) := by decide +kernel
theorem dX6_firstBroken_17 : decode cX6_firstBroken 17 = .ok (.aload_n 0, 1) := by decide +kernel
theorem dX6_firstBroken_18 : decode cX6_firstBroken 18 = .ok (.getfield 19, 3) := by decide +kernel
theorem dX6_firstBroken_21 : decode cX6_firstBroken 21 = .ok (.iload_n 2, 1) := by decide +kernel
theorem dX6_firstBroken_22 : decode cX6_firstBroken 22 = .ok (.aaload, 1) := by decide +kernel
theorem dX6_firstBroken_23 : decode cX6_firstBroken 23 = .ok (.aload_n 1, 1) := by decide +kernel
theorem dX6_firstBroken_24 : decode cX6_firstBroken 24 = .ok (.invokevirtual 304, 3) := by decide +kernel
theorem dX6_firstBroken_27 : decode cX6_firstBroken 27 = .ok (.ifCond .ne 5, 3) := by decide +kernel
theorem dX6_firstBroken_30 : decode cX6_firstBroken 30 = .ok (.iload_n 2, 1) := by decide +kernel
theorem dX6_firstBroken_31 : decode cX6_firstBroken 31 = .ok (.ireturn, 1) := by decide +kernel
theorem dX6_firstBroken_32 : decode cX6_firstBroken 32 = .ok (.iinc 2 1, 3) := by decide +kernel
theorem dX6_firstBroken_35 : decode cX6_firstBroken 35 = .ok (.goto (-33), 3) := by decide +kernel
theorem dX6_firstBroken_38 : decode cX6_firstBroken 38 = .ok (.bipush 100, 2) := by decide +kernel
theorem dX6_firstBroken_40 : decode cX6_firstBroken 40 = .ok (.ireturn, 1) := by decide +kernel
theorem dX6_ruleHolds_0 : decode cX6_ruleHolds 0 = .ok (.iconst 0, 1) := by decide +kernel
theorem dX6_ruleHolds_1 : decode cX6_ruleHolds 1 = .ok (.istore_n 3, 1) := by decide +kernel
theorem dX6_ruleHolds_2 : decode cX6_ruleHolds 2 = .ok (.iload_n 3, 1) := by decide +kernel
theorem dX6_ruleHolds_3 : decode cX6_ruleHolds 3 = .ok (.aload_n 0, 1) := by decide +kernel
theorem dX6_ruleHolds_4 : decode cX6_ruleHolds 4 = .ok (.aload_n 1, 1) := by decide +kernel
theorem dX6_ruleHolds_5 : decode cX6_ruleHolds 5 = .ok (.getfield 308, 3) := by decide +kernel
theorem dX6_ruleHolds_8 : decode cX6_ruleHolds 8 = .ok (.invokevirtual 200, 3) := by decide +kernel
theorem dX6_ruleHolds_11 : decode cX6_ruleHolds 11 = .ok (.if_icmp .ge 21, 3) := by decide +kernel
theorem dX6_ruleHolds_14 : decode cX6_ruleHolds 14 = .ok (.aload_n 0, 1) := by decide +kernel
theorem dX6_ruleHolds_15 : decode cX6_ruleHolds 15 = .ok (.aload_n 1, 1) := by decide +kernel
theorem dX6_ruleHolds_16 : decode cX6_ruleHolds 16 = .ok (.aload_n 2, 1) := by decide +kernel
theorem dX6_ruleHolds_17 : decode cX6_ruleHolds 17 = .ok (.iload_n 3, 1) := by decide +kernel
theorem dX6_ruleHolds_18 : decode cX6_ruleHolds 18 = .ok (.invokevirtual 311, 3) := by decide +kernel
theorem dX6_ruleHolds_21 : decode cX6_ruleHolds 21 = .ok (.ifCond .ne 5, 3) := by decide +kernel
theorem dX6_ruleHolds_24 : decode cX6_ruleHolds 24 = .ok (.iconst 0, 1) := by decide +kernel
theorem dX6_ruleHolds_25 : decode cX6_ruleHolds 25 = .ok (.ireturn, 1) := by decide +kernel
theorem dX6_ruleHolds_26 : decode cX6_ruleHolds 26 = .ok (.iinc 3 1, 3) := by decide +kernel
theorem dX6_ruleHolds_29 : decode cX6_ruleHolds 29 = .ok (.goto (-27), 3) := by decide +kernel
theorem dX6_ruleHolds_32 : decode cX6_ruleHolds 32 = .ok (.iconst 1, 1) := by decide +kernel
theorem dX6_ruleHolds_33 : decode cX6_ruleHolds 33 = .ok (.ireturn, 1) := by decide +kernel
theorem dX6_holdsInRow_0 : decode cX6_holdsInRow 0 = .ok (.aload_n 2, 1) := by decide +kernel
theorem dX6_holdsInRow_1 : decode cX6_holdsInRow 1 = .ok (.aload_n 1, 1) := by decide +kernel
theorem dX6_holdsInRow_2 : decode cX6_holdsInRow 2 = .ok (.getfield 308, 3) := by decide +kernel
theorem dX6_holdsInRow_5 : decode cX6_holdsInRow 5 = .ok (.iload_n 3, 1) := by decide +kernel
theorem dX6_holdsInRow_6 : decode cX6_holdsInRow 6 = .ok (.aload_n 1, 1) := by decide +kernel
theorem dX6_holdsInRow_7 : decode cX6_holdsInRow 7 = .ok (.getfield 315, 3) := by decide +kernel
theorem dX6_holdsInRow_10 : decode cX6_holdsInRow 10 = .ok (.invokevirtual 180, 3) := by decide +kernel
theorem dX6_holdsInRow_13 : decode cX6_holdsInRow 13 = .ok (.istore 4, 2) := by decide +kernel
theorem dX6_holdsInRow_15 : decode cX6_holdsInRow 15 = .ok (.iload 4, 2) := by decide +kernel
theorem dX6_holdsInRow_17 : decode cX6_holdsInRow 17 = .ok (.ldc 179, 2) := by decide +kernel
theorem dX6_holdsInRow_19 : decode cX6_holdsInRow 19 = .ok (.if_icmp .ne 5, 3) := by decide +kernel
theorem dX6_holdsInRow_22 : decode cX6_holdsInRow 22 = .ok (.iconst 1, 1) := by decide +kernel
theorem dX6_holdsInRow_23 : decode cX6_holdsInRow 23 = .ok (.ireturn, 1) := by decide +kernel
theorem dX6_holdsInRow_24 : decode cX6_holdsInRow 24 = .ok (.aload_n 1, 1) := by decide +kernel
theorem dX6_holdsInRow_25 : decode cX6_holdsInRow 25 = .ok (.getfield 318, 3) := by decide +kernel
theorem dX6_holdsInRow_28 : decode cX6_holdsInRow 28 = .ok (.lookupswitch 81 #[(0, 28), (1, 63)], 28) := by decide +kernel
theorem dX6_holdsInRow_56 : decode cX6_holdsInRow 56 = .ok (.aload_n 2, 1) := by decide +kernel
theorem dX6_holdsInRow_57 : decode cX6_holdsInRow 57 = .ok (.aload_n 1, 1) := by decide +kernel
theorem dX6_holdsInRow_58 : decode cX6_holdsInRow 58 = .ok (.getfield 308, 3) := by decide +kernel
theorem dX6_holdsInRow_61 : decode cX6_holdsInRow 61 = .ok (.iload_n 3, 1) := by decide +kernel
theorem dX6_holdsInRow_62 : decode cX6_holdsInRow 62 = .ok (.aload_n 1, 1) := by decide +kernel
theorem dX6_holdsInRow_63 : decode cX6_holdsInRow 63 = .ok (.getfield 319, 3) := by decide +kernel
theorem dX6_holdsInRow_66 : decode cX6_holdsInRow 66 = .ok (.invokevirtual 180, 3) := by decide +kernel
theorem dX6_holdsInRow_69 : decode cX6_holdsInRow 69 = .ok (.istore 5, 2) := by decide +kernel
theorem dX6_holdsInRow_71 : decode cX6_holdsInRow 71 = .ok (.iload 5, 2) := by decide +kernel
theorem dX6_holdsInRow_73 : decode cX6_holdsInRow 73 = .ok (.ldc 179, 2) := by decide +kernel
theorem dX6_holdsInRow_75 : decode cX6_holdsInRow 75 = .ok (.if_icmp .eq 10, 3) := by decide +kernel
theorem dX6_holdsInRow_78 : decode cX6_holdsInRow 78 = .ok (.iload 4, 2) := by decide +kernel
theorem dX6_holdsInRow_80 : decode cX6_holdsInRow 80 = .ok (.iload 5, 2) := by decide +kernel
theorem dX6_holdsInRow_82 : decode cX6_holdsInRow 82 = .ok (.if_icmp .gt 7, 3) := by decide +kernel
theorem dX6_holdsInRow_85 : decode cX6_holdsInRow 85 = .ok (.iconst 1, 1) := by decide +kernel
theorem dX6_holdsInRow_86 : decode cX6_holdsInRow 86 = .ok (.goto 4, 3) := by decide +kernel
theorem dX6_holdsInRow_89 : decode cX6_holdsInRow 89 = .ok (.iconst 0, 1) := by decide +kernel
theorem dX6_holdsInRow_90 : decode cX6_holdsInRow 90 = .ok (.ireturn, 1) := by decide +kernel
theorem dX6_holdsInRow_91 : decode cX6_holdsInRow 91 = .ok (.iload 4, 2) := by decide +kernel
theorem dX6_holdsInRow_93 : decode cX6_holdsInRow 93 = .ok (.aload_n 0, 1) := by decide +kernel
theorem dX6_holdsInRow_94 : decode cX6_holdsInRow 94 = .ok (.aload_n 1, 1) := by decide +kernel
theorem dX6_holdsInRow_95 : decode cX6_holdsInRow 95 = .ok (.aload_n 2, 1) := by decide +kernel
theorem dX6_holdsInRow_96 : decode cX6_holdsInRow 96 = .ok (.iload_n 3, 1) := by decide +kernel
theorem dX6_holdsInRow_97 : decode cX6_holdsInRow 97 = .ok (.invokevirtual 322, 3) := by decide +kernel
theorem dX6_holdsInRow_100 : decode cX6_holdsInRow 100 = .ok (.if_icmp .ne 7, 3) := by decide +kernel
theorem dX6_holdsInRow_103 : decode cX6_holdsInRow 103 = .ok (.iconst 1, 1) := by decide +kernel
theorem dX6_holdsInRow_104 : decode cX6_holdsInRow 104 = .ok (.goto 4, 3) := by decide +kernel
theorem dX6_holdsInRow_107 : decode cX6_holdsInRow 107 = .ok (.iconst 0, 1) := by decide +kernel
theorem dX6_holdsInRow_108 : decode cX6_holdsInRow 108 = .ok (.ireturn, 1) := by decide +kernel
theorem dX6_holdsInRow_109 : decode cX6_holdsInRow 109 = .ok (.aload_n 0, 1) := by decide +kernel
theorem dX6_holdsInRow_110 : decode cX6_holdsInRow 110 = .ok (.aload_n 1, 1) := by decide +kernel
theorem dX6_holdsInRow_111 : decode cX6_holdsInRow 111 = .ok (.getfield 308, 3) := by decide +kernel
theorem dX6_holdsInRow_114 : decode cX6_holdsInRow 114 = .ok (.aload_n 1, 1) := by decide +kernel
theorem dX6_holdsInRow_115 : decode cX6_holdsInRow 115 = .ok (.getfield 315, 3) := by decide +kernel
theorem dX6_holdsInRow_118 : decode cX6_holdsInRow 118 = .ok (.invokevirtual 99, 3) := by decide +kernel
theorem dX6_holdsInRow_121 : decode cX6_holdsInRow 121 = .ok (.astore 6, 2) := by decide +kernel
theorem dX6_holdsInRow_123 : decode cX6_holdsInRow 123 = .ok (.aload 6, 2) := by decide +kernel
theorem dX6_holdsInRow_125 : decode cX6_holdsInRow 125 = .ok (.ifnull 23, 3) := by decide +kernel
theorem dX6_holdsInRow_128 : decode cX6_holdsInRow 128 = .ok (.aload_n 0, 1) := by decide +kernel
theorem dX6_holdsInRow_129 : decode cX6_holdsInRow 129 = .ok (.aload_n 2, 1) := by decide +kernel
theorem dX6_holdsInRow_130 : decode cX6_holdsInRow 130 = .ok (.aload 6, 2) := by decide +kernel
theorem dX6_holdsInRow_132 : decode cX6_holdsInRow 132 = .ok (.getfield 146, 3) := by decide +kernel
theorem dX6_holdsInRow_135 : decode cX6_holdsInRow 135 = .ok (.iconst 0, 1) := by decide +kernel
theorem dX6_holdsInRow_136 : decode cX6_holdsInRow 136 = .ok (.iload 4, 2) := by decide +kernel
theorem dX6_holdsInRow_138 : decode cX6_holdsInRow 138 = .ok (.invokevirtual 91, 3) := by decide +kernel
theorem dX6_holdsInRow_141 : decode cX6_holdsInRow 141 = .ok (.ifCond .le 7, 3) := by decide +kernel
theorem dX6_holdsInRow_144 : decode cX6_holdsInRow 144 = .ok (.iconst 1, 1) := by decide +kernel
theorem dX6_holdsInRow_145 : decode cX6_holdsInRow 145 = .ok (.goto 4, 3) := by decide +kernel
theorem dX6_holdsInRow_148 : decode cX6_holdsInRow 148 = .ok (.iconst 0, 1) := by decide +kernel
theorem dX6_holdsInRow_149 : decode cX6_holdsInRow 149 = .ok (.ireturn, 1) := by decide +kernel
theorem dX6_partsOf_0 : decode cX6_partsOf 0 = .ok (.aload_n 2, 1) := by decide +kernel
theorem dX6_partsOf_1 : decode cX6_partsOf 1 = .ok (.aload_n 1, 1) := by decide +kernel
theorem dX6_partsOf_2 : decode cX6_partsOf 2 = .ok (.getfield 308, 3) := by decide +kernel
theorem dX6_partsOf_5 : decode cX6_partsOf 5 = .ok (.iload_n 3, 1) := by decide +kernel
theorem dX6_partsOf_6 : decode cX6_partsOf 6 = .ok (.iconst 0, 1) := by decide +kernel
theorem dX6_partsOf_7 : decode cX6_partsOf 7 = .ok (.invokevirtual 180, 3) := by decide +kernel
theorem dX6_partsOf_10 : decode cX6_partsOf 10 = .ok (.istore 4, 2) := by decide +kernel
theorem dX6_partsOf_12 : decode cX6_partsOf 12 = .ok (.iconst 0, 1) := by decide +kernel
theorem dX6_partsOf_13 : decode cX6_partsOf 13 = .ok (.istore 5, 2) := by decide +kernel
theorem dX6_partsOf_15 : decode cX6_partsOf 15 = .ok (.iconst 0, 1) := by decide +kernel
theorem dX6_partsOf_16 : decode cX6_partsOf 16 = .ok (.istore 6, 2) := by decide +kernel
theorem dX6_partsOf_18 : decode cX6_partsOf 18 = .ok (.iload 6, 2) := by decide +kernel
theorem dX6_partsOf_20 : decode cX6_partsOf 20 = .ok (.aload_n 0, 1) := by decide +kernel
theorem dX6_partsOf_21 : decode cX6_partsOf 21 = .ok (.aload_n 1, 1) := by decide +kernel
theorem dX6_partsOf_22 : decode cX6_partsOf 22 = .ok (.getfield 326, 3) := by decide +kernel
theorem dX6_partsOf_25 : decode cX6_partsOf 25 = .ok (.invokevirtual 200, 3) := by decide +kernel
theorem dX6_partsOf_28 : decode cX6_partsOf 28 = .ok (.if_icmp .ge 58, 3) := by decide +kernel
theorem dX6_partsOf_31 : decode cX6_partsOf 31 = .ok (.aload_n 2, 1) := by decide +kernel
theorem dX6_partsOf_32 : decode cX6_partsOf 32 = .ok (.aload_n 1, 1) := by decide +kernel
theorem dX6_partsOf_33 : decode cX6_partsOf 33 = .ok (.getfield 326, 3) := by decide +kernel
theorem dX6_partsOf_36 : decode cX6_partsOf 36 = .ok (.iload 6, 2) := by decide +kernel
theorem dX6_partsOf_38 : decode cX6_partsOf 38 = .ok (.aload_n 1, 1) := by decide +kernel
theorem dX6_partsOf_39 : decode cX6_partsOf 39 = .ok (.getfield 319, 3) := by decide +kernel
theorem dX6_partsOf_42 : decode cX6_partsOf 42 = .ok (.invokevirtual 180, 3) := by decide +kernel
theorem dX6_partsOf_45 : decode cX6_partsOf 45 = .ok (.istore 7, 2) := by decide +kernel
theorem dX6_partsOf_47 : decode cX6_partsOf 47 = .ok (.iload 7, 2) := by decide +kernel
theorem dX6_partsOf_49 : decode cX6_partsOf 49 = .ok (.ldc 179, 2) := by decide +kernel
theorem dX6_partsOf_51 : decode cX6_partsOf 51 = .ok (.if_icmp .eq 29, 3) := by decide +kernel
theorem dX6_partsOf_54 : decode cX6_partsOf 54 = .ok (.aload_n 2, 1) := by decide +kernel
theorem dX6_partsOf_55 : decode cX6_partsOf 55 = .ok (.aload_n 1, 1) := by decide +kernel
theorem dX6_partsOf_56 : decode cX6_partsOf 56 = .ok (.getfield 326, 3) := by decide +kernel
theorem dX6_partsOf_59 : decode cX6_partsOf 59 = .ok (.iload 6, 2) := by decide +kernel
theorem dX6_partsOf_61 : decode cX6_partsOf 61 = .ok (.aload_n 1, 1) := by decide +kernel
theorem dX6_partsOf_62 : decode cX6_partsOf 62 = .ok (.getfield 329, 3) := by decide +kernel
theorem dX6_partsOf_65 : decode cX6_partsOf 65 = .ok (.invokevirtual 180, 3) := by decide +kernel
theorem dX6_partsOf_68 : decode cX6_partsOf 68 = .ok (.iload 4, 2) := by decide +kernel
theorem dX6_partsOf_70 : decode cX6_partsOf 70 = .ok (.if_icmp .ne 10, 3) := by decide +kernel
theorem dX6_partsOf_73 : decode cX6_partsOf 73 = .ok (.iload 5, 2) := by decide +kernel
theorem dX6_partsOf_75 : decode cX6_partsOf 75 = .ok (.iload 7, 2) := by decide +kernel
theorem dX6_partsOf_77 : decode cX6_partsOf 77 = .ok (.iadd, 1) := by decide +kernel
theorem dX6_partsOf_78 : decode cX6_partsOf 78 = .ok (.istore 5, 2) := by decide +kernel
theorem dX6_partsOf_80 : decode cX6_partsOf 80 = .ok (.iinc 6 1, 3) := by decide +kernel
theorem dX6_partsOf_83 : decode cX6_partsOf 83 = .ok (.goto (-65), 3) := by decide +kernel
theorem dX6_partsOf_86 : decode cX6_partsOf 86 = .ok (.iload 5, 2) := by decide +kernel
theorem dX6_partsOf_88 : decode cX6_partsOf 88 = .ok (.ireturn, 1) := by decide +kernel
theorem dX6_mendDraft_0 : decode cX6_mendDraft 0 = .ok (.iconst 0, 1) := by decide +kernel
theorem dX6_mendDraft_1 : decode cX6_mendDraft 1 = .ok (.istore_n 1, 1) := by decide +kernel
theorem dX6_mendDraft_2 : decode cX6_mendDraft 2 = .ok (.iload_n 1, 1) := by decide +kernel
theorem dX6_mendDraft_3 : decode cX6_mendDraft 3 = .ok (.aload_n 0, 1) := by decide +kernel
theorem dX6_mendDraft_4 : decode cX6_mendDraft 4 = .ok (.getfield 58, 3) := by decide +kernel
theorem dX6_mendDraft_7 : decode cX6_mendDraft 7 = .ok (.if_icmp .ge 50, 3) := by decide +kernel
theorem dX6_mendDraft_10 : decode cX6_mendDraft 10 = .ok (.iload_n 1, 1) := by decide +kernel
theorem dX6_mendDraft_11 : decode cX6_mendDraft 11 = .ok (.bipush 8, 2) := by decide +kernel
theorem dX6_mendDraft_13 : decode cX6_mendDraft 13 = .ok (.if_icmp .ge 44, 3) := by decide +kernel
theorem dX6_mendDraft_16 : decode cX6_mendDraft 16 = .ok (.aload_n 0, 1) := by decide +kernel
theorem dX6_mendDraft_17 : decode cX6_mendDraft 17 = .ok (.getfield 19, 3) := by decide +kernel
theorem dX6_mendDraft_20 : decode cX6_mendDraft 20 = .ok (.iload_n 1, 1) := by decide +kernel
theorem dX6_mendDraft_21 : decode cX6_mendDraft 21 = .ok (.aaload, 1) := by decide +kernel
theorem dX6_mendDraft_22 : decode cX6_mendDraft 22 = .ok (.getfield 318, 3) := by decide +kernel
theorem dX6_mendDraft_25 : decode cX6_mendDraft 25 = .ok (.iconst 1, 1) := by decide +kernel
theorem dX6_mendDraft_26 : decode cX6_mendDraft 26 = .ok (.if_icmp .ne 25, 3) := by decide +kernel
theorem dX6_mendDraft_29 : decode cX6_mendDraft 29 = .ok (.aload_n 0, 1) := by decide +kernel
theorem dX6_mendDraft_30 : decode cX6_mendDraft 30 = .ok (.getfield 19, 3) := by decide +kernel
theorem dX6_mendDraft_33 : decode cX6_mendDraft 33 = .ok (.iload_n 1, 1) := by decide +kernel
theorem dX6_mendDraft_34 : decode cX6_mendDraft 34 = .ok (.aaload, 1) := by decide +kernel
theorem dX6_mendDraft_35 : decode cX6_mendDraft 35 = .ok (.getfield 332, 3) := by decide +kernel
theorem dX6_mendDraft_38 : decode cX6_mendDraft 38 = .ok (.ifCond .eq 13, 3) := by decide +kernel
theorem dX6_mendDraft_41 : decode cX6_mendDraft 41 = .ok (.aload_n 0, 1) := by decide +kernel
theorem dX6_mendDraft_42 : decode cX6_mendDraft 42 = .ok (.aload_n 0, 1) := by decide +kernel
theorem dX6_mendDraft_43 : decode cX6_mendDraft 43 = .ok (.getfield 19, 3) := by decide +kernel
theorem dX6_mendDraft_46 : decode cX6_mendDraft 46 = .ok (.iload_n 1, 1) := by decide +kernel
theorem dX6_mendDraft_47 : decode cX6_mendDraft 47 = .ok (.aaload, 1) := by decide +kernel
theorem dX6_mendDraft_48 : decode cX6_mendDraft 48 = .ok (.invokevirtual 335, 3) := by decide +kernel
theorem dX6_mendDraft_51 : decode cX6_mendDraft 51 = .ok (.iinc 1 1, 3) := by decide +kernel
theorem dX6_mendDraft_54 : decode cX6_mendDraft 54 = .ok (.goto (-52), 3) := by decide +kernel
theorem dX6_mendDraft_57 : decode cX6_mendDraft 57 = .ok (.return_, 1) := by decide +kernel
theorem dX6_mendColumn_0 : decode cX6_mendColumn 0 = .ok (.iconst 0, 1) := by decide +kernel
theorem dX6_mendColumn_1 : decode cX6_mendColumn 1 = .ok (.istore_n 2, 1) := by decide +kernel
theorem dX6_mendColumn_2 : decode cX6_mendColumn 2 = .ok (.iload_n 2, 1) := by decide +kernel
theorem dX6_mendColumn_3 : decode cX6_mendColumn 3 = .ok (.aload_n 0, 1) := by decide +kernel
theorem dX6_mendColumn_4 : decode cX6_mendColumn 4 = .ok (.aload_n 1, 1) := by decide +kernel
theorem dX6_mendColumn_5 : decode cX6_mendColumn 5 = .ok (.getfield 308, 3) := by decide +kernel
theorem dX6_mendColumn_8 : decode cX6_mendColumn 8 = .ok (.invokevirtual 200, 3) := by decide +kernel
theorem dX6_mendColumn_11 : decode cX6_mendColumn 11 = .ok (.if_icmp .ge 56, 3) := by decide +kernel
theorem dX6_mendColumn_14 : decode cX6_mendColumn 14 = .ok (.aload_n 0, 1) := by decide +kernel
theorem dX6_mendColumn_15 : decode cX6_mendColumn 15 = .ok (.getfield 51, 3) := by decide +kernel
theorem dX6_mendColumn_18 : decode cX6_mendColumn 18 = .ok (.aload_n 1, 1) := by decide +kernel
theorem dX6_mendColumn_19 : decode cX6_mendColumn 19 = .ok (.getfield 308, 3) := by decide +kernel
theorem dX6_mendColumn_22 : decode cX6_mendColumn 22 = .ok (.iload_n 2, 1) := by decide +kernel
theorem dX6_mendColumn_23 : decode cX6_mendColumn 23 = .ok (.aload_n 1, 1) := by decide +kernel
theorem dX6_mendColumn_24 : decode cX6_mendColumn 24 = .ok (.getfield 315, 3) := by decide +kernel
theorem dX6_mendColumn_27 : decode cX6_mendColumn 27 = .ok (.invokevirtual 180, 3) := by decide +kernel
theorem dX6_mendColumn_30 : decode cX6_mendColumn 30 = .ok (.ldc 179, 2) := by decide +kernel
theorem dX6_mendColumn_32 : decode cX6_mendColumn 32 = .ok (.if_icmp .eq 29, 3) := by decide +kernel
theorem dX6_mendColumn_35 : decode cX6_mendColumn 35 = .ok (.aload_n 0, 1) := by decide +kernel
theorem dX6_mendColumn_36 : decode cX6_mendColumn 36 = .ok (.getfield 51, 3) := by decide +kernel
theorem dX6_mendColumn_39 : decode cX6_mendColumn 39 = .ok (.aload_n 1, 1) := by decide +kernel
theorem dX6_mendColumn_40 : decode cX6_mendColumn 40 = .ok (.getfield 308, 3) := by decide +kernel
theorem dX6_mendColumn_43 : decode cX6_mendColumn 43 = .ok (.iload_n 2, 1) := by decide +kernel
theorem dX6_mendColumn_44 : decode cX6_mendColumn 44 = .ok (.aload_n 1, 1) := by decide +kernel
theorem dX6_mendColumn_45 : decode cX6_mendColumn 45 = .ok (.getfield 315, 3) := by decide +kernel
theorem dX6_mendColumn_48 : decode cX6_mendColumn 48 = .ok (.aload_n 0, 1) := by decide +kernel
theorem dX6_mendColumn_49 : decode cX6_mendColumn 49 = .ok (.aload_n 1, 1) := by decide +kernel
theorem dX6_mendColumn_50 : decode cX6_mendColumn 50 = .ok (.aload_n 0, 1) := by decide +kernel
theorem dX6_mendColumn_51 : decode cX6_mendColumn 51 = .ok (.getfield 51, 3) := by decide +kernel
theorem dX6_mendColumn_54 : decode cX6_mendColumn 54 = .ok (.iload_n 2, 1) := by decide +kernel
theorem dX6_mendColumn_55 : decode cX6_mendColumn 55 = .ok (.invokevirtual 322, 3) := by decide +kernel
theorem dX6_mendColumn_58 : decode cX6_mendColumn 58 = .ok (.invokevirtual 95, 3) := by decide +kernel
theorem dX6_mendColumn_61 : decode cX6_mendColumn 61 = .ok (.iinc 2 1, 3) := by decide +kernel
theorem dX6_mendColumn_64 : decode cX6_mendColumn 64 = .ok (.goto (-62), 3) := by decide +kernel
theorem dX6_mendColumn_67 : decode cX6_mendColumn 67 = .ok (.return_, 1) := by decide +kernel
theorem dX6_couldSet_0 : decode cX6_couldSet 0 = .ok (.iconst 0, 1) := by decide +kernel
theorem dX6_couldSet_1 : decode cX6_couldSet 1 = .ok (.istore 4, 2) := by decide +kernel
theorem dX6_couldSet_3 : decode cX6_couldSet 3 = .ok (.iconst 0, 1) := by decide +kernel
theorem dX6_couldSet_4 : decode cX6_couldSet 4 = .ok (.istore 5, 2) := by decide +kernel
theorem dX6_couldSet_6 : decode cX6_couldSet 6 = .ok (.iload 5, 2) := by decide +kernel
theorem dX6_couldSet_8 : decode cX6_couldSet 8 = .ok (.aload_n 0, 1) := by decide +kernel
theorem dX6_couldSet_9 : decode cX6_couldSet 9 = .ok (.iload_n 1, 1) := by decide +kernel
theorem dX6_couldSet_10 : decode cX6_couldSet 10 = .ok (.invokevirtual 200, 3) := by decide +kernel
theorem dX6_couldSet_13 : decode cX6_couldSet 13 = .ok (.if_icmp .ge 42, 3) := by decide +kernel
theorem dX6_couldSet_16 : decode cX6_couldSet 16 = .ok (.aload_n 0, 1) := by decide +kernel
theorem dX6_couldSet_17 : decode cX6_couldSet 17 = .ok (.iload_n 1, 1) := by decide +kernel
theorem dX6_couldSet_18 : decode cX6_couldSet 18 = .ok (.iload_n 2, 1) := by decide +kernel
theorem dX6_couldSet_19 : decode cX6_couldSet 19 = .ok (.iload 5, 2) := by decide +kernel
theorem dX6_couldSet_21 : decode cX6_couldSet 21 = .ok (.iload_n 3, 1) := by decide +kernel
theorem dX6_couldSet_22 : decode cX6_couldSet 22 = .ok (.invokevirtual 339, 3) := by decide +kernel
theorem dX6_couldSet_25 : decode cX6_couldSet 25 = .ok (.ifCond .eq 24, 3) := by decide +kernel
theorem dX6_couldSet_28 : decode cX6_couldSet 28 = .ok (.aload_n 0, 1) := by decide +kernel
theorem dX6_couldSet_29 : decode cX6_couldSet 29 = .ok (.iload_n 1, 1) := by decide +kernel
theorem dX6_couldSet_30 : decode cX6_couldSet 30 = .ok (.iload_n 2, 1) := by decide +kernel
theorem dX6_couldSet_31 : decode cX6_couldSet 31 = .ok (.iload 5, 2) := by decide +kernel
theorem dX6_couldSet_33 : decode cX6_couldSet 33 = .ok (.iload_n 3, 1) := by decide +kernel
theorem dX6_couldSet_34 : decode cX6_couldSet 34 = .ok (.invokevirtual 343, 3) := by decide +kernel
theorem dX6_couldSet_37 : decode cX6_couldSet 37 = .ok (.ifCond .eq 12, 3) := by decide +kernel
theorem dX6_couldSet_40 : decode cX6_couldSet 40 = .ok (.iload 4, 2) := by decide +kernel
theorem dX6_couldSet_42 : decode cX6_couldSet 42 = .ok (.iconst 1, 1) := by decide +kernel
theorem dX6_couldSet_43 : decode cX6_couldSet 43 = .ok (.iload 5, 2) := by decide +kernel
theorem dX6_couldSet_45 : decode cX6_couldSet 45 = .ok (.ishl, 1) := by decide +kernel
theorem dX6_couldSet_46 : decode cX6_couldSet 46 = .ok (.ior, 1) := by decide +kernel
theorem dX6_couldSet_47 : decode cX6_couldSet 47 = .ok (.istore 4, 2) := by decide +kernel
theorem dX6_couldSet_49 : decode cX6_couldSet 49 = .ok (.iinc 5 1, 3) := by decide +kernel
theorem dX6_couldSet_52 : decode cX6_couldSet 52 = .ok (.goto (-46), 3) := by decide +kernel
theorem dX6_couldSet_55 : decode cX6_couldSet 55 = .ok (.iload 4, 2) := by decide +kernel
theorem dX6_couldSet_57 : decode cX6_couldSet 57 = .ok (.ireturn, 1) := by decide +kernel
theorem dX6_looksSame_0 : decode cX6_looksSame 0 = .ok (.iconst 0, 1) := by decide +kernel
theorem dX6_looksSame_1 : decode cX6_looksSame 1 = .ok (.istore 5, 2) := by decide +kernel
theorem dX6_looksSame_3 : decode cX6_looksSame 3 = .ok (.iload 5, 2) := by decide +kernel
theorem dX6_looksSame_5 : decode cX6_looksSame 5 = .ok (.aload_n 0, 1) := by decide +kernel
theorem dX6_looksSame_6 : decode cX6_looksSame 6 = .ok (.iload_n 1, 1) := by decide +kernel
theorem dX6_looksSame_7 : decode cX6_looksSame 7 = .ok (.invokevirtual 249, 3) := by decide +kernel
theorem dX6_looksSame_10 : decode cX6_looksSame 10 = .ok (.if_icmp .ge 56, 3) := by decide +kernel
theorem dX6_looksSame_13 : decode cX6_looksSame 13 = .ok (.iload 4, 2) := by decide +kernel
theorem dX6_looksSame_15 : decode cX6_looksSame 15 = .ok (.iload 5, 2) := by decide +kernel
theorem dX6_looksSame_17 : decode cX6_looksSame 17 = .ok (.invokestatic 220, 3) := by decide +kernel
theorem dX6_looksSame_20 : decode cX6_looksSame 20 = .ok (.ifCond .eq 40, 3) := by decide +kernel
theorem dX6_looksSame_23 : decode cX6_looksSame 23 = .ok (.aload_n 0, 1) := by decide +kernel
theorem dX6_looksSame_24 : decode cX6_looksSame 24 = .ok (.iload_n 1, 1) := by decide +kernel
theorem dX6_looksSame_25 : decode cX6_looksSame 25 = .ok (.iload 5, 2) := by decide +kernel
theorem dX6_looksSame_27 : decode cX6_looksSame 27 = .ok (.invokevirtual 346, 3) := by decide +kernel
theorem dX6_looksSame_30 : decode cX6_looksSame 30 = .ok (.ifCond .eq 30, 3) := by decide +kernel
theorem dX6_looksSame_33 : decode cX6_looksSame 33 = .ok (.aload_n 0, 1) := by decide +kernel
theorem dX6_looksSame_34 : decode cX6_looksSame 34 = .ok (.getfield 51, 3) := by decide +kernel
theorem dX6_looksSame_37 : decode cX6_looksSame 37 = .ok (.iload_n 1, 1) := by decide +kernel
theorem dX6_looksSame_38 : decode cX6_looksSame 38 = .ok (.iload_n 3, 1) := by decide +kernel
theorem dX6_looksSame_39 : decode cX6_looksSame 39 = .ok (.iload 5, 2) := by decide +kernel
theorem dX6_looksSame_41 : decode cX6_looksSame 41 = .ok (.invokevirtual 180, 3) := by decide +kernel
theorem dX6_looksSame_44 : decode cX6_looksSame 44 = .ok (.aload_n 0, 1) := by decide +kernel
theorem dX6_looksSame_45 : decode cX6_looksSame 45 = .ok (.getfield 51, 3) := by decide +kernel
theorem dX6_looksSame_48 : decode cX6_looksSame 48 = .ok (.iload_n 1, 1) := by decide +kernel
theorem dX6_looksSame_49 : decode cX6_looksSame 49 = .ok (.iload_n 2, 1) := by decide +kernel
theorem dX6_looksSame_50 : decode cX6_looksSame 50 = .ok (.iload 5, 2) := by decide +kernel
theorem dX6_looksSame_52 : decode cX6_looksSame 52 = .ok (.invokevirtual 180, 3) := by decide +kernel
theorem dX6_looksSame_55 : decode cX6_looksSame 55 = .ok (.if_icmp .eq 5, 3) := by decide +kernel
theorem dX6_looksSame_58 : decode cX6_looksSame 58 = .ok (.iconst 0, 1) := by decide +kernel
theorem dX6_looksSame_59 : decode cX6_looksSame 59 = .ok (.ireturn, 1) := by decide +kernel
theorem dX6_looksSame_60 : decode cX6_looksSame 60 = .ok (.iinc 5 1, 3) := by decide +kernel
theorem dX6_looksSame_63 : decode cX6_looksSame 63 = .ok (.goto (-60), 3) := by decide +kernel
theorem dX6_looksSame_66 : decode cX6_looksSame 66 = .ok (.iconst 1, 1) := by decide +kernel
theorem dX6_looksSame_67 : decode cX6_looksSame 67 = .ok (.ireturn, 1) := by decide +kernel
theorem dX6_isPlain_0 : decode cX6_isPlain 0 = .ok (.aload_n 0, 1) := by decide +kernel
theorem dX6_isPlain_1 : decode cX6_isPlain 1 = .ok (.iload_n 1, 1) := by decide +kernel
theorem dX6_isPlain_2 : decode cX6_isPlain 2 = .ok (.iload_n 2, 1) := by decide +kernel
theorem dX6_isPlain_3 : decode cX6_isPlain 3 = .ok (.invokevirtual 99, 3) := by decide +kernel
theorem dX6_isPlain_6 : decode cX6_isPlain 6 = .ok (.astore_n 3, 1) := by decide +kernel
theorem dX6_isPlain_7 : decode cX6_isPlain 7 = .ok (.aload_n 3, 1) := by decide +kernel
theorem dX6_isPlain_8 : decode cX6_isPlain 8 = .ok (.ifnonnull 5, 3) := by decide +kernel
theorem dX6_isPlain_11 : decode cX6_isPlain 11 = .ok (.iconst 0, 1) := by decide +kernel
theorem dX6_isPlain_12 : decode cX6_isPlain 12 = .ok (.ireturn, 1) := by decide +kernel
theorem dX6_isPlain_13 : decode cX6_isPlain 13 = .ok (.aload_n 3, 1) := by decide +kernel
theorem dX6_isPlain_14 : decode cX6_isPlain 14 = .ok (.getfield 103, 3) := by decide +kernel
theorem dX6_isPlain_17 : decode cX6_isPlain 17 = .ok (.iconst 1, 1) := by decide +kernel
theorem dX6_isPlain_18 : decode cX6_isPlain 18 = .ok (.if_icmp .ne 39, 3) := by decide +kernel
theorem dX6_isPlain_21 : decode cX6_isPlain 21 = .ok (.aload_n 0, 1) := by decide +kernel
theorem dX6_isPlain_22 : decode cX6_isPlain 22 = .ok (.aload_n 3, 1) := by decide +kernel
theorem dX6_isPlain_23 : decode cX6_isPlain 23 = .ok (.getfield 146, 3) := by decide +kernel
theorem dX6_isPlain_26 : decode cX6_isPlain 26 = .ok (.invokevirtual 73, 3) := by decide +kernel
theorem dX6_isPlain_29 : decode cX6_isPlain 29 = .ok (.astore 4, 2) := by decide +kernel
theorem dX6_isPlain_31 : decode cX6_isPlain 31 = .ok (.aload_n 3, 1) := by decide +kernel
theorem dX6_isPlain_32 : decode cX6_isPlain 32 = .ok (.getfield 118, 3) := by decide +kernel
theorem dX6_isPlain_35 : decode cX6_isPlain 35 = .ok (.ifCond .ne 20, 3) := by decide +kernel
theorem dX6_isPlain_38 : decode cX6_isPlain 38 = .ok (.aload 4, 2) := by decide +kernel
theorem dX6_isPlain_40 : decode cX6_isPlain 40 = .ok (.ifnull 15, 3) := by decide +kernel
theorem dX6_isPlain_43 : decode cX6_isPlain 43 = .ok (.aload 4, 2) := by decide +kernel
theorem dX6_isPlain_45 : decode cX6_isPlain 45 = .ok (.invokevirtual 279, 3) := by decide +kernel
theorem dX6_isPlain_48 : decode cX6_isPlain 48 = .ok (.ifCond .ne 7, 3) := by decide +kernel
theorem dX6_isPlain_51 : decode cX6_isPlain 51 = .ok (.iconst 1, 1) := by decide +kernel
theorem dX6_isPlain_52 : decode cX6_isPlain 52 = .ok (.goto 4, 3) := by decide +kernel
theorem dX6_isPlain_55 : decode cX6_isPlain 55 = .ok (.iconst 0, 1) := by decide +kernel
theorem dX6_isPlain_56 : decode cX6_isPlain 56 = .ok (.ireturn, 1) := by decide +kernel
theorem dX6_isPlain_57 : decode cX6_isPlain 57 = .ok (.aload_n 3, 1) := by decide +kernel
theorem dX6_isPlain_58 : decode cX6_isPlain 58 = .ok (.getfield 118, 3) := by decide +kernel
theorem dX6_isPlain_61 : decode cX6_isPlain 61 = .ok (.ifCond .eq 11, 3) := by decide +kernel
theorem dX6_isPlain_64 : decode cX6_isPlain 64 = .ok (.aload_n 3, 1) := by decide +kernel
theorem dX6_isPlain_65 : decode cX6_isPlain 65 = .ok (.getfield 118, 3) := by decide +kernel
theorem dX6_isPlain_68 : decode cX6_isPlain 68 = .ok (.iconst 3, 1) := by decide +kernel
theorem dX6_isPlain_69 : decode cX6_isPlain 69 = .ok (.if_icmp .ne 7, 3) := by decide +kernel
theorem dX6_isPlain_72 : decode cX6_isPlain 72 = .ok (.iconst 1, 1) := by decide +kernel
theorem dX6_isPlain_73 : decode cX6_isPlain 73 = .ok (.goto 4, 3) := by decide +kernel
theorem dX6_isPlain_76 : decode cX6_isPlain 76 = .ok (.iconst 0, 1) := by decide +kernel
theorem dX6_isPlain_77 : decode cX6_isPlain 77 = .ok (.ireturn, 1) := by decide +kernel
theorem dX6_movesSame_0 : decode cX6_movesSame 0 = .ok (.aload_n 0, 1) := by decide +kernel
theorem dX6_movesSame_1 : decode cX6_movesSame 1 = .ok (.iload_n 1, 1) := by decide +kernel
theorem dX6_movesSame_2 : decode cX6_movesSame 2 = .ok (.invokevirtual 73, 3) := by decide +kernel
theorem dX6_movesSame_5 : decode cX6_movesSame 5 = .ok (.astore 5, 2) := by decide +kernel
theorem dX6_movesSame_7 : decode cX6_movesSame 7 = .ok (.iconst 0, 1) := by decide +kernel
theorem dX6_movesSame_8 : decode cX6_movesSame 8 = .ok (.istore 6, 2) := by decide +kernel
theorem dX6_movesSame_10 : decode cX6_movesSame 10 = .ok (.iconst 0, 1) := by decide +kernel
theorem dX6_movesSame_11 : decode cX6_movesSame 11 = .ok (.istore 7, 2) := by decide +kernel
theorem dX6_movesSame_13 : decode cX6_movesSame 13 = .ok (.iconst 0, 1) := by decide +kernel
theorem dX6_movesSame_14 : decode cX6_movesSame 14 = .ok (.istore 8, 2) := by decide +kernel
theorem dX6_movesSame_16 : decode cX6_movesSame 16 = .ok (.iload 8, 2) := by decide +kernel
theorem dX6_movesSame_18 : decode cX6_movesSame 18 = .ok (.aload_n 0, 1) := by decide +kernel
theorem dX6_movesSame_19 : decode cX6_movesSame 19 = .ok (.iload_n 1, 1) := by decide +kernel
theorem dX6_movesSame_20 : decode cX6_movesSame 20 = .ok (.invokevirtual 249, 3) := by decide +kernel
theorem dX6_movesSame_23 : decode cX6_movesSame 23 = .ok (.if_icmp .ge 121, 3) := by decide +kernel
theorem dX6_movesSame_26 : decode cX6_movesSame 26 = .ok (.aload 5, 2) := by decide +kernel
theorem dX6_movesSame_28 : decode cX6_movesSame 28 = .ok (.ifnull 110, 3) := by decide +kernel
theorem dX6_movesSame_31 : decode cX6_movesSame 31 = .ok (.iload 4, 2) := by decide +kernel
theorem dX6_movesSame_33 : decode cX6_movesSame 33 = .ok (.iload 8, 2) := by decide +kernel
theorem dX6_movesSame_35 : decode cX6_movesSame 35 = .ok (.invokestatic 220, 3) := by decide +kernel
theorem dX6_movesSame_38 : decode cX6_movesSame 38 = .ok (.ifCond .eq 100, 3) := by decide +kernel
theorem dX6_movesSame_41 : decode cX6_movesSame 41 = .ok (.aload 5, 2) := by decide +kernel
theorem dX6_movesSame_43 : decode cX6_movesSame 43 = .ok (.iload 8, 2) := by decide +kernel
theorem dX6_movesSame_45 : decode cX6_movesSame 45 = .ok (.invokevirtual 298, 3) := by decide +kernel
theorem dX6_movesSame_48 : decode cX6_movesSame 48 = .ok (.ifCond .ne 6, 3) := by decide +kernel
theorem dX6_movesSame_51 : decode cX6_movesSame 51 = .ok (.goto 87, 3) := by decide +kernel
theorem dX6_movesSame_54 : decode cX6_movesSame 54 = .ok (.aload_n 0, 1) := by decide +kernel
theorem dX6_movesSame_55 : decode cX6_movesSame 55 = .ok (.getfield 30, 3) := by decide +kernel
theorem dX6_movesSame_58 : decode cX6_movesSame 58 = .ok (.iload_n 1, 1) := by decide +kernel
theorem dX6_movesSame_59 : decode cX6_movesSame 59 = .ok (.iload_n 2, 1) := by decide +kernel
theorem dX6_movesSame_60 : decode cX6_movesSame 60 = .ok (.iload 8, 2) := by decide +kernel
theorem dX6_movesSame_62 : decode cX6_movesSame 62 = .ok (.invokevirtual 180, 3) := by decide +kernel
theorem dX6_movesSame_65 : decode cX6_movesSame 65 = .ok (.istore 9, 2) := by decide +kernel
theorem dX6_movesSame_67 : decode cX6_movesSame 67 = .ok (.aload_n 0, 1) := by decide +kernel
theorem dX6_movesSame_68 : decode cX6_movesSame 68 = .ok (.getfield 51, 3) := by decide +kernel
theorem dX6_movesSame_71 : decode cX6_movesSame 71 = .ok (.iload_n 1, 1) := by decide +kernel
theorem dX6_movesSame_72 : decode cX6_movesSame 72 = .ok (.iload_n 3, 1) := by decide +kernel
theorem dX6_movesSame_73 : decode cX6_movesSame 73 = .ok (.iload 8, 2) := by decide +kernel
theorem dX6_movesSame_75 : decode cX6_movesSame 75 = .ok (.invokevirtual 180, 3) := by decide +kernel
theorem dX6_movesSame_78 : decode cX6_movesSame 78 = .ok (.istore 10, 2) := by decide +kernel
theorem dX6_movesSame_80 : decode cX6_movesSame 80 = .ok (.iload 9, 2) := by decide +kernel
theorem dX6_movesSame_82 : decode cX6_movesSame 82 = .ok (.ldc 179, 2) := by decide +kernel
theorem dX6_movesSame_84 : decode cX6_movesSame 84 = .ok (.if_icmp .ne 13, 3) := by decide +kernel
theorem dX6_movesSame_87 : decode cX6_movesSame 87 = .ok (.iload 10, 2) := by decide +kernel
theorem dX6_movesSame_89 : decode cX6_movesSame 89 = .ok (.ldc 179, 2) := by decide +kernel
theorem dX6_movesSame_91 : decode cX6_movesSame 91 = .ok (.if_icmp .ne 6, 3) := by decide +kernel
theorem dX6_movesSame_94 : decode cX6_movesSame 94 = .ok (.goto 44, 3) := by decide +kernel
theorem dX6_movesSame_97 : decode cX6_movesSame 97 = .ok (.iload 9, 2) := by decide +kernel
theorem dX6_movesSame_99 : decode cX6_movesSame 99 = .ok (.ldc 179, 2) := by decide +kernel
theorem dX6_movesSame_101 : decode cX6_movesSame 101 = .ok (.if_icmp .eq 25, 3) := by decide +kernel
theorem dX6_movesSame_104 : decode cX6_movesSame 104 = .ok (.iload 10, 2) := by decide +kernel
theorem dX6_movesSame_106 : decode cX6_movesSame 106 = .ok (.ldc 179, 2) := by decide +kernel
theorem dX6_movesSame_108 : decode cX6_movesSame 108 = .ok (.if_icmp .eq 18, 3) := by decide +kernel
theorem dX6_movesSame_111 : decode cX6_movesSame 111 = .ok (.iload 6, 2) := by decide +kernel
theorem dX6_movesSame_113 : decode cX6_movesSame 113 = .ok (.ifCond .eq 15, 3) := by decide +kernel
theorem dX6_movesSame_116 : decode cX6_movesSame 116 = .ok (.iload 10, 2) := by decide +kernel
theorem dX6_movesSame_118 : decode cX6_movesSame 118 = .ok (.iload 9, 2) := by decide +kernel
theorem dX6_movesSame_120 : decode cX6_movesSame 120 = .ok (.isub, 1) := by decide +kernel
theorem dX6_movesSame_121 : decode cX6_movesSame 121 = .ok (.iload 7, 2) := by decide +kernel
theorem dX6_movesSame_123 : decode cX6_movesSame 123 = .ok (.if_icmp .eq 5, 3) := by decide +kernel
theorem dX6_movesSame_126 : decode cX6_movesSame 126 = .ok (.iconst 0, 1) := by decide +kernel
theorem dX6_movesSame_127 : decode cX6_movesSame 127 = .ok (.ireturn, 1) := by decide +kernel
theorem dX6_movesSame_128 : decode cX6_movesSame 128 = .ok (.iconst 1, 1) := by decide +kernel
theorem dX6_movesSame_129 : decode cX6_movesSame 129 = .ok (.istore 6, 2) := by decide +kernel
theorem dX6_movesSame_131 : decode cX6_movesSame 131 = .ok (.iload 10, 2) := by decide +kernel
theorem dX6_movesSame_133 : decode cX6_movesSame 133 = .ok (.iload 9, 2) := by decide +kernel
theorem dX6_movesSame_135 : decode cX6_movesSame 135 = .ok (.isub, 1) := by decide +kernel
theorem dX6_movesSame_136 : decode cX6_movesSame 136 = .ok (.istore 7, 2) := by decide +kernel
theorem dX6_movesSame_138 : decode cX6_movesSame 138 = .ok (.iinc 8 1, 3) := by decide +kernel
theorem dX6_movesSame_141 : decode cX6_movesSame 141 = .ok (.goto (-125), 3) := by decide +kernel
theorem dX6_movesSame_144 : decode cX6_movesSame 144 = .ok (.iconst 1, 1) := by decide +kernel
theorem dX6_movesSame_145 : decode cX6_movesSame 145 = .ok (.ireturn, 1) := by decide +kernel
theorem dX6_prepareSearch_0 : decode cX6_prepareSearch 0 = .ok (.aload_n 0, 1) := by decide +kernel
theorem dX6_prepareSearch_1 : decode cX6_prepareSearch 1 = .ok (.getfield 44, 3) := by decide +kernel
theorem dX6_prepareSearch_4 : decode cX6_prepareSearch 4 = .ok (.aload_n 0, 1) := by decide +kernel
theorem dX6_prepareSearch_5 : decode cX6_prepareSearch 5 = .ok (.iload_n 1, 1) := by decide +kernel
theorem dX6_prepareSearch_6 : decode cX6_prepareSearch 6 = .ok (.invokevirtual 200, 3) := by decide +kernel
theorem dX6_prepareSearch_9 : decode cX6_prepareSearch 9 = .ok (.invokevirtual 349, 3) := by decide +kernel
theorem dX6_prepareSearch_12 : decode cX6_prepareSearch 12 = .ok (.iconst 0, 1) := by decide +kernel
theorem dX6_prepareSearch_13 : decode cX6_prepareSearch 13 = .ok (.istore_n 3, 1) := by decide +kernel
theorem dX6_prepareSearch_14 : decode cX6_prepareSearch 14 = .ok (.iconst 0, 1) := by decide +kernel
theorem dX6_prepareSearch_15 : decode cX6_prepareSearch 15 = .ok (.istore 4, 2) := by decide +kernel
theorem dX6_prepareSearch_17 : decode cX6_prepareSearch 17 = .ok (.iload 4, 2) := by decide +kernel
theorem dX6_prepareSearch_19 : decode cX6_prepareSearch 19 = .ok (.aload_n 0, 1) := by decide +kernel
theorem dX6_prepareSearch_20 : decode cX6_prepareSearch 20 = .ok (.iload_n 1, 1) := by decide +kernel
theorem dX6_prepareSearch_21 : decode cX6_prepareSearch 21 = .ok (.invokevirtual 249, 3) := by decide +kernel
theorem dX6_prepareSearch_24 : decode cX6_prepareSearch 24 = .ok (.if_icmp .ge 52, 3) := by decide +kernel
theorem dX6_prepareSearch_27 : decode cX6_prepareSearch 27 = .ok (.aload_n 0, 1) := by decide +kernel
theorem dX6_prepareSearch_28 : decode cX6_prepareSearch 28 = .ok (.iload_n 1, 1) := by decide +kernel
theorem dX6_prepareSearch_29 : decode cX6_prepareSearch 29 = .ok (.iload 4, 2) := by decide +kernel
theorem dX6_prepareSearch_31 : decode cX6_prepareSearch 31 = .ok (.invokevirtual 99, 3) := by decide +kernel
theorem dX6_prepareSearch_34 : decode cX6_prepareSearch 34 = .ok (.astore 5, 2) := by decide +kernel
theorem dX6_prepareSearch_36 : decode cX6_prepareSearch 36 = .ok (.aload 5, 2) := by decide +kernel
theorem dX6_prepareSearch_38 : decode cX6_prepareSearch 38 = .ok (.ifnull 32, 3) := by decide +kernel
theorem dX6_prepareSearch_41 : decode cX6_prepareSearch 41 = .ok (.aload 5, 2) := by decide +kernel
theorem dX6_prepareSearch_43 : decode cX6_prepareSearch 43 = .ok (.getfield 118, 3) := by decide +kernel
theorem dX6_prepareSearch_46 : decode cX6_prepareSearch 46 = .ok (.iconst 3, 1) := by decide +kernel
theorem dX6_prepareSearch_47 : decode cX6_prepareSearch 47 = .ok (.if_icmp .ne 23, 3) := by decide +kernel
theorem dX6_prepareSearch_50 : decode cX6_prepareSearch 50 = .ok (.iload_n 3, 1) := by decide +kernel
theorem dX6_prepareSearch_51 : decode cX6_prepareSearch 51 = .ok (.iconst 1, 1) := by decide +kernel
theorem dX6_prepareSearch_52 : decode cX6_prepareSearch 52 = .ok (.iload 4, 2) := by decide +kernel
theorem dX6_prepareSearch_54 : decode cX6_prepareSearch 54 = .ok (.ishl, 1) := by decide +kernel
theorem dX6_prepareSearch_55 : decode cX6_prepareSearch 55 = .ok (.ior, 1) := by decide +kernel
theorem dX6_prepareSearch_56 : decode cX6_prepareSearch 56 = .ok (.istore_n 3, 1) := by decide +kernel
theorem dX6_prepareSearch_57 : decode cX6_prepareSearch 57 = .ok (.aload_n 0, 1) := by decide +kernel
theorem dX6_prepareSearch_58 : decode cX6_prepareSearch 58 = .ok (.iload_n 1, 1) := by decide +kernel
theorem dX6_prepareSearch_59 : decode cX6_prepareSearch 59 = .ok (.iload 4, 2) := by decide +kernel
theorem dX6_prepareSearch_61 : decode cX6_prepareSearch 61 = .ok (.iload_n 2, 1) := by decide +kernel
theorem dX6_prepareSearch_62 : decode cX6_prepareSearch 62 = .ok (.iload 4, 2) := by decide +kernel
theorem dX6_prepareSearch_64 : decode cX6_prepareSearch 64 = .ok (.invokestatic 220, 3) := by decide +kernel
theorem dX6_prepareSearch_67 : decode cX6_prepareSearch 67 = .ok (.invokevirtual 352, 3) := by decide +kernel
theorem dX6_prepareSearch_70 : decode cX6_prepareSearch 70 = .ok (.iinc 4 1, 3) := by decide +kernel
theorem dX6_prepareSearch_73 : decode cX6_prepareSearch 73 = .ok (.goto (-56), 3) := by decide +kernel
theorem dX6_prepareSearch_76 : decode cX6_prepareSearch 76 = .ok (.iconst 0, 1) := by decide +kernel
theorem dX6_prepareSearch_77 : decode cX6_prepareSearch 77 = .ok (.istore 4, 2) := by decide +kernel
theorem dX6_prepareSearch_79 : decode cX6_prepareSearch 79 = .ok (.iload 4, 2) := by decide +kernel
theorem dX6_prepareSearch_81 : decode cX6_prepareSearch 81 = .ok (.aload_n 0, 1) := by decide +kernel
theorem dX6_prepareSearch_82 : decode cX6_prepareSearch 82 = .ok (.iload_n 1, 1) := by decide +kernel
theorem dX6_prepareSearch_83 : decode cX6_prepareSearch 83 = .ok (.invokevirtual 200, 3) := by decide +kernel
theorem dX6_prepareSearch_86 : decode cX6_prepareSearch 86 = .ok (.if_icmp .ge 30, 3) := by decide +kernel
theorem dX6_prepareSearch_89 : decode cX6_prepareSearch 89 = .ok (.aload_n 0, 1) := by decide +kernel
theorem dX6_prepareSearch_90 : decode cX6_prepareSearch 90 = .ok (.getfield 44, 3) := by decide +kernel
theorem dX6_prepareSearch_93 : decode cX6_prepareSearch 93 = .ok (.iload 4, 2) := by decide +kernel
theorem dX6_prepareSearch_95 : decode cX6_prepareSearch 95 = .ok (.aload_n 0, 1) := by decide +kernel
theorem dX6_prepareSearch_96 : decode cX6_prepareSearch 96 = .ok (.iload_n 1, 1) := by decide +kernel
theorem dX6_prepareSearch_97 : decode cX6_prepareSearch 97 = .ok (.iload 4, 2) := by decide +kernel
theorem dX6_prepareSearch_99 : decode cX6_prepareSearch 99 = .ok (.iload_n 2, 1) := by decide +kernel
theorem dX6_prepareSearch_100 : decode cX6_prepareSearch 100 = .ok (.iload_n 3, 1) := by decide +kernel
theorem dX6_prepareSearch_101 : decode cX6_prepareSearch 101 = .ok (.iconst (-1), 1) := by decide +kernel
theorem dX6_prepareSearch_102 : decode cX6_prepareSearch 102 = .ok (.ixor, 1) := by decide +kernel
theorem dX6_prepareSearch_103 : decode cX6_prepareSearch 103 = .ok (.iand, 1) := by decide +kernel
theorem dX6_prepareSearch_104 : decode cX6_prepareSearch 104 = .ok (.invokevirtual 211, 3) := by decide +kernel
theorem dX6_prepareSearch_107 : decode cX6_prepareSearch 107 = .ok (.invokevirtual 356, 3) := by decide +kernel
theorem dX6_prepareSearch_110 : decode cX6_prepareSearch 110 = .ok (.iinc 4 1, 3) := by decide +kernel
theorem dX6_prepareSearch_113 : decode cX6_prepareSearch 113 = .ok (.goto (-34), 3) := by decide +kernel
theorem dX6_prepareSearch_116 : decode cX6_prepareSearch 116 = .ok (.return_, 1) := by decide +kernel
theorem dX6_offerWidths_0 : decode cX6_offerWidths 0 = .ok (.aload_n 0, 1) := by decide +kernel
theorem dX6_offerWidths_1 : decode cX6_offerWidths 1 = .ok (.getfield 44, 3) := by decide +kernel
theorem dX6_offerWidths_4 : decode cX6_offerWidths 4 = .ok (.iload_n 2, 1) := by decide +kernel
theorem dX6_offerWidths_5 : decode cX6_offerWidths 5 = .ok (.invokevirtual 359, 3) := by decide +kernel
theorem dX6_offerWidths_8 : decode cX6_offerWidths 8 = .ok (.istore 4, 2) := by decide +kernel
theorem dX6_offerWidths_10 : decode cX6_offerWidths 10 = .ok (.iconst 0, 1) := by decide +kernel
theorem dX6_offerWidths_11 : decode cX6_offerWidths 11 = .ok (.istore 5, 2) := by decide +kernel
theorem dX6_offerWidths_13 : decode cX6_offerWidths 13 = .ok (.iload 5, 2) := by decide +kernel
theorem dX6_offerWidths_15 : decode cX6_offerWidths 15 = .ok (.iconst 4, 1) := by decide +kernel
theorem dX6_offerWidths_16 : decode cX6_offerWidths 16 = .ok (.if_icmp .ge 87, 3) := by decide +kernel
theorem dX6_offerWidths_19 : decode cX6_offerWidths 19 = .ok (.iload 5, 2) := by decide +kernel
theorem dX6_offerWidths_21 : decode cX6_offerWidths 21 = .ok (.invokestatic 239, 3) := by decide +kernel
theorem dX6_offerWidths_24 : decode cX6_offerWidths 24 = .ok (.istore 6, 2) := by decide +kernel
theorem dX6_offerWidths_26 : decode cX6_offerWidths 26 = .ok (.aload_n 0, 1) := by decide +kernel
theorem dX6_offerWidths_27 : decode cX6_offerWidths 27 = .ok (.getfield 44, 3) := by decide +kernel
theorem dX6_offerWidths_30 : decode cX6_offerWidths 30 = .ok (.iload 4, 2) := by decide +kernel
theorem dX6_offerWidths_32 : decode cX6_offerWidths 32 = .ok (.iload 5, 2) := by decide +kernel
theorem dX6_offerWidths_34 : decode cX6_offerWidths 34 = .ok (.aload_n 0, 1) := by decide +kernel
theorem dX6_offerWidths_35 : decode cX6_offerWidths 35 = .ok (.iload_n 1, 1) := by decide +kernel
theorem dX6_offerWidths_36 : decode cX6_offerWidths 36 = .ok (.iload_n 2, 1) := by decide +kernel
theorem dX6_offerWidths_37 : decode cX6_offerWidths 37 = .ok (.iload 6, 2) := by decide +kernel
theorem dX6_offerWidths_39 : decode cX6_offerWidths 39 = .ok (.invokevirtual 223, 3) := by decide +kernel
theorem dX6_offerWidths_42 : decode cX6_offerWidths 42 = .ok (.invokevirtual 361, 3) := by decide +kernel
theorem dX6_offerWidths_45 : decode cX6_offerWidths 45 = .ok (.iconst 0, 1) := by decide +kernel
theorem dX6_offerWidths_46 : decode cX6_offerWidths 46 = .ok (.istore 7, 2) := by decide +kernel
theorem dX6_offerWidths_48 : decode cX6_offerWidths 48 = .ok (.iload 7, 2) := by decide +kernel
theorem dX6_offerWidths_50 : decode cX6_offerWidths 50 = .ok (.aload_n 0, 1) := by decide +kernel
theorem dX6_offerWidths_51 : decode cX6_offerWidths 51 = .ok (.iload_n 1, 1) := by decide +kernel
theorem dX6_offerWidths_52 : decode cX6_offerWidths 52 = .ok (.invokevirtual 200, 3) := by decide +kernel
theorem dX6_offerWidths_55 : decode cX6_offerWidths 55 = .ok (.if_icmp .ge 42, 3) := by decide +kernel
theorem dX6_offerWidths_58 : decode cX6_offerWidths 58 = .ok (.aload_n 0, 1) := by decide +kernel
theorem dX6_offerWidths_59 : decode cX6_offerWidths 59 = .ok (.getfield 44, 3) := by decide +kernel
theorem dX6_offerWidths_62 : decode cX6_offerWidths 62 = .ok (.iload 4, 2) := by decide +kernel
theorem dX6_offerWidths_64 : decode cX6_offerWidths 64 = .ok (.iload 5, 2) := by decide +kernel
theorem dX6_offerWidths_66 : decode cX6_offerWidths 66 = .ok (.iload 7, 2) := by decide +kernel
theorem dX6_offerWidths_68 : decode cX6_offerWidths 68 = .ok (.iload_n 3, 1) := by decide +kernel
theorem dX6_offerWidths_69 : decode cX6_offerWidths 69 = .ok (.ifCond .eq 16, 3) := by decide +kernel
theorem dX6_offerWidths_72 : decode cX6_offerWidths 72 = .ok (.aload_n 0, 1) := by decide +kernel
theorem dX6_offerWidths_73 : decode cX6_offerWidths 73 = .ok (.iload_n 1, 1) := by decide +kernel
theorem dX6_offerWidths_74 : decode cX6_offerWidths 74 = .ok (.iload_n 2, 1) := by decide +kernel
theorem dX6_offerWidths_75 : decode cX6_offerWidths 75 = .ok (.iload 7, 2) := by decide +kernel
theorem dX6_offerWidths_77 : decode cX6_offerWidths 77 = .ok (.iload 6, 2) := by decide +kernel
theorem dX6_offerWidths_79 : decode cX6_offerWidths 79 = .ok (.invokevirtual 364, 3) := by decide +kernel
theorem dX6_offerWidths_82 : decode cX6_offerWidths 82 = .ok (.goto 6, 3) := by decide +kernel
theorem dX6_offerWidths_85 : decode cX6_offerWidths 85 = .ok (.sipush 4095, 3) := by decide +kernel
theorem dX6_offerWidths_88 : decode cX6_offerWidths 88 = .ok (.invokevirtual 367, 3) := by decide +kernel
theorem dX6_offerWidths_91 : decode cX6_offerWidths 91 = .ok (.iinc 7 1, 3) := by decide +kernel
theorem dX6_offerWidths_94 : decode cX6_offerWidths 94 = .ok (.goto (-46), 3) := by decide +kernel
theorem dX6_offerWidths_97 : decode cX6_offerWidths 97 = .ok (.iinc 5 1, 3) := by decide +kernel
theorem dX6_offerWidths_100 : decode cX6_offerWidths 100 = .ok (.goto (-87), 3) := by decide +kernel
theorem dX6_offerWidths_103 : decode cX6_offerWidths 103 = .ok (.return_, 1) := by decide +kernel
theorem dX6_sameBy_0 : decode cX6_sameBy 0 = .ok (.aload_n 0, 1) := by decide +kernel
theorem dX6_sameBy_1 : decode cX6_sameBy 1 = .ok (.getfield 30, 3) := by decide +kernel
theorem dX6_sameBy_4 : decode cX6_sameBy 4 = .ok (.iload_n 1, 1) := by decide +kernel
theorem dX6_sameBy_5 : decode cX6_sameBy 5 = .ok (.iload_n 3, 1) := by decide +kernel
theorem dX6_sameBy_6 : decode cX6_sameBy 6 = .ok (.iload_n 2, 1) := by decide +kernel
theorem dX6_sameBy_7 : decode cX6_sameBy 7 = .ok (.invokevirtual 180, 3) := by decide +kernel
theorem dX6_sameBy_10 : decode cX6_sameBy 10 = .ok (.iload 4, 2) := by decide +kernel
theorem dX6_sameBy_12 : decode cX6_sameBy 12 = .ok (.invokestatic 370, 3) := by decide +kernel
theorem dX6_sameBy_15 : decode cX6_sameBy 15 = .ok (.istore 5, 2) := by decide +kernel
theorem dX6_sameBy_17 : decode cX6_sameBy 17 = .ok (.iconst 0, 1) := by decide +kernel
theorem dX6_sameBy_18 : decode cX6_sameBy 18 = .ok (.istore 6, 2) := by decide +kernel
theorem dX6_sameBy_20 : decode cX6_sameBy 20 = .ok (.iconst 0, 1) := by decide +kernel
theorem dX6_sameBy_21 : decode cX6_sameBy 21 = .ok (.istore 7, 2) := by decide +kernel
theorem dX6_sameBy_23 : decode cX6_sameBy 23 = .ok (.iload 7, 2) := by decide +kernel
theorem dX6_sameBy_25 : decode cX6_sameBy 25 = .ok (.aload_n 0, 1) := by decide +kernel
theorem dX6_sameBy_26 : decode cX6_sameBy 26 = .ok (.iload_n 1, 1) := by decide +kernel
theorem dX6_sameBy_27 : decode cX6_sameBy 27 = .ok (.invokevirtual 200, 3) := by decide +kernel
theorem dX6_sameBy_30 : decode cX6_sameBy 30 = .ok (.if_icmp .ge 39, 3) := by decide +kernel
theorem dX6_sameBy_33 : decode cX6_sameBy 33 = .ok (.aload_n 0, 1) := by decide +kernel
theorem dX6_sameBy_34 : decode cX6_sameBy 34 = .ok (.getfield 30, 3) := by decide +kernel
theorem dX6_sameBy_37 : decode cX6_sameBy 37 = .ok (.iload_n 1, 1) := by decide +kernel
theorem dX6_sameBy_38 : decode cX6_sameBy 38 = .ok (.iload 7, 2) := by decide +kernel
theorem dX6_sameBy_40 : decode cX6_sameBy 40 = .ok (.iload_n 2, 1) := by decide +kernel
theorem dX6_sameBy_41 : decode cX6_sameBy 41 = .ok (.invokevirtual 180, 3) := by decide +kernel
theorem dX6_sameBy_44 : decode cX6_sameBy 44 = .ok (.iload 4, 2) := by decide +kernel
theorem dX6_sameBy_46 : decode cX6_sameBy 46 = .ok (.invokestatic 370, 3) := by decide +kernel
theorem dX6_sameBy_49 : decode cX6_sameBy 49 = .ok (.iload 5, 2) := by decide +kernel
theorem dX6_sameBy_51 : decode cX6_sameBy 51 = .ok (.if_icmp .ne 12, 3) := by decide +kernel
theorem dX6_sameBy_54 : decode cX6_sameBy 54 = .ok (.iload 6, 2) := by decide +kernel
theorem dX6_sameBy_56 : decode cX6_sameBy 56 = .ok (.iconst 1, 1) := by decide +kernel
theorem dX6_sameBy_57 : decode cX6_sameBy 57 = .ok (.iload 7, 2) := by decide +kernel
theorem dX6_sameBy_59 : decode cX6_sameBy 59 = .ok (.ishl, 1) := by decide +kernel
theorem dX6_sameBy_60 : decode cX6_sameBy 60 = .ok (.ior, 1) := by decide +kernel
theorem dX6_sameBy_61 : decode cX6_sameBy 61 = .ok (.istore 6, 2) := by decide +kernel
theorem dX6_sameBy_63 : decode cX6_sameBy 63 = .ok (.iinc 7 1, 3) := by decide +kernel
theorem dX6_sameBy_66 : decode cX6_sameBy 66 = .ok (.goto (-43), 3) := by decide +kernel
theorem dX6_sameBy_69 : decode cX6_sameBy 69 = .ok (.iload 6, 2) := by decide +kernel
theorem dX6_sameBy_71 : decode cX6_sameBy 71 = .ok (.ireturn, 1) := by decide +kernel
theorem dX6_coarseOrMissing_0 : decode cX6_coarseOrMissing 0 = .ok (.iload_n 0, 1) := by decide +kernel
theorem dX6_coarseOrMissing_1 : decode cX6_coarseOrMissing 1 = .ok (.ldc 179, 2) := by decide +kernel
theorem dX6_coarseOrMissing_3 : decode cX6_coarseOrMissing 3 = .ok (.if_icmp .ne 8, 3) := by decide +kernel
theorem dX6_coarseOrMissing_6 : decode cX6_coarseOrMissing 6 = .ok (.ldc 179, 2) := by decide +kernel
theorem dX6_coarseOrMissing_8 : decode cX6_coarseOrMissing 8 = .ok (.goto 10, 3) := by decide +kernel
theorem dX6_coarseOrMissing_11 : decode cX6_coarseOrMissing 11 = .ok (.iload_n 0, 1) := by decide +kernel
theorem dX6_coarseOrMissing_12 : decode cX6_coarseOrMissing 12 = .ok (.iload_n 0, 1) := by decide +kernel
theorem dX6_coarseOrMissing_13 : decode cX6_coarseOrMissing 13 = .ok (.iload_n 1, 1) := by decide +kernel
theorem dX6_coarseOrMissing_14 : decode cX6_coarseOrMissing 14 = .ok (.invokestatic 276, 3) := by decide +kernel
theorem dX6_coarseOrMissing_17 : decode cX6_coarseOrMissing 17 = .ok (.isub, 1) := by decide +kernel
theorem dX6_coarseOrMissing_18 : decode cX6_coarseOrMissing 18 = .ok (.ireturn, 1) := by decide +kernel
theorem dX7_init_0 : decode cX7_init 0 = .ok (.aload_n 0, 1) := by decide +kernel
theorem dX7_init_1 : decode cX7_init 1 = .ok (.invokespecial 3, 3) := by decide +kernel
theorem dX7_init_4 : decode cX7_init 4 = .ok (.aload_n 0, 1) := by decide +kernel
theorem dX7_init_5 : decode cX7_init 5 = .ok (.iconst 4, 1) := by decide +kernel
theorem dX7_init_6 : decode cX7_init 6 = .ok (.newarray .int, 2) := by decide +kernel
theorem dX7_init_8 : decode cX7_init 8 = .ok (.putfield 9, 3) := by decide +kernel
theorem dX7_init_11 : decode cX7_init 11 = .ok (.aload_n 0, 1) := by decide +kernel
theorem dX7_init_12 : decode cX7_init 12 = .ok (.iconst 4, 1) := by decide +kernel
theorem dX7_init_13 : decode cX7_init 13 = .ok (.newarray .int, 2) := by decide +kernel
theorem dX7_init_15 : decode cX7_init 15 = .ok (.putfield 15, 3) := by decide +kernel
theorem dX7_init_18 : decode cX7_init 18 = .ok (.aload_n 0, 1) := by decide +kernel
theorem dX7_init_19 : decode cX7_init 19 = .ok (.iconst 4, 1) := by decide +kernel
theorem dX7_init_20 : decode cX7_init 20 = .ok (.newarray .int, 2) := by decide +kernel
theorem dX7_init_22 : decode cX7_init 22 = .ok (.putfield 18, 3) := by decide +kernel
theorem dX7_init_25 : decode cX7_init 25 = .ok (.aload_n 0, 1) := by decide +kernel
theorem dX7_init_26 : decode cX7_init 26 = .ok (.bipush 24, 2) := by decide +kernel
theorem dX7_init_28 : decode cX7_init 28 = .ok (.newarray .int, 2) := by decide +kernel
theorem dX7_init_30 : decode cX7_init 30 = .ok (.putfield 21, 3) := by decide +kernel
theorem dX7_init_33 : decode cX7_init 33 = .ok (.aload_n 0, 1) := by decide +kernel
theorem dX7_init_34 : decode cX7_init 34 = .ok (.bipush 24, 2) := by decide +kernel
theorem dX7_init_36 : decode cX7_init 36 = .ok (.newarray .int, 2) := by decide +kernel
theorem dX7_init_38 : decode cX7_init 38 = .ok (.putfield 24, 3) := by decide +kernel
theorem dX7_init_41 : decode cX7_init 41 = .ok (.aload_n 0, 1) := by decide +kernel
theorem dX7_init_42 : decode cX7_init 42 = .ok (.bipush 24, 2) := by decide +kernel
theorem dX7_init_44 : decode cX7_init 44 = .ok (.newarray .int, 2) := by decide +kernel
theorem dX7_init_46 : decode cX7_init 46 = .ok (.putfield 27, 3) := by decide +kernel
theorem dX7_init_49 : decode cX7_init 49 = .ok (.aload_n 0, 1) := by decide +kernel
theorem dX7_init_50 : decode cX7_init 50 = .ok (.bipush 24, 2) := by decide +kernel
theorem dX7_init_52 : decode cX7_init 52 = .ok (.newarray .int, 2) := by decide +kernel
theorem dX7_init_54 : decode cX7_init 54 = .ok (.putfield 30, 3) := by decide +kernel
theorem dX7_init_57 : decode cX7_init 57 = .ok (.aload_n 0, 1) := by decide +kernel
theorem dX7_init_58 : decode cX7_init 58 = .ok (.bipush 24, 2) := by decide +kernel
theorem dX7_init_60 : decode cX7_init 60 = .ok (.newarray .int, 2) := by decide +kernel
theorem dX7_init_62 : decode cX7_init 62 = .ok (.putfield 33, 3) := by decide +kernel
theorem dX7_init_65 : decode cX7_init 65 = .ok (.aload_n 0, 1) := by decide +kernel
theorem dX7_init_66 : decode cX7_init 66 = .ok (.bipush 24, 2) := by decide +kernel
theorem dX7_init_68 : decode cX7_init 68 = .ok (.newarray .int, 2) := by decide +kernel
theorem dX7_init_70 : decode cX7_init 70 = .ok (.putfield 36, 3) := by decide +kernel
theorem dX7_init_73 : decode cX7_init 73 = .ok (.aload_n 0, 1) := by decide +kernel
theorem dX7_init_74 : decode cX7_init 74 = .ok (.bipush 20, 2) := by decide +kernel
theorem dX7_init_76 : decode cX7_init 76 = .ok (.newarray .int, 2) := by decide +kernel
theorem dX7_init_78 : decode cX7_init 78 = .ok (.putfield 39, 3) := by decide +kernel
theorem dX7_init_81 : decode cX7_init 81 = .ok (.aload_n 0, 1) := by decide +kernel
theorem dX7_init_82 : decode cX7_init 82 = .ok (.bipush 20, 2) := by decide +kernel
theorem dX7_init_84 : decode cX7_init 84 = .ok (.newarray .int, 2) := by decide +kernel
theorem dX7_init_86 : decode cX7_init 86 = .ok (.putfield 42, 3) := by decide +kernel
theorem dX7_init_89 : decode cX7_init 89 = .ok (.aload_n 0, 1) := by decide +kernel
theorem dX7_init_90 : decode cX7_init 90 = .ok (.sipush 288, 3) := by decide +kernel
theorem dX7_init_93 : decode cX7_init 93 = .ok (.newarray .int, 2) := by decide +kernel
theorem dX7_init_95 : decode cX7_init 95 = .ok (.putfield 45, 3) := by decide +kernel
theorem dX7_init_98 : decode cX7_init 98 = .ok (.aload_n 0, 1) := by decide +kernel
theorem dX7_init_99 : decode cX7_init 99 = .ok (.sipush 288, 3) := by decide +kernel
theorem dX7_init_102 : decode cX7_init 102 = .ok (.newarray .int, 2) := by decide +kernel
theorem dX7_init_104 : decode cX7_init 104 = .ok (.putfield 48, 3) := by decide +kernel
theorem dX7_init_107 : decode cX7_init 107 = .ok (.aload_n 0, 1) := by decide +kernel
theorem dX7_init_108 : decode cX7_init 108 = .ok (.sipush 288, 3) := by decide +kernel
theorem dX7_init_111 : decode cX7_init 111 = .ok (.newarray .int, 2) := by decide +kernel
theorem dX7_init_113 : decode cX7_init 113 = .ok (.putfield 51, 3) := by decide +kernel
theorem dX7_init_116 : decode cX7_init 116 = .ok (.aload_n 0, 1) := by decide +kernel
theorem dX7_init_117 : decode cX7_init 117 = .ok (.bipush 6, 2) := by decide +kernel
theorem dX7_init_119 : decode cX7_init 119 = .ok (.newarray .int, 2) := by decide +kernel
theorem dX7_init_121 : decode cX7_init 121 = .ok (.putfield 54, 3) := by decide +kernel
theorem dX7_init_124 : decode cX7_init 124 = .ok (.aload_n 0, 1) := by decide +kernel
theorem dX7_init_125 : decode cX7_init 125 = .ok (.bipush 8, 2) := by decide +kernel
theorem dX7_init_127 : decode cX7_init 127 = .ok (.newarray .int, 2) := by decide +kernel
theorem dX7_init_129 : decode cX7_init 129 = .ok (.putfield 57, 3) := by decide +kernel
theorem dX7_init_132 : decode cX7_init 132 = .ok (.aload_n 0, 1) := by decide +kernel
theorem dX7_init_133 : decode cX7_init 133 = .ok (.bipush 8, 2) := by decide +kernel
theorem dX7_init_135 : decode cX7_init 135 = .ok (.newarray .int, 2) := by decide +kernel
theorem dX7_init_137 : decode cX7_init 137 = .ok (.putfield 60, 3) := by decide +kernel
theorem dX7_init_140 : decode cX7_init 140 = .ok (.aload_n 0, 1) := by decide +kernel
theorem dX7_init_141 : decode cX7_init 141 = .ok (.bipush 8, 2) := by decide +kernel
theorem dX7_init_143 : decode cX7_init 143 = .ok (.newarray .int, 2) := by decide +kernel
theorem dX7_init_145 : decode cX7_init 145 = .ok (.putfield 63, 3) := by decide +kernel
theorem dX7_init_148 : decode cX7_init 148 = .ok (.aload_n 0, 1) := by decide +kernel
theorem dX7_init_149 : decode cX7_init 149 = .ok (.bipush 8, 2) := by decide +kernel
theorem dX7_init_151 : decode cX7_init 151 = .ok (.newarray .int, 2) := by decide +kernel
theorem dX7_init_153 : decode cX7_init 153 = .ok (.putfield 66, 3) := by decide +kernel
theorem dX7_init_156 : decode cX7_init 156 = .ok (.aload_n 0, 1) := by decide +kernel
theorem dX7_init_157 : decode cX7_init 157 = .ok (.bipush 8, 2) := by decide +kernel
theorem dX7_init_159 : decode cX7_init 159 = .ok (.newarray .int, 2) := by decide +kernel
theorem dX7_init_161 : decode cX7_init 161 = .ok (.putfield 69, 3) := by decide +kernel
theorem dX7_init_164 : decode cX7_init 164 = .ok (.aload_n 0, 1) := by decide +kernel
theorem dX7_init_165 : decode cX7_init 165 = .ok (.bipush 8, 2) := by decide +kernel
theorem dX7_init_167 : decode cX7_init 167 = .ok (.newarray .int, 2) := by decide +kernel
theorem dX7_init_169 : decode cX7_init 169 = .ok (.putfield 72, 3) := by decide +kernel
theorem dX7_init_172 : decode cX7_init 172 = .ok (.aload_n 0, 1) := by decide +kernel
theorem dX7_init_173 : decode cX7_init 173 = .ok (.bipush 8, 2) := by decide +kernel
theorem dX7_init_175 : decode cX7_init 175 = .ok (.newarray .boolean, 2) := by decide +kernel
theorem dX7_init_177 : decode cX7_init 177 = .ok (.putfield 75, 3) := by decide +kernel
theorem dX7_init_180 : decode cX7_init 180 = .ok (.aload_n 0, 1) := by decide +kernel
theorem dX7_init_181 : decode cX7_init 181 = .ok (.sipush 288, 3) := by decide +kernel
theorem dX7_init_184 : decode cX7_init 184 = .ok (.newarray .int, 2) := by decide +kernel
theorem dX7_init_186 : decode cX7_init 186 = .ok (.putfield 79, 3) := by decide +kernel
theorem dX7_init_189 : decode cX7_init 189 = .ok (.aload_n 0, 1) := by decide +kernel
theorem dX7_init_190 : decode cX7_init 190 = .ok (.bipush 6, 2) := by decide +kernel
theorem dX7_init_192 : decode cX7_init 192 = .ok (.newarray .int, 2) := by decide +kernel
theorem dX7_init_194 : decode cX7_init 194 = .ok (.putfield 82, 3) := by decide +kernel
theorem dX7_init_197 : decode cX7_init 197 = .ok (.aload_n 0, 1) := by decide +kernel
theorem dX7_init_198 : decode cX7_init 198 = .ok (.bipush 6, 2) := by decide +kernel
theorem dX7_init_200 : decode cX7_init 200 = .ok (.newarray .int, 2) := by decide +kernel
theorem dX7_init_202 : decode cX7_init 202 = .ok (.putfield 85, 3) := by decide +kernel
theorem dX7_init_205 : decode cX7_init 205 = .ok (.return_, 1) := by decide +kernel
theorem dX7_in_0 : decode cX7_in 0 = .ok (.iload_n 0, 1) := by decide +kernel
theorem dX7_in_1 : decode cX7_in 1 = .ok (.iload_n 1, 1) := by decide +kernel
theorem dX7_in_2 : decode cX7_in 2 = .ok (.if_icmp .lt 12, 3) := by decide +kernel
theorem dX7_in_5 : decode cX7_in 5 = .ok (.iload_n 0, 1) := by decide +kernel
theorem dX7_in_6 : decode cX7_in 6 = .ok (.iload_n 2, 1) := by decide +kernel
theorem dX7_in_7 : decode cX7_in 7 = .ok (.if_icmp .gt 7, 3) := by decide +kernel
theorem dX7_in_10 : decode cX7_in 10 = .ok (.iconst 1, 1) := by decide +kernel
theorem dX7_in_11 : decode cX7_in 11 = .ok (.goto 4, 3) := by decide +kernel
theorem dX7_in_14 : decode cX7_in 14 = .ok (.iconst 0, 1) := by decide +kernel
theorem dX7_in_15 : decode cX7_in 15 = .ok (.ireturn, 1) := by decide +kernel
theorem dX7_isTable_0 : decode cX7_isTable 0 = .ok (.iload_n 1, 1) := by decide +kernel
theorem dX7_isTable_1 : decode cX7_isTable 1 = .ok (.iconst 0, 1) := by decide +kernel
theorem dX7_isTable_2 : decode cX7_isTable 2 = .ok (.aload_n 0, 1) := by decide +kernel
theorem dX7_isTable_3 : decode cX7_isTable 3 = .ok (.getfield 92, 3) := by decide +kernel
theorem dX7_isTable_6 : decode cX7_isTable 6 = .ok (.iconst 1, 1) := by decide +kernel
theorem dX7_isTable_7 : decode cX7_isTable 7 = .ok (.isub, 1) := by decide +kernel
theorem dX7_isTable_8 : decode cX7_isTable 8 = .ok (.invokestatic 95, 3) := by decide +kernel
theorem dX7_isTable_11 : decode cX7_isTable 11 = .ok (.ireturn, 1) := by decide +kernel
theorem dX7_isColumn_0 : decode cX7_isColumn 0 = .ok (.aload_n 0, 1) := by decide +kernel
theorem dX7_isColumn_1 : decode cX7_isColumn 1 = .ok (.iload_n 1, 1) := by decide +kernel
theorem dX7_isColumn_2 : decode cX7_isColumn 2 = .ok (.invokevirtual 99, 3) := by decide +kernel
theorem dX7_isColumn_5 : decode cX7_isColumn 5 = .ok (.ifCond .eq 23, 3) := by decide +kernel
theorem dX7_isColumn_8 : decode cX7_isColumn 8 = .ok (.iload_n 2, 1) := by decide +kernel
theorem dX7_isColumn_9 : decode cX7_isColumn 9 = .ok (.iconst 0, 1) := by decide +kernel
theorem dX7_isColumn_10 : decode cX7_isColumn 10 = .ok (.aload_n 0, 1) := by decide +kernel
theorem dX7_isColumn_11 : decode cX7_isColumn 11 = .ok (.getfield 9, 3) := by decide +kernel
theorem dX7_isColumn_14 : decode cX7_isColumn 14 = .ok (.iload_n 1, 1) := by decide +kernel
theorem dX7_isColumn_15 : decode cX7_isColumn 15 = .ok (.iaload, 1) := by decide +kernel
theorem dX7_isColumn_16 : decode cX7_isColumn 16 = .ok (.iconst 1, 1) := by decide +kernel
theorem dX7_isColumn_17 : decode cX7_isColumn 17 = .ok (.isub, 1) := by decide +kernel
theorem dX7_isColumn_18 : decode cX7_isColumn 18 = .ok (.invokestatic 95, 3) := by decide +kernel
theorem dX7_isColumn_21 : decode cX7_isColumn 21 = .ok (.ifCond .eq 7, 3) := by decide +kernel
theorem dX7_isColumn_24 : decode cX7_isColumn 24 = .ok (.iconst 1, 1) := by decide +kernel
theorem dX7_isColumn_25 : decode cX7_isColumn 25 = .ok (.goto 4, 3) := by decide +kernel
theorem dX7_isColumn_28 : decode cX7_isColumn 28 = .ok (.iconst 0, 1) := by decide +kernel
theorem dX7_isColumn_29 : decode cX7_isColumn 29 = .ok (.ireturn, 1) := by decide +kernel
theorem dX7_isRow_0 : decode cX7_isRow 0 = .ok (.aload_n 0, 1) := by decide +kernel
theorem dX7_isRow_1 : decode cX7_isRow 1 = .ok (.iload_n 1, 1) := by decide +kernel
theorem dX7_isRow_2 : decode cX7_isRow 2 = .ok (.invokevirtual 99, 3) := by decide +kernel
theorem dX7_isRow_5 : decode cX7_isRow 5 = .ok (.ifCond .eq 23, 3) := by decide +kernel
theorem dX7_isRow_8 : decode cX7_isRow 8 = .ok (.iload_n 2, 1) := by decide +kernel
theorem dX7_isRow_9 : decode cX7_isRow 9 = .ok (.iconst 0, 1) := by decide +kernel
theorem dX7_isRow_10 : decode cX7_isRow 10 = .ok (.aload_n 0, 1) := by decide +kernel
theorem dX7_isRow_11 : decode cX7_isRow 11 = .ok (.getfield 15, 3) := by decide +kernel
theorem dX7_isRow_14 : decode cX7_isRow 14 = .ok (.iload_n 1, 1) := by decide +kernel
theorem dX7_isRow_15 : decode cX7_isRow 15 = .ok (.iaload, 1) := by decide +kernel
theorem dX7_isRow_16 : decode cX7_isRow 16 = .ok (.iconst 1, 1) := by decide +kernel
theorem dX7_isRow_17 : decode cX7_isRow 17 = .ok (.isub, 1) := by decide +kernel
theorem dX7_isRow_18 : decode cX7_isRow 18 = .ok (.invokestatic 95, 3) := by decide +kernel
theorem dX7_isRow_21 : decode cX7_isRow 21 = .ok (.ifCond .eq 7, 3) := by decide +kernel
theorem dX7_isRow_24 : decode cX7_isRow 24 = .ok (.iconst 1, 1) := by decide +kernel
theorem dX7_isRow_25 : decode cX7_isRow 25 = .ok (.goto 4, 3) := by decide +kernel
theorem dX7_isRow_28 : decode cX7_isRow 28 = .ok (.iconst 0, 1) := by decide +kernel
theorem dX7_isRow_29 : decode cX7_isRow 29 = .ok (.ireturn, 1) := by decide +kernel
theorem dX7_cell_0 : decode cX7_cell 0 = .ok (.bipush 72, 2) := by decide +kernel
theorem dX7_cell_2 : decode cX7_cell 2 = .ok (.iload_n 0, 1) := by decide +kernel
theorem dX7_cell_3 : decode cX7_cell 3 = .ok (.imul, 1) := by decide +kernel
theorem dX7_cell_4 : decode cX7_cell 4 = .ok (.bipush 6, 2) := by decide +kernel
theorem dX7_cell_6 : decode cX7_cell 6 = .ok (.iload_n 1, 1) := by decide +kernel
theorem dX7_cell_7 : decode cX7_cell 7 = .ok (.imul, 1) := by decide +kernel
theorem dX7_cell_8 : decode cX7_cell 8 = .ok (.iadd, 1) := by decide +kernel
theorem dX7_cell_9 : decode cX7_cell 9 = .ok (.iload_n 2, 1) := by decide +kernel
theorem dX7_cell_10 : decode cX7_cell 10 = .ok (.iadd, 1) := by decide +kernel
theorem dX7_cell_11 : decode cX7_cell 11 = .ok (.ireturn, 1) := by decide +kernel
theorem dX7_figure_0 : decode cX7_figure 0 = .ok (.iload_n 0, 1) := by decide +kernel
theorem dX7_figure_1 : decode cX7_figure 1 = .ok (.sipush 10000, 3) := by decide +kernel
theorem dX7_figure_4 : decode cX7_figure 4 = .ok (.idiv, 1) := by decide +kernel
theorem dX7_figure_5 : decode cX7_figure 5 = .ok (.iconst 2, 1) := by decide +kernel
theorem dX7_figure_6 : decode cX7_figure 6 = .ok (.iload_n 0, 1) := by decide +kernel
theorem dX7_figure_7 : decode cX7_figure 7 = .ok (.sipush 1000, 3) := by decide +kernel
theorem dX7_figure_10 : decode cX7_figure 10 = .ok (.idiv, 1) := by decide +kernel
theorem dX7_figure_11 : decode cX7_figure 11 = .ok (.bipush 10, 2) := by decide +kernel
theorem dX7_figure_13 : decode cX7_figure 13 = .ok (.irem, 1) := by decide +kernel
theorem dX7_figure_14 : decode cX7_figure 14 = .ok (.imul, 1) := by decide +kernel
theorem dX7_figure_15 : decode cX7_figure 15 = .ok (.iadd, 1) := by decide +kernel
theorem dX7_figure_16 : decode cX7_figure 16 = .ok (.iconst 3, 1) := by decide +kernel
theorem dX7_figure_17 : decode cX7_figure 17 = .ok (.iload_n 0, 1) := by decide +kernel
theorem dX7_figure_18 : decode cX7_figure 18 = .ok (.bipush 100, 2) := by decide +kernel
theorem dX7_figure_20 : decode cX7_figure 20 = .ok (.idiv, 1) := by decide +kernel
theorem dX7_figure_21 : decode cX7_figure 21 = .ok (.bipush 10, 2) := by decide +kernel
theorem dX7_figure_23 : decode cX7_figure 23 = .ok (.irem, 1) := by decide +kernel
theorem dX7_figure_24 : decode cX7_figure 24 = .ok (.imul, 1) := by decide +kernel
theorem dX7_figure_25 : decode cX7_figure 25 = .ok (.iadd, 1) := by decide +kernel
theorem dX7_figure_26 : decode cX7_figure 26 = .ok (.iconst 4, 1) := by decide +kernel
theorem dX7_figure_27 : decode cX7_figure 27 = .ok (.iload_n 0, 1) := by decide +kernel
theorem dX7_figure_28 : decode cX7_figure 28 = .ok (.bipush 10, 2) := by decide +kernel
theorem dX7_figure_30 : decode cX7_figure 30 = .ok (.idiv, 1) := by decide +kernel
theorem dX7_figure_31 : decode cX7_figure 31 = .ok (.bipush 10, 2) := by decide +kernel
theorem dX7_figure_33 : decode cX7_figure 33 = .ok (.irem, 1) := by decide +kernel
theorem dX7_figure_34 : decode cX7_figure 34 = .ok (.imul, 1) := by decide +kernel
theorem dX7_figure_35 : decode cX7_figure 35 = .ok (.iadd, 1) := by decide +kernel
theorem dX7_figure_36 : decode cX7_figure 36 = .ok (.bipush 10, 2) := by decide +kernel
theorem dX7_figure_38 : decode cX7_figure 38 = .ok (.irem, 1) := by decide +kernel
theorem dX7_figure_39 : decode cX7_figure 39 = .ok (.ireturn, 1) := by decide +kernel
theorem dX7_isKey_0 : decode cX7_isKey 0 = .ok (.iload_n 0, 1) := by decide +kernel
theorem dX7_isKey_1 : decode cX7_isKey 1 = .ok (.iconst 0, 1) := by decide +kernel
theorem dX7_isKey_2 : decode cX7_isKey 2 = .ok (.ldc 103, 2) := by decide +kernel
theorem dX7_isKey_4 : decode cX7_isKey 4 = .ok (.invokestatic 95, 3) := by decide +kernel
theorem dX7_isKey_7 : decode cX7_isKey 7 = .ok (.ifCond .eq 18, 3) := by decide +kernel
theorem dX7_isKey_10 : decode cX7_isKey 10 = .ok (.iload_n 0, 1) := by decide +kernel
theorem dX7_isKey_11 : decode cX7_isKey 11 = .ok (.bipush 10, 2) := by decide +kernel
theorem dX7_isKey_13 : decode cX7_isKey 13 = .ok (.irem, 1) := by decide +kernel
theorem dX7_isKey_14 : decode cX7_isKey 14 = .ok (.iload_n 0, 1) := by decide +kernel
theorem dX7_isKey_15 : decode cX7_isKey 15 = .ok (.invokestatic 104, 3) := by decide +kernel
theorem dX7_isKey_18 : decode cX7_isKey 18 = .ok (.if_icmp .ne 7, 3) := by decide +kernel
theorem dX7_isKey_21 : decode cX7_isKey 21 = .ok (.iconst 1, 1) := by decide +kernel
theorem dX7_isKey_22 : decode cX7_isKey 22 = .ok (.goto 4, 3) := by decide +kernel
theorem dX7_isKey_25 : decode cX7_isKey 25 = .ok (.iconst 0, 1) := by decide +kernel
theorem dX7_isKey_26 : decode cX7_isKey 26 = .ok (.ireturn, 1) := by decide +kernel
theorem dX7_table_0 : decode cX7_table 0 = .ok (.aload_n 0, 1) := by decide +kernel
theorem dX7_table_1 : decode cX7_table 1 = .ok (.getfield 92, 3) := by decide +kernel
theorem dX7_table_4 : decode cX7_table 4 = .ok (.iconst 4, 1) := by decide +kernel
theorem dX7_table_5 : decode cX7_table 5 = .ok (.if_icmp .ne 6, 3) := by decide +kernel
theorem dX7_table_8 : decode cX7_table 8 = .ok (.bipush (-4), 2) := by decide +kernel
theorem dX7_table_10 : decode cX7_table 10 = .ok (.ireturn, 1) := by decide +kernel
theorem dX7_table_11 : decode cX7_table 11 = .ok (.aload_n 0, 1) := by decide +kernel
theorem dX7_table_12 : decode cX7_table 12 = .ok (.getfield 9, 3) := by decide +kernel
theorem dX7_table_15 : decode cX7_table 15 = .ok (.aload_n 0, 1) := by decide +kernel
theorem dX7_table_16 : decode cX7_table 16 = .ok (.getfield 92, 3) := by decide +kernel
theorem dX7_table_19 : decode cX7_table 19 = .ok (.iconst 1, 1) := by decide +kernel
theorem dX7_table_20 : decode cX7_table 20 = .ok (.iastore, 1) := by decide +kernel
theorem dX7_table_21 : decode cX7_table 21 = .ok (.aload_n 0, 1) := by decide +kernel
theorem dX7_table_22 : decode cX7_table 22 = .ok (.getfield 15, 3) := by decide +kernel
theorem dX7_table_25 : decode cX7_table 25 = .ok (.aload_n 0, 1) := by decide +kernel
theorem dX7_table_26 : decode cX7_table 26 = .ok (.getfield 92, 3) := by decide +kernel
theorem dX7_table_29 : decode cX7_table 29 = .ok (.iconst 0, 1) := by decide +kernel
theorem dX7_table_30 : decode cX7_table 30 = .ok (.iastore, 1) := by decide +kernel
theorem dX7_table_31 : decode cX7_table 31 = .ok (.aload_n 0, 1) := by decide +kernel
theorem dX7_table_32 : decode cX7_table 32 = .ok (.getfield 18, 3) := by decide +kernel
theorem dX7_table_35 : decode cX7_table 35 = .ok (.aload_n 0, 1) := by decide +kernel
theorem dX7_table_36 : decode cX7_table 36 = .ok (.getfield 92, 3) := by decide +kernel
theorem dX7_table_39 : decode cX7_table 39 = .ok (.iconst 0, 1) := by decide +kernel
theorem dX7_table_40 : decode cX7_table 40 = .ok (.iastore, 1) := by decide +kernel
theorem dX7_table_41 : decode cX7_table 41 = .ok (.aload_n 0, 1) := by decide +kernel
theorem dX7_table_42 : decode cX7_table 42 = .ok (.bipush 6, 2) := by decide +kernel
theorem dX7_table_44 : decode cX7_table 44 = .ok (.aload_n 0, 1) := by decide +kernel
theorem dX7_table_45 : decode cX7_table 45 = .ok (.getfield 92, 3) := by decide +kernel
theorem dX7_table_48 : decode cX7_table 48 = .ok (.imul, 1) := by decide +kernel
theorem dX7_table_49 : decode cX7_table 49 = .ok (.iconst 0, 1) := by decide +kernel
theorem dX7_table_50 : decode cX7_table 50 = .ok (.iconst 0, 1) := by decide +kernel
theorem dX7_table_51 : decode cX7_table 51 = .ok (.invokevirtual 108, 3) := by decide +kernel
theorem dX7_table_54 : decode cX7_table 54 = .ok (.iconst 0, 1) := by decide +kernel
theorem dX7_table_55 : decode cX7_table 55 = .ok (.istore_n 1, 1) := by decide +kernel
theorem dX7_table_56 : decode cX7_table 56 = .ok (.iload_n 1, 1) := by decide +kernel
theorem dX7_table_57 : decode cX7_table 57 = .ok (.iconst 5, 1) := by decide +kernel
theorem dX7_table_58 : decode cX7_table 58 = .ok (.if_icmp .ge 37, 3) := by decide +kernel
theorem dX7_table_61 : decode cX7_table 61 = .ok (.aload_n 0, 1) := by decide +kernel
theorem dX7_table_62 : decode cX7_table 62 = .ok (.getfield 39, 3) := by decide +kernel
theorem dX7_table_65 : decode cX7_table 65 = .ok (.iconst 5, 1) := by decide +kernel
theorem dX7_table_66 : decode cX7_table 66 = .ok (.aload_n 0, 1) := by decide +kernel
theorem dX7_table_67 : decode cX7_table 67 = .ok (.getfield 92, 3) := by decide +kernel
theorem dX7_table_70 : decode cX7_table 70 = .ok (.imul, 1) := by decide +kernel
theorem dX7_table_71 : decode cX7_table 71 = .ok (.iload_n 1, 1) := by decide +kernel
theorem dX7_table_72 : decode cX7_table 72 = .ok (.iadd, 1) := by decide +kernel
theorem dX7_table_73 : decode cX7_table 73 = .ok (.iconst 1, 1) := by decide +kernel
theorem dX7_table_74 : decode cX7_table 74 = .ok (.iastore, 1) := by decide +kernel
theorem dX7_table_75 : decode cX7_table 75 = .ok (.aload_n 0, 1) := by decide +kernel
theorem dX7_table_76 : decode cX7_table 76 = .ok (.getfield 42, 3) := by decide +kernel
theorem dX7_table_79 : decode cX7_table 79 = .ok (.iconst 5, 1) := by decide +kernel
theorem dX7_table_80 : decode cX7_table 80 = .ok (.aload_n 0, 1) := by decide +kernel
theorem dX7_table_81 : decode cX7_table 81 = .ok (.getfield 92, 3) := by decide +kernel
theorem dX7_table_84 : decode cX7_table 84 = .ok (.imul, 1) := by decide +kernel
theorem dX7_table_85 : decode cX7_table 85 = .ok (.iload_n 1, 1) := by decide +kernel
theorem dX7_table_86 : decode cX7_table 86 = .ok (.iadd, 1) := by decide +kernel
theorem dX7_table_87 : decode cX7_table 87 = .ok (.iconst 0, 1) := by decide +kernel
theorem dX7_table_88 : decode cX7_table 88 = .ok (.iastore, 1) := by decide +kernel
theorem dX7_table_89 : decode cX7_table 89 = .ok (.iinc 1 1, 3) := by decide +kernel
theorem dX7_table_92 : decode cX7_table 92 = .ok (.goto (-36), 3) := by decide +kernel
theorem dX7_table_95 : decode cX7_table 95 = .ok (.aload_n 0, 1) := by decide +kernel
theorem dX7_table_96 : decode cX7_table 96 = .ok (.dup, 1) := by decide +kernel
theorem dX7_table_97 : decode cX7_table 97 = .ok (.getfield 92, 3) := by decide +kernel
theorem dX7_table_100 : decode cX7_table 100 = .ok (.iconst 1, 1) := by decide +kernel
theorem dX7_table_101 : decode cX7_table 101 = .ok (.iadd, 1) := by decide +kernel
theorem dX7_table_102 : decode cX7_table 102 = .ok (.putfield 92, 3) := by decide +kernel
theorem dX7_table_105 : decode cX7_table 105 = .ok (.aload_n 0, 1) := by decide +kernel
theorem dX7_table_106 : decode cX7_table 106 = .ok (.iconst 0, 1) := by decide +kernel
theorem dX7_table_107 : decode cX7_table 107 = .ok (.putfield 112, 3) := by decide +kernel
theorem dX7_table_110 : decode cX7_table 110 = .ok (.aload_n 0, 1) := by decide +kernel
theorem dX7_table_111 : decode cX7_table 111 = .ok (.getfield 92, 3) := by decide +kernel
theorem dX7_table_114 : decode cX7_table 114 = .ok (.iconst 1, 1) := by decide +kernel
theorem dX7_table_115 : decode cX7_table 115 = .ok (.isub, 1) := by decide +kernel
theorem dX7_table_116 : decode cX7_table 116 = .ok (.ireturn, 1) := by decide +kernel
theorem dX7_begin_0 : decode cX7_begin 0 = .ok (.aload_n 0, 1) := by decide +kernel
theorem dX7_begin_1 : decode cX7_begin 1 = .ok (.getfield 21, 3) := by decide +kernel
theorem dX7_begin_4 : decode cX7_begin 4 = .ok (.iload_n 1, 1) := by decide +kernel
theorem dX7_begin_5 : decode cX7_begin 5 = .ok (.iload_n 2, 1) := by decide +kernel
theorem dX7_begin_6 : decode cX7_begin 6 = .ok (.iastore, 1) := by decide +kernel
theorem dX7_begin_7 : decode cX7_begin 7 = .ok (.aload_n 0, 1) := by decide +kernel
theorem dX7_begin_8 : decode cX7_begin 8 = .ok (.getfield 24, 3) := by decide +kernel
theorem dX7_begin_11 : decode cX7_begin 11 = .ok (.iload_n 1, 1) := by decide +kernel
theorem dX7_begin_12 : decode cX7_begin 12 = .ok (.iload_n 3, 1) := by decide +kernel
theorem dX7_begin_13 : decode cX7_begin 13 = .ok (.iastore, 1) := by decide +kernel
theorem dX7_begin_14 : decode cX7_begin 14 = .ok (.aload_n 0, 1) := by decide +kernel
theorem dX7_begin_15 : decode cX7_begin 15 = .ok (.getfield 27, 3) := by decide +kernel
theorem dX7_begin_18 : decode cX7_begin 18 = .ok (.iload_n 1, 1) := by decide +kernel
theorem dX7_begin_19 : decode cX7_begin 19 = .ok (.iconst 0, 1) := by decide +kernel
theorem dX7_begin_20 : decode cX7_begin 20 = .ok (.iastore, 1) := by decide +kernel
theorem dX7_begin_21 : decode cX7_begin 21 = .ok (.aload_n 0, 1) := by decide +kernel
theorem dX7_begin_22 : decode cX7_begin 22 = .ok (.getfield 30, 3) := by decide +kernel
theorem dX7_begin_25 : decode cX7_begin 25 = .ok (.iload_n 1, 1) := by decide +kernel
theorem dX7_begin_26 : decode cX7_begin 26 = .ok (.iconst 0, 1) := by decide +kernel
theorem dX7_begin_27 : decode cX7_begin 27 = .ok (.iastore, 1) := by decide +kernel
theorem dX7_begin_28 : decode cX7_begin 28 = .ok (.aload_n 0, 1) := by decide +kernel
theorem dX7_begin_29 : decode cX7_begin 29 = .ok (.getfield 33, 3) := by decide +kernel
theorem dX7_begin_32 : decode cX7_begin 32 = .ok (.iload_n 1, 1) := by decide +kernel
theorem dX7_begin_33 : decode cX7_begin 33 = .ok (.iconst 1, 1) := by decide +kernel
theorem dX7_begin_34 : decode cX7_begin 34 = .ok (.iastore, 1) := by decide +kernel
theorem dX7_begin_35 : decode cX7_begin 35 = .ok (.aload_n 0, 1) := by decide +kernel
theorem dX7_begin_36 : decode cX7_begin 36 = .ok (.getfield 36, 3) := by decide +kernel
theorem dX7_begin_39 : decode cX7_begin 39 = .ok (.iload_n 1, 1) := by decide +kernel
theorem dX7_begin_40 : decode cX7_begin 40 = .ok (.iconst 0, 1) := by decide +kernel
theorem dX7_begin_41 : decode cX7_begin 41 = .ok (.iastore, 1) := by decide +kernel
theorem dX7_begin_42 : decode cX7_begin 42 = .ok (.return_, 1) := by decide +kernel
theorem dX7_column_0 : decode cX7_column 0 = .ok (.aload_n 0, 1) := by decide +kernel
theorem dX7_column_1 : decode cX7_column 1 = .ok (.iload_n 1, 1) := by decide +kernel
theorem dX7_column_2 : decode cX7_column 2 = .ok (.invokevirtual 99, 3) := by decide +kernel
theorem dX7_column_5 : decode cX7_column 5 = .ok (.ifCond .eq 16, 3) := by decide +kernel
theorem dX7_column_8 : decode cX7_column 8 = .ok (.iload_n 2, 1) := by decide +kernel
theorem dX7_column_9 : decode cX7_column 9 = .ok (.iconst 1, 1) := by decide +kernel
theorem dX7_column_10 : decode cX7_column 10 = .ok (.if_icmp .ne 13, 3) := by decide +kernel
theorem dX7_column_13 : decode cX7_column 13 = .ok (.aload_n 0, 1) := by decide +kernel
theorem dX7_column_14 : decode cX7_column 14 = .ok (.iload_n 3, 1) := by decide +kernel
theorem dX7_column_15 : decode cX7_column 15 = .ok (.invokevirtual 99, 3) := by decide +kernel
theorem dX7_column_18 : decode cX7_column 18 = .ok (.ifCond .ne 5, 3) := by decide +kernel
theorem dX7_column_21 : decode cX7_column 21 = .ok (.iconst (-1), 1) := by decide +kernel
theorem dX7_column_22 : decode cX7_column 22 = .ok (.ireturn, 1) := by decide +kernel
theorem dX7_column_23 : decode cX7_column 23 = .ok (.iload_n 2, 1) := by decide +kernel
theorem dX7_column_24 : decode cX7_column 24 = .ok (.iconst 1, 1) := by decide +kernel
theorem dX7_column_25 : decode cX7_column 25 = .ok (.iconst 4, 1) := by decide +kernel
theorem dX7_column_26 : decode cX7_column 26 = .ok (.invokestatic 95, 3) := by decide +kernel
theorem dX7_column_29 : decode cX7_column 29 = .ok (.ifCond .eq 12, 3) := by decide +kernel
theorem dX7_column_32 : decode cX7_column 32 = .ok (.iload_n 2, 1) := by decide +kernel
theorem dX7_column_33 : decode cX7_column 33 = .ok (.iconst 1, 1) := by decide +kernel
theorem dX7_column_34 : decode cX7_column 34 = .ok (.if_icmp .eq 10, 3) := by decide +kernel
theorem dX7_column_37 : decode cX7_column 37 = .ok (.iload_n 3, 1) := by decide +kernel
theorem dX7_column_38 : decode cX7_column 38 = .ok (.ifCond .eq 6, 3) := by decide +kernel
theorem dX7_column_41 : decode cX7_column 41 = .ok (.bipush (-2), 2) := by decide +kernel
theorem dX7_column_43 : decode cX7_column 43 = .ok (.ireturn, 1) := by decide +kernel
theorem dX7_column_44 : decode cX7_column 44 = .ok (.aload_n 0, 1) := by decide +kernel
theorem dX7_column_45 : decode cX7_column 45 = .ok (.getfield 15, 3) := by decide +kernel
theorem dX7_column_48 : decode cX7_column 48 = .ok (.iload_n 1, 1) := by decide +kernel
theorem dX7_column_49 : decode cX7_column 49 = .ok (.iaload, 1) := by decide +kernel
theorem dX7_column_50 : decode cX7_column 50 = .ok (.ifCond .le 6, 3) := by decide +kernel
theorem dX7_column_53 : decode cX7_column 53 = .ok (.bipush (-3), 2) := by decide +kernel
theorem dX7_column_55 : decode cX7_column 55 = .ok (.ireturn, 1) := by decide +kernel
theorem dX7_column_56 : decode cX7_column 56 = .ok (.aload_n 0, 1) := by decide +kernel
theorem dX7_column_57 : decode cX7_column 57 = .ok (.getfield 9, 3) := by decide +kernel
theorem dX7_column_60 : decode cX7_column 60 = .ok (.iload_n 1, 1) := by decide +kernel
theorem dX7_column_61 : decode cX7_column 61 = .ok (.iaload, 1) := by decide +kernel
theorem dX7_column_62 : decode cX7_column 62 = .ok (.bipush 6, 2) := by decide +kernel
theorem dX7_column_64 : decode cX7_column 64 = .ok (.if_icmp .ne 6, 3) := by decide +kernel
theorem dX7_column_67 : decode cX7_column 67 = .ok (.bipush (-4), 2) := by decide +kernel
theorem dX7_column_69 : decode cX7_column 69 = .ok (.ireturn, 1) := by decide +kernel
theorem dX7_column_70 : decode cX7_column 70 = .ok (.aload_n 0, 1) := by decide +kernel
theorem dX7_column_71 : decode cX7_column 71 = .ok (.bipush 6, 2) := by decide +kernel
theorem dX7_column_73 : decode cX7_column 73 = .ok (.iload_n 1, 1) := by decide +kernel
theorem dX7_column_74 : decode cX7_column 74 = .ok (.imul, 1) := by decide +kernel
theorem dX7_column_75 : decode cX7_column 75 = .ok (.aload_n 0, 1) := by decide +kernel
theorem dX7_column_76 : decode cX7_column 76 = .ok (.getfield 9, 3) := by decide +kernel
theorem dX7_column_79 : decode cX7_column 79 = .ok (.iload_n 1, 1) := by decide +kernel
theorem dX7_column_80 : decode cX7_column 80 = .ok (.iaload, 1) := by decide +kernel
theorem dX7_column_81 : decode cX7_column 81 = .ok (.iadd, 1) := by decide +kernel
theorem dX7_column_82 : decode cX7_column 82 = .ok (.iload_n 2, 1) := by decide +kernel
theorem dX7_column_83 : decode cX7_column 83 = .ok (.iload_n 3, 1) := by decide +kernel
theorem dX7_column_84 : decode cX7_column 84 = .ok (.invokevirtual 108, 3) := by decide +kernel
theorem dX7_column_87 : decode cX7_column 87 = .ok (.aload_n 0, 1) := by decide +kernel
theorem dX7_column_88 : decode cX7_column 88 = .ok (.getfield 9, 3) := by decide +kernel
theorem dX7_column_91 : decode cX7_column 91 = .ok (.iload_n 1, 1) := by decide +kernel
theorem dX7_column_92 : decode cX7_column 92 = .ok (.dup2, 1) := by decide +kernel
theorem dX7_column_93 : decode cX7_column 93 = .ok (.iaload, 1) := by decide +kernel
theorem dX7_column_94 : decode cX7_column 94 = .ok (.iconst 1, 1) := by decide +kernel
theorem dX7_column_95 : decode cX7_column 95 = .ok (.iadd, 1) := by decide +kernel
theorem dX7_column_96 : decode cX7_column 96 = .ok (.iastore, 1) := by decide +kernel
theorem dX7_column_97 : decode cX7_column 97 = .ok (.aload_n 0, 1) := by decide +kernel
theorem dX7_column_98 : decode cX7_column 98 = .ok (.iconst 0, 1) := by decide +kernel
theorem dX7_column_99 : decode cX7_column 99 = .ok (.putfield 112, 3) := by decide +kernel
theorem dX7_column_102 : decode cX7_column 102 = .ok (.aload_n 0, 1) := by decide +kernel
theorem dX7_column_103 : decode cX7_column 103 = .ok (.getfield 9, 3) := by decide +kernel
theorem dX7_column_106 : decode cX7_column 106 = .ok (.iload_n 1, 1) := by decide +kernel
theorem dX7_column_107 : decode cX7_column 107 = .ok (.iaload, 1) := by decide +kernel
theorem dX7_column_108 : decode cX7_column 108 = .ok (.iconst 1, 1) := by decide +kernel
theorem dX7_column_109 : decode cX7_column 109 = .ok (.isub, 1) := by decide +kernel
theorem dX7_column_110 : decode cX7_column 110 = .ok (.ireturn, 1) := by decide +kernel
theorem dX7_cell__0 : decode cX7_cell_ 0 = .ok (.aload_n 0, 1) := by decide +kernel
theorem dX7_cell__1 : decode cX7_cell_ 1 = .ok (.getfield 116, 3) := by decide +kernel
theorem dX7_cell__4 : decode cX7_cell_ 4 = .ok (.bipush 6, 2) := by decide +kernel
theorem dX7_cell__6 : decode cX7_cell_ 6 = .ok (.if_icmp .ne 6, 3) := by decide +kernel
theorem dX7_cell__9 : decode cX7_cell_ 9 = .ok (.bipush (-4), 2) := by decide +kernel
theorem dX7_cell__11 : decode cX7_cell_ 11 = .ok (.ireturn, 1) := by decide +kernel
theorem dX7_cell__12 : decode cX7_cell_ 12 = .ok (.aload_n 0, 1) := by decide +kernel
theorem dX7_cell__13 : decode cX7_cell_ 13 = .ok (.getfield 54, 3) := by decide +kernel
theorem dX7_cell__16 : decode cX7_cell_ 16 = .ok (.aload_n 0, 1) := by decide +kernel
theorem dX7_cell__17 : decode cX7_cell_ 17 = .ok (.getfield 116, 3) := by decide +kernel
theorem dX7_cell__20 : decode cX7_cell_ 20 = .ok (.iload_n 1, 1) := by decide +kernel
theorem dX7_cell__21 : decode cX7_cell_ 21 = .ok (.iastore, 1) := by decide +kernel
theorem dX7_cell__22 : decode cX7_cell_ 22 = .ok (.aload_n 0, 1) := by decide +kernel
theorem dX7_cell__23 : decode cX7_cell_ 23 = .ok (.dup, 1) := by decide +kernel
theorem dX7_cell__24 : decode cX7_cell_ 24 = .ok (.getfield 116, 3) := by decide +kernel
theorem dX7_cell__27 : decode cX7_cell_ 27 = .ok (.iconst 1, 1) := by decide +kernel
theorem dX7_cell__28 : decode cX7_cell_ 28 = .ok (.iadd, 1) := by decide +kernel
theorem dX7_cell__29 : decode cX7_cell_ 29 = .ok (.putfield 116, 3) := by decide +kernel
theorem dX7_cell__32 : decode cX7_cell_ 32 = .ok (.aload_n 0, 1) := by decide +kernel
theorem dX7_cell__33 : decode cX7_cell_ 33 = .ok (.getfield 116, 3) := by decide +kernel
theorem dX7_cell__36 : decode cX7_cell_ 36 = .ok (.ireturn, 1) := by decide +kernel
theorem dX7_wipe_0 : decode cX7_wipe 0 = .ok (.aload_n 0, 1) := by decide +kernel
theorem dX7_wipe_1 : decode cX7_wipe 1 = .ok (.getfield 116, 3) := by decide +kernel
theorem dX7_wipe_4 : decode cX7_wipe 4 = .ok (.istore_n 1, 1) := by decide +kernel
theorem dX7_wipe_5 : decode cX7_wipe 5 = .ok (.aload_n 0, 1) := by decide +kernel
theorem dX7_wipe_6 : decode cX7_wipe 6 = .ok (.iconst 0, 1) := by decide +kernel
theorem dX7_wipe_7 : decode cX7_wipe 7 = .ok (.putfield 116, 3) := by decide +kernel
theorem dX7_wipe_10 : decode cX7_wipe 10 = .ok (.iload_n 1, 1) := by decide +kernel
theorem dX7_wipe_11 : decode cX7_wipe 11 = .ok (.ireturn, 1) := by decide +kernel
theorem dX7_isOf_0 : decode cX7_isOf 0 = .ok (.iload_n 1, 1) := by decide +kernel
theorem dX7_isOf_1 : decode cX7_isOf 1 = .ok (.ldc 119, 2) := by decide +kernel
theorem dX7_isOf_3 : decode cX7_isOf 3 = .ok (.if_icmp .ne 13, 3) := by decide +kernel
theorem dX7_isOf_6 : decode cX7_isOf 6 = .ok (.iload_n 0, 1) := by decide +kernel
theorem dX7_isOf_7 : decode cX7_isOf 7 = .ok (.ifCond .eq 7, 3) := by decide +kernel
theorem dX7_isOf_10 : decode cX7_isOf 10 = .ok (.iconst 1, 1) := by decide +kernel
theorem dX7_isOf_11 : decode cX7_isOf 11 = .ok (.goto 4, 3) := by decide +kernel
theorem dX7_isOf_14 : decode cX7_isOf 14 = .ok (.iconst 0, 1) := by decide +kernel
theorem dX7_isOf_15 : decode cX7_isOf 15 = .ok (.ireturn, 1) := by decide +kernel
theorem dX7_isOf_16 : decode cX7_isOf 16 = .ok (.iload_n 0, 1) := by decide +kernel
theorem dX7_isOf_17 : decode cX7_isOf 17 = .ok (.tableswitch 55 2 4 #[27, 36, 47], 27) := by decide +kernel
theorem dX7_isOf_44 : decode cX7_isOf 44 = .ok (.iload_n 1, 1) := by decide +kernel
theorem dX7_isOf_45 : decode cX7_isOf 45 = .ok (.iconst 0, 1) := by decide +kernel
theorem dX7_isOf_46 : decode cX7_isOf 46 = .ok (.sipush 9999, 3) := by decide +kernel
theorem dX7_isOf_49 : decode cX7_isOf 49 = .ok (.invokestatic 95, 3) := by decide +kernel
theorem dX7_isOf_52 : decode cX7_isOf 52 = .ok (.ireturn, 1) := by decide +kernel
theorem dX7_isOf_53 : decode cX7_isOf 53 = .ok (.iload_n 1, 1) := by decide +kernel
theorem dX7_isOf_54 : decode cX7_isOf 54 = .ok (.sipush (-9999), 3) := by decide +kernel
theorem dX7_isOf_57 : decode cX7_isOf 57 = .ok (.sipush 9999, 3) := by decide +kernel
theorem dX7_isOf_60 : decode cX7_isOf 60 = .ok (.invokestatic 95, 3) := by decide +kernel
theorem dX7_isOf_63 : decode cX7_isOf 63 = .ok (.ireturn, 1) := by decide +kernel
theorem dX7_isOf_64 : decode cX7_isOf 64 = .ok (.iload_n 1, 1) := by decide +kernel
theorem dX7_isOf_65 : decode cX7_isOf 65 = .ok (.iconst 0, 1) := by decide +kernel
theorem dX7_isOf_66 : decode cX7_isOf 66 = .ok (.bipush 99, 2) := by decide +kernel
theorem dX7_isOf_68 : decode cX7_isOf 68 = .ok (.invokestatic 95, 3) := by decide +kernel
theorem dX7_isOf_71 : decode cX7_isOf 71 = .ok (.ireturn, 1) := by decide +kernel
theorem dX7_isOf_72 : decode cX7_isOf 72 = .ok (.iload_n 1, 1) := by decide +kernel
theorem dX7_isOf_73 : decode cX7_isOf 73 = .ok (.invokestatic 120, 3) := by decide +kernel
theorem dX7_isOf_76 : decode cX7_isOf 76 = .ok (.ireturn, 1) := by decide +kernel
theorem dX7_row_0 : decode cX7_row 0 = .ok (.aload_n 0, 1) := by decide +kernel
theorem dX7_row_1 : decode cX7_row 1 = .ok (.iload_n 1, 1) := by decide +kernel
theorem dX7_row_2 : decode cX7_row 2 = .ok (.invokevirtual 99, 3) := by decide +kernel
theorem dX7_row_5 : decode cX7_row 5 = .ok (.ifCond .ne 5, 3) := by decide +kernel
theorem dX7_row_8 : decode cX7_row 8 = .ok (.iconst (-1), 1) := by decide +kernel
theorem dX7_row_9 : decode cX7_row 9 = .ok (.ireturn, 1) := by decide +kernel
theorem dX7_row_10 : decode cX7_row 10 = .ok (.aload_n 0, 1) := by decide +kernel
theorem dX7_row_11 : decode cX7_row 11 = .ok (.getfield 116, 3) := by decide +kernel
theorem dX7_row_14 : decode cX7_row 14 = .ok (.aload_n 0, 1) := by decide +kernel
theorem dX7_row_15 : decode cX7_row 15 = .ok (.getfield 9, 3) := by decide +kernel
theorem dX7_row_18 : decode cX7_row 18 = .ok (.iload_n 1, 1) := by decide +kernel
theorem dX7_row_19 : decode cX7_row 19 = .ok (.iaload, 1) := by decide +kernel
theorem dX7_row_20 : decode cX7_row 20 = .ok (.if_icmp .eq 6, 3) := by decide +kernel
theorem dX7_row_23 : decode cX7_row 23 = .ok (.bipush (-2), 2) := by decide +kernel
theorem dX7_row_25 : decode cX7_row 25 = .ok (.ireturn, 1) := by decide +kernel
theorem dX7_row_26 : decode cX7_row 26 = .ok (.iconst 0, 1) := by decide +kernel
theorem dX7_row_27 : decode cX7_row 27 = .ok (.istore_n 2, 1) := by decide +kernel
theorem dX7_row_28 : decode cX7_row 28 = .ok (.iload_n 2, 1) := by decide +kernel
theorem dX7_row_29 : decode cX7_row 29 = .ok (.aload_n 0, 1) := by decide +kernel
theorem dX7_row_30 : decode cX7_row 30 = .ok (.getfield 116, 3) := by decide +kernel
theorem dX7_row_33 : decode cX7_row 33 = .ok (.if_icmp .ge 35, 3) := by decide +kernel
theorem dX7_row_36 : decode cX7_row 36 = .ok (.aload_n 0, 1) := by decide +kernel
theorem dX7_row_37 : decode cX7_row 37 = .ok (.getfield 21, 3) := by decide +kernel
theorem dX7_row_40 : decode cX7_row 40 = .ok (.bipush 6, 2) := by decide +kernel
theorem dX7_row_42 : decode cX7_row 42 = .ok (.iload_n 1, 1) := by decide +kernel
theorem dX7_row_43 : decode cX7_row 43 = .ok (.imul, 1) := by decide +kernel
theorem dX7_row_44 : decode cX7_row 44 = .ok (.iload_n 2, 1) := by decide +kernel
theorem dX7_row_45 : decode cX7_row 45 = .ok (.iadd, 1) := by decide +kernel
theorem dX7_row_46 : decode cX7_row 46 = .ok (.iaload, 1) := by decide +kernel
theorem dX7_row_47 : decode cX7_row 47 = .ok (.aload_n 0, 1) := by decide +kernel
theorem dX7_row_48 : decode cX7_row 48 = .ok (.getfield 54, 3) := by decide +kernel
theorem dX7_row_51 : decode cX7_row 51 = .ok (.iload_n 2, 1) := by decide +kernel
theorem dX7_row_52 : decode cX7_row 52 = .ok (.iaload, 1) := by decide +kernel
theorem dX7_row_53 : decode cX7_row 53 = .ok (.invokestatic 123, 3) := by decide +kernel
theorem dX7_row_56 : decode cX7_row 56 = .ok (.ifCond .ne 6, 3) := by decide +kernel
theorem dX7_row_59 : decode cX7_row 59 = .ok (.bipush (-2), 2) := by decide +kernel
theorem dX7_row_61 : decode cX7_row 61 = .ok (.ireturn, 1) := by decide +kernel
theorem dX7_row_62 : decode cX7_row 62 = .ok (.iinc 2 1, 3) := by decide +kernel
theorem dX7_row_65 : decode cX7_row 65 = .ok (.goto (-37), 3) := by decide +kernel
theorem dX7_row_68 : decode cX7_row 68 = .ok (.iconst 0, 1) := by decide +kernel
theorem dX7_row_69 : decode cX7_row 69 = .ok (.istore_n 2, 1) := by decide +kernel
theorem dX7_row_70 : decode cX7_row 70 = .ok (.iload_n 2, 1) := by decide +kernel
theorem dX7_row_71 : decode cX7_row 71 = .ok (.aload_n 0, 1) := by decide +kernel
