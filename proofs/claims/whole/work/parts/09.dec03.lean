theorem dX7_couldOf_31 : decode cX7_couldOf 31 = .ok (.iconst 1, 1) := by decide +kernel
theorem dX7_couldOf_32 : decode cX7_couldOf 32 = .ok (.goto 4, 3) := by decide +kernel
theorem dX7_couldOf_35 : decode cX7_couldOf 35 = .ok (.iconst 0, 1) := by decide +kernel
theorem dX7_couldOf_36 : decode cX7_couldOf 36 = .ok (.iadd, 1) := by decide +kernel
theorem dX7_couldOf_37 : decode cX7_couldOf 37 = .ok (.istore 4, 2) := by decide +kernel
theorem dX7_couldOf_39 : decode cX7_couldOf 39 = .ok (.iinc 5 1, 3) := by decide +kernel
theorem dX7_couldOf_42 : decode cX7_couldOf 42 = .ok (.goto (-36), 3) := by decide +kernel
theorem dX7_couldOf_45 : decode cX7_couldOf 45 = .ok (.iload 4, 2) := by decide +kernel
theorem dX7_couldOf_47 : decode cX7_couldOf 47 = .ok (.ireturn, 1) := by decide +kernel
theorem dX7_could_0 : decode cX7_could 0 = .ok (.aload_n 0, 1) := by decide +kernel
theorem dX7_could_1 : decode cX7_could 1 = .ok (.iload_n 1, 1) := by decide +kernel
theorem dX7_could_2 : decode cX7_could 2 = .ok (.iload_n 2, 1) := by decide +kernel
theorem dX7_could_3 : decode cX7_could 3 = .ok (.invokevirtual 189, 3) := by decide +kernel
theorem dX7_could_6 : decode cX7_could 6 = .ok (.ifCond .ne 5, 3) := by decide +kernel
theorem dX7_could_9 : decode cX7_could 9 = .ok (.iconst (-1), 1) := by decide +kernel
theorem dX7_could_10 : decode cX7_could 10 = .ok (.ireturn, 1) := by decide +kernel
theorem dX7_could_11 : decode cX7_could 11 = .ok (.aload_n 0, 1) := by decide +kernel
theorem dX7_could_12 : decode cX7_could 12 = .ok (.iload_n 1, 1) := by decide +kernel
theorem dX7_could_13 : decode cX7_could 13 = .ok (.iload_n 3, 1) := by decide +kernel
theorem dX7_could_14 : decode cX7_could 14 = .ok (.invokevirtual 199, 3) := by decide +kernel
theorem dX7_could_17 : decode cX7_could 17 = .ok (.ifCond .ne 6, 3) := by decide +kernel
theorem dX7_could_20 : decode cX7_could 20 = .ok (.bipush (-2), 2) := by decide +kernel
theorem dX7_could_22 : decode cX7_could 22 = .ok (.ireturn, 1) := by decide +kernel
theorem dX7_could_23 : decode cX7_could 23 = .ok (.aload_n 0, 1) := by decide +kernel
theorem dX7_could_24 : decode cX7_could 24 = .ok (.iload_n 1, 1) := by decide +kernel
theorem dX7_could_25 : decode cX7_could 25 = .ok (.invokevirtual 186, 3) := by decide +kernel
theorem dX7_could_28 : decode cX7_could 28 = .ok (.aload_n 0, 1) := by decide +kernel
theorem dX7_could_29 : decode cX7_could 29 = .ok (.iload_n 1, 1) := by decide +kernel
theorem dX7_could_30 : decode cX7_could 30 = .ok (.iload_n 2, 1) := by decide +kernel
theorem dX7_could_31 : decode cX7_could 31 = .ok (.iload_n 3, 1) := by decide +kernel
theorem dX7_could_32 : decode cX7_could 32 = .ok (.invokevirtual 202, 3) := by decide +kernel
theorem dX7_could_35 : decode cX7_could 35 = .ok (.ireturn, 1) := by decide +kernel
theorem dX7_alikeOf_0 : decode cX7_alikeOf 0 = .ok (.aload_n 0, 1) := by decide +kernel
theorem dX7_alikeOf_1 : decode cX7_alikeOf 1 = .ok (.iload_n 1, 1) := by decide +kernel
theorem dX7_alikeOf_2 : decode cX7_alikeOf 2 = .ok (.invokevirtual 186, 3) := by decide +kernel
theorem dX7_alikeOf_5 : decode cX7_alikeOf 5 = .ok (.bipush 13, 2) := by decide +kernel
theorem dX7_alikeOf_7 : decode cX7_alikeOf 7 = .ok (.istore_n 3, 1) := by decide +kernel
theorem dX7_alikeOf_8 : decode cX7_alikeOf 8 = .ok (.iconst 0, 1) := by decide +kernel
theorem dX7_alikeOf_9 : decode cX7_alikeOf 9 = .ok (.istore 4, 2) := by decide +kernel
theorem dX7_alikeOf_11 : decode cX7_alikeOf 11 = .ok (.iload 4, 2) := by decide +kernel
theorem dX7_alikeOf_13 : decode cX7_alikeOf 13 = .ok (.aload_n 0, 1) := by decide +kernel
theorem dX7_alikeOf_14 : decode cX7_alikeOf 14 = .ok (.getfield 15, 3) := by decide +kernel
theorem dX7_alikeOf_17 : decode cX7_alikeOf 17 = .ok (.iload_n 1, 1) := by decide +kernel
theorem dX7_alikeOf_18 : decode cX7_alikeOf 18 = .ok (.iaload, 1) := by decide +kernel
theorem dX7_alikeOf_19 : decode cX7_alikeOf 19 = .ok (.if_icmp .ge 32, 3) := by decide +kernel
theorem dX7_alikeOf_22 : decode cX7_alikeOf 22 = .ok (.aload_n 0, 1) := by decide +kernel
theorem dX7_alikeOf_23 : decode cX7_alikeOf 23 = .ok (.iload_n 1, 1) := by decide +kernel
theorem dX7_alikeOf_24 : decode cX7_alikeOf 24 = .ok (.iload 4, 2) := by decide +kernel
theorem dX7_alikeOf_26 : decode cX7_alikeOf 26 = .ok (.iload_n 2, 1) := by decide +kernel
theorem dX7_alikeOf_27 : decode cX7_alikeOf 27 = .ok (.invokevirtual 202, 3) := by decide +kernel
theorem dX7_alikeOf_30 : decode cX7_alikeOf 30 = .ok (.istore 5, 2) := by decide +kernel
theorem dX7_alikeOf_32 : decode cX7_alikeOf 32 = .ok (.iload 5, 2) := by decide +kernel
theorem dX7_alikeOf_34 : decode cX7_alikeOf 34 = .ok (.iload_n 3, 1) := by decide +kernel
theorem dX7_alikeOf_35 : decode cX7_alikeOf 35 = .ok (.if_icmp .ge 8, 3) := by decide +kernel
theorem dX7_alikeOf_38 : decode cX7_alikeOf 38 = .ok (.iload 5, 2) := by decide +kernel
theorem dX7_alikeOf_40 : decode cX7_alikeOf 40 = .ok (.goto 4, 3) := by decide +kernel
theorem dX7_alikeOf_43 : decode cX7_alikeOf 43 = .ok (.iload_n 3, 1) := by decide +kernel
theorem dX7_alikeOf_44 : decode cX7_alikeOf 44 = .ok (.istore_n 3, 1) := by decide +kernel
theorem dX7_alikeOf_45 : decode cX7_alikeOf 45 = .ok (.iinc 4 1, 3) := by decide +kernel
theorem dX7_alikeOf_48 : decode cX7_alikeOf 48 = .ok (.goto (-37), 3) := by decide +kernel
theorem dX7_alikeOf_51 : decode cX7_alikeOf 51 = .ok (.iload_n 3, 1) := by decide +kernel
theorem dX7_alikeOf_52 : decode cX7_alikeOf 52 = .ok (.ireturn, 1) := by decide +kernel
theorem dX7_alike_0 : decode cX7_alike 0 = .ok (.aload_n 0, 1) := by decide +kernel
theorem dX7_alike_1 : decode cX7_alike 1 = .ok (.iload_n 1, 1) := by decide +kernel
theorem dX7_alike_2 : decode cX7_alike 2 = .ok (.invokevirtual 99, 3) := by decide +kernel
theorem dX7_alike_5 : decode cX7_alike 5 = .ok (.ifCond .eq 12, 3) := by decide +kernel
theorem dX7_alike_8 : decode cX7_alike 8 = .ok (.aload_n 0, 1) := by decide +kernel
theorem dX7_alike_9 : decode cX7_alike 9 = .ok (.getfield 15, 3) := by decide +kernel
theorem dX7_alike_12 : decode cX7_alike 12 = .ok (.iload_n 1, 1) := by decide +kernel
theorem dX7_alike_13 : decode cX7_alike 13 = .ok (.iaload, 1) := by decide +kernel
theorem dX7_alike_14 : decode cX7_alike 14 = .ok (.ifCond .ne 5, 3) := by decide +kernel
theorem dX7_alike_17 : decode cX7_alike 17 = .ok (.iconst (-1), 1) := by decide +kernel
theorem dX7_alike_18 : decode cX7_alike 18 = .ok (.ireturn, 1) := by decide +kernel
theorem dX7_alike_19 : decode cX7_alike 19 = .ok (.aload_n 0, 1) := by decide +kernel
theorem dX7_alike_20 : decode cX7_alike 20 = .ok (.iload_n 1, 1) := by decide +kernel
theorem dX7_alike_21 : decode cX7_alike 21 = .ok (.iload_n 2, 1) := by decide +kernel
theorem dX7_alike_22 : decode cX7_alike 22 = .ok (.invokevirtual 199, 3) := by decide +kernel
theorem dX7_alike_25 : decode cX7_alike 25 = .ok (.ifCond .eq 12, 3) := by decide +kernel
theorem dX7_alike_28 : decode cX7_alike 28 = .ok (.aload_n 0, 1) := by decide +kernel
theorem dX7_alike_29 : decode cX7_alike 29 = .ok (.iload_n 1, 1) := by decide +kernel
theorem dX7_alike_30 : decode cX7_alike 30 = .ok (.iload_n 2, 1) := by decide +kernel
theorem dX7_alike_31 : decode cX7_alike 31 = .ok (.invokevirtual 205, 3) := by decide +kernel
theorem dX7_alike_34 : decode cX7_alike 34 = .ok (.goto 5, 3) := by decide +kernel
theorem dX7_alike_37 : decode cX7_alike 37 = .ok (.bipush (-2), 2) := by decide +kernel
theorem dX7_alike_39 : decode cX7_alike 39 = .ok (.ireturn, 1) := by decide +kernel
theorem dX7_sure_0 : decode cX7_sure 0 = .ok (.aload_n 0, 1) := by decide +kernel
theorem dX7_sure_1 : decode cX7_sure 1 = .ok (.iload_n 1, 1) := by decide +kernel
theorem dX7_sure_2 : decode cX7_sure 2 = .ok (.iload_n 2, 1) := by decide +kernel
theorem dX7_sure_3 : decode cX7_sure 3 = .ok (.invokevirtual 189, 3) := by decide +kernel
theorem dX7_sure_6 : decode cX7_sure 6 = .ok (.ifCond .eq 13, 3) := by decide +kernel
theorem dX7_sure_9 : decode cX7_sure 9 = .ok (.aload_n 0, 1) := by decide +kernel
theorem dX7_sure_10 : decode cX7_sure 10 = .ok (.iload_n 1, 1) := by decide +kernel
theorem dX7_sure_11 : decode cX7_sure 11 = .ok (.iload 4, 2) := by decide +kernel
theorem dX7_sure_13 : decode cX7_sure 13 = .ok (.invokevirtual 131, 3) := by decide +kernel
theorem dX7_sure_16 : decode cX7_sure 16 = .ok (.ifCond .ne 5, 3) := by decide +kernel
theorem dX7_sure_19 : decode cX7_sure 19 = .ok (.iconst (-1), 1) := by decide +kernel
theorem dX7_sure_20 : decode cX7_sure 20 = .ok (.ireturn, 1) := by decide +kernel
theorem dX7_sure_21 : decode cX7_sure 21 = .ok (.aload_n 0, 1) := by decide +kernel
theorem dX7_sure_22 : decode cX7_sure 22 = .ok (.iload_n 1, 1) := by decide +kernel
theorem dX7_sure_23 : decode cX7_sure 23 = .ok (.iload_n 3, 1) := by decide +kernel
theorem dX7_sure_24 : decode cX7_sure 24 = .ok (.invokevirtual 199, 3) := by decide +kernel
theorem dX7_sure_27 : decode cX7_sure 27 = .ok (.ifCond .ne 6, 3) := by decide +kernel
theorem dX7_sure_30 : decode cX7_sure 30 = .ok (.bipush (-2), 2) := by decide +kernel
theorem dX7_sure_32 : decode cX7_sure 32 = .ok (.ireturn, 1) := by decide +kernel
theorem dX7_sure_33 : decode cX7_sure 33 = .ok (.aload_n 0, 1) := by decide +kernel
theorem dX7_sure_34 : decode cX7_sure 34 = .ok (.iload_n 1, 1) := by decide +kernel
theorem dX7_sure_35 : decode cX7_sure 35 = .ok (.invokevirtual 186, 3) := by decide +kernel
theorem dX7_sure_38 : decode cX7_sure 38 = .ok (.iconst (-1), 1) := by decide +kernel
theorem dX7_sure_39 : decode cX7_sure 39 = .ok (.istore 5, 2) := by decide +kernel
theorem dX7_sure_41 : decode cX7_sure 41 = .ok (.iconst 0, 1) := by decide +kernel
theorem dX7_sure_42 : decode cX7_sure 42 = .ok (.istore 6, 2) := by decide +kernel
theorem dX7_sure_44 : decode cX7_sure 44 = .ok (.iload 6, 2) := by decide +kernel
theorem dX7_sure_46 : decode cX7_sure 46 = .ok (.aload_n 0, 1) := by decide +kernel
theorem dX7_sure_47 : decode cX7_sure 47 = .ok (.getfield 15, 3) := by decide +kernel
theorem dX7_sure_50 : decode cX7_sure 50 = .ok (.iload_n 1, 1) := by decide +kernel
theorem dX7_sure_51 : decode cX7_sure 51 = .ok (.iaload, 1) := by decide +kernel
theorem dX7_sure_52 : decode cX7_sure 52 = .ok (.if_icmp .ge 65, 3) := by decide +kernel
theorem dX7_sure_55 : decode cX7_sure 55 = .ok (.aload_n 0, 1) := by decide +kernel
theorem dX7_sure_56 : decode cX7_sure 56 = .ok (.iload_n 1, 1) := by decide +kernel
theorem dX7_sure_57 : decode cX7_sure 57 = .ok (.iload_n 2, 1) := by decide +kernel
theorem dX7_sure_58 : decode cX7_sure 58 = .ok (.iload_n 3, 1) := by decide +kernel
theorem dX7_sure_59 : decode cX7_sure 59 = .ok (.iload 6, 2) := by decide +kernel
theorem dX7_sure_61 : decode cX7_sure 61 = .ok (.invokevirtual 195, 3) := by decide +kernel
theorem dX7_sure_64 : decode cX7_sure 64 = .ok (.ifCond .ne 6, 3) := by decide +kernel
theorem dX7_sure_67 : decode cX7_sure 67 = .ok (.goto 44, 3) := by decide +kernel
theorem dX7_sure_70 : decode cX7_sure 70 = .ok (.iload 5, 2) := by decide +kernel
theorem dX7_sure_72 : decode cX7_sure 72 = .ok (.iconst (-1), 1) := by decide +kernel
theorem dX7_sure_73 : decode cX7_sure 73 = .ok (.if_icmp .eq 34, 3) := by decide +kernel
theorem dX7_sure_76 : decode cX7_sure 76 = .ok (.aload_n 0, 1) := by decide +kernel
theorem dX7_sure_77 : decode cX7_sure 77 = .ok (.getfield 51, 3) := by decide +kernel
theorem dX7_sure_80 : decode cX7_sure 80 = .ok (.iload_n 1, 1) := by decide +kernel
theorem dX7_sure_81 : decode cX7_sure 81 = .ok (.iload 6, 2) := by decide +kernel
theorem dX7_sure_83 : decode cX7_sure 83 = .ok (.iload 4, 2) := by decide +kernel
theorem dX7_sure_85 : decode cX7_sure 85 = .ok (.invokestatic 127, 3) := by decide +kernel
theorem dX7_sure_88 : decode cX7_sure 88 = .ok (.iaload, 1) := by decide +kernel
theorem dX7_sure_89 : decode cX7_sure 89 = .ok (.aload_n 0, 1) := by decide +kernel
theorem dX7_sure_90 : decode cX7_sure 90 = .ok (.getfield 51, 3) := by decide +kernel
theorem dX7_sure_93 : decode cX7_sure 93 = .ok (.iload_n 1, 1) := by decide +kernel
theorem dX7_sure_94 : decode cX7_sure 94 = .ok (.iload 5, 2) := by decide +kernel
theorem dX7_sure_96 : decode cX7_sure 96 = .ok (.iload 4, 2) := by decide +kernel
theorem dX7_sure_98 : decode cX7_sure 98 = .ok (.invokestatic 127, 3) := by decide +kernel
theorem dX7_sure_101 : decode cX7_sure 101 = .ok (.iaload, 1) := by decide +kernel
theorem dX7_sure_102 : decode cX7_sure 102 = .ok (.if_icmp .eq 5, 3) := by decide +kernel
theorem dX7_sure_105 : decode cX7_sure 105 = .ok (.iconst 0, 1) := by decide +kernel
theorem dX7_sure_106 : decode cX7_sure 106 = .ok (.ireturn, 1) := by decide +kernel
theorem dX7_sure_107 : decode cX7_sure 107 = .ok (.iload 6, 2) := by decide +kernel
theorem dX7_sure_109 : decode cX7_sure 109 = .ok (.istore 5, 2) := by decide +kernel
theorem dX7_sure_111 : decode cX7_sure 111 = .ok (.iinc 6 1, 3) := by decide +kernel
theorem dX7_sure_114 : decode cX7_sure 114 = .ok (.goto (-70), 3) := by decide +kernel
theorem dX7_sure_117 : decode cX7_sure 117 = .ok (.iconst 1, 1) := by decide +kernel
theorem dX7_sure_118 : decode cX7_sure 118 = .ok (.ireturn, 1) := by decide +kernel
theorem dX7_lossOf_0 : decode cX7_lossOf 0 = .ok (.iconst 0, 1) := by decide +kernel
theorem dX7_lossOf_1 : decode cX7_lossOf 1 = .ok (.istore_n 3, 1) := by decide +kernel
theorem dX7_lossOf_2 : decode cX7_lossOf 2 = .ok (.iconst 0, 1) := by decide +kernel
theorem dX7_lossOf_3 : decode cX7_lossOf 3 = .ok (.istore 4, 2) := by decide +kernel
theorem dX7_lossOf_5 : decode cX7_lossOf 5 = .ok (.iload 4, 2) := by decide +kernel
theorem dX7_lossOf_7 : decode cX7_lossOf 7 = .ok (.aload_n 0, 1) := by decide +kernel
theorem dX7_lossOf_8 : decode cX7_lossOf 8 = .ok (.getfield 15, 3) := by decide +kernel
theorem dX7_lossOf_11 : decode cX7_lossOf 11 = .ok (.iload_n 1, 1) := by decide +kernel
theorem dX7_lossOf_12 : decode cX7_lossOf 12 = .ok (.iaload, 1) := by decide +kernel
theorem dX7_lossOf_13 : decode cX7_lossOf 13 = .ok (.if_icmp .ge 52, 3) := by decide +kernel
theorem dX7_lossOf_16 : decode cX7_lossOf 16 = .ok (.aload_n 0, 1) := by decide +kernel
theorem dX7_lossOf_17 : decode cX7_lossOf 17 = .ok (.getfield 45, 3) := by decide +kernel
theorem dX7_lossOf_20 : decode cX7_lossOf 20 = .ok (.iload_n 1, 1) := by decide +kernel
theorem dX7_lossOf_21 : decode cX7_lossOf 21 = .ok (.iload 4, 2) := by decide +kernel
theorem dX7_lossOf_23 : decode cX7_lossOf 23 = .ok (.iload_n 2, 1) := by decide +kernel
theorem dX7_lossOf_24 : decode cX7_lossOf 24 = .ok (.invokestatic 127, 3) := by decide +kernel
theorem dX7_lossOf_27 : decode cX7_lossOf 27 = .ok (.iaload, 1) := by decide +kernel
theorem dX7_lossOf_28 : decode cX7_lossOf 28 = .ok (.istore 5, 2) := by decide +kernel
theorem dX7_lossOf_30 : decode cX7_lossOf 30 = .ok (.iload 5, 2) := by decide +kernel
theorem dX7_lossOf_32 : decode cX7_lossOf 32 = .ok (.ldc 119, 2) := by decide +kernel
theorem dX7_lossOf_34 : decode cX7_lossOf 34 = .ok (.if_icmp .eq 25, 3) := by decide +kernel
theorem dX7_lossOf_37 : decode cX7_lossOf 37 = .ok (.iload_n 3, 1) := by decide +kernel
theorem dX7_lossOf_38 : decode cX7_lossOf 38 = .ok (.iload 5, 2) := by decide +kernel
theorem dX7_lossOf_40 : decode cX7_lossOf 40 = .ok (.iload 5, 2) := by decide +kernel
theorem dX7_lossOf_42 : decode cX7_lossOf 42 = .ok (.aload_n 0, 1) := by decide +kernel
theorem dX7_lossOf_43 : decode cX7_lossOf 43 = .ok (.getfield 30, 3) := by decide +kernel
theorem dX7_lossOf_46 : decode cX7_lossOf 46 = .ok (.bipush 6, 2) := by decide +kernel
theorem dX7_lossOf_48 : decode cX7_lossOf 48 = .ok (.iload_n 1, 1) := by decide +kernel
theorem dX7_lossOf_49 : decode cX7_lossOf 49 = .ok (.imul, 1) := by decide +kernel
theorem dX7_lossOf_50 : decode cX7_lossOf 50 = .ok (.iload_n 2, 1) := by decide +kernel
theorem dX7_lossOf_51 : decode cX7_lossOf 51 = .ok (.iadd, 1) := by decide +kernel
theorem dX7_lossOf_52 : decode cX7_lossOf 52 = .ok (.iaload, 1) := by decide +kernel
theorem dX7_lossOf_53 : decode cX7_lossOf 53 = .ok (.invokestatic 156, 3) := by decide +kernel
theorem dX7_lossOf_56 : decode cX7_lossOf 56 = .ok (.isub, 1) := by decide +kernel
theorem dX7_lossOf_57 : decode cX7_lossOf 57 = .ok (.iadd, 1) := by decide +kernel
theorem dX7_lossOf_58 : decode cX7_lossOf 58 = .ok (.istore_n 3, 1) := by decide +kernel
theorem dX7_lossOf_59 : decode cX7_lossOf 59 = .ok (.iinc 4 1, 3) := by decide +kernel
theorem dX7_lossOf_62 : decode cX7_lossOf 62 = .ok (.goto (-57), 3) := by decide +kernel
theorem dX7_lossOf_65 : decode cX7_lossOf 65 = .ok (.iload_n 3, 1) := by decide +kernel
theorem dX7_lossOf_66 : decode cX7_lossOf 66 = .ok (.ireturn, 1) := by decide +kernel
theorem dX7_loss_0 : decode cX7_loss 0 = .ok (.aload_n 0, 1) := by decide +kernel
theorem dX7_loss_1 : decode cX7_loss 1 = .ok (.iload_n 1, 1) := by decide +kernel
theorem dX7_loss_2 : decode cX7_loss 2 = .ok (.iload_n 2, 1) := by decide +kernel
theorem dX7_loss_3 : decode cX7_loss 3 = .ok (.invokevirtual 131, 3) := by decide +kernel
theorem dX7_loss_6 : decode cX7_loss 6 = .ok (.ifCond .ne 5, 3) := by decide +kernel
theorem dX7_loss_9 : decode cX7_loss 9 = .ok (.iconst (-1), 1) := by decide +kernel
theorem dX7_loss_10 : decode cX7_loss 10 = .ok (.ireturn, 1) := by decide +kernel
theorem dX7_loss_11 : decode cX7_loss 11 = .ok (.aload_n 0, 1) := by decide +kernel
theorem dX7_loss_12 : decode cX7_loss 12 = .ok (.getfield 27, 3) := by decide +kernel
theorem dX7_loss_15 : decode cX7_loss 15 = .ok (.bipush 6, 2) := by decide +kernel
theorem dX7_loss_17 : decode cX7_loss 17 = .ok (.iload_n 1, 1) := by decide +kernel
theorem dX7_loss_18 : decode cX7_loss 18 = .ok (.imul, 1) := by decide +kernel
theorem dX7_loss_19 : decode cX7_loss 19 = .ok (.iload_n 2, 1) := by decide +kernel
theorem dX7_loss_20 : decode cX7_loss 20 = .ok (.iadd, 1) := by decide +kernel
theorem dX7_loss_21 : decode cX7_loss 21 = .ok (.iaload, 1) := by decide +kernel
theorem dX7_loss_22 : decode cX7_loss 22 = .ok (.iconst 3, 1) := by decide +kernel
theorem dX7_loss_23 : decode cX7_loss 23 = .ok (.if_icmp .ne 12, 3) := by decide +kernel
theorem dX7_loss_26 : decode cX7_loss 26 = .ok (.aload_n 0, 1) := by decide +kernel
theorem dX7_loss_27 : decode cX7_loss 27 = .ok (.iload_n 1, 1) := by decide +kernel
theorem dX7_loss_28 : decode cX7_loss 28 = .ok (.iload_n 2, 1) := by decide +kernel
theorem dX7_loss_29 : decode cX7_loss 29 = .ok (.invokevirtual 208, 3) := by decide +kernel
theorem dX7_loss_32 : decode cX7_loss 32 = .ok (.goto 5, 3) := by decide +kernel
theorem dX7_loss_35 : decode cX7_loss 35 = .ok (.bipush (-2), 2) := by decide +kernel
theorem dX7_loss_37 : decode cX7_loss 37 = .ok (.ireturn, 1) := by decide +kernel
theorem dX7_width_0 : decode cX7_width 0 = .ok (.iload_n 0, 1) := by decide +kernel
theorem dX7_width_1 : decode cX7_width 1 = .ok (.ifCond .ne 7, 3) := by decide +kernel
theorem dX7_width_4 : decode cX7_width 4 = .ok (.iconst 1, 1) := by decide +kernel
theorem dX7_width_5 : decode cX7_width 5 = .ok (.goto 26, 3) := by decide +kernel
theorem dX7_width_8 : decode cX7_width 8 = .ok (.iload_n 0, 1) := by decide +kernel
theorem dX7_width_9 : decode cX7_width 9 = .ok (.iconst 1, 1) := by decide +kernel
theorem dX7_width_10 : decode cX7_width 10 = .ok (.if_icmp .ne 8, 3) := by decide +kernel
theorem dX7_width_13 : decode cX7_width 13 = .ok (.bipush 10, 2) := by decide +kernel
theorem dX7_width_15 : decode cX7_width 15 = .ok (.goto 16, 3) := by decide +kernel
theorem dX7_width_18 : decode cX7_width 18 = .ok (.iload_n 0, 1) := by decide +kernel
theorem dX7_width_19 : decode cX7_width 19 = .ok (.iconst 2, 1) := by decide +kernel
theorem dX7_width_20 : decode cX7_width 20 = .ok (.if_icmp .ne 8, 3) := by decide +kernel
theorem dX7_width_23 : decode cX7_width 23 = .ok (.bipush 100, 2) := by decide +kernel
theorem dX7_width_25 : decode cX7_width 25 = .ok (.goto 6, 3) := by decide +kernel
theorem dX7_width_28 : decode cX7_width 28 = .ok (.sipush 1000, 3) := by decide +kernel
theorem dX7_width_31 : decode cX7_width 31 = .ok (.ireturn, 1) := by decide +kernel
theorem dX7_gives_0 : decode cX7_gives 0 = .ok (.iload_n 2, 1) := by decide +kernel
theorem dX7_gives_1 : decode cX7_gives 1 = .ok (.istore 4, 2) := by decide +kernel
theorem dX7_gives_3 : decode cX7_gives 3 = .ok (.iconst 0, 1) := by decide +kernel
theorem dX7_gives_4 : decode cX7_gives 4 = .ok (.istore 5, 2) := by decide +kernel
theorem dX7_gives_6 : decode cX7_gives 6 = .ok (.aload_n 0, 1) := by decide +kernel
theorem dX7_gives_7 : decode cX7_gives 7 = .ok (.getfield 9, 3) := by decide +kernel
theorem dX7_gives_10 : decode cX7_gives 10 = .ok (.iload_n 1, 1) := by decide +kernel
theorem dX7_gives_11 : decode cX7_gives 11 = .ok (.iaload, 1) := by decide +kernel
theorem dX7_gives_12 : decode cX7_gives 12 = .ok (.iconst 1, 1) := by decide +kernel
theorem dX7_gives_13 : decode cX7_gives 13 = .ok (.isub, 1) := by decide +kernel
theorem dX7_gives_14 : decode cX7_gives 14 = .ok (.istore 6, 2) := by decide +kernel
theorem dX7_gives_16 : decode cX7_gives 16 = .ok (.iload 6, 2) := by decide +kernel
theorem dX7_gives_18 : decode cX7_gives 18 = .ok (.ifCond .lt 65, 3) := by decide +kernel
theorem dX7_gives_21 : decode cX7_gives 21 = .ok (.aload_n 0, 1) := by decide +kernel
theorem dX7_gives_22 : decode cX7_gives 22 = .ok (.getfield 27, 3) := by decide +kernel
theorem dX7_gives_25 : decode cX7_gives 25 = .ok (.bipush 6, 2) := by decide +kernel
theorem dX7_gives_27 : decode cX7_gives 27 = .ok (.iload_n 1, 1) := by decide +kernel
theorem dX7_gives_28 : decode cX7_gives 28 = .ok (.imul, 1) := by decide +kernel
theorem dX7_gives_29 : decode cX7_gives 29 = .ok (.iload 6, 2) := by decide +kernel
theorem dX7_gives_31 : decode cX7_gives 31 = .ok (.iadd, 1) := by decide +kernel
theorem dX7_gives_32 : decode cX7_gives 32 = .ok (.iaload, 1) := by decide +kernel
theorem dX7_gives_33 : decode cX7_gives 33 = .ok (.iconst 3, 1) := by decide +kernel
theorem dX7_gives_34 : decode cX7_gives 34 = .ok (.if_icmp .eq 6, 3) := by decide +kernel
theorem dX7_gives_37 : decode cX7_gives 37 = .ok (.goto 40, 3) := by decide +kernel
theorem dX7_gives_40 : decode cX7_gives 40 = .ok (.aload_n 0, 1) := by decide +kernel
theorem dX7_gives_41 : decode cX7_gives 41 = .ok (.getfield 30, 3) := by decide +kernel
theorem dX7_gives_44 : decode cX7_gives 44 = .ok (.bipush 6, 2) := by decide +kernel
theorem dX7_gives_46 : decode cX7_gives 46 = .ok (.iload_n 1, 1) := by decide +kernel
theorem dX7_gives_47 : decode cX7_gives 47 = .ok (.imul, 1) := by decide +kernel
theorem dX7_gives_48 : decode cX7_gives 48 = .ok (.iload 6, 2) := by decide +kernel
theorem dX7_gives_50 : decode cX7_gives 50 = .ok (.iadd, 1) := by decide +kernel
theorem dX7_gives_51 : decode cX7_gives 51 = .ok (.iload 4, 2) := by decide +kernel
theorem dX7_gives_53 : decode cX7_gives 53 = .ok (.iconst 4, 1) := by decide +kernel
theorem dX7_gives_54 : decode cX7_gives 54 = .ok (.irem, 1) := by decide +kernel
theorem dX7_gives_55 : decode cX7_gives 55 = .ok (.invokestatic 211, 3) := by decide +kernel
theorem dX7_gives_58 : decode cX7_gives 58 = .ok (.iastore, 1) := by decide +kernel
theorem dX7_gives_59 : decode cX7_gives 59 = .ok (.iload 4, 2) := by decide +kernel
theorem dX7_gives_61 : decode cX7_gives 61 = .ok (.iconst 4, 1) := by decide +kernel
theorem dX7_gives_62 : decode cX7_gives 62 = .ok (.idiv, 1) := by decide +kernel
theorem dX7_gives_63 : decode cX7_gives 63 = .ok (.istore 4, 2) := by decide +kernel
theorem dX7_gives_65 : decode cX7_gives 65 = .ok (.iload 5, 2) := by decide +kernel
theorem dX7_gives_67 : decode cX7_gives 67 = .ok (.aload_n 0, 1) := by decide +kernel
theorem dX7_gives_68 : decode cX7_gives 68 = .ok (.iload_n 1, 1) := by decide +kernel
theorem dX7_gives_69 : decode cX7_gives 69 = .ok (.iload 6, 2) := by decide +kernel
theorem dX7_gives_71 : decode cX7_gives 71 = .ok (.invokevirtual 208, 3) := by decide +kernel
theorem dX7_gives_74 : decode cX7_gives 74 = .ok (.iadd, 1) := by decide +kernel
theorem dX7_gives_75 : decode cX7_gives 75 = .ok (.istore 5, 2) := by decide +kernel
theorem dX7_gives_77 : decode cX7_gives 77 = .ok (.iinc 6 (-1), 3) := by decide +kernel
theorem dX7_gives_80 : decode cX7_gives 80 = .ok (.goto (-64), 3) := by decide +kernel
theorem dX7_gives_83 : decode cX7_gives 83 = .ok (.iload 5, 2) := by decide +kernel
theorem dX7_gives_85 : decode cX7_gives 85 = .ok (.ireturn, 1) := by decide +kernel
theorem dX7_best_0 : decode cX7_best 0 = .ok (.aload_n 0, 1) := by decide +kernel
theorem dX7_best_1 : decode cX7_best 1 = .ok (.iload_n 1, 1) := by decide +kernel
theorem dX7_best_2 : decode cX7_best 2 = .ok (.invokevirtual 99, 3) := by decide +kernel
theorem dX7_best_5 : decode cX7_best 5 = .ok (.ifCond .ne 5, 3) := by decide +kernel
theorem dX7_best_8 : decode cX7_best 8 = .ok (.iconst (-1), 1) := by decide +kernel
theorem dX7_best_9 : decode cX7_best 9 = .ok (.ireturn, 1) := by decide +kernel
theorem dX7_best_10 : decode cX7_best 10 = .ok (.aload_n 0, 1) := by decide +kernel
theorem dX7_best_11 : decode cX7_best 11 = .ok (.iload_n 1, 1) := by decide +kernel
theorem dX7_best_12 : decode cX7_best 12 = .ok (.iload_n 2, 1) := by decide +kernel
theorem dX7_best_13 : decode cX7_best 13 = .ok (.invokevirtual 199, 3) := by decide +kernel
theorem dX7_best_16 : decode cX7_best 16 = .ok (.ifCond .eq 8, 3) := by decide +kernel
theorem dX7_best_19 : decode cX7_best 19 = .ok (.iload_n 3, 1) := by decide +kernel
theorem dX7_best_20 : decode cX7_best 20 = .ok (.iconst 1, 1) := by decide +kernel
theorem dX7_best_21 : decode cX7_best 21 = .ok (.if_icmp .ge 6, 3) := by decide +kernel
theorem dX7_best_24 : decode cX7_best 24 = .ok (.bipush (-2), 2) := by decide +kernel
theorem dX7_best_26 : decode cX7_best 26 = .ok (.ireturn, 1) := by decide +kernel
theorem dX7_best_27 : decode cX7_best 27 = .ok (.aload_n 0, 1) := by decide +kernel
theorem dX7_best_28 : decode cX7_best 28 = .ok (.getfield 15, 3) := by decide +kernel
theorem dX7_best_31 : decode cX7_best 31 = .ok (.iload_n 1, 1) := by decide +kernel
theorem dX7_best_32 : decode cX7_best 32 = .ok (.iaload, 1) := by decide +kernel
theorem dX7_best_33 : decode cX7_best 33 = .ok (.ifCond .ne 6, 3) := by decide +kernel
theorem dX7_best_36 : decode cX7_best 36 = .ok (.bipush (-3), 2) := by decide +kernel
theorem dX7_best_38 : decode cX7_best 38 = .ok (.ireturn, 1) := by decide +kernel
theorem dX7_best_39 : decode cX7_best 39 = .ok (.iconst 1, 1) := by decide +kernel
theorem dX7_best_40 : decode cX7_best 40 = .ok (.istore 4, 2) := by decide +kernel
theorem dX7_best_42 : decode cX7_best 42 = .ok (.iconst 0, 1) := by decide +kernel
theorem dX7_best_43 : decode cX7_best 43 = .ok (.istore 5, 2) := by decide +kernel
theorem dX7_best_45 : decode cX7_best 45 = .ok (.iload 5, 2) := by decide +kernel
theorem dX7_best_47 : decode cX7_best 47 = .ok (.aload_n 0, 1) := by decide +kernel
theorem dX7_best_48 : decode cX7_best 48 = .ok (.getfield 9, 3) := by decide +kernel
theorem dX7_best_51 : decode cX7_best 51 = .ok (.iload_n 1, 1) := by decide +kernel
theorem dX7_best_52 : decode cX7_best 52 = .ok (.iaload, 1) := by decide +kernel
theorem dX7_best_53 : decode cX7_best 53 = .ok (.if_icmp .ge 54, 3) := by decide +kernel
theorem dX7_best_56 : decode cX7_best 56 = .ok (.aload_n 0, 1) := by decide +kernel
theorem dX7_best_57 : decode cX7_best 57 = .ok (.getfield 82, 3) := by decide +kernel
theorem dX7_best_60 : decode cX7_best 60 = .ok (.iload 5, 2) := by decide +kernel
theorem dX7_best_62 : decode cX7_best 62 = .ok (.aload_n 0, 1) := by decide +kernel
theorem dX7_best_63 : decode cX7_best 63 = .ok (.getfield 30, 3) := by decide +kernel
theorem dX7_best_66 : decode cX7_best 66 = .ok (.bipush 6, 2) := by decide +kernel
theorem dX7_best_68 : decode cX7_best 68 = .ok (.iload_n 1, 1) := by decide +kernel
theorem dX7_best_69 : decode cX7_best 69 = .ok (.imul, 1) := by decide +kernel
theorem dX7_best_70 : decode cX7_best 70 = .ok (.iload 5, 2) := by decide +kernel
theorem dX7_best_72 : decode cX7_best 72 = .ok (.iadd, 1) := by decide +kernel
theorem dX7_best_73 : decode cX7_best 73 = .ok (.iaload, 1) := by decide +kernel
theorem dX7_best_74 : decode cX7_best 74 = .ok (.iastore, 1) := by decide +kernel
theorem dX7_best_75 : decode cX7_best 75 = .ok (.iload 4, 2) := by decide +kernel
theorem dX7_best_77 : decode cX7_best 77 = .ok (.aload_n 0, 1) := by decide +kernel
theorem dX7_best_78 : decode cX7_best 78 = .ok (.getfield 27, 3) := by decide +kernel
theorem dX7_best_81 : decode cX7_best 81 = .ok (.bipush 6, 2) := by decide +kernel
theorem dX7_best_83 : decode cX7_best 83 = .ok (.iload_n 1, 1) := by decide +kernel
theorem dX7_best_84 : decode cX7_best 84 = .ok (.imul, 1) := by decide +kernel
theorem dX7_best_85 : decode cX7_best 85 = .ok (.iload 5, 2) := by decide +kernel
theorem dX7_best_87 : decode cX7_best 87 = .ok (.iadd, 1) := by decide +kernel
theorem dX7_best_88 : decode cX7_best 88 = .ok (.iaload, 1) := by decide +kernel
theorem dX7_best_89 : decode cX7_best 89 = .ok (.iconst 3, 1) := by decide +kernel
theorem dX7_best_90 : decode cX7_best 90 = .ok (.if_icmp .ne 7, 3) := by decide +kernel
theorem dX7_best_93 : decode cX7_best 93 = .ok (.iconst 4, 1) := by decide +kernel
theorem dX7_best_94 : decode cX7_best 94 = .ok (.goto 4, 3) := by decide +kernel
theorem dX7_best_97 : decode cX7_best 97 = .ok (.iconst 1, 1) := by decide +kernel
theorem dX7_best_98 : decode cX7_best 98 = .ok (.imul, 1) := by decide +kernel
theorem dX7_best_99 : decode cX7_best 99 = .ok (.istore 4, 2) := by decide +kernel
theorem dX7_best_101 : decode cX7_best 101 = .ok (.iinc 5 1, 3) := by decide +kernel
theorem dX7_best_104 : decode cX7_best 104 = .ok (.goto (-59), 3) := by decide +kernel
theorem dX7_best_107 : decode cX7_best 107 = .ok (.iconst (-1), 1) := by decide +kernel
theorem dX7_best_108 : decode cX7_best 108 = .ok (.istore 5, 2) := by decide +kernel
theorem dX7_best_110 : decode cX7_best 110 = .ok (.iconst 0, 1) := by decide +kernel
theorem dX7_best_111 : decode cX7_best 111 = .ok (.istore 6, 2) := by decide +kernel
theorem dX7_best_113 : decode cX7_best 113 = .ok (.iload 6, 2) := by decide +kernel
theorem dX7_best_115 : decode cX7_best 115 = .ok (.iload 4, 2) := by decide +kernel
theorem dX7_best_117 : decode cX7_best 117 = .ok (.if_icmp .ge 89, 3) := by decide +kernel
theorem dX7_best_120 : decode cX7_best 120 = .ok (.aload_n 0, 1) := by decide +kernel
theorem dX7_best_121 : decode cX7_best 121 = .ok (.iload_n 1, 1) := by decide +kernel
theorem dX7_best_122 : decode cX7_best 122 = .ok (.iload 6, 2) := by decide +kernel
theorem dX7_best_124 : decode cX7_best 124 = .ok (.iload 4, 2) := by decide +kernel
theorem dX7_best_126 : decode cX7_best 126 = .ok (.invokevirtual 214, 3) := by decide +kernel
theorem dX7_best_129 : decode cX7_best 129 = .ok (.istore 7, 2) := by decide +kernel
theorem dX7_best_131 : decode cX7_best 131 = .ok (.iload 5, 2) := by decide +kernel
theorem dX7_best_133 : decode cX7_best 133 = .ok (.iconst (-1), 1) := by decide +kernel
theorem dX7_best_134 : decode cX7_best 134 = .ok (.if_icmp .eq 10, 3) := by decide +kernel
theorem dX7_best_137 : decode cX7_best 137 = .ok (.iload 7, 2) := by decide +kernel
theorem dX7_best_139 : decode cX7_best 139 = .ok (.iload 5, 2) := by decide +kernel
theorem dX7_best_141 : decode cX7_best 141 = .ok (.if_icmp .ge 59, 3) := by decide +kernel
theorem dX7_best_144 : decode cX7_best 144 = .ok (.aload_n 0, 1) := by decide +kernel
theorem dX7_best_145 : decode cX7_best 145 = .ok (.iload_n 1, 1) := by decide +kernel
theorem dX7_best_146 : decode cX7_best 146 = .ok (.iload_n 2, 1) := by decide +kernel
theorem dX7_best_147 : decode cX7_best 147 = .ok (.invokevirtual 205, 3) := by decide +kernel
theorem dX7_best_150 : decode cX7_best 150 = .ok (.iload_n 3, 1) := by decide +kernel
theorem dX7_best_151 : decode cX7_best 151 = .ok (.if_icmp .ge 6, 3) := by decide +kernel
theorem dX7_best_154 : decode cX7_best 154 = .ok (.goto 46, 3) := by decide +kernel
theorem dX7_best_157 : decode cX7_best 157 = .ok (.iload 7, 2) := by decide +kernel
theorem dX7_best_159 : decode cX7_best 159 = .ok (.istore 5, 2) := by decide +kernel
theorem dX7_best_161 : decode cX7_best 161 = .ok (.iconst 0, 1) := by decide +kernel
theorem dX7_best_162 : decode cX7_best 162 = .ok (.istore 8, 2) := by decide +kernel
theorem dX7_best_164 : decode cX7_best 164 = .ok (.iload 8, 2) := by decide +kernel
theorem dX7_best_166 : decode cX7_best 166 = .ok (.aload_n 0, 1) := by decide +kernel
theorem dX7_best_167 : decode cX7_best 167 = .ok (.getfield 9, 3) := by decide +kernel
theorem dX7_best_170 : decode cX7_best 170 = .ok (.iload_n 1, 1) := by decide +kernel
theorem dX7_best_171 : decode cX7_best 171 = .ok (.iaload, 1) := by decide +kernel
theorem dX7_best_172 : decode cX7_best 172 = .ok (.if_icmp .ge 28, 3) := by decide +kernel
theorem dX7_best_175 : decode cX7_best 175 = .ok (.aload_n 0, 1) := by decide +kernel
theorem dX7_best_176 : decode cX7_best 176 = .ok (.getfield 85, 3) := by decide +kernel
theorem dX7_best_179 : decode cX7_best 179 = .ok (.iload 8, 2) := by decide +kernel
theorem dX7_best_181 : decode cX7_best 181 = .ok (.aload_n 0, 1) := by decide +kernel
theorem dX7_best_182 : decode cX7_best 182 = .ok (.getfield 30, 3) := by decide +kernel
theorem dX7_best_185 : decode cX7_best 185 = .ok (.bipush 6, 2) := by decide +kernel
theorem dX7_best_187 : decode cX7_best 187 = .ok (.iload_n 1, 1) := by decide +kernel
theorem dX7_best_188 : decode cX7_best 188 = .ok (.imul, 1) := by decide +kernel
theorem dX7_best_189 : decode cX7_best 189 = .ok (.iload 8, 2) := by decide +kernel
theorem dX7_best_191 : decode cX7_best 191 = .ok (.iadd, 1) := by decide +kernel
theorem dX7_best_192 : decode cX7_best 192 = .ok (.iaload, 1) := by decide +kernel
theorem dX7_best_193 : decode cX7_best 193 = .ok (.iastore, 1) := by decide +kernel
theorem dX7_best_194 : decode cX7_best 194 = .ok (.iinc 8 1, 3) := by decide +kernel
theorem dX7_best_197 : decode cX7_best 197 = .ok (.goto (-33), 3) := by decide +kernel
theorem dX7_best_200 : decode cX7_best 200 = .ok (.iinc 6 1, 3) := by decide +kernel
theorem dX7_best_203 : decode cX7_best 203 = .ok (.goto (-90), 3) := by decide +kernel
theorem dX7_best_206 : decode cX7_best 206 = .ok (.iconst 0, 1) := by decide +kernel
theorem dX7_best_207 : decode cX7_best 207 = .ok (.istore 6, 2) := by decide +kernel
theorem dX7_best_209 : decode cX7_best 209 = .ok (.iload 6, 2) := by decide +kernel
theorem dX7_best_211 : decode cX7_best 211 = .ok (.aload_n 0, 1) := by decide +kernel
theorem dX7_best_212 : decode cX7_best 212 = .ok (.getfield 9, 3) := by decide +kernel
theorem dX7_best_215 : decode cX7_best 215 = .ok (.iload_n 1, 1) := by decide +kernel
theorem dX7_best_216 : decode cX7_best 216 = .ok (.iaload, 1) := by decide +kernel
theorem dX7_best_217 : decode cX7_best 217 = .ok (.if_icmp .ge 44, 3) := by decide +kernel
theorem dX7_best_220 : decode cX7_best 220 = .ok (.aload_n 0, 1) := by decide +kernel
theorem dX7_best_221 : decode cX7_best 221 = .ok (.getfield 30, 3) := by decide +kernel
theorem dX7_best_224 : decode cX7_best 224 = .ok (.bipush 6, 2) := by decide +kernel
theorem dX7_best_226 : decode cX7_best 226 = .ok (.iload_n 1, 1) := by decide +kernel
theorem dX7_best_227 : decode cX7_best 227 = .ok (.imul, 1) := by decide +kernel
theorem dX7_best_228 : decode cX7_best 228 = .ok (.iload 6, 2) := by decide +kernel
theorem dX7_best_230 : decode cX7_best 230 = .ok (.iadd, 1) := by decide +kernel
theorem dX7_best_231 : decode cX7_best 231 = .ok (.iload 5, 2) := by decide +kernel
theorem dX7_best_233 : decode cX7_best 233 = .ok (.iconst (-1), 1) := by decide +kernel
theorem dX7_best_234 : decode cX7_best 234 = .ok (.if_icmp .ne 13, 3) := by decide +kernel
theorem dX7_best_237 : decode cX7_best 237 = .ok (.aload_n 0, 1) := by decide +kernel
theorem dX7_best_238 : decode cX7_best 238 = .ok (.getfield 82, 3) := by decide +kernel
theorem dX7_best_241 : decode cX7_best 241 = .ok (.iload 6, 2) := by decide +kernel
theorem dX7_best_243 : decode cX7_best 243 = .ok (.iaload, 1) := by decide +kernel
theorem dX7_best_244 : decode cX7_best 244 = .ok (.goto 10, 3) := by decide +kernel
theorem dX7_best_247 : decode cX7_best 247 = .ok (.aload_n 0, 1) := by decide +kernel
theorem dX7_best_248 : decode cX7_best 248 = .ok (.getfield 85, 3) := by decide +kernel
theorem dX7_best_251 : decode cX7_best 251 = .ok (.iload 6, 2) := by decide +kernel
theorem dX7_best_253 : decode cX7_best 253 = .ok (.iaload, 1) := by decide +kernel
theorem dX7_best_254 : decode cX7_best 254 = .ok (.iastore, 1) := by decide +kernel
theorem dX7_best_255 : decode cX7_best 255 = .ok (.iinc 6 1, 3) := by decide +kernel
theorem dX7_best_258 : decode cX7_best 258 = .ok (.goto (-49), 3) := by decide +kernel
theorem dX7_best_261 : decode cX7_best 261 = .ok (.iload 5, 2) := by decide +kernel
theorem dX7_best_263 : decode cX7_best 263 = .ok (.iconst (-1), 1) := by decide +kernel
theorem dX7_best_264 : decode cX7_best 264 = .ok (.if_icmp .ne 8, 3) := by decide +kernel
theorem dX7_best_267 : decode cX7_best 267 = .ok (.bipush (-3), 2) := by decide +kernel
theorem dX7_best_269 : decode cX7_best 269 = .ok (.goto 5, 3) := by decide +kernel
theorem dX7_best_272 : decode cX7_best 272 = .ok (.iload 5, 2) := by decide +kernel
theorem dX7_best_274 : decode cX7_best 274 = .ok (.ireturn, 1) := by decide +kernel
theorem dX7_about_0 : decode cX7_about 0 = .ok (.aload_n 0, 1) := by decide +kernel
theorem dX7_about_1 : decode cX7_about 1 = .ok (.iload_n 1, 1) := by decide +kernel
theorem dX7_about_2 : decode cX7_about 2 = .ok (.iload_n 2, 1) := by decide +kernel
theorem dX7_about_3 : decode cX7_about 3 = .ok (.invokevirtual 131, 3) := by decide +kernel
theorem dX7_about_6 : decode cX7_about 6 = .ok (.ifCond .eq 13, 3) := by decide +kernel
theorem dX7_about_9 : decode cX7_about 9 = .ok (.iload_n 3, 1) := by decide +kernel
theorem dX7_about_10 : decode cX7_about 10 = .ok (.bipush 10, 2) := by decide +kernel
theorem dX7_about_12 : decode cX7_about 12 = .ok (.if_icmp .ge 9, 3) := by decide +kernel
theorem dX7_about_15 : decode cX7_about 15 = .ok (.iload_n 2, 1) := by decide +kernel
theorem dX7_about_16 : decode cX7_about 16 = .ok (.ifCond .eq 5, 3) := by decide +kernel
theorem dX7_about_19 : decode cX7_about 19 = .ok (.iconst (-1), 1) := by decide +kernel
theorem dX7_about_20 : decode cX7_about 20 = .ok (.ireturn, 1) := by decide +kernel
theorem dX7_about_21 : decode cX7_about 21 = .ok (.bipush 6, 2) := by decide +kernel
theorem dX7_about_23 : decode cX7_about 23 = .ok (.iload_n 1, 1) := by decide +kernel
theorem dX7_about_24 : decode cX7_about 24 = .ok (.imul, 1) := by decide +kernel
theorem dX7_about_25 : decode cX7_about 25 = .ok (.iload_n 2, 1) := by decide +kernel
theorem dX7_about_26 : decode cX7_about 26 = .ok (.iadd, 1) := by decide +kernel
theorem dX7_about_27 : decode cX7_about 27 = .ok (.istore 4, 2) := by decide +kernel
theorem dX7_about_29 : decode cX7_about 29 = .ok (.iload_n 3, 1) := by decide +kernel
theorem dX7_about_30 : decode cX7_about 30 = .ok (.tableswitch 138 0 13 #[70, 77, 84, 138, 138, 138, 138, 138, 138, 138, 91, 99, 122, 130], 70) := by decide +kernel
theorem dX7_about_100 : decode cX7_about 100 = .ok (.aload_n 0, 1) := by decide +kernel
theorem dX7_about_101 : decode cX7_about 101 = .ok (.getfield 9, 3) := by decide +kernel
theorem dX7_about_104 : decode cX7_about 104 = .ok (.iload_n 1, 1) := by decide +kernel
theorem dX7_about_105 : decode cX7_about 105 = .ok (.iaload, 1) := by decide +kernel
theorem dX7_about_106 : decode cX7_about 106 = .ok (.ireturn, 1) := by decide +kernel
theorem dX7_about_107 : decode cX7_about 107 = .ok (.aload_n 0, 1) := by decide +kernel
theorem dX7_about_108 : decode cX7_about 108 = .ok (.getfield 15, 3) := by decide +kernel
theorem dX7_about_111 : decode cX7_about 111 = .ok (.iload_n 1, 1) := by decide +kernel
theorem dX7_about_112 : decode cX7_about 112 = .ok (.iaload, 1) := by decide +kernel
theorem dX7_about_113 : decode cX7_about 113 = .ok (.ireturn, 1) := by decide +kernel
theorem dX7_about_114 : decode cX7_about 114 = .ok (.aload_n 0, 1) := by decide +kernel
theorem dX7_about_115 : decode cX7_about 115 = .ok (.getfield 18, 3) := by decide +kernel
theorem dX7_about_118 : decode cX7_about 118 = .ok (.iload_n 1, 1) := by decide +kernel
theorem dX7_about_119 : decode cX7_about 119 = .ok (.iaload, 1) := by decide +kernel
theorem dX7_about_120 : decode cX7_about 120 = .ok (.ireturn, 1) := by decide +kernel
theorem dX7_about_121 : decode cX7_about 121 = .ok (.aload_n 0, 1) := by decide +kernel
theorem dX7_about_122 : decode cX7_about 122 = .ok (.getfield 21, 3) := by decide +kernel
theorem dX7_about_125 : decode cX7_about 125 = .ok (.iload 4, 2) := by decide +kernel
theorem dX7_about_127 : decode cX7_about 127 = .ok (.iaload, 1) := by decide +kernel
theorem dX7_about_128 : decode cX7_about 128 = .ok (.ireturn, 1) := by decide +kernel
theorem dX7_about_129 : decode cX7_about 129 = .ok (.aload_n 0, 1) := by decide +kernel
theorem dX7_about_130 : decode cX7_about 130 = .ok (.getfield 21, 3) := by decide +kernel
theorem dX7_about_133 : decode cX7_about 133 = .ok (.iload 4, 2) := by decide +kernel
theorem dX7_about_135 : decode cX7_about 135 = .ok (.iaload, 1) := by decide +kernel
theorem dX7_about_136 : decode cX7_about 136 = .ok (.iconst 1, 1) := by decide +kernel
theorem dX7_about_137 : decode cX7_about 137 = .ok (.if_icmp .ne 13, 3) := by decide +kernel
theorem dX7_about_140 : decode cX7_about 140 = .ok (.aload_n 0, 1) := by decide +kernel
theorem dX7_about_141 : decode cX7_about 141 = .ok (.getfield 24, 3) := by decide +kernel
theorem dX7_about_144 : decode cX7_about 144 = .ok (.iload 4, 2) := by decide +kernel
theorem dX7_about_146 : decode cX7_about 146 = .ok (.iaload, 1) := by decide +kernel
theorem dX7_about_147 : decode cX7_about 147 = .ok (.goto 4, 3) := by decide +kernel
theorem dX7_about_150 : decode cX7_about 150 = .ok (.iconst (-1), 1) := by decide +kernel
theorem dX7_about_151 : decode cX7_about 151 = .ok (.ireturn, 1) := by decide +kernel
theorem dX7_about_152 : decode cX7_about 152 = .ok (.aload_n 0, 1) := by decide +kernel
theorem dX7_about_153 : decode cX7_about 153 = .ok (.getfield 27, 3) := by decide +kernel
theorem dX7_about_156 : decode cX7_about 156 = .ok (.iload 4, 2) := by decide +kernel
theorem dX7_about_158 : decode cX7_about 158 = .ok (.iaload, 1) := by decide +kernel
theorem dX7_about_159 : decode cX7_about 159 = .ok (.ireturn, 1) := by decide +kernel
theorem dX7_about_160 : decode cX7_about 160 = .ok (.aload_n 0, 1) := by decide +kernel
theorem dX7_about_161 : decode cX7_about 161 = .ok (.getfield 30, 3) := by decide +kernel
theorem dX7_about_164 : decode cX7_about 164 = .ok (.iload 4, 2) := by decide +kernel
theorem dX7_about_166 : decode cX7_about 166 = .ok (.iaload, 1) := by decide +kernel
theorem dX7_about_167 : decode cX7_about 167 = .ok (.ireturn, 1) := by decide +kernel
theorem dX7_about_168 : decode cX7_about 168 = .ok (.iconst (-1), 1) := by decide +kernel
theorem dX7_about_169 : decode cX7_about 169 = .ok (.ireturn, 1) := by decide +kernel
theorem dX7_all_0 : decode cX7_all 0 = .ok (.iload_n 1, 1) := by decide +kernel
theorem dX7_all_1 : decode cX7_all 1 = .ok (.tableswitch 68 0 4 #[35, 40, 45, 50, 55], 35) := by decide +kernel
theorem dX7_all_36 : decode cX7_all 36 = .ok (.aload_n 0, 1) := by decide +kernel
theorem dX7_all_37 : decode cX7_all 37 = .ok (.getfield 92, 3) := by decide +kernel
theorem dX7_all_40 : decode cX7_all 40 = .ok (.ireturn, 1) := by decide +kernel
theorem dX7_all_41 : decode cX7_all 41 = .ok (.aload_n 0, 1) := by decide +kernel
theorem dX7_all_42 : decode cX7_all 42 = .ok (.getfield 162, 3) := by decide +kernel
theorem dX7_all_45 : decode cX7_all 45 = .ok (.ireturn, 1) := by decide +kernel
theorem dX7_all_46 : decode cX7_all 46 = .ok (.aload_n 0, 1) := by decide +kernel
theorem dX7_all_47 : decode cX7_all 47 = .ok (.getfield 116, 3) := by decide +kernel
theorem dX7_all_50 : decode cX7_all 50 = .ok (.ireturn, 1) := by decide +kernel
theorem dX7_all_51 : decode cX7_all 51 = .ok (.aload_n 0, 1) := by decide +kernel
theorem dX7_all_52 : decode cX7_all 52 = .ok (.getfield 137, 3) := by decide +kernel
theorem dX7_all_55 : decode cX7_all 55 = .ok (.ireturn, 1) := by decide +kernel
theorem dX7_all_56 : decode cX7_all 56 = .ok (.aload_n 0, 1) := by decide +kernel
theorem dX7_all_57 : decode cX7_all 57 = .ok (.getfield 112, 3) := by decide +kernel
theorem dX7_all_60 : decode cX7_all 60 = .ok (.ifCond .eq 7, 3) := by decide +kernel
theorem dX7_all_63 : decode cX7_all 63 = .ok (.iconst 1, 1) := by decide +kernel
theorem dX7_all_64 : decode cX7_all 64 = .ok (.goto 4, 3) := by decide +kernel
theorem dX7_all_67 : decode cX7_all 67 = .ok (.iconst 0, 1) := by decide +kernel
theorem dX7_all_68 : decode cX7_all 68 = .ok (.ireturn, 1) := by decide +kernel
theorem dX7_all_69 : decode cX7_all 69 = .ok (.iconst (-1), 1) := by decide +kernel
theorem dX7_all_70 : decode cX7_all 70 = .ok (.ireturn, 1) := by decide +kernel
theorem dJ6_bitCount_0f7a4_0 : decode cJ6_bitCount_0f7a4 0 = .ok (.iload_n 0, 1) := by decide +kernel
theorem dJ6_bitCount_0f7a4_1 : decode cJ6_bitCount_0f7a4 1 = .ok (.iload_n 0, 1) := by decide +kernel
theorem dJ6_bitCount_0f7a4_2 : decode cJ6_bitCount_0f7a4 2 = .ok (.iconst 1, 1) := by decide +kernel
theorem dJ6_bitCount_0f7a4_3 : decode cJ6_bitCount_0f7a4 3 = .ok (.iushr, 1) := by decide +kernel
theorem dJ6_bitCount_0f7a4_4 : decode cJ6_bitCount_0f7a4 4 = .ok (.ldc_w 265, 3) := by decide +kernel
theorem dJ6_bitCount_0f7a4_7 : decode cJ6_bitCount_0f7a4 7 = .ok (.iand, 1) := by decide +kernel
theorem dJ6_bitCount_0f7a4_8 : decode cJ6_bitCount_0f7a4 8 = .ok (.isub, 1) := by decide +kernel
theorem dJ6_bitCount_0f7a4_9 : decode cJ6_bitCount_0f7a4 9 = .ok (.istore_n 0, 1) := by decide +kernel
theorem dJ6_bitCount_0f7a4_10 : decode cJ6_bitCount_0f7a4 10 = .ok (.iload_n 0, 1) := by decide +kernel
theorem dJ6_bitCount_0f7a4_11 : decode cJ6_bitCount_0f7a4 11 = .ok (.ldc_w 266, 3) := by decide +kernel
theorem dJ6_bitCount_0f7a4_14 : decode cJ6_bitCount_0f7a4 14 = .ok (.iand, 1) := by decide +kernel
theorem dJ6_bitCount_0f7a4_15 : decode cJ6_bitCount_0f7a4 15 = .ok (.iload_n 0, 1) := by decide +kernel
theorem dJ6_bitCount_0f7a4_16 : decode cJ6_bitCount_0f7a4 16 = .ok (.iconst 2, 1) := by decide +kernel
theorem dJ6_bitCount_0f7a4_17 : decode cJ6_bitCount_0f7a4 17 = .ok (.iushr, 1) := by decide +kernel
theorem dJ6_bitCount_0f7a4_18 : decode cJ6_bitCount_0f7a4 18 = .ok (.ldc_w 266, 3) := by decide +kernel
theorem dJ6_bitCount_0f7a4_21 : decode cJ6_bitCount_0f7a4 21 = .ok (.iand, 1) := by decide +kernel
theorem dJ6_bitCount_0f7a4_22 : decode cJ6_bitCount_0f7a4 22 = .ok (.iadd, 1) := by decide +kernel
theorem dJ6_bitCount_0f7a4_23 : decode cJ6_bitCount_0f7a4 23 = .ok (.istore_n 0, 1) := by decide +kernel
theorem dJ6_bitCount_0f7a4_24 : decode cJ6_bitCount_0f7a4 24 = .ok (.iload_n 0, 1) := by decide +kernel
theorem dJ6_bitCount_0f7a4_25 : decode cJ6_bitCount_0f7a4 25 = .ok (.iload_n 0, 1) := by decide +kernel
theorem dJ6_bitCount_0f7a4_26 : decode cJ6_bitCount_0f7a4 26 = .ok (.iconst 4, 1) := by decide +kernel
theorem dJ6_bitCount_0f7a4_27 : decode cJ6_bitCount_0f7a4 27 = .ok (.iushr, 1) := by decide +kernel
theorem dJ6_bitCount_0f7a4_28 : decode cJ6_bitCount_0f7a4 28 = .ok (.iadd, 1) := by decide +kernel
theorem dJ6_bitCount_0f7a4_29 : decode cJ6_bitCount_0f7a4 29 = .ok (.ldc_w 267, 3) := by decide +kernel
theorem dJ6_bitCount_0f7a4_32 : decode cJ6_bitCount_0f7a4 32 = .ok (.iand, 1) := by decide +kernel
theorem dJ6_bitCount_0f7a4_33 : decode cJ6_bitCount_0f7a4 33 = .ok (.istore_n 0, 1) := by decide +kernel
theorem dJ6_bitCount_0f7a4_34 : decode cJ6_bitCount_0f7a4 34 = .ok (.iload_n 0, 1) := by decide +kernel
theorem dJ6_bitCount_0f7a4_35 : decode cJ6_bitCount_0f7a4 35 = .ok (.iload_n 0, 1) := by decide +kernel
theorem dJ6_bitCount_0f7a4_36 : decode cJ6_bitCount_0f7a4 36 = .ok (.bipush 8, 2) := by decide +kernel
theorem dJ6_bitCount_0f7a4_38 : decode cJ6_bitCount_0f7a4 38 = .ok (.iushr, 1) := by decide +kernel
theorem dJ6_bitCount_0f7a4_39 : decode cJ6_bitCount_0f7a4 39 = .ok (.iadd, 1) := by decide +kernel
theorem dJ6_bitCount_0f7a4_40 : decode cJ6_bitCount_0f7a4 40 = .ok (.istore_n 0, 1) := by decide +kernel
theorem dJ6_bitCount_0f7a4_41 : decode cJ6_bitCount_0f7a4 41 = .ok (.iload_n 0, 1) := by decide +kernel
theorem dJ6_bitCount_0f7a4_42 : decode cJ6_bitCount_0f7a4 42 = .ok (.iload_n 0, 1) := by decide +kernel
theorem dJ6_bitCount_0f7a4_43 : decode cJ6_bitCount_0f7a4 43 = .ok (.bipush 16, 2) := by decide +kernel
theorem dJ6_bitCount_0f7a4_45 : decode cJ6_bitCount_0f7a4 45 = .ok (.iushr, 1) := by decide +kernel
theorem dJ6_bitCount_0f7a4_46 : decode cJ6_bitCount_0f7a4 46 = .ok (.iadd, 1) := by decide +kernel
theorem dJ6_bitCount_0f7a4_47 : decode cJ6_bitCount_0f7a4 47 = .ok (.istore_n 0, 1) := by decide +kernel
theorem dJ6_bitCount_0f7a4_48 : decode cJ6_bitCount_0f7a4 48 = .ok (.iload_n 0, 1) := by decide +kernel
theorem dJ6_bitCount_0f7a4_49 : decode cJ6_bitCount_0f7a4 49 = .ok (.bipush 63, 2) := by decide +kernel
theorem dJ6_bitCount_0f7a4_51 : decode cJ6_bitCount_0f7a4 51 = .ok (.iand, 1) := by decide +kernel
theorem dJ6_bitCount_0f7a4_52 : decode cJ6_bitCount_0f7a4 52 = .ok (.ireturn, 1) := by decide +kernel
theorem dJ9_floorMod_7cf53_0 : decode cJ9_floorMod_7cf53 0 = .ok (.iload_n 0, 1) := by decide +kernel
theorem dJ9_floorMod_7cf53_1 : decode cJ9_floorMod_7cf53 1 = .ok (.iload_n 1, 1) := by decide +kernel
theorem dJ9_floorMod_7cf53_2 : decode cJ9_floorMod_7cf53 2 = .ok (.irem, 1) := by decide +kernel
theorem dJ9_floorMod_7cf53_3 : decode cJ9_floorMod_7cf53 3 = .ok (.istore_n 2, 1) := by decide +kernel
theorem dJ9_floorMod_7cf53_4 : decode cJ9_floorMod_7cf53 4 = .ok (.iload_n 0, 1) := by decide +kernel
theorem dJ9_floorMod_7cf53_5 : decode cJ9_floorMod_7cf53 5 = .ok (.iload_n 1, 1) := by decide +kernel
theorem dJ9_floorMod_7cf53_6 : decode cJ9_floorMod_7cf53 6 = .ok (.ixor, 1) := by decide +kernel
theorem dJ9_floorMod_7cf53_7 : decode cJ9_floorMod_7cf53 7 = .ok (.ifCond .ge 11, 3) := by decide +kernel
theorem dJ9_floorMod_7cf53_10 : decode cJ9_floorMod_7cf53 10 = .ok (.iload_n 2, 1) := by decide +kernel
theorem dJ9_floorMod_7cf53_11 : decode cJ9_floorMod_7cf53 11 = .ok (.ifCond .eq 7, 3) := by decide +kernel
theorem dJ9_floorMod_7cf53_14 : decode cJ9_floorMod_7cf53 14 = .ok (.iload_n 2, 1) := by decide +kernel
theorem dJ9_floorMod_7cf53_15 : decode cJ9_floorMod_7cf53 15 = .ok (.iload_n 1, 1) := by decide +kernel
theorem dJ9_floorMod_7cf53_16 : decode cJ9_floorMod_7cf53 16 = .ok (.iadd, 1) := by decide +kernel
theorem dJ9_floorMod_7cf53_17 : decode cJ9_floorMod_7cf53 17 = .ok (.ireturn, 1) := by decide +kernel
theorem dJ9_floorMod_7cf53_18 : decode cJ9_floorMod_7cf53 18 = .ok (.iload_n 2, 1) := by decide +kernel
theorem dJ9_floorMod_7cf53_19 : decode cJ9_floorMod_7cf53 19 = .ok (.ireturn, 1) := by decide +kernel
theorem dJ9_abs_0f7a4_0 : decode cJ9_abs_0f7a4 0 = .ok (.iload_n 0, 1) := by decide +kernel
theorem dJ9_abs_0f7a4_1 : decode cJ9_abs_0f7a4 1 = .ok (.ifCond .ge 8, 3) := by decide +kernel
theorem dJ9_abs_0f7a4_4 : decode cJ9_abs_0f7a4 4 = .ok (.iload_n 0, 1) := by decide +kernel
theorem dJ9_abs_0f7a4_5 : decode cJ9_abs_0f7a4 5 = .ok (.ineg, 1) := by decide +kernel
theorem dJ9_abs_0f7a4_6 : decode cJ9_abs_0f7a4 6 = .ok (.goto 4, 3) := by decide +kernel
theorem dJ9_abs_0f7a4_9 : decode cJ9_abs_0f7a4 9 = .ok (.iload_n 0, 1) := by decide +kernel
theorem dJ9_abs_0f7a4_10 : decode cJ9_abs_0f7a4 10 = .ok (.ireturn, 1) := by decide +kernel
theorem dJ9_min_7cf53_0 : decode cJ9_min_7cf53 0 = .ok (.iload_n 0, 1) := by decide +kernel
theorem dJ9_min_7cf53_1 : decode cJ9_min_7cf53 1 = .ok (.iload_n 1, 1) := by decide +kernel
theorem dJ9_min_7cf53_2 : decode cJ9_min_7cf53 2 = .ok (.if_icmp .gt 7, 3) := by decide +kernel
theorem dJ9_min_7cf53_5 : decode cJ9_min_7cf53 5 = .ok (.iload_n 0, 1) := by decide +kernel
theorem dJ9_min_7cf53_6 : decode cJ9_min_7cf53 6 = .ok (.goto 4, 3) := by decide +kernel
theorem dJ9_min_7cf53_9 : decode cJ9_min_7cf53 9 = .ok (.iload_n 1, 1) := by decide +kernel
theorem dJ9_min_7cf53_10 : decode cJ9_min_7cf53 10 = .ok (.ireturn, 1) := by decide +kernel
theorem dL_law_0 : decode cL_law 0 = .ok (.new 7, 3) := by decide +kernel
theorem dL_law_3 : decode cL_law 3 = .ok (.dup, 1) := by decide +kernel
theorem dL_law_4 : decode cL_law 4 = .ok (.invokespecial 9, 3) := by decide +kernel
theorem dL_law_7 : decode cL_law 7 = .ok (.astore_n 1, 1) := by decide +kernel
theorem dL_law_8 : decode cL_law 8 = .ok (.new 10, 3) := by decide +kernel
theorem dL_law_11 : decode cL_law 11 = .ok (.dup, 1) := by decide +kernel
theorem dL_law_12 : decode cL_law 12 = .ok (.invokespecial 12, 3) := by decide +kernel
theorem dL_law_15 : decode cL_law 15 = .ok (.astore_n 2, 1) := by decide +kernel
theorem dL_law_16 : decode cL_law 16 = .ok (.iconst 0, 1) := by decide +kernel
theorem dL_law_17 : decode cL_law 17 = .ok (.istore_n 3, 1) := by decide +kernel
theorem dL_law_18 : decode cL_law 18 = .ok (.iload_n 3, 1) := by decide +kernel
theorem dL_law_19 : decode cL_law 19 = .ok (.aload_n 0, 1) := by decide +kernel
theorem dL_law_20 : decode cL_law 20 = .ok (.arraylength, 1) := by decide +kernel
theorem dL_law_21 : decode cL_law 21 = .ok (.bipush 7, 2) := by decide +kernel
theorem dL_law_23 : decode cL_law 23 = .ok (.isub, 1) := by decide +kernel
theorem dL_law_24 : decode cL_law 24 = .ok (.if_icmp .gt 1148, 3) := by decide +kernel
theorem dL_law_27 : decode cL_law 27 = .ok (.aload_n 0, 1) := by decide +kernel
theorem dL_law_28 : decode cL_law 28 = .ok (.iload_n 3, 1) := by decide +kernel
theorem dL_law_29 : decode cL_law 29 = .ok (.iaload, 1) := by decide +kernel
theorem dL_law_30 : decode cL_law 30 = .ok (.bipush 31, 2) := by decide +kernel
theorem dL_law_32 : decode cL_law 32 = .ok (.iand, 1) := by decide +kernel
theorem dL_law_33 : decode cL_law 33 = .ok (.tableswitch 1133 0 27 #[127, 140, 183, 206, 229, 242, 275, 328, 391, 414, 457, 532, 565, 578, 601, 614, 667, 710, 733, 786, 829, 862, 905, 938, 991, 1024, 1067, 1110], 127) := by decide +kernel
theorem dL_law_160 : decode cL_law 160 = .ok (.aload_n 1, 1) := by decide +kernel
theorem dL_law_161 : decode cL_law 161 = .ok (.invokevirtual 13, 3) := by decide +kernel
theorem dL_law_164 : decode cL_law 164 = .ok (.aload_n 2, 1) := by decide +kernel
theorem dL_law_165 : decode cL_law 165 = .ok (.invokevirtual 17, 3) := by decide +kernel
theorem dL_law_168 : decode cL_law 168 = .ok (.if_icmp .eq 998, 3) := by decide +kernel
theorem dL_law_171 : decode cL_law 171 = .ok (.iconst 0, 1) := by decide +kernel
theorem dL_law_172 : decode cL_law 172 = .ok (.ireturn, 1) := by decide +kernel
theorem dL_law_173 : decode cL_law 173 = .ok (.aload_n 1, 1) := by decide +kernel
theorem dL_law_174 : decode cL_law 174 = .ok (.aload_n 0, 1) := by decide +kernel
theorem dL_law_175 : decode cL_law 175 = .ok (.iload_n 3, 1) := by decide +kernel
theorem dL_law_176 : decode cL_law 176 = .ok (.iconst 1, 1) := by decide +kernel
theorem dL_law_177 : decode cL_law 177 = .ok (.iadd, 1) := by decide +kernel
theorem dL_law_178 : decode cL_law 178 = .ok (.iaload, 1) := by decide +kernel
theorem dL_law_179 : decode cL_law 179 = .ok (.aload_n 0, 1) := by decide +kernel
theorem dL_law_180 : decode cL_law 180 = .ok (.iload_n 3, 1) := by decide +kernel
theorem dL_law_181 : decode cL_law 181 = .ok (.iconst 2, 1) := by decide +kernel
theorem dL_law_182 : decode cL_law 182 = .ok (.iadd, 1) := by decide +kernel
theorem dL_law_183 : decode cL_law 183 = .ok (.iaload, 1) := by decide +kernel
theorem dL_law_184 : decode cL_law 184 = .ok (.aload_n 0, 1) := by decide +kernel
theorem dL_law_185 : decode cL_law 185 = .ok (.iload_n 3, 1) := by decide +kernel
theorem dL_law_186 : decode cL_law 186 = .ok (.iconst 3, 1) := by decide +kernel
theorem dL_law_187 : decode cL_law 187 = .ok (.iadd, 1) := by decide +kernel
theorem dL_law_188 : decode cL_law 188 = .ok (.iaload, 1) := by decide +kernel
theorem dL_law_189 : decode cL_law 189 = .ok (.invokevirtual 18, 3) := by decide +kernel
theorem dL_law_192 : decode cL_law 192 = .ok (.aload_n 2, 1) := by decide +kernel
theorem dL_law_193 : decode cL_law 193 = .ok (.aload_n 0, 1) := by decide +kernel
theorem dL_law_194 : decode cL_law 194 = .ok (.iload_n 3, 1) := by decide +kernel
theorem dL_law_195 : decode cL_law 195 = .ok (.iconst 1, 1) := by decide +kernel
theorem dL_law_196 : decode cL_law 196 = .ok (.iadd, 1) := by decide +kernel
theorem dL_law_197 : decode cL_law 197 = .ok (.iaload, 1) := by decide +kernel
theorem dL_law_198 : decode cL_law 198 = .ok (.aload_n 0, 1) := by decide +kernel
theorem dL_law_199 : decode cL_law 199 = .ok (.iload_n 3, 1) := by decide +kernel
theorem dL_law_200 : decode cL_law 200 = .ok (.iconst 2, 1) := by decide +kernel
theorem dL_law_201 : decode cL_law 201 = .ok (.iadd, 1) := by decide +kernel
theorem dL_law_202 : decode cL_law 202 = .ok (.iaload, 1) := by decide +kernel
theorem dL_law_203 : decode cL_law 203 = .ok (.aload_n 0, 1) := by decide +kernel
theorem dL_law_204 : decode cL_law 204 = .ok (.iload_n 3, 1) := by decide +kernel
theorem dL_law_205 : decode cL_law 205 = .ok (.iconst 3, 1) := by decide +kernel
theorem dL_law_206 : decode cL_law 206 = .ok (.iadd, 1) := by decide +kernel
theorem dL_law_207 : decode cL_law 207 = .ok (.iaload, 1) := by decide +kernel
theorem dL_law_208 : decode cL_law 208 = .ok (.invokevirtual 22, 3) := by decide +kernel
theorem dL_law_211 : decode cL_law 211 = .ok (.if_icmp .eq 955, 3) := by decide +kernel
theorem dL_law_214 : decode cL_law 214 = .ok (.iconst 0, 1) := by decide +kernel
theorem dL_law_215 : decode cL_law 215 = .ok (.ireturn, 1) := by decide +kernel
theorem dL_law_216 : decode cL_law 216 = .ok (.aload_n 1, 1) := by decide +kernel
theorem dL_law_217 : decode cL_law 217 = .ok (.aload_n 0, 1) := by decide +kernel
theorem dL_law_218 : decode cL_law 218 = .ok (.iload_n 3, 1) := by decide +kernel
theorem dL_law_219 : decode cL_law 219 = .ok (.iconst 1, 1) := by decide +kernel
theorem dL_law_220 : decode cL_law 220 = .ok (.iadd, 1) := by decide +kernel
theorem dL_law_221 : decode cL_law 221 = .ok (.iaload, 1) := by decide +kernel
theorem dL_law_222 : decode cL_law 222 = .ok (.invokevirtual 23, 3) := by decide +kernel
theorem dL_law_225 : decode cL_law 225 = .ok (.aload_n 2, 1) := by decide +kernel
theorem dL_law_226 : decode cL_law 226 = .ok (.aload_n 0, 1) := by decide +kernel
theorem dL_law_227 : decode cL_law 227 = .ok (.iload_n 3, 1) := by decide +kernel
theorem dL_law_228 : decode cL_law 228 = .ok (.iconst 1, 1) := by decide +kernel
theorem dL_law_229 : decode cL_law 229 = .ok (.iadd, 1) := by decide +kernel
theorem dL_law_230 : decode cL_law 230 = .ok (.iaload, 1) := by decide +kernel
theorem dL_law_231 : decode cL_law 231 = .ok (.invokevirtual 27, 3) := by decide +kernel
theorem dL_law_234 : decode cL_law 234 = .ok (.if_icmp .eq 932, 3) := by decide +kernel
theorem dL_law_237 : decode cL_law 237 = .ok (.iconst 0, 1) := by decide +kernel
theorem dL_law_238 : decode cL_law 238 = .ok (.ireturn, 1) := by decide +kernel
theorem dL_law_239 : decode cL_law 239 = .ok (.aload_n 1, 1) := by decide +kernel
theorem dL_law_240 : decode cL_law 240 = .ok (.aload_n 0, 1) := by decide +kernel
theorem dL_law_241 : decode cL_law 241 = .ok (.iload_n 3, 1) := by decide +kernel
theorem dL_law_242 : decode cL_law 242 = .ok (.iconst 1, 1) := by decide +kernel
theorem dL_law_243 : decode cL_law 243 = .ok (.iadd, 1) := by decide +kernel
theorem dL_law_244 : decode cL_law 244 = .ok (.iaload, 1) := by decide +kernel
theorem dL_law_245 : decode cL_law 245 = .ok (.invokevirtual 28, 3) := by decide +kernel
theorem dL_law_248 : decode cL_law 248 = .ok (.aload_n 2, 1) := by decide +kernel
theorem dL_law_249 : decode cL_law 249 = .ok (.aload_n 0, 1) := by decide +kernel
theorem dL_law_250 : decode cL_law 250 = .ok (.iload_n 3, 1) := by decide +kernel
theorem dL_law_251 : decode cL_law 251 = .ok (.iconst 1, 1) := by decide +kernel
theorem dL_law_252 : decode cL_law 252 = .ok (.iadd, 1) := by decide +kernel
theorem dL_law_253 : decode cL_law 253 = .ok (.iaload, 1) := by decide +kernel
theorem dL_law_254 : decode cL_law 254 = .ok (.invokevirtual 31, 3) := by decide +kernel
theorem dL_law_257 : decode cL_law 257 = .ok (.if_icmp .eq 909, 3) := by decide +kernel
theorem dL_law_260 : decode cL_law 260 = .ok (.iconst 0, 1) := by decide +kernel
theorem dL_law_261 : decode cL_law 261 = .ok (.ireturn, 1) := by decide +kernel
theorem dL_law_262 : decode cL_law 262 = .ok (.aload_n 1, 1) := by decide +kernel
theorem dL_law_263 : decode cL_law 263 = .ok (.invokevirtual 32, 3) := by decide +kernel
theorem dL_law_266 : decode cL_law 266 = .ok (.aload_n 2, 1) := by decide +kernel
theorem dL_law_267 : decode cL_law 267 = .ok (.invokevirtual 35, 3) := by decide +kernel
theorem dL_law_270 : decode cL_law 270 = .ok (.if_icmp .eq 896, 3) := by decide +kernel
theorem dL_law_273 : decode cL_law 273 = .ok (.iconst 0, 1) := by decide +kernel
theorem dL_law_274 : decode cL_law 274 = .ok (.ireturn, 1) := by decide +kernel
theorem dL_law_275 : decode cL_law 275 = .ok (.aload_n 1, 1) := by decide +kernel
theorem dL_law_276 : decode cL_law 276 = .ok (.aload_n 0, 1) := by decide +kernel
theorem dL_law_277 : decode cL_law 277 = .ok (.iload_n 3, 1) := by decide +kernel
theorem dL_law_278 : decode cL_law 278 = .ok (.iconst 1, 1) := by decide +kernel
theorem dL_law_279 : decode cL_law 279 = .ok (.iadd, 1) := by decide +kernel
theorem dL_law_280 : decode cL_law 280 = .ok (.iaload, 1) := by decide +kernel
theorem dL_law_281 : decode cL_law 281 = .ok (.aload_n 0, 1) := by decide +kernel
theorem dL_law_282 : decode cL_law 282 = .ok (.iload_n 3, 1) := by decide +kernel
theorem dL_law_283 : decode cL_law 283 = .ok (.iconst 2, 1) := by decide +kernel
theorem dL_law_284 : decode cL_law 284 = .ok (.iadd, 1) := by decide +kernel
theorem dL_law_285 : decode cL_law 285 = .ok (.iaload, 1) := by decide +kernel
theorem dL_law_286 : decode cL_law 286 = .ok (.invokevirtual 36, 3) := by decide +kernel
theorem dL_law_289 : decode cL_law 289 = .ok (.aload_n 2, 1) := by decide +kernel
theorem dL_law_290 : decode cL_law 290 = .ok (.aload_n 0, 1) := by decide +kernel
theorem dL_law_291 : decode cL_law 291 = .ok (.iload_n 3, 1) := by decide +kernel
theorem dL_law_292 : decode cL_law 292 = .ok (.iconst 1, 1) := by decide +kernel
theorem dL_law_293 : decode cL_law 293 = .ok (.iadd, 1) := by decide +kernel
theorem dL_law_294 : decode cL_law 294 = .ok (.iaload, 1) := by decide +kernel
theorem dL_law_295 : decode cL_law 295 = .ok (.aload_n 0, 1) := by decide +kernel
theorem dL_law_296 : decode cL_law 296 = .ok (.iload_n 3, 1) := by decide +kernel
theorem dL_law_297 : decode cL_law 297 = .ok (.iconst 2, 1) := by decide +kernel
theorem dL_law_298 : decode cL_law 298 = .ok (.iadd, 1) := by decide +kernel
theorem dL_law_299 : decode cL_law 299 = .ok (.iaload, 1) := by decide +kernel
theorem dL_law_300 : decode cL_law 300 = .ok (.invokevirtual 40, 3) := by decide +kernel
theorem dL_law_303 : decode cL_law 303 = .ok (.if_icmp .eq 863, 3) := by decide +kernel
theorem dL_law_306 : decode cL_law 306 = .ok (.iconst 0, 1) := by decide +kernel
theorem dL_law_307 : decode cL_law 307 = .ok (.ireturn, 1) := by decide +kernel
theorem dL_law_308 : decode cL_law 308 = .ok (.aload_n 1, 1) := by decide +kernel
theorem dL_law_309 : decode cL_law 309 = .ok (.aload_n 0, 1) := by decide +kernel
theorem dL_law_310 : decode cL_law 310 = .ok (.iload_n 3, 1) := by decide +kernel
theorem dL_law_311 : decode cL_law 311 = .ok (.iconst 1, 1) := by decide +kernel
theorem dL_law_312 : decode cL_law 312 = .ok (.iadd, 1) := by decide +kernel
theorem dL_law_313 : decode cL_law 313 = .ok (.iaload, 1) := by decide +kernel
theorem dL_law_314 : decode cL_law 314 = .ok (.aload_n 0, 1) := by decide +kernel
theorem dL_law_315 : decode cL_law 315 = .ok (.iload_n 3, 1) := by decide +kernel
theorem dL_law_316 : decode cL_law 316 = .ok (.iconst 2, 1) := by decide +kernel
theorem dL_law_317 : decode cL_law 317 = .ok (.iadd, 1) := by decide +kernel
theorem dL_law_318 : decode cL_law 318 = .ok (.iaload, 1) := by decide +kernel
theorem dL_law_319 : decode cL_law 319 = .ok (.aload_n 0, 1) := by decide +kernel
theorem dL_law_320 : decode cL_law 320 = .ok (.iload_n 3, 1) := by decide +kernel
theorem dL_law_321 : decode cL_law 321 = .ok (.iconst 3, 1) := by decide +kernel
theorem dL_law_322 : decode cL_law 322 = .ok (.iadd, 1) := by decide +kernel
theorem dL_law_323 : decode cL_law 323 = .ok (.iaload, 1) := by decide +kernel
theorem dL_law_324 : decode cL_law 324 = .ok (.aload_n 0, 1) := by decide +kernel
theorem dL_law_325 : decode cL_law 325 = .ok (.iload_n 3, 1) := by decide +kernel
theorem dL_law_326 : decode cL_law 326 = .ok (.iconst 4, 1) := by decide +kernel
theorem dL_law_327 : decode cL_law 327 = .ok (.iadd, 1) := by decide +kernel
theorem dL_law_328 : decode cL_law 328 = .ok (.iaload, 1) := by decide +kernel
theorem dL_law_329 : decode cL_law 329 = .ok (.invokevirtual 41, 3) := by decide +kernel
theorem dL_law_332 : decode cL_law 332 = .ok (.aload_n 2, 1) := by decide +kernel
theorem dL_law_333 : decode cL_law 333 = .ok (.aload_n 0, 1) := by decide +kernel
theorem dL_law_334 : decode cL_law 334 = .ok (.iload_n 3, 1) := by decide +kernel
theorem dL_law_335 : decode cL_law 335 = .ok (.iconst 1, 1) := by decide +kernel
theorem dL_law_336 : decode cL_law 336 = .ok (.iadd, 1) := by decide +kernel
theorem dL_law_337 : decode cL_law 337 = .ok (.iaload, 1) := by decide +kernel
theorem dL_law_338 : decode cL_law 338 = .ok (.aload_n 0, 1) := by decide +kernel
theorem dL_law_339 : decode cL_law 339 = .ok (.iload_n 3, 1) := by decide +kernel
theorem dL_law_340 : decode cL_law 340 = .ok (.iconst 2, 1) := by decide +kernel
theorem dL_law_341 : decode cL_law 341 = .ok (.iadd, 1) := by decide +kernel
theorem dL_law_342 : decode cL_law 342 = .ok (.iaload, 1) := by decide +kernel
theorem dL_law_343 : decode cL_law 343 = .ok (.aload_n 0, 1) := by decide +kernel
theorem dL_law_344 : decode cL_law 344 = .ok (.iload_n 3, 1) := by decide +kernel
theorem dL_law_345 : decode cL_law 345 = .ok (.iconst 3, 1) := by decide +kernel
theorem dL_law_346 : decode cL_law 346 = .ok (.iadd, 1) := by decide +kernel
theorem dL_law_347 : decode cL_law 347 = .ok (.iaload, 1) := by decide +kernel
theorem dL_law_348 : decode cL_law 348 = .ok (.aload_n 0, 1) := by decide +kernel
theorem dL_law_349 : decode cL_law 349 = .ok (.iload_n 3, 1) := by decide +kernel
theorem dL_law_350 : decode cL_law 350 = .ok (.iconst 4, 1) := by decide +kernel
theorem dL_law_351 : decode cL_law 351 = .ok (.iadd, 1) := by decide +kernel
theorem dL_law_352 : decode cL_law 352 = .ok (.iaload, 1) := by decide +kernel
theorem dL_law_353 : decode cL_law 353 = .ok (.invokevirtual 45, 3) := by decide +kernel
theorem dL_law_356 : decode cL_law 356 = .ok (.if_icmp .eq 810, 3) := by decide +kernel
theorem dL_law_359 : decode cL_law 359 = .ok (.iconst 0, 1) := by decide +kernel
theorem dL_law_360 : decode cL_law 360 = .ok (.ireturn, 1) := by decide +kernel
theorem dL_law_361 : decode cL_law 361 = .ok (.aload_n 1, 1) := by decide +kernel
theorem dL_law_362 : decode cL_law 362 = .ok (.aload_n 0, 1) := by decide +kernel
theorem dL_law_363 : decode cL_law 363 = .ok (.iload_n 3, 1) := by decide +kernel
theorem dL_law_364 : decode cL_law 364 = .ok (.iconst 1, 1) := by decide +kernel
theorem dL_law_365 : decode cL_law 365 = .ok (.iadd, 1) := by decide +kernel
theorem dL_law_366 : decode cL_law 366 = .ok (.iaload, 1) := by decide +kernel
theorem dL_law_367 : decode cL_law 367 = .ok (.aload_n 0, 1) := by decide +kernel
theorem dL_law_368 : decode cL_law 368 = .ok (.iload_n 3, 1) := by decide +kernel
theorem dL_law_369 : decode cL_law 369 = .ok (.iconst 2, 1) := by decide +kernel
theorem dL_law_370 : decode cL_law 370 = .ok (.iadd, 1) := by decide +kernel
theorem dL_law_371 : decode cL_law 371 = .ok (.iaload, 1) := by decide +kernel
theorem dL_law_372 : decode cL_law 372 = .ok (.aload_n 0, 1) := by decide +kernel
theorem dL_law_373 : decode cL_law 373 = .ok (.iload_n 3, 1) := by decide +kernel
theorem dL_law_374 : decode cL_law 374 = .ok (.iconst 3, 1) := by decide +kernel
theorem dL_law_375 : decode cL_law 375 = .ok (.iadd, 1) := by decide +kernel
theorem dL_law_376 : decode cL_law 376 = .ok (.iaload, 1) := by decide +kernel
theorem dL_law_377 : decode cL_law 377 = .ok (.aload_n 0, 1) := by decide +kernel
theorem dL_law_378 : decode cL_law 378 = .ok (.iload_n 3, 1) := by decide +kernel
theorem dL_law_379 : decode cL_law 379 = .ok (.iconst 4, 1) := by decide +kernel
theorem dL_law_380 : decode cL_law 380 = .ok (.iadd, 1) := by decide +kernel
theorem dL_law_381 : decode cL_law 381 = .ok (.iaload, 1) := by decide +kernel
theorem dL_law_382 : decode cL_law 382 = .ok (.aload_n 0, 1) := by decide +kernel
theorem dL_law_383 : decode cL_law 383 = .ok (.iload_n 3, 1) := by decide +kernel
theorem dL_law_384 : decode cL_law 384 = .ok (.iconst 5, 1) := by decide +kernel
theorem dL_law_385 : decode cL_law 385 = .ok (.iadd, 1) := by decide +kernel
theorem dL_law_386 : decode cL_law 386 = .ok (.iaload, 1) := by decide +kernel
theorem dL_law_387 : decode cL_law 387 = .ok (.invokevirtual 46, 3) := by decide +kernel
theorem dL_law_390 : decode cL_law 390 = .ok (.aload_n 2, 1) := by decide +kernel
theorem dL_law_391 : decode cL_law 391 = .ok (.aload_n 0, 1) := by decide +kernel
theorem dL_law_392 : decode cL_law 392 = .ok (.iload_n 3, 1) := by decide +kernel
theorem dL_law_393 : decode cL_law 393 = .ok (.iconst 1, 1) := by decide +kernel
theorem dL_law_394 : decode cL_law 394 = .ok (.iadd, 1) := by decide +kernel
theorem dL_law_395 : decode cL_law 395 = .ok (.iaload, 1) := by decide +kernel
theorem dL_law_396 : decode cL_law 396 = .ok (.aload_n 0, 1) := by decide +kernel
theorem dL_law_397 : decode cL_law 397 = .ok (.iload_n 3, 1) := by decide +kernel
theorem dL_law_398 : decode cL_law 398 = .ok (.iconst 2, 1) := by decide +kernel
theorem dL_law_399 : decode cL_law 399 = .ok (.iadd, 1) := by decide +kernel
theorem dL_law_400 : decode cL_law 400 = .ok (.iaload, 1) := by decide +kernel
theorem dL_law_401 : decode cL_law 401 = .ok (.aload_n 0, 1) := by decide +kernel
theorem dL_law_402 : decode cL_law 402 = .ok (.iload_n 3, 1) := by decide +kernel
theorem dL_law_403 : decode cL_law 403 = .ok (.iconst 3, 1) := by decide +kernel
theorem dL_law_404 : decode cL_law 404 = .ok (.iadd, 1) := by decide +kernel
theorem dL_law_405 : decode cL_law 405 = .ok (.iaload, 1) := by decide +kernel
theorem dL_law_406 : decode cL_law 406 = .ok (.aload_n 0, 1) := by decide +kernel
theorem dL_law_407 : decode cL_law 407 = .ok (.iload_n 3, 1) := by decide +kernel
theorem dL_law_408 : decode cL_law 408 = .ok (.iconst 4, 1) := by decide +kernel
theorem dL_law_409 : decode cL_law 409 = .ok (.iadd, 1) := by decide +kernel
theorem dL_law_410 : decode cL_law 410 = .ok (.iaload, 1) := by decide +kernel
theorem dL_law_411 : decode cL_law 411 = .ok (.aload_n 0, 1) := by decide +kernel
theorem dL_law_412 : decode cL_law 412 = .ok (.iload_n 3, 1) := by decide +kernel
theorem dL_law_413 : decode cL_law 413 = .ok (.iconst 5, 1) := by decide +kernel
theorem dL_law_414 : decode cL_law 414 = .ok (.iadd, 1) := by decide +kernel
theorem dL_law_415 : decode cL_law 415 = .ok (.iaload, 1) := by decide +kernel
theorem dL_law_416 : decode cL_law 416 = .ok (.invokevirtual 50, 3) := by decide +kernel
theorem dL_law_419 : decode cL_law 419 = .ok (.if_icmp .eq 747, 3) := by decide +kernel
theorem dL_law_422 : decode cL_law 422 = .ok (.iconst 0, 1) := by decide +kernel
theorem dL_law_423 : decode cL_law 423 = .ok (.ireturn, 1) := by decide +kernel
theorem dL_law_424 : decode cL_law 424 = .ok (.aload_n 1, 1) := by decide +kernel
theorem dL_law_425 : decode cL_law 425 = .ok (.aload_n 0, 1) := by decide +kernel
theorem dL_law_426 : decode cL_law 426 = .ok (.iload_n 3, 1) := by decide +kernel
theorem dL_law_427 : decode cL_law 427 = .ok (.iconst 1, 1) := by decide +kernel
theorem dL_law_428 : decode cL_law 428 = .ok (.iadd, 1) := by decide +kernel
theorem dL_law_429 : decode cL_law 429 = .ok (.iaload, 1) := by decide +kernel
theorem dL_law_430 : decode cL_law 430 = .ok (.invokevirtual 51, 3) := by decide +kernel
theorem dL_law_433 : decode cL_law 433 = .ok (.aload_n 2, 1) := by decide +kernel
theorem dL_law_434 : decode cL_law 434 = .ok (.aload_n 0, 1) := by decide +kernel
theorem dL_law_435 : decode cL_law 435 = .ok (.iload_n 3, 1) := by decide +kernel
theorem dL_law_436 : decode cL_law 436 = .ok (.iconst 1, 1) := by decide +kernel
theorem dL_law_437 : decode cL_law 437 = .ok (.iadd, 1) := by decide +kernel
theorem dL_law_438 : decode cL_law 438 = .ok (.iaload, 1) := by decide +kernel
theorem dL_law_439 : decode cL_law 439 = .ok (.invokevirtual 54, 3) := by decide +kernel
theorem dL_law_442 : decode cL_law 442 = .ok (.if_icmp .eq 724, 3) := by decide +kernel
theorem dL_law_445 : decode cL_law 445 = .ok (.iconst 0, 1) := by decide +kernel
theorem dL_law_446 : decode cL_law 446 = .ok (.ireturn, 1) := by decide +kernel
theorem dL_law_447 : decode cL_law 447 = .ok (.aload_n 1, 1) := by decide +kernel
theorem dL_law_448 : decode cL_law 448 = .ok (.aload_n 0, 1) := by decide +kernel
theorem dL_law_449 : decode cL_law 449 = .ok (.iload_n 3, 1) := by decide +kernel
theorem dL_law_450 : decode cL_law 450 = .ok (.iconst 1, 1) := by decide +kernel
theorem dL_law_451 : decode cL_law 451 = .ok (.iadd, 1) := by decide +kernel
theorem dL_law_452 : decode cL_law 452 = .ok (.iaload, 1) := by decide +kernel
theorem dL_law_453 : decode cL_law 453 = .ok (.aload_n 0, 1) := by decide +kernel
theorem dL_law_454 : decode cL_law 454 = .ok (.iload_n 3, 1) := by decide +kernel
theorem dL_law_455 : decode cL_law 455 = .ok (.iconst 2, 1) := by decide +kernel
theorem dL_law_456 : decode cL_law 456 = .ok (.iadd, 1) := by decide +kernel
theorem dL_law_457 : decode cL_law 457 = .ok (.iaload, 1) := by decide +kernel
theorem dL_law_458 : decode cL_law 458 = .ok (.aload_n 0, 1) := by decide +kernel
theorem dL_law_459 : decode cL_law 459 = .ok (.iload_n 3, 1) := by decide +kernel
theorem dL_law_460 : decode cL_law 460 = .ok (.iconst 3, 1) := by decide +kernel
theorem dL_law_461 : decode cL_law 461 = .ok (.iadd, 1) := by decide +kernel
theorem dL_law_462 : decode cL_law 462 = .ok (.iaload, 1) := by decide +kernel
theorem dL_law_463 : decode cL_law 463 = .ok (.invokevirtual 55, 3) := by decide +kernel
theorem dL_law_466 : decode cL_law 466 = .ok (.aload_n 2, 1) := by decide +kernel
theorem dL_law_467 : decode cL_law 467 = .ok (.aload_n 0, 1) := by decide +kernel
theorem dL_law_468 : decode cL_law 468 = .ok (.iload_n 3, 1) := by decide +kernel
theorem dL_law_469 : decode cL_law 469 = .ok (.iconst 1, 1) := by decide +kernel
theorem dL_law_470 : decode cL_law 470 = .ok (.iadd, 1) := by decide +kernel
theorem dL_law_471 : decode cL_law 471 = .ok (.iaload, 1) := by decide +kernel
theorem dL_law_472 : decode cL_law 472 = .ok (.aload_n 0, 1) := by decide +kernel
theorem dL_law_473 : decode cL_law 473 = .ok (.iload_n 3, 1) := by decide +kernel
theorem dL_law_474 : decode cL_law 474 = .ok (.iconst 2, 1) := by decide +kernel
theorem dL_law_475 : decode cL_law 475 = .ok (.iadd, 1) := by decide +kernel
theorem dL_law_476 : decode cL_law 476 = .ok (.iaload, 1) := by decide +kernel
theorem dL_law_477 : decode cL_law 477 = .ok (.aload_n 0, 1) := by decide +kernel
theorem dL_law_478 : decode cL_law 478 = .ok (.iload_n 3, 1) := by decide +kernel
theorem dL_law_479 : decode cL_law 479 = .ok (.iconst 3, 1) := by decide +kernel
theorem dL_law_480 : decode cL_law 480 = .ok (.iadd, 1) := by decide +kernel
theorem dL_law_481 : decode cL_law 481 = .ok (.iaload, 1) := by decide +kernel
theorem dL_law_482 : decode cL_law 482 = .ok (.invokevirtual 58, 3) := by decide +kernel
theorem dL_law_485 : decode cL_law 485 = .ok (.if_icmp .eq 681, 3) := by decide +kernel
theorem dL_law_488 : decode cL_law 488 = .ok (.iconst 0, 1) := by decide +kernel
theorem dL_law_489 : decode cL_law 489 = .ok (.ireturn, 1) := by decide +kernel
theorem dL_law_490 : decode cL_law 490 = .ok (.aload_n 1, 1) := by decide +kernel
theorem dL_law_491 : decode cL_law 491 = .ok (.aload_n 0, 1) := by decide +kernel
theorem dL_law_492 : decode cL_law 492 = .ok (.iload_n 3, 1) := by decide +kernel
theorem dL_law_493 : decode cL_law 493 = .ok (.iconst 1, 1) := by decide +kernel
theorem dL_law_494 : decode cL_law 494 = .ok (.iadd, 1) := by decide +kernel
theorem dL_law_495 : decode cL_law 495 = .ok (.iaload, 1) := by decide +kernel
theorem dL_law_496 : decode cL_law 496 = .ok (.aload_n 0, 1) := by decide +kernel
theorem dL_law_497 : decode cL_law 497 = .ok (.iload_n 3, 1) := by decide +kernel
theorem dL_law_498 : decode cL_law 498 = .ok (.iconst 2, 1) := by decide +kernel
theorem dL_law_499 : decode cL_law 499 = .ok (.iadd, 1) := by decide +kernel
theorem dL_law_500 : decode cL_law 500 = .ok (.iaload, 1) := by decide +kernel
theorem dL_law_501 : decode cL_law 501 = .ok (.aload_n 0, 1) := by decide +kernel
theorem dL_law_502 : decode cL_law 502 = .ok (.iload_n 3, 1) := by decide +kernel
theorem dL_law_503 : decode cL_law 503 = .ok (.iconst 3, 1) := by decide +kernel
theorem dL_law_504 : decode cL_law 504 = .ok (.iadd, 1) := by decide +kernel
theorem dL_law_505 : decode cL_law 505 = .ok (.iaload, 1) := by decide +kernel
theorem dL_law_506 : decode cL_law 506 = .ok (.aload_n 0, 1) := by decide +kernel
theorem dL_law_507 : decode cL_law 507 = .ok (.iload_n 3, 1) := by decide +kernel
theorem dL_law_508 : decode cL_law 508 = .ok (.iconst 4, 1) := by decide +kernel
theorem dL_law_509 : decode cL_law 509 = .ok (.iadd, 1) := by decide +kernel
theorem dL_law_510 : decode cL_law 510 = .ok (.iaload, 1) := by decide +kernel
theorem dL_law_511 : decode cL_law 511 = .ok (.aload_n 0, 1) := by decide +kernel
theorem dL_law_512 : decode cL_law 512 = .ok (.iload_n 3, 1) := by decide +kernel
theorem dL_law_513 : decode cL_law 513 = .ok (.iconst 5, 1) := by decide +kernel
theorem dL_law_514 : decode cL_law 514 = .ok (.iadd, 1) := by decide +kernel
theorem dL_law_515 : decode cL_law 515 = .ok (.iaload, 1) := by decide +kernel
theorem dL_law_516 : decode cL_law 516 = .ok (.aload_n 0, 1) := by decide +kernel
theorem dL_law_517 : decode cL_law 517 = .ok (.iload_n 3, 1) := by decide +kernel
theorem dL_law_518 : decode cL_law 518 = .ok (.bipush 6, 2) := by decide +kernel
theorem dL_law_520 : decode cL_law 520 = .ok (.iadd, 1) := by decide +kernel
theorem dL_law_521 : decode cL_law 521 = .ok (.iaload, 1) := by decide +kernel
theorem dL_law_522 : decode cL_law 522 = .ok (.invokevirtual 59, 3) := by decide +kernel
theorem dL_law_525 : decode cL_law 525 = .ok (.aload_n 2, 1) := by decide +kernel
theorem dL_law_526 : decode cL_law 526 = .ok (.aload_n 0, 1) := by decide +kernel
theorem dL_law_527 : decode cL_law 527 = .ok (.iload_n 3, 1) := by decide +kernel
theorem dL_law_528 : decode cL_law 528 = .ok (.iconst 1, 1) := by decide +kernel
theorem dL_law_529 : decode cL_law 529 = .ok (.iadd, 1) := by decide +kernel
theorem dL_law_530 : decode cL_law 530 = .ok (.iaload, 1) := by decide +kernel
theorem dL_law_531 : decode cL_law 531 = .ok (.aload_n 0, 1) := by decide +kernel
theorem dL_law_532 : decode cL_law 532 = .ok (.iload_n 3, 1) := by decide +kernel
theorem dL_law_533 : decode cL_law 533 = .ok (.iconst 2, 1) := by decide +kernel
theorem dL_law_534 : decode cL_law 534 = .ok (.iadd, 1) := by decide +kernel
theorem dL_law_535 : decode cL_law 535 = .ok (.iaload, 1) := by decide +kernel
theorem dL_law_536 : decode cL_law 536 = .ok (.aload_n 0, 1) := by decide +kernel
theorem dL_law_537 : decode cL_law 537 = .ok (.iload_n 3, 1) := by decide +kernel
theorem dL_law_538 : decode cL_law 538 = .ok (.iconst 3, 1) := by decide +kernel
theorem dL_law_539 : decode cL_law 539 = .ok (.iadd, 1) := by decide +kernel
theorem dL_law_540 : decode cL_law 540 = .ok (.iaload, 1) := by decide +kernel
theorem dL_law_541 : decode cL_law 541 = .ok (.aload_n 0, 1) := by decide +kernel
theorem dL_law_542 : decode cL_law 542 = .ok (.iload_n 3, 1) := by decide +kernel
theorem dL_law_543 : decode cL_law 543 = .ok (.iconst 4, 1) := by decide +kernel
theorem dL_law_544 : decode cL_law 544 = .ok (.iadd, 1) := by decide +kernel
theorem dL_law_545 : decode cL_law 545 = .ok (.iaload, 1) := by decide +kernel
theorem dL_law_546 : decode cL_law 546 = .ok (.aload_n 0, 1) := by decide +kernel
theorem dL_law_547 : decode cL_law 547 = .ok (.iload_n 3, 1) := by decide +kernel
theorem dL_law_548 : decode cL_law 548 = .ok (.iconst 5, 1) := by decide +kernel
theorem dL_law_549 : decode cL_law 549 = .ok (.iadd, 1) := by decide +kernel
theorem dL_law_550 : decode cL_law 550 = .ok (.iaload, 1) := by decide +kernel
theorem dL_law_551 : decode cL_law 551 = .ok (.aload_n 0, 1) := by decide +kernel
theorem dL_law_552 : decode cL_law 552 = .ok (.iload_n 3, 1) := by decide +kernel
theorem dL_law_553 : decode cL_law 553 = .ok (.bipush 6, 2) := by decide +kernel
theorem dL_law_555 : decode cL_law 555 = .ok (.iadd, 1) := by decide +kernel
theorem dL_law_556 : decode cL_law 556 = .ok (.iaload, 1) := by decide +kernel
theorem dL_law_557 : decode cL_law 557 = .ok (.invokevirtual 63, 3) := by decide +kernel
theorem dL_law_560 : decode cL_law 560 = .ok (.if_icmp .eq 606, 3) := by decide +kernel
theorem dL_law_563 : decode cL_law 563 = .ok (.iconst 0, 1) := by decide +kernel
theorem dL_law_564 : decode cL_law 564 = .ok (.ireturn, 1) := by decide +kernel
theorem dL_law_565 : decode cL_law 565 = .ok (.aload_n 1, 1) := by decide +kernel
theorem dL_law_566 : decode cL_law 566 = .ok (.aload_n 0, 1) := by decide +kernel
theorem dL_law_567 : decode cL_law 567 = .ok (.iload_n 3, 1) := by decide +kernel
theorem dL_law_568 : decode cL_law 568 = .ok (.iconst 1, 1) := by decide +kernel
theorem dL_law_569 : decode cL_law 569 = .ok (.iadd, 1) := by decide +kernel
theorem dL_law_570 : decode cL_law 570 = .ok (.iaload, 1) := by decide +kernel
theorem dL_law_571 : decode cL_law 571 = .ok (.aload_n 0, 1) := by decide +kernel
theorem dL_law_572 : decode cL_law 572 = .ok (.iload_n 3, 1) := by decide +kernel
theorem dL_law_573 : decode cL_law 573 = .ok (.iconst 2, 1) := by decide +kernel
theorem dL_law_574 : decode cL_law 574 = .ok (.iadd, 1) := by decide +kernel
theorem dL_law_575 : decode cL_law 575 = .ok (.iaload, 1) := by decide +kernel
theorem dL_law_576 : decode cL_law 576 = .ok (.invokevirtual 64, 3) := by decide +kernel
theorem dL_law_579 : decode cL_law 579 = .ok (.aload_n 2, 1) := by decide +kernel
theorem dL_law_580 : decode cL_law 580 = .ok (.aload_n 0, 1) := by decide +kernel
theorem dL_law_581 : decode cL_law 581 = .ok (.iload_n 3, 1) := by decide +kernel
theorem dL_law_582 : decode cL_law 582 = .ok (.iconst 1, 1) := by decide +kernel
theorem dL_law_583 : decode cL_law 583 = .ok (.iadd, 1) := by decide +kernel
theorem dL_law_584 : decode cL_law 584 = .ok (.iaload, 1) := by decide +kernel
theorem dL_law_585 : decode cL_law 585 = .ok (.aload_n 0, 1) := by decide +kernel
theorem dL_law_586 : decode cL_law 586 = .ok (.iload_n 3, 1) := by decide +kernel
theorem dL_law_587 : decode cL_law 587 = .ok (.iconst 2, 1) := by decide +kernel
theorem dL_law_588 : decode cL_law 588 = .ok (.iadd, 1) := by decide +kernel
theorem dL_law_589 : decode cL_law 589 = .ok (.iaload, 1) := by decide +kernel
theorem dL_law_590 : decode cL_law 590 = .ok (.invokevirtual 67, 3) := by decide +kernel
theorem dL_law_593 : decode cL_law 593 = .ok (.if_icmp .eq 573, 3) := by decide +kernel
theorem dL_law_596 : decode cL_law 596 = .ok (.iconst 0, 1) := by decide +kernel
theorem dL_law_597 : decode cL_law 597 = .ok (.ireturn, 1) := by decide +kernel
theorem dL_law_598 : decode cL_law 598 = .ok (.aload_n 1, 1) := by decide +kernel
theorem dL_law_599 : decode cL_law 599 = .ok (.invokevirtual 68, 3) := by decide +kernel
theorem dL_law_602 : decode cL_law 602 = .ok (.aload_n 2, 1) := by decide +kernel
theorem dL_law_603 : decode cL_law 603 = .ok (.invokevirtual 71, 3) := by decide +kernel
theorem dL_law_606 : decode cL_law 606 = .ok (.if_icmp .eq 560, 3) := by decide +kernel
theorem dL_law_609 : decode cL_law 609 = .ok (.iconst 0, 1) := by decide +kernel
theorem dL_law_610 : decode cL_law 610 = .ok (.ireturn, 1) := by decide +kernel
theorem dL_law_611 : decode cL_law 611 = .ok (.aload_n 1, 1) := by decide +kernel
theorem dL_law_612 : decode cL_law 612 = .ok (.aload_n 0, 1) := by decide +kernel
theorem dL_law_613 : decode cL_law 613 = .ok (.iload_n 3, 1) := by decide +kernel
theorem dL_law_614 : decode cL_law 614 = .ok (.iconst 1, 1) := by decide +kernel
theorem dL_law_615 : decode cL_law 615 = .ok (.iadd, 1) := by decide +kernel
theorem dL_law_616 : decode cL_law 616 = .ok (.iaload, 1) := by decide +kernel
theorem dL_law_617 : decode cL_law 617 = .ok (.invokevirtual 72, 3) := by decide +kernel
theorem dL_law_620 : decode cL_law 620 = .ok (.aload_n 2, 1) := by decide +kernel
theorem dL_law_621 : decode cL_law 621 = .ok (.aload_n 0, 1) := by decide +kernel
theorem dL_law_622 : decode cL_law 622 = .ok (.iload_n 3, 1) := by decide +kernel
theorem dL_law_623 : decode cL_law 623 = .ok (.iconst 1, 1) := by decide +kernel
theorem dL_law_624 : decode cL_law 624 = .ok (.iadd, 1) := by decide +kernel
theorem dL_law_625 : decode cL_law 625 = .ok (.iaload, 1) := by decide +kernel
theorem dL_law_626 : decode cL_law 626 = .ok (.invokevirtual 75, 3) := by decide +kernel
theorem dL_law_629 : decode cL_law 629 = .ok (.if_icmp .eq 537, 3) := by decide +kernel
theorem dL_law_632 : decode cL_law 632 = .ok (.iconst 0, 1) := by decide +kernel
theorem dL_law_633 : decode cL_law 633 = .ok (.ireturn, 1) := by decide +kernel
theorem dL_law_634 : decode cL_law 634 = .ok (.aload_n 1, 1) := by decide +kernel
theorem dL_law_635 : decode cL_law 635 = .ok (.invokevirtual 76, 3) := by decide +kernel
theorem dL_law_638 : decode cL_law 638 = .ok (.aload_n 2, 1) := by decide +kernel
theorem dL_law_639 : decode cL_law 639 = .ok (.invokevirtual 79, 3) := by decide +kernel
theorem dL_law_642 : decode cL_law 642 = .ok (.if_icmp .eq 524, 3) := by decide +kernel
theorem dL_law_645 : decode cL_law 645 = .ok (.iconst 0, 1) := by decide +kernel
theorem dL_law_646 : decode cL_law 646 = .ok (.ireturn, 1) := by decide +kernel
theorem dL_law_647 : decode cL_law 647 = .ok (.aload_n 1, 1) := by decide +kernel
theorem dL_law_648 : decode cL_law 648 = .ok (.aload_n 0, 1) := by decide +kernel
theorem dL_law_649 : decode cL_law 649 = .ok (.iload_n 3, 1) := by decide +kernel
theorem dL_law_650 : decode cL_law 650 = .ok (.iconst 1, 1) := by decide +kernel
theorem dL_law_651 : decode cL_law 651 = .ok (.iadd, 1) := by decide +kernel
theorem dL_law_652 : decode cL_law 652 = .ok (.iaload, 1) := by decide +kernel
theorem dL_law_653 : decode cL_law 653 = .ok (.aload_n 0, 1) := by decide +kernel
theorem dL_law_654 : decode cL_law 654 = .ok (.iload_n 3, 1) := by decide +kernel
theorem dL_law_655 : decode cL_law 655 = .ok (.iconst 2, 1) := by decide +kernel
theorem dL_law_656 : decode cL_law 656 = .ok (.iadd, 1) := by decide +kernel
theorem dL_law_657 : decode cL_law 657 = .ok (.iaload, 1) := by decide +kernel
theorem dL_law_658 : decode cL_law 658 = .ok (.aload_n 0, 1) := by decide +kernel
theorem dL_law_659 : decode cL_law 659 = .ok (.iload_n 3, 1) := by decide +kernel
theorem dL_law_660 : decode cL_law 660 = .ok (.iconst 3, 1) := by decide +kernel
theorem dL_law_661 : decode cL_law 661 = .ok (.iadd, 1) := by decide +kernel
theorem dL_law_662 : decode cL_law 662 = .ok (.iaload, 1) := by decide +kernel
theorem dL_law_663 : decode cL_law 663 = .ok (.aload_n 0, 1) := by decide +kernel
theorem dL_law_664 : decode cL_law 664 = .ok (.iload_n 3, 1) := by decide +kernel
theorem dL_law_665 : decode cL_law 665 = .ok (.iconst 4, 1) := by decide +kernel
theorem dL_law_666 : decode cL_law 666 = .ok (.iadd, 1) := by decide +kernel
theorem dL_law_667 : decode cL_law 667 = .ok (.iaload, 1) := by decide +kernel
theorem dL_law_668 : decode cL_law 668 = .ok (.invokevirtual 80, 3) := by decide +kernel
theorem dL_law_671 : decode cL_law 671 = .ok (.aload_n 2, 1) := by decide +kernel
theorem dL_law_672 : decode cL_law 672 = .ok (.aload_n 0, 1) := by decide +kernel
theorem dL_law_673 : decode cL_law 673 = .ok (.iload_n 3, 1) := by decide +kernel
theorem dL_law_674 : decode cL_law 674 = .ok (.iconst 1, 1) := by decide +kernel
theorem dL_law_675 : decode cL_law 675 = .ok (.iadd, 1) := by decide +kernel
theorem dL_law_676 : decode cL_law 676 = .ok (.iaload, 1) := by decide +kernel
theorem dL_law_677 : decode cL_law 677 = .ok (.aload_n 0, 1) := by decide +kernel
theorem dL_law_678 : decode cL_law 678 = .ok (.iload_n 3, 1) := by decide +kernel
theorem dL_law_679 : decode cL_law 679 = .ok (.iconst 2, 1) := by decide +kernel
theorem dL_law_680 : decode cL_law 680 = .ok (.iadd, 1) := by decide +kernel
theorem dL_law_681 : decode cL_law 681 = .ok (.iaload, 1) := by decide +kernel
theorem dL_law_682 : decode cL_law 682 = .ok (.aload_n 0, 1) := by decide +kernel
theorem dL_law_683 : decode cL_law 683 = .ok (.iload_n 3, 1) := by decide +kernel
theorem dL_law_684 : decode cL_law 684 = .ok (.iconst 3, 1) := by decide +kernel
theorem dL_law_685 : decode cL_law 685 = .ok (.iadd, 1) := by decide +kernel
theorem dL_law_686 : decode cL_law 686 = .ok (.iaload, 1) := by decide +kernel
theorem dL_law_687 : decode cL_law 687 = .ok (.aload_n 0, 1) := by decide +kernel
theorem dL_law_688 : decode cL_law 688 = .ok (.iload_n 3, 1) := by decide +kernel
theorem dL_law_689 : decode cL_law 689 = .ok (.iconst 4, 1) := by decide +kernel
theorem dL_law_690 : decode cL_law 690 = .ok (.iadd, 1) := by decide +kernel
theorem dL_law_691 : decode cL_law 691 = .ok (.iaload, 1) := by decide +kernel
theorem dL_law_692 : decode cL_law 692 = .ok (.invokevirtual 83, 3) := by decide +kernel
theorem dL_law_695 : decode cL_law 695 = .ok (.if_icmp .eq 471, 3) := by decide +kernel
theorem dL_law_698 : decode cL_law 698 = .ok (.iconst 0, 1) := by decide +kernel
theorem dL_law_699 : decode cL_law 699 = .ok (.ireturn, 1) := by decide +kernel
theorem dL_law_700 : decode cL_law 700 = .ok (.aload_n 1, 1) := by decide +kernel
theorem dL_law_701 : decode cL_law 701 = .ok (.aload_n 0, 1) := by decide +kernel
theorem dL_law_702 : decode cL_law 702 = .ok (.iload_n 3, 1) := by decide +kernel
theorem dL_law_703 : decode cL_law 703 = .ok (.iconst 1, 1) := by decide +kernel
theorem dL_law_704 : decode cL_law 704 = .ok (.iadd, 1) := by decide +kernel
theorem dL_law_705 : decode cL_law 705 = .ok (.iaload, 1) := by decide +kernel
theorem dL_law_706 : decode cL_law 706 = .ok (.aload_n 0, 1) := by decide +kernel
theorem dL_law_707 : decode cL_law 707 = .ok (.iload_n 3, 1) := by decide +kernel
theorem dL_law_708 : decode cL_law 708 = .ok (.iconst 2, 1) := by decide +kernel
theorem dL_law_709 : decode cL_law 709 = .ok (.iadd, 1) := by decide +kernel
theorem dL_law_710 : decode cL_law 710 = .ok (.iaload, 1) := by decide +kernel
theorem dL_law_711 : decode cL_law 711 = .ok (.aload_n 0, 1) := by decide +kernel
theorem dL_law_712 : decode cL_law 712 = .ok (.iload_n 3, 1) := by decide +kernel
theorem dL_law_713 : decode cL_law 713 = .ok (.iconst 3, 1) := by decide +kernel
theorem dL_law_714 : decode cL_law 714 = .ok (.iadd, 1) := by decide +kernel
theorem dL_law_715 : decode cL_law 715 = .ok (.iaload, 1) := by decide +kernel
theorem dL_law_716 : decode cL_law 716 = .ok (.invokevirtual 84, 3) := by decide +kernel
theorem dL_law_719 : decode cL_law 719 = .ok (.aload_n 2, 1) := by decide +kernel
theorem dL_law_720 : decode cL_law 720 = .ok (.aload_n 0, 1) := by decide +kernel
theorem dL_law_721 : decode cL_law 721 = .ok (.iload_n 3, 1) := by decide +kernel
theorem dL_law_722 : decode cL_law 722 = .ok (.iconst 1, 1) := by decide +kernel
theorem dL_law_723 : decode cL_law 723 = .ok (.iadd, 1) := by decide +kernel
theorem dL_law_724 : decode cL_law 724 = .ok (.iaload, 1) := by decide +kernel
theorem dL_law_725 : decode cL_law 725 = .ok (.aload_n 0, 1) := by decide +kernel
theorem dL_law_726 : decode cL_law 726 = .ok (.iload_n 3, 1) := by decide +kernel
theorem dL_law_727 : decode cL_law 727 = .ok (.iconst 2, 1) := by decide +kernel
theorem dL_law_728 : decode cL_law 728 = .ok (.iadd, 1) := by decide +kernel
theorem dL_law_729 : decode cL_law 729 = .ok (.iaload, 1) := by decide +kernel
theorem dL_law_730 : decode cL_law 730 = .ok (.aload_n 0, 1) := by decide +kernel
theorem dL_law_731 : decode cL_law 731 = .ok (.iload_n 3, 1) := by decide +kernel
theorem dL_law_732 : decode cL_law 732 = .ok (.iconst 3, 1) := by decide +kernel
theorem dL_law_733 : decode cL_law 733 = .ok (.iadd, 1) := by decide +kernel
theorem dL_law_734 : decode cL_law 734 = .ok (.iaload, 1) := by decide +kernel
theorem dL_law_735 : decode cL_law 735 = .ok (.invokevirtual 87, 3) := by decide +kernel
theorem dL_law_738 : decode cL_law 738 = .ok (.if_icmp .eq 428, 3) := by decide +kernel
theorem dL_law_741 : decode cL_law 741 = .ok (.iconst 0, 1) := by decide +kernel
theorem dL_law_742 : decode cL_law 742 = .ok (.ireturn, 1) := by decide +kernel
theorem dL_law_743 : decode cL_law 743 = .ok (.aload_n 1, 1) := by decide +kernel
theorem dL_law_744 : decode cL_law 744 = .ok (.aload_n 0, 1) := by decide +kernel
theorem dL_law_745 : decode cL_law 745 = .ok (.iload_n 3, 1) := by decide +kernel
theorem dL_law_746 : decode cL_law 746 = .ok (.iconst 1, 1) := by decide +kernel
theorem dL_law_747 : decode cL_law 747 = .ok (.iadd, 1) := by decide +kernel
theorem dL_law_748 : decode cL_law 748 = .ok (.iaload, 1) := by decide +kernel
theorem dL_law_749 : decode cL_law 749 = .ok (.invokevirtual 88, 3) := by decide +kernel
theorem dL_law_752 : decode cL_law 752 = .ok (.aload_n 2, 1) := by decide +kernel
theorem dL_law_753 : decode cL_law 753 = .ok (.aload_n 0, 1) := by decide +kernel
theorem dL_law_754 : decode cL_law 754 = .ok (.iload_n 3, 1) := by decide +kernel
theorem dL_law_755 : decode cL_law 755 = .ok (.iconst 1, 1) := by decide +kernel
theorem dL_law_756 : decode cL_law 756 = .ok (.iadd, 1) := by decide +kernel
theorem dL_law_757 : decode cL_law 757 = .ok (.iaload, 1) := by decide +kernel
theorem dL_law_758 : decode cL_law 758 = .ok (.invokevirtual 91, 3) := by decide +kernel
theorem dL_law_761 : decode cL_law 761 = .ok (.if_icmp .eq 405, 3) := by decide +kernel
theorem dL_law_764 : decode cL_law 764 = .ok (.iconst 0, 1) := by decide +kernel
theorem dL_law_765 : decode cL_law 765 = .ok (.ireturn, 1) := by decide +kernel
theorem dL_law_766 : decode cL_law 766 = .ok (.aload_n 1, 1) := by decide +kernel
theorem dL_law_767 : decode cL_law 767 = .ok (.aload_n 0, 1) := by decide +kernel
theorem dL_law_768 : decode cL_law 768 = .ok (.iload_n 3, 1) := by decide +kernel
theorem dL_law_769 : decode cL_law 769 = .ok (.iconst 1, 1) := by decide +kernel
theorem dL_law_770 : decode cL_law 770 = .ok (.iadd, 1) := by decide +kernel
theorem dL_law_771 : decode cL_law 771 = .ok (.iaload, 1) := by decide +kernel
theorem dL_law_772 : decode cL_law 772 = .ok (.aload_n 0, 1) := by decide +kernel
theorem dL_law_773 : decode cL_law 773 = .ok (.iload_n 3, 1) := by decide +kernel
theorem dL_law_774 : decode cL_law 774 = .ok (.iconst 2, 1) := by decide +kernel
theorem dL_law_775 : decode cL_law 775 = .ok (.iadd, 1) := by decide +kernel
theorem dL_law_776 : decode cL_law 776 = .ok (.iaload, 1) := by decide +kernel
theorem dL_law_777 : decode cL_law 777 = .ok (.aload_n 0, 1) := by decide +kernel
theorem dL_law_778 : decode cL_law 778 = .ok (.iload_n 3, 1) := by decide +kernel
theorem dL_law_779 : decode cL_law 779 = .ok (.iconst 3, 1) := by decide +kernel
theorem dL_law_780 : decode cL_law 780 = .ok (.iadd, 1) := by decide +kernel
theorem dL_law_781 : decode cL_law 781 = .ok (.iaload, 1) := by decide +kernel
theorem dL_law_782 : decode cL_law 782 = .ok (.aload_n 0, 1) := by decide +kernel
theorem dL_law_783 : decode cL_law 783 = .ok (.iload_n 3, 1) := by decide +kernel
theorem dL_law_784 : decode cL_law 784 = .ok (.iconst 4, 1) := by decide +kernel
theorem dL_law_785 : decode cL_law 785 = .ok (.iadd, 1) := by decide +kernel
theorem dL_law_786 : decode cL_law 786 = .ok (.iaload, 1) := by decide +kernel
theorem dL_law_787 : decode cL_law 787 = .ok (.invokevirtual 92, 3) := by decide +kernel
theorem dL_law_790 : decode cL_law 790 = .ok (.aload_n 2, 1) := by decide +kernel
theorem dL_law_791 : decode cL_law 791 = .ok (.aload_n 0, 1) := by decide +kernel
theorem dL_law_792 : decode cL_law 792 = .ok (.iload_n 3, 1) := by decide +kernel
theorem dL_law_793 : decode cL_law 793 = .ok (.iconst 1, 1) := by decide +kernel
theorem dL_law_794 : decode cL_law 794 = .ok (.iadd, 1) := by decide +kernel
theorem dL_law_795 : decode cL_law 795 = .ok (.iaload, 1) := by decide +kernel
theorem dL_law_796 : decode cL_law 796 = .ok (.aload_n 0, 1) := by decide +kernel
theorem dL_law_797 : decode cL_law 797 = .ok (.iload_n 3, 1) := by decide +kernel
theorem dL_law_798 : decode cL_law 798 = .ok (.iconst 2, 1) := by decide +kernel
theorem dL_law_799 : decode cL_law 799 = .ok (.iadd, 1) := by decide +kernel
theorem dL_law_800 : decode cL_law 800 = .ok (.iaload, 1) := by decide +kernel
theorem dL_law_801 : decode cL_law 801 = .ok (.aload_n 0, 1) := by decide +kernel
theorem dL_law_802 : decode cL_law 802 = .ok (.iload_n 3, 1) := by decide +kernel
theorem dL_law_803 : decode cL_law 803 = .ok (.iconst 3, 1) := by decide +kernel
theorem dL_law_804 : decode cL_law 804 = .ok (.iadd, 1) := by decide +kernel
theorem dL_law_805 : decode cL_law 805 = .ok (.iaload, 1) := by decide +kernel
theorem dL_law_806 : decode cL_law 806 = .ok (.aload_n 0, 1) := by decide +kernel
theorem dL_law_807 : decode cL_law 807 = .ok (.iload_n 3, 1) := by decide +kernel
theorem dL_law_808 : decode cL_law 808 = .ok (.iconst 4, 1) := by decide +kernel
theorem dL_law_809 : decode cL_law 809 = .ok (.iadd, 1) := by decide +kernel
theorem dL_law_810 : decode cL_law 810 = .ok (.iaload, 1) := by decide +kernel
theorem dL_law_811 : decode cL_law 811 = .ok (.invokevirtual 95, 3) := by decide +kernel
theorem dL_law_814 : decode cL_law 814 = .ok (.if_icmp .eq 352, 3) := by decide +kernel
theorem dL_law_817 : decode cL_law 817 = .ok (.iconst 0, 1) := by decide +kernel
theorem dL_law_818 : decode cL_law 818 = .ok (.ireturn, 1) := by decide +kernel
theorem dL_law_819 : decode cL_law 819 = .ok (.aload_n 1, 1) := by decide +kernel
theorem dL_law_820 : decode cL_law 820 = .ok (.aload_n 0, 1) := by decide +kernel
theorem dL_law_821 : decode cL_law 821 = .ok (.iload_n 3, 1) := by decide +kernel
theorem dL_law_822 : decode cL_law 822 = .ok (.iconst 1, 1) := by decide +kernel
theorem dL_law_823 : decode cL_law 823 = .ok (.iadd, 1) := by decide +kernel
theorem dL_law_824 : decode cL_law 824 = .ok (.iaload, 1) := by decide +kernel
theorem dL_law_825 : decode cL_law 825 = .ok (.aload_n 0, 1) := by decide +kernel
theorem dL_law_826 : decode cL_law 826 = .ok (.iload_n 3, 1) := by decide +kernel
theorem dL_law_827 : decode cL_law 827 = .ok (.iconst 2, 1) := by decide +kernel
theorem dL_law_828 : decode cL_law 828 = .ok (.iadd, 1) := by decide +kernel
theorem dL_law_829 : decode cL_law 829 = .ok (.iaload, 1) := by decide +kernel
theorem dL_law_830 : decode cL_law 830 = .ok (.aload_n 0, 1) := by decide +kernel
theorem dL_law_831 : decode cL_law 831 = .ok (.iload_n 3, 1) := by decide +kernel
theorem dL_law_832 : decode cL_law 832 = .ok (.iconst 3, 1) := by decide +kernel
theorem dL_law_833 : decode cL_law 833 = .ok (.iadd, 1) := by decide +kernel
theorem dL_law_834 : decode cL_law 834 = .ok (.iaload, 1) := by decide +kernel
theorem dL_law_835 : decode cL_law 835 = .ok (.invokevirtual 96, 3) := by decide +kernel
theorem dL_law_838 : decode cL_law 838 = .ok (.aload_n 2, 1) := by decide +kernel
theorem dL_law_839 : decode cL_law 839 = .ok (.aload_n 0, 1) := by decide +kernel
theorem dL_law_840 : decode cL_law 840 = .ok (.iload_n 3, 1) := by decide +kernel
theorem dL_law_841 : decode cL_law 841 = .ok (.iconst 1, 1) := by decide +kernel
theorem dL_law_842 : decode cL_law 842 = .ok (.iadd, 1) := by decide +kernel
theorem dL_law_843 : decode cL_law 843 = .ok (.iaload, 1) := by decide +kernel
theorem dL_law_844 : decode cL_law 844 = .ok (.aload_n 0, 1) := by decide +kernel
theorem dL_law_845 : decode cL_law 845 = .ok (.iload_n 3, 1) := by decide +kernel
theorem dL_law_846 : decode cL_law 846 = .ok (.iconst 2, 1) := by decide +kernel
theorem dL_law_847 : decode cL_law 847 = .ok (.iadd, 1) := by decide +kernel
theorem dL_law_848 : decode cL_law 848 = .ok (.iaload, 1) := by decide +kernel
theorem dL_law_849 : decode cL_law 849 = .ok (.aload_n 0, 1) := by decide +kernel
theorem dL_law_850 : decode cL_law 850 = .ok (.iload_n 3, 1) := by decide +kernel
theorem dL_law_851 : decode cL_law 851 = .ok (.iconst 3, 1) := by decide +kernel
theorem dL_law_852 : decode cL_law 852 = .ok (.iadd, 1) := by decide +kernel
theorem dL_law_853 : decode cL_law 853 = .ok (.iaload, 1) := by decide +kernel
theorem dL_law_854 : decode cL_law 854 = .ok (.invokevirtual 99, 3) := by decide +kernel
theorem dL_law_857 : decode cL_law 857 = .ok (.if_icmp .eq 309, 3) := by decide +kernel
theorem dL_law_860 : decode cL_law 860 = .ok (.iconst 0, 1) := by decide +kernel
theorem dL_law_861 : decode cL_law 861 = .ok (.ireturn, 1) := by decide +kernel
theorem dL_law_862 : decode cL_law 862 = .ok (.aload_n 1, 1) := by decide +kernel
theorem dL_law_863 : decode cL_law 863 = .ok (.aload_n 0, 1) := by decide +kernel
theorem dL_law_864 : decode cL_law 864 = .ok (.iload_n 3, 1) := by decide +kernel
theorem dL_law_865 : decode cL_law 865 = .ok (.iconst 1, 1) := by decide +kernel
theorem dL_law_866 : decode cL_law 866 = .ok (.iadd, 1) := by decide +kernel
theorem dL_law_867 : decode cL_law 867 = .ok (.iaload, 1) := by decide +kernel
theorem dL_law_868 : decode cL_law 868 = .ok (.aload_n 0, 1) := by decide +kernel
theorem dL_law_869 : decode cL_law 869 = .ok (.iload_n 3, 1) := by decide +kernel
theorem dL_law_870 : decode cL_law 870 = .ok (.iconst 2, 1) := by decide +kernel
theorem dL_law_871 : decode cL_law 871 = .ok (.iadd, 1) := by decide +kernel
theorem dL_law_872 : decode cL_law 872 = .ok (.iaload, 1) := by decide +kernel
theorem dL_law_873 : decode cL_law 873 = .ok (.invokevirtual 100, 3) := by decide +kernel
theorem dL_law_876 : decode cL_law 876 = .ok (.aload_n 2, 1) := by decide +kernel
theorem dL_law_877 : decode cL_law 877 = .ok (.aload_n 0, 1) := by decide +kernel
theorem dL_law_878 : decode cL_law 878 = .ok (.iload_n 3, 1) := by decide +kernel
theorem dL_law_879 : decode cL_law 879 = .ok (.iconst 1, 1) := by decide +kernel
theorem dL_law_880 : decode cL_law 880 = .ok (.iadd, 1) := by decide +kernel
theorem dL_law_881 : decode cL_law 881 = .ok (.iaload, 1) := by decide +kernel
theorem dL_law_882 : decode cL_law 882 = .ok (.aload_n 0, 1) := by decide +kernel
theorem dL_law_883 : decode cL_law 883 = .ok (.iload_n 3, 1) := by decide +kernel
theorem dL_law_884 : decode cL_law 884 = .ok (.iconst 2, 1) := by decide +kernel
theorem dL_law_885 : decode cL_law 885 = .ok (.iadd, 1) := by decide +kernel
theorem dL_law_886 : decode cL_law 886 = .ok (.iaload, 1) := by decide +kernel
theorem dL_law_887 : decode cL_law 887 = .ok (.invokevirtual 103, 3) := by decide +kernel
theorem dL_law_890 : decode cL_law 890 = .ok (.if_icmp .eq 276, 3) := by decide +kernel
theorem dL_law_893 : decode cL_law 893 = .ok (.iconst 0, 1) := by decide +kernel
theorem dL_law_894 : decode cL_law 894 = .ok (.ireturn, 1) := by decide +kernel
theorem dL_law_895 : decode cL_law 895 = .ok (.aload_n 1, 1) := by decide +kernel
theorem dL_law_896 : decode cL_law 896 = .ok (.aload_n 0, 1) := by decide +kernel
theorem dL_law_897 : decode cL_law 897 = .ok (.iload_n 3, 1) := by decide +kernel
theorem dL_law_898 : decode cL_law 898 = .ok (.iconst 1, 1) := by decide +kernel
theorem dL_law_899 : decode cL_law 899 = .ok (.iadd, 1) := by decide +kernel
theorem dL_law_900 : decode cL_law 900 = .ok (.iaload, 1) := by decide +kernel
theorem dL_law_901 : decode cL_law 901 = .ok (.aload_n 0, 1) := by decide +kernel
theorem dL_law_902 : decode cL_law 902 = .ok (.iload_n 3, 1) := by decide +kernel
theorem dL_law_903 : decode cL_law 903 = .ok (.iconst 2, 1) := by decide +kernel
theorem dL_law_904 : decode cL_law 904 = .ok (.iadd, 1) := by decide +kernel
theorem dL_law_905 : decode cL_law 905 = .ok (.iaload, 1) := by decide +kernel
theorem dL_law_906 : decode cL_law 906 = .ok (.aload_n 0, 1) := by decide +kernel
theorem dL_law_907 : decode cL_law 907 = .ok (.iload_n 3, 1) := by decide +kernel
theorem dL_law_908 : decode cL_law 908 = .ok (.iconst 3, 1) := by decide +kernel
theorem dL_law_909 : decode cL_law 909 = .ok (.iadd, 1) := by decide +kernel
theorem dL_law_910 : decode cL_law 910 = .ok (.iaload, 1) := by decide +kernel
theorem dL_law_911 : decode cL_law 911 = .ok (.invokevirtual 104, 3) := by decide +kernel
theorem dL_law_914 : decode cL_law 914 = .ok (.aload_n 2, 1) := by decide +kernel
theorem dL_law_915 : decode cL_law 915 = .ok (.aload_n 0, 1) := by decide +kernel
theorem dL_law_916 : decode cL_law 916 = .ok (.iload_n 3, 1) := by decide +kernel
theorem dL_law_917 : decode cL_law 917 = .ok (.iconst 1, 1) := by decide +kernel
theorem dL_law_918 : decode cL_law 918 = .ok (.iadd, 1) := by decide +kernel
theorem dL_law_919 : decode cL_law 919 = .ok (.iaload, 1) := by decide +kernel
theorem dL_law_920 : decode cL_law 920 = .ok (.aload_n 0, 1) := by decide +kernel
theorem dL_law_921 : decode cL_law 921 = .ok (.iload_n 3, 1) := by decide +kernel
theorem dL_law_922 : decode cL_law 922 = .ok (.iconst 2, 1) := by decide +kernel
theorem dL_law_923 : decode cL_law 923 = .ok (.iadd, 1) := by decide +kernel
theorem dL_law_924 : decode cL_law 924 = .ok (.iaload, 1) := by decide +kernel
theorem dL_law_925 : decode cL_law 925 = .ok (.aload_n 0, 1) := by decide +kernel
theorem dL_law_926 : decode cL_law 926 = .ok (.iload_n 3, 1) := by decide +kernel
theorem dL_law_927 : decode cL_law 927 = .ok (.iconst 3, 1) := by decide +kernel
theorem dL_law_928 : decode cL_law 928 = .ok (.iadd, 1) := by decide +kernel
theorem dL_law_929 : decode cL_law 929 = .ok (.iaload, 1) := by decide +kernel
theorem dL_law_930 : decode cL_law 930 = .ok (.invokevirtual 107, 3) := by decide +kernel
theorem dL_law_933 : decode cL_law 933 = .ok (.if_icmp .eq 233, 3) := by decide +kernel
theorem dL_law_936 : decode cL_law 936 = .ok (.iconst 0, 1) := by decide +kernel
theorem dL_law_937 : decode cL_law 937 = .ok (.ireturn, 1) := by decide +kernel
theorem dL_law_938 : decode cL_law 938 = .ok (.aload_n 1, 1) := by decide +kernel
theorem dL_law_939 : decode cL_law 939 = .ok (.aload_n 0, 1) := by decide +kernel
theorem dL_law_940 : decode cL_law 940 = .ok (.iload_n 3, 1) := by decide +kernel
theorem dL_law_941 : decode cL_law 941 = .ok (.iconst 1, 1) := by decide +kernel
theorem dL_law_942 : decode cL_law 942 = .ok (.iadd, 1) := by decide +kernel
theorem dL_law_943 : decode cL_law 943 = .ok (.iaload, 1) := by decide +kernel
theorem dL_law_944 : decode cL_law 944 = .ok (.aload_n 0, 1) := by decide +kernel
theorem dL_law_945 : decode cL_law 945 = .ok (.iload_n 3, 1) := by decide +kernel
theorem dL_law_946 : decode cL_law 946 = .ok (.iconst 2, 1) := by decide +kernel
theorem dL_law_947 : decode cL_law 947 = .ok (.iadd, 1) := by decide +kernel
theorem dL_law_948 : decode cL_law 948 = .ok (.iaload, 1) := by decide +kernel
theorem dL_law_949 : decode cL_law 949 = .ok (.invokevirtual 108, 3) := by decide +kernel
theorem dL_law_952 : decode cL_law 952 = .ok (.aload_n 2, 1) := by decide +kernel
theorem dL_law_953 : decode cL_law 953 = .ok (.aload_n 0, 1) := by decide +kernel
theorem dL_law_954 : decode cL_law 954 = .ok (.iload_n 3, 1) := by decide +kernel
theorem dL_law_955 : decode cL_law 955 = .ok (.iconst 1, 1) := by decide +kernel
theorem dL_law_956 : decode cL_law 956 = .ok (.iadd, 1) := by decide +kernel
theorem dL_law_957 : decode cL_law 957 = .ok (.iaload, 1) := by decide +kernel
theorem dL_law_958 : decode cL_law 958 = .ok (.aload_n 0, 1) := by decide +kernel
theorem dL_law_959 : decode cL_law 959 = .ok (.iload_n 3, 1) := by decide +kernel
theorem dL_law_960 : decode cL_law 960 = .ok (.iconst 2, 1) := by decide +kernel
theorem dL_law_961 : decode cL_law 961 = .ok (.iadd, 1) := by decide +kernel
theorem dL_law_962 : decode cL_law 962 = .ok (.iaload, 1) := by decide +kernel
theorem dL_law_963 : decode cL_law 963 = .ok (.invokevirtual 111, 3) := by decide +kernel
theorem dL_law_966 : decode cL_law 966 = .ok (.if_icmp .eq 200, 3) := by decide +kernel
theorem dL_law_969 : decode cL_law 969 = .ok (.iconst 0, 1) := by decide +kernel
theorem dL_law_970 : decode cL_law 970 = .ok (.ireturn, 1) := by decide +kernel
theorem dL_law_971 : decode cL_law 971 = .ok (.aload_n 1, 1) := by decide +kernel
theorem dL_law_972 : decode cL_law 972 = .ok (.aload_n 0, 1) := by decide +kernel
theorem dL_law_973 : decode cL_law 973 = .ok (.iload_n 3, 1) := by decide +kernel
theorem dL_law_974 : decode cL_law 974 = .ok (.iconst 1, 1) := by decide +kernel
theorem dL_law_975 : decode cL_law 975 = .ok (.iadd, 1) := by decide +kernel
theorem dL_law_976 : decode cL_law 976 = .ok (.iaload, 1) := by decide +kernel
theorem dL_law_977 : decode cL_law 977 = .ok (.aload_n 0, 1) := by decide +kernel
theorem dL_law_978 : decode cL_law 978 = .ok (.iload_n 3, 1) := by decide +kernel
theorem dL_law_979 : decode cL_law 979 = .ok (.iconst 2, 1) := by decide +kernel
theorem dL_law_980 : decode cL_law 980 = .ok (.iadd, 1) := by decide +kernel
theorem dL_law_981 : decode cL_law 981 = .ok (.iaload, 1) := by decide +kernel
theorem dL_law_982 : decode cL_law 982 = .ok (.aload_n 0, 1) := by decide +kernel
theorem dL_law_983 : decode cL_law 983 = .ok (.iload_n 3, 1) := by decide +kernel
theorem dL_law_984 : decode cL_law 984 = .ok (.iconst 3, 1) := by decide +kernel
theorem dL_law_985 : decode cL_law 985 = .ok (.iadd, 1) := by decide +kernel
theorem dL_law_986 : decode cL_law 986 = .ok (.iaload, 1) := by decide +kernel
theorem dL_law_987 : decode cL_law 987 = .ok (.aload_n 0, 1) := by decide +kernel
theorem dL_law_988 : decode cL_law 988 = .ok (.iload_n 3, 1) := by decide +kernel
theorem dL_law_989 : decode cL_law 989 = .ok (.iconst 4, 1) := by decide +kernel
theorem dL_law_990 : decode cL_law 990 = .ok (.iadd, 1) := by decide +kernel
theorem dL_law_991 : decode cL_law 991 = .ok (.iaload, 1) := by decide +kernel
theorem dL_law_992 : decode cL_law 992 = .ok (.invokevirtual 112, 3) := by decide +kernel
theorem dL_law_995 : decode cL_law 995 = .ok (.aload_n 2, 1) := by decide +kernel
theorem dL_law_996 : decode cL_law 996 = .ok (.aload_n 0, 1) := by decide +kernel
theorem dL_law_997 : decode cL_law 997 = .ok (.iload_n 3, 1) := by decide +kernel
theorem dL_law_998 : decode cL_law 998 = .ok (.iconst 1, 1) := by decide +kernel
theorem dL_law_999 : decode cL_law 999 = .ok (.iadd, 1) := by decide +kernel
theorem dL_law_1000 : decode cL_law 1000 = .ok (.iaload, 1) := by decide +kernel
theorem dL_law_1001 : decode cL_law 1001 = .ok (.aload_n 0, 1) := by decide +kernel
theorem dL_law_1002 : decode cL_law 1002 = .ok (.iload_n 3, 1) := by decide +kernel
theorem dL_law_1003 : decode cL_law 1003 = .ok (.iconst 2, 1) := by decide +kernel
theorem dL_law_1004 : decode cL_law 1004 = .ok (.iadd, 1) := by decide +kernel
theorem dL_law_1005 : decode cL_law 1005 = .ok (.iaload, 1) := by decide +kernel
theorem dL_law_1006 : decode cL_law 1006 = .ok (.aload_n 0, 1) := by decide +kernel
theorem dL_law_1007 : decode cL_law 1007 = .ok (.iload_n 3, 1) := by decide +kernel
theorem dL_law_1008 : decode cL_law 1008 = .ok (.iconst 3, 1) := by decide +kernel
theorem dL_law_1009 : decode cL_law 1009 = .ok (.iadd, 1) := by decide +kernel
theorem dL_law_1010 : decode cL_law 1010 = .ok (.iaload, 1) := by decide +kernel
theorem dL_law_1011 : decode cL_law 1011 = .ok (.aload_n 0, 1) := by decide +kernel
theorem dL_law_1012 : decode cL_law 1012 = .ok (.iload_n 3, 1) := by decide +kernel
theorem dL_law_1013 : decode cL_law 1013 = .ok (.iconst 4, 1) := by decide +kernel
theorem dL_law_1014 : decode cL_law 1014 = .ok (.iadd, 1) := by decide +kernel
theorem dL_law_1015 : decode cL_law 1015 = .ok (.iaload, 1) := by decide +kernel
theorem dL_law_1016 : decode cL_law 1016 = .ok (.invokevirtual 115, 3) := by decide +kernel
theorem dL_law_1019 : decode cL_law 1019 = .ok (.if_icmp .eq 147, 3) := by decide +kernel
theorem dL_law_1022 : decode cL_law 1022 = .ok (.iconst 0, 1) := by decide +kernel
theorem dL_law_1023 : decode cL_law 1023 = .ok (.ireturn, 1) := by decide +kernel
theorem dL_law_1024 : decode cL_law 1024 = .ok (.aload_n 1, 1) := by decide +kernel
theorem dL_law_1025 : decode cL_law 1025 = .ok (.aload_n 0, 1) := by decide +kernel
theorem dL_law_1026 : decode cL_law 1026 = .ok (.iload_n 3, 1) := by decide +kernel
theorem dL_law_1027 : decode cL_law 1027 = .ok (.iconst 1, 1) := by decide +kernel
theorem dL_law_1028 : decode cL_law 1028 = .ok (.iadd, 1) := by decide +kernel
theorem dL_law_1029 : decode cL_law 1029 = .ok (.iaload, 1) := by decide +kernel
theorem dL_law_1030 : decode cL_law 1030 = .ok (.aload_n 0, 1) := by decide +kernel
theorem dL_law_1031 : decode cL_law 1031 = .ok (.iload_n 3, 1) := by decide +kernel
theorem dL_law_1032 : decode cL_law 1032 = .ok (.iconst 2, 1) := by decide +kernel
theorem dL_law_1033 : decode cL_law 1033 = .ok (.iadd, 1) := by decide +kernel
theorem dL_law_1034 : decode cL_law 1034 = .ok (.iaload, 1) := by decide +kernel
theorem dL_law_1035 : decode cL_law 1035 = .ok (.invokevirtual 116, 3) := by decide +kernel
theorem dL_law_1038 : decode cL_law 1038 = .ok (.aload_n 2, 1) := by decide +kernel
theorem dL_law_1039 : decode cL_law 1039 = .ok (.aload_n 0, 1) := by decide +kernel
theorem dL_law_1040 : decode cL_law 1040 = .ok (.iload_n 3, 1) := by decide +kernel
theorem dL_law_1041 : decode cL_law 1041 = .ok (.iconst 1, 1) := by decide +kernel
theorem dL_law_1042 : decode cL_law 1042 = .ok (.iadd, 1) := by decide +kernel
theorem dL_law_1043 : decode cL_law 1043 = .ok (.iaload, 1) := by decide +kernel
theorem dL_law_1044 : decode cL_law 1044 = .ok (.aload_n 0, 1) := by decide +kernel
theorem dL_law_1045 : decode cL_law 1045 = .ok (.iload_n 3, 1) := by decide +kernel
theorem dL_law_1046 : decode cL_law 1046 = .ok (.iconst 2, 1) := by decide +kernel
theorem dL_law_1047 : decode cL_law 1047 = .ok (.iadd, 1) := by decide +kernel
theorem dL_law_1048 : decode cL_law 1048 = .ok (.iaload, 1) := by decide +kernel
theorem dL_law_1049 : decode cL_law 1049 = .ok (.invokevirtual 119, 3) := by decide +kernel
theorem dL_law_1052 : decode cL_law 1052 = .ok (.if_icmp .eq 114, 3) := by decide +kernel
theorem dL_law_1055 : decode cL_law 1055 = .ok (.iconst 0, 1) := by decide +kernel
theorem dL_law_1056 : decode cL_law 1056 = .ok (.ireturn, 1) := by decide +kernel
theorem dL_law_1057 : decode cL_law 1057 = .ok (.aload_n 1, 1) := by decide +kernel
theorem dL_law_1058 : decode cL_law 1058 = .ok (.aload_n 0, 1) := by decide +kernel
theorem dL_law_1059 : decode cL_law 1059 = .ok (.iload_n 3, 1) := by decide +kernel
theorem dL_law_1060 : decode cL_law 1060 = .ok (.iconst 1, 1) := by decide +kernel
theorem dL_law_1061 : decode cL_law 1061 = .ok (.iadd, 1) := by decide +kernel
theorem dL_law_1062 : decode cL_law 1062 = .ok (.iaload, 1) := by decide +kernel
theorem dL_law_1063 : decode cL_law 1063 = .ok (.aload_n 0, 1) := by decide +kernel
theorem dL_law_1064 : decode cL_law 1064 = .ok (.iload_n 3, 1) := by decide +kernel
theorem dL_law_1065 : decode cL_law 1065 = .ok (.iconst 2, 1) := by decide +kernel
theorem dL_law_1066 : decode cL_law 1066 = .ok (.iadd, 1) := by decide +kernel
theorem dL_law_1067 : decode cL_law 1067 = .ok (.iaload, 1) := by decide +kernel
theorem dL_law_1068 : decode cL_law 1068 = .ok (.aload_n 0, 1) := by decide +kernel
theorem dL_law_1069 : decode cL_law 1069 = .ok (.iload_n 3, 1) := by decide +kernel
theorem dL_law_1070 : decode cL_law 1070 = .ok (.iconst 3, 1) := by decide +kernel
theorem dL_law_1071 : decode cL_law 1071 = .ok (.iadd, 1) := by decide +kernel
theorem dL_law_1072 : decode cL_law 1072 = .ok (.iaload, 1) := by decide +kernel
theorem dL_law_1073 : decode cL_law 1073 = .ok (.invokevirtual 120, 3) := by decide +kernel
theorem dL_law_1076 : decode cL_law 1076 = .ok (.aload_n 2, 1) := by decide +kernel
theorem dL_law_1077 : decode cL_law 1077 = .ok (.aload_n 0, 1) := by decide +kernel
theorem dL_law_1078 : decode cL_law 1078 = .ok (.iload_n 3, 1) := by decide +kernel
theorem dL_law_1079 : decode cL_law 1079 = .ok (.iconst 1, 1) := by decide +kernel
theorem dL_law_1080 : decode cL_law 1080 = .ok (.iadd, 1) := by decide +kernel
theorem dL_law_1081 : decode cL_law 1081 = .ok (.iaload, 1) := by decide +kernel
theorem dL_law_1082 : decode cL_law 1082 = .ok (.aload_n 0, 1) := by decide +kernel
theorem dL_law_1083 : decode cL_law 1083 = .ok (.iload_n 3, 1) := by decide +kernel
theorem dL_law_1084 : decode cL_law 1084 = .ok (.iconst 2, 1) := by decide +kernel
theorem dL_law_1085 : decode cL_law 1085 = .ok (.iadd, 1) := by decide +kernel
theorem dL_law_1086 : decode cL_law 1086 = .ok (.iaload, 1) := by decide +kernel
theorem dL_law_1087 : decode cL_law 1087 = .ok (.aload_n 0, 1) := by decide +kernel
theorem dL_law_1088 : decode cL_law 1088 = .ok (.iload_n 3, 1) := by decide +kernel
theorem dL_law_1089 : decode cL_law 1089 = .ok (.iconst 3, 1) := by decide +kernel
theorem dL_law_1090 : decode cL_law 1090 = .ok (.iadd, 1) := by decide +kernel
theorem dL_law_1091 : decode cL_law 1091 = .ok (.iaload, 1) := by decide +kernel
theorem dL_law_1092 : decode cL_law 1092 = .ok (.invokevirtual 123, 3) := by decide +kernel
theorem dL_law_1095 : decode cL_law 1095 = .ok (.if_icmp .eq 71, 3) := by decide +kernel
theorem dL_law_1098 : decode cL_law 1098 = .ok (.iconst 0, 1) := by decide +kernel
theorem dL_law_1099 : decode cL_law 1099 = .ok (.ireturn, 1) := by decide +kernel
theorem dL_law_1100 : decode cL_law 1100 = .ok (.aload_n 1, 1) := by decide +kernel
theorem dL_law_1101 : decode cL_law 1101 = .ok (.aload_n 0, 1) := by decide +kernel
theorem dL_law_1102 : decode cL_law 1102 = .ok (.iload_n 3, 1) := by decide +kernel
theorem dL_law_1103 : decode cL_law 1103 = .ok (.iconst 1, 1) := by decide +kernel
theorem dL_law_1104 : decode cL_law 1104 = .ok (.iadd, 1) := by decide +kernel
theorem dL_law_1105 : decode cL_law 1105 = .ok (.iaload, 1) := by decide +kernel
theorem dL_law_1106 : decode cL_law 1106 = .ok (.aload_n 0, 1) := by decide +kernel
theorem dL_law_1107 : decode cL_law 1107 = .ok (.iload_n 3, 1) := by decide +kernel
theorem dL_law_1108 : decode cL_law 1108 = .ok (.iconst 2, 1) := by decide +kernel
theorem dL_law_1109 : decode cL_law 1109 = .ok (.iadd, 1) := by decide +kernel
theorem dL_law_1110 : decode cL_law 1110 = .ok (.iaload, 1) := by decide +kernel
theorem dL_law_1111 : decode cL_law 1111 = .ok (.aload_n 0, 1) := by decide +kernel
theorem dL_law_1112 : decode cL_law 1112 = .ok (.iload_n 3, 1) := by decide +kernel
theorem dL_law_1113 : decode cL_law 1113 = .ok (.iconst 3, 1) := by decide +kernel
theorem dL_law_1114 : decode cL_law 1114 = .ok (.iadd, 1) := by decide +kernel
theorem dL_law_1115 : decode cL_law 1115 = .ok (.iaload, 1) := by decide +kernel
theorem dL_law_1116 : decode cL_law 1116 = .ok (.invokevirtual 124, 3) := by decide +kernel
theorem dL_law_1119 : decode cL_law 1119 = .ok (.aload_n 2, 1) := by decide +kernel
theorem dL_law_1120 : decode cL_law 1120 = .ok (.aload_n 0, 1) := by decide +kernel
theorem dL_law_1121 : decode cL_law 1121 = .ok (.iload_n 3, 1) := by decide +kernel
theorem dL_law_1122 : decode cL_law 1122 = .ok (.iconst 1, 1) := by decide +kernel
theorem dL_law_1123 : decode cL_law 1123 = .ok (.iadd, 1) := by decide +kernel
theorem dL_law_1124 : decode cL_law 1124 = .ok (.iaload, 1) := by decide +kernel
theorem dL_law_1125 : decode cL_law 1125 = .ok (.aload_n 0, 1) := by decide +kernel
theorem dL_law_1126 : decode cL_law 1126 = .ok (.iload_n 3, 1) := by decide +kernel
theorem dL_law_1127 : decode cL_law 1127 = .ok (.iconst 2, 1) := by decide +kernel
theorem dL_law_1128 : decode cL_law 1128 = .ok (.iadd, 1) := by decide +kernel
theorem dL_law_1129 : decode cL_law 1129 = .ok (.iaload, 1) := by decide +kernel
theorem dL_law_1130 : decode cL_law 1130 = .ok (.aload_n 0, 1) := by decide +kernel
theorem dL_law_1131 : decode cL_law 1131 = .ok (.iload_n 3, 1) := by decide +kernel
theorem dL_law_1132 : decode cL_law 1132 = .ok (.iconst 3, 1) := by decide +kernel
theorem dL_law_1133 : decode cL_law 1133 = .ok (.iadd, 1) := by decide +kernel
theorem dL_law_1134 : decode cL_law 1134 = .ok (.iaload, 1) := by decide +kernel
theorem dL_law_1135 : decode cL_law 1135 = .ok (.invokevirtual 127, 3) := by decide +kernel
theorem dL_law_1138 : decode cL_law 1138 = .ok (.if_icmp .eq 28, 3) := by decide +kernel
theorem dL_law_1141 : decode cL_law 1141 = .ok (.iconst 0, 1) := by decide +kernel
theorem dL_law_1142 : decode cL_law 1142 = .ok (.ireturn, 1) := by decide +kernel
theorem dL_law_1143 : decode cL_law 1143 = .ok (.aload_n 1, 1) := by decide +kernel
theorem dL_law_1144 : decode cL_law 1144 = .ok (.aload_n 0, 1) := by decide +kernel
theorem dL_law_1145 : decode cL_law 1145 = .ok (.iload_n 3, 1) := by decide +kernel
theorem dL_law_1146 : decode cL_law 1146 = .ok (.iconst 1, 1) := by decide +kernel
theorem dL_law_1147 : decode cL_law 1147 = .ok (.iadd, 1) := by decide +kernel
theorem dL_law_1148 : decode cL_law 1148 = .ok (.iaload, 1) := by decide +kernel
theorem dL_law_1149 : decode cL_law 1149 = .ok (.invokevirtual 128, 3) := by decide +kernel
theorem dL_law_1152 : decode cL_law 1152 = .ok (.aload_n 2, 1) := by decide +kernel
theorem dL_law_1153 : decode cL_law 1153 = .ok (.aload_n 0, 1) := by decide +kernel
theorem dL_law_1154 : decode cL_law 1154 = .ok (.iload_n 3, 1) := by decide +kernel
theorem dL_law_1155 : decode cL_law 1155 = .ok (.iconst 1, 1) := by decide +kernel
theorem dL_law_1156 : decode cL_law 1156 = .ok (.iadd, 1) := by decide +kernel
theorem dL_law_1157 : decode cL_law 1157 = .ok (.iaload, 1) := by decide +kernel
theorem dL_law_1158 : decode cL_law 1158 = .ok (.invokevirtual 131, 3) := by decide +kernel
theorem dL_law_1161 : decode cL_law 1161 = .ok (.if_icmp .eq 5, 3) := by decide +kernel
theorem dL_law_1164 : decode cL_law 1164 = .ok (.iconst 0, 1) := by decide +kernel
theorem dL_law_1165 : decode cL_law 1165 = .ok (.ireturn, 1) := by decide +kernel
theorem dL_law_1166 : decode cL_law 1166 = .ok (.iinc 3 7, 3) := by decide +kernel
theorem dL_law_1169 : decode cL_law 1169 = .ok (.goto (-1151), 3) := by decide +kernel
theorem dL_law_1172 : decode cL_law 1172 = .ok (.iconst 1, 1) := by decide +kernel
theorem dL_law_1173 : decode cL_law 1173 = .ok (.ireturn, 1) := by decide +kernel
