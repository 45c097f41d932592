theorem dX7_row_72 : decode cX7_row 72 = .ok (.getfield 15, 3) := by decide +kernel
theorem dX7_row_75 : decode cX7_row 75 = .ok (.iload_n 1, 1) := by decide +kernel
theorem dX7_row_76 : decode cX7_row 76 = .ok (.iaload, 1) := by decide +kernel
theorem dX7_row_77 : decode cX7_row 77 = .ok (.if_icmp .ge 32, 3) := by decide +kernel
theorem dX7_row_80 : decode cX7_row 80 = .ok (.aload_n 0, 1) := by decide +kernel
theorem dX7_row_81 : decode cX7_row 81 = .ok (.getfield 45, 3) := by decide +kernel
theorem dX7_row_84 : decode cX7_row 84 = .ok (.iload_n 1, 1) := by decide +kernel
theorem dX7_row_85 : decode cX7_row 85 = .ok (.iload_n 2, 1) := by decide +kernel
theorem dX7_row_86 : decode cX7_row 86 = .ok (.iconst 0, 1) := by decide +kernel
theorem dX7_row_87 : decode cX7_row 87 = .ok (.invokestatic 127, 3) := by decide +kernel
theorem dX7_row_90 : decode cX7_row 90 = .ok (.iaload, 1) := by decide +kernel
theorem dX7_row_91 : decode cX7_row 91 = .ok (.aload_n 0, 1) := by decide +kernel
theorem dX7_row_92 : decode cX7_row 92 = .ok (.getfield 54, 3) := by decide +kernel
theorem dX7_row_95 : decode cX7_row 95 = .ok (.iconst 0, 1) := by decide +kernel
theorem dX7_row_96 : decode cX7_row 96 = .ok (.iaload, 1) := by decide +kernel
theorem dX7_row_97 : decode cX7_row 97 = .ok (.if_icmp .ne 6, 3) := by decide +kernel
theorem dX7_row_100 : decode cX7_row 100 = .ok (.bipush (-3), 2) := by decide +kernel
theorem dX7_row_102 : decode cX7_row 102 = .ok (.ireturn, 1) := by decide +kernel
theorem dX7_row_103 : decode cX7_row 103 = .ok (.iinc 2 1, 3) := by decide +kernel
theorem dX7_row_106 : decode cX7_row 106 = .ok (.goto (-36), 3) := by decide +kernel
theorem dX7_row_109 : decode cX7_row 109 = .ok (.aload_n 0, 1) := by decide +kernel
theorem dX7_row_110 : decode cX7_row 110 = .ok (.getfield 15, 3) := by decide +kernel
theorem dX7_row_113 : decode cX7_row 113 = .ok (.iload_n 1, 1) := by decide +kernel
theorem dX7_row_114 : decode cX7_row 114 = .ok (.iaload, 1) := by decide +kernel
theorem dX7_row_115 : decode cX7_row 115 = .ok (.bipush 12, 2) := by decide +kernel
theorem dX7_row_117 : decode cX7_row 117 = .ok (.if_icmp .ne 6, 3) := by decide +kernel
theorem dX7_row_120 : decode cX7_row 120 = .ok (.bipush (-4), 2) := by decide +kernel
theorem dX7_row_122 : decode cX7_row 122 = .ok (.ireturn, 1) := by decide +kernel
theorem dX7_row_123 : decode cX7_row 123 = .ok (.iconst 0, 1) := by decide +kernel
theorem dX7_row_124 : decode cX7_row 124 = .ok (.istore_n 2, 1) := by decide +kernel
theorem dX7_row_125 : decode cX7_row 125 = .ok (.iload_n 2, 1) := by decide +kernel
theorem dX7_row_126 : decode cX7_row 126 = .ok (.aload_n 0, 1) := by decide +kernel
theorem dX7_row_127 : decode cX7_row 127 = .ok (.getfield 116, 3) := by decide +kernel
theorem dX7_row_130 : decode cX7_row 130 = .ok (.if_icmp .ge 31, 3) := by decide +kernel
theorem dX7_row_133 : decode cX7_row 133 = .ok (.aload_n 0, 1) := by decide +kernel
theorem dX7_row_134 : decode cX7_row 134 = .ok (.getfield 45, 3) := by decide +kernel
theorem dX7_row_137 : decode cX7_row 137 = .ok (.iload_n 1, 1) := by decide +kernel
theorem dX7_row_138 : decode cX7_row 138 = .ok (.aload_n 0, 1) := by decide +kernel
theorem dX7_row_139 : decode cX7_row 139 = .ok (.getfield 15, 3) := by decide +kernel
theorem dX7_row_142 : decode cX7_row 142 = .ok (.iload_n 1, 1) := by decide +kernel
theorem dX7_row_143 : decode cX7_row 143 = .ok (.iaload, 1) := by decide +kernel
theorem dX7_row_144 : decode cX7_row 144 = .ok (.iload_n 2, 1) := by decide +kernel
theorem dX7_row_145 : decode cX7_row 145 = .ok (.invokestatic 127, 3) := by decide +kernel
theorem dX7_row_148 : decode cX7_row 148 = .ok (.aload_n 0, 1) := by decide +kernel
theorem dX7_row_149 : decode cX7_row 149 = .ok (.getfield 54, 3) := by decide +kernel
theorem dX7_row_152 : decode cX7_row 152 = .ok (.iload_n 2, 1) := by decide +kernel
theorem dX7_row_153 : decode cX7_row 153 = .ok (.iaload, 1) := by decide +kernel
theorem dX7_row_154 : decode cX7_row 154 = .ok (.iastore, 1) := by decide +kernel
theorem dX7_row_155 : decode cX7_row 155 = .ok (.iinc 2 1, 3) := by decide +kernel
theorem dX7_row_158 : decode cX7_row 158 = .ok (.goto (-33), 3) := by decide +kernel
theorem dX7_row_161 : decode cX7_row 161 = .ok (.aload_n 0, 1) := by decide +kernel
theorem dX7_row_162 : decode cX7_row 162 = .ok (.getfield 15, 3) := by decide +kernel
theorem dX7_row_165 : decode cX7_row 165 = .ok (.iload_n 1, 1) := by decide +kernel
theorem dX7_row_166 : decode cX7_row 166 = .ok (.dup2, 1) := by decide +kernel
theorem dX7_row_167 : decode cX7_row 167 = .ok (.iaload, 1) := by decide +kernel
theorem dX7_row_168 : decode cX7_row 168 = .ok (.iconst 1, 1) := by decide +kernel
theorem dX7_row_169 : decode cX7_row 169 = .ok (.iadd, 1) := by decide +kernel
theorem dX7_row_170 : decode cX7_row 170 = .ok (.iastore, 1) := by decide +kernel
theorem dX7_row_171 : decode cX7_row 171 = .ok (.aload_n 0, 1) := by decide +kernel
theorem dX7_row_172 : decode cX7_row 172 = .ok (.iconst 0, 1) := by decide +kernel
theorem dX7_row_173 : decode cX7_row 173 = .ok (.putfield 116, 3) := by decide +kernel
theorem dX7_row_176 : decode cX7_row 176 = .ok (.aload_n 0, 1) := by decide +kernel
theorem dX7_row_177 : decode cX7_row 177 = .ok (.iconst 0, 1) := by decide +kernel
theorem dX7_row_178 : decode cX7_row 178 = .ok (.putfield 112, 3) := by decide +kernel
theorem dX7_row_181 : decode cX7_row 181 = .ok (.aload_n 0, 1) := by decide +kernel
theorem dX7_row_182 : decode cX7_row 182 = .ok (.getfield 15, 3) := by decide +kernel
theorem dX7_row_185 : decode cX7_row 185 = .ok (.iload_n 1, 1) := by decide +kernel
theorem dX7_row_186 : decode cX7_row 186 = .ok (.iaload, 1) := by decide +kernel
theorem dX7_row_187 : decode cX7_row 187 = .ok (.iconst 1, 1) := by decide +kernel
theorem dX7_row_188 : decode cX7_row 188 = .ok (.isub, 1) := by decide +kernel
theorem dX7_row_189 : decode cX7_row 189 = .ok (.ireturn, 1) := by decide +kernel
theorem dX7_owner_0 : decode cX7_owner 0 = .ok (.aload_n 0, 1) := by decide +kernel
theorem dX7_owner_1 : decode cX7_owner 1 = .ok (.iload_n 1, 1) := by decide +kernel
theorem dX7_owner_2 : decode cX7_owner 2 = .ok (.iload_n 2, 1) := by decide +kernel
theorem dX7_owner_3 : decode cX7_owner 3 = .ok (.invokevirtual 131, 3) := by decide +kernel
theorem dX7_owner_6 : decode cX7_owner 6 = .ok (.ifCond .ne 5, 3) := by decide +kernel
theorem dX7_owner_9 : decode cX7_owner 9 = .ok (.iconst (-1), 1) := by decide +kernel
theorem dX7_owner_10 : decode cX7_owner 10 = .ok (.ireturn, 1) := by decide +kernel
theorem dX7_owner_11 : decode cX7_owner 11 = .ok (.iload_n 2, 1) := by decide +kernel
theorem dX7_owner_12 : decode cX7_owner 12 = .ok (.ifCond .eq 21, 3) := by decide +kernel
theorem dX7_owner_15 : decode cX7_owner 15 = .ok (.aload_n 0, 1) := by decide +kernel
theorem dX7_owner_16 : decode cX7_owner 16 = .ok (.getfield 21, 3) := by decide +kernel
theorem dX7_owner_19 : decode cX7_owner 19 = .ok (.bipush 6, 2) := by decide +kernel
theorem dX7_owner_21 : decode cX7_owner 21 = .ok (.iload_n 1, 1) := by decide +kernel
theorem dX7_owner_22 : decode cX7_owner 22 = .ok (.imul, 1) := by decide +kernel
theorem dX7_owner_23 : decode cX7_owner 23 = .ok (.iload_n 2, 1) := by decide +kernel
theorem dX7_owner_24 : decode cX7_owner 24 = .ok (.iadd, 1) := by decide +kernel
theorem dX7_owner_25 : decode cX7_owner 25 = .ok (.iaload, 1) := by decide +kernel
theorem dX7_owner_26 : decode cX7_owner 26 = .ok (.iconst 1, 1) := by decide +kernel
theorem dX7_owner_27 : decode cX7_owner 27 = .ok (.if_icmp .eq 6, 3) := by decide +kernel
theorem dX7_owner_30 : decode cX7_owner 30 = .ok (.bipush (-2), 2) := by decide +kernel
theorem dX7_owner_32 : decode cX7_owner 32 = .ok (.ireturn, 1) := by decide +kernel
theorem dX7_owner_33 : decode cX7_owner 33 = .ok (.aload_n 0, 1) := by decide +kernel
theorem dX7_owner_34 : decode cX7_owner 34 = .ok (.getfield 18, 3) := by decide +kernel
theorem dX7_owner_37 : decode cX7_owner 37 = .ok (.iload_n 1, 1) := by decide +kernel
theorem dX7_owner_38 : decode cX7_owner 38 = .ok (.iaload, 1) := by decide +kernel
theorem dX7_owner_39 : decode cX7_owner 39 = .ok (.istore_n 3, 1) := by decide +kernel
theorem dX7_owner_40 : decode cX7_owner 40 = .ok (.aload_n 0, 1) := by decide +kernel
theorem dX7_owner_41 : decode cX7_owner 41 = .ok (.getfield 18, 3) := by decide +kernel
theorem dX7_owner_44 : decode cX7_owner 44 = .ok (.iload_n 1, 1) := by decide +kernel
theorem dX7_owner_45 : decode cX7_owner 45 = .ok (.iload_n 2, 1) := by decide +kernel
theorem dX7_owner_46 : decode cX7_owner 46 = .ok (.iastore, 1) := by decide +kernel
theorem dX7_owner_47 : decode cX7_owner 47 = .ok (.iload_n 3, 1) := by decide +kernel
theorem dX7_owner_48 : decode cX7_owner 48 = .ok (.ireturn, 1) := by decide +kernel
theorem dX7_fits_0 : decode cX7_fits 0 = .ok (.iload_n 1, 1) := by decide +kernel
theorem dX7_fits_1 : decode cX7_fits 1 = .ok (.tableswitch 145 0 5 #[39, 49, 68, 83, 110, 131], 39) := by decide +kernel
theorem dX7_fits_40 : decode cX7_fits 40 = .ok (.iload_n 2, 1) := by decide +kernel
theorem dX7_fits_41 : decode cX7_fits 41 = .ok (.ifCond .ne 7, 3) := by decide +kernel
theorem dX7_fits_44 : decode cX7_fits 44 = .ok (.iconst 1, 1) := by decide +kernel
theorem dX7_fits_45 : decode cX7_fits 45 = .ok (.goto 4, 3) := by decide +kernel
theorem dX7_fits_48 : decode cX7_fits 48 = .ok (.iconst 0, 1) := by decide +kernel
theorem dX7_fits_49 : decode cX7_fits 49 = .ok (.ireturn, 1) := by decide +kernel
theorem dX7_fits_50 : decode cX7_fits 50 = .ok (.iload_n 2, 1) := by decide +kernel
theorem dX7_fits_51 : decode cX7_fits 51 = .ok (.ifCond .ne 16, 3) := by decide +kernel
theorem dX7_fits_54 : decode cX7_fits 54 = .ok (.iload_n 0, 1) := by decide +kernel
theorem dX7_fits_55 : decode cX7_fits 55 = .ok (.ifCond .eq 8, 3) := by decide +kernel
theorem dX7_fits_58 : decode cX7_fits 58 = .ok (.iload_n 0, 1) := by decide +kernel
theorem dX7_fits_59 : decode cX7_fits 59 = .ok (.iconst 4, 1) := by decide +kernel
theorem dX7_fits_60 : decode cX7_fits 60 = .ok (.if_icmp .ne 7, 3) := by decide +kernel
theorem dX7_fits_63 : decode cX7_fits 63 = .ok (.iconst 1, 1) := by decide +kernel
theorem dX7_fits_64 : decode cX7_fits 64 = .ok (.goto 4, 3) := by decide +kernel
theorem dX7_fits_67 : decode cX7_fits 67 = .ok (.iconst 0, 1) := by decide +kernel
theorem dX7_fits_68 : decode cX7_fits 68 = .ok (.ireturn, 1) := by decide +kernel
theorem dX7_fits_69 : decode cX7_fits 69 = .ok (.iload_n 2, 1) := by decide +kernel
theorem dX7_fits_70 : decode cX7_fits 70 = .ok (.ifCond .ne 12, 3) := by decide +kernel
theorem dX7_fits_73 : decode cX7_fits 73 = .ok (.iload_n 0, 1) := by decide +kernel
theorem dX7_fits_74 : decode cX7_fits 74 = .ok (.iconst 2, 1) := by decide +kernel
theorem dX7_fits_75 : decode cX7_fits 75 = .ok (.if_icmp .ne 7, 3) := by decide +kernel
theorem dX7_fits_78 : decode cX7_fits 78 = .ok (.iconst 1, 1) := by decide +kernel
theorem dX7_fits_79 : decode cX7_fits 79 = .ok (.goto 4, 3) := by decide +kernel
theorem dX7_fits_82 : decode cX7_fits 82 = .ok (.iconst 0, 1) := by decide +kernel
theorem dX7_fits_83 : decode cX7_fits 83 = .ok (.ireturn, 1) := by decide +kernel
theorem dX7_fits_84 : decode cX7_fits 84 = .ok (.iload_n 2, 1) := by decide +kernel
theorem dX7_fits_85 : decode cX7_fits 85 = .ok (.iconst 1, 1) := by decide +kernel
theorem dX7_fits_86 : decode cX7_fits 86 = .ok (.sipush 1000, 3) := by decide +kernel
theorem dX7_fits_89 : decode cX7_fits 89 = .ok (.invokestatic 95, 3) := by decide +kernel
theorem dX7_fits_92 : decode cX7_fits 92 = .ok (.ifCond .eq 17, 3) := by decide +kernel
theorem dX7_fits_95 : decode cX7_fits 95 = .ok (.iload_n 0, 1) := by decide +kernel
theorem dX7_fits_96 : decode cX7_fits 96 = .ok (.iconst 2, 1) := by decide +kernel
theorem dX7_fits_97 : decode cX7_fits 97 = .ok (.if_icmp .eq 8, 3) := by decide +kernel
theorem dX7_fits_100 : decode cX7_fits 100 = .ok (.iload_n 0, 1) := by decide +kernel
theorem dX7_fits_101 : decode cX7_fits 101 = .ok (.iconst 3, 1) := by decide +kernel
theorem dX7_fits_102 : decode cX7_fits 102 = .ok (.if_icmp .ne 7, 3) := by decide +kernel
theorem dX7_fits_105 : decode cX7_fits 105 = .ok (.iconst 1, 1) := by decide +kernel
theorem dX7_fits_106 : decode cX7_fits 106 = .ok (.goto 4, 3) := by decide +kernel
theorem dX7_fits_109 : decode cX7_fits 109 = .ok (.iconst 0, 1) := by decide +kernel
theorem dX7_fits_110 : decode cX7_fits 110 = .ok (.ireturn, 1) := by decide +kernel
theorem dX7_fits_111 : decode cX7_fits 111 = .ok (.iload_n 2, 1) := by decide +kernel
theorem dX7_fits_112 : decode cX7_fits 112 = .ok (.iconst 0, 1) := by decide +kernel
theorem dX7_fits_113 : decode cX7_fits 113 = .ok (.bipush 11, 2) := by decide +kernel
theorem dX7_fits_115 : decode cX7_fits 115 = .ok (.invokestatic 95, 3) := by decide +kernel
theorem dX7_fits_118 : decode cX7_fits 118 = .ok (.ifCond .eq 12, 3) := by decide +kernel
theorem dX7_fits_121 : decode cX7_fits 121 = .ok (.iload_n 0, 1) := by decide +kernel
theorem dX7_fits_122 : decode cX7_fits 122 = .ok (.iconst 4, 1) := by decide +kernel
theorem dX7_fits_123 : decode cX7_fits 123 = .ok (.if_icmp .ne 7, 3) := by decide +kernel
theorem dX7_fits_126 : decode cX7_fits 126 = .ok (.iconst 1, 1) := by decide +kernel
theorem dX7_fits_127 : decode cX7_fits 127 = .ok (.goto 4, 3) := by decide +kernel
theorem dX7_fits_130 : decode cX7_fits 130 = .ok (.iconst 0, 1) := by decide +kernel
theorem dX7_fits_131 : decode cX7_fits 131 = .ok (.ireturn, 1) := by decide +kernel
theorem dX7_fits_132 : decode cX7_fits 132 = .ok (.iload_n 2, 1) := by decide +kernel
theorem dX7_fits_133 : decode cX7_fits 133 = .ok (.ifCond .ne 11, 3) := by decide +kernel
theorem dX7_fits_136 : decode cX7_fits 136 = .ok (.iload_n 0, 1) := by decide +kernel
theorem dX7_fits_137 : decode cX7_fits 137 = .ok (.ifCond .eq 7, 3) := by decide +kernel
theorem dX7_fits_140 : decode cX7_fits 140 = .ok (.iconst 1, 1) := by decide +kernel
theorem dX7_fits_141 : decode cX7_fits 141 = .ok (.goto 4, 3) := by decide +kernel
theorem dX7_fits_144 : decode cX7_fits 144 = .ok (.iconst 0, 1) := by decide +kernel
theorem dX7_fits_145 : decode cX7_fits 145 = .ok (.ireturn, 1) := by decide +kernel
theorem dX7_fits_146 : decode cX7_fits 146 = .ok (.iconst 0, 1) := by decide +kernel
theorem dX7_fits_147 : decode cX7_fits 147 = .ok (.ireturn, 1) := by decide +kernel
theorem dX7_mask_0 : decode cX7_mask 0 = .ok (.aload_n 0, 1) := by decide +kernel
theorem dX7_mask_1 : decode cX7_mask 1 = .ok (.iload_n 1, 1) := by decide +kernel
theorem dX7_mask_2 : decode cX7_mask 2 = .ok (.iload_n 2, 1) := by decide +kernel
theorem dX7_mask_3 : decode cX7_mask 3 = .ok (.invokevirtual 131, 3) := by decide +kernel
theorem dX7_mask_6 : decode cX7_mask 6 = .ok (.ifCond .ne 5, 3) := by decide +kernel
theorem dX7_mask_9 : decode cX7_mask 9 = .ok (.iconst (-1), 1) := by decide +kernel
theorem dX7_mask_10 : decode cX7_mask 10 = .ok (.ireturn, 1) := by decide +kernel
theorem dX7_mask_11 : decode cX7_mask 11 = .ok (.aload_n 0, 1) := by decide +kernel
theorem dX7_mask_12 : decode cX7_mask 12 = .ok (.getfield 21, 3) := by decide +kernel
theorem dX7_mask_15 : decode cX7_mask 15 = .ok (.bipush 6, 2) := by decide +kernel
theorem dX7_mask_17 : decode cX7_mask 17 = .ok (.iload_n 1, 1) := by decide +kernel
theorem dX7_mask_18 : decode cX7_mask 18 = .ok (.imul, 1) := by decide +kernel
theorem dX7_mask_19 : decode cX7_mask 19 = .ok (.iload_n 2, 1) := by decide +kernel
theorem dX7_mask_20 : decode cX7_mask 20 = .ok (.iadd, 1) := by decide +kernel
theorem dX7_mask_21 : decode cX7_mask 21 = .ok (.iaload, 1) := by decide +kernel
theorem dX7_mask_22 : decode cX7_mask 22 = .ok (.iload_n 3, 1) := by decide +kernel
theorem dX7_mask_23 : decode cX7_mask 23 = .ok (.iload 4, 2) := by decide +kernel
theorem dX7_mask_25 : decode cX7_mask 25 = .ok (.invokestatic 134, 3) := by decide +kernel
theorem dX7_mask_28 : decode cX7_mask 28 = .ok (.ifCond .ne 6, 3) := by decide +kernel
theorem dX7_mask_31 : decode cX7_mask 31 = .ok (.bipush (-2), 2) := by decide +kernel
theorem dX7_mask_33 : decode cX7_mask 33 = .ok (.ireturn, 1) := by decide +kernel
theorem dX7_mask_34 : decode cX7_mask 34 = .ok (.aload_n 0, 1) := by decide +kernel
theorem dX7_mask_35 : decode cX7_mask 35 = .ok (.getfield 27, 3) := by decide +kernel
theorem dX7_mask_38 : decode cX7_mask 38 = .ok (.bipush 6, 2) := by decide +kernel
theorem dX7_mask_40 : decode cX7_mask 40 = .ok (.iload_n 1, 1) := by decide +kernel
theorem dX7_mask_41 : decode cX7_mask 41 = .ok (.imul, 1) := by decide +kernel
theorem dX7_mask_42 : decode cX7_mask 42 = .ok (.iload_n 2, 1) := by decide +kernel
theorem dX7_mask_43 : decode cX7_mask 43 = .ok (.iadd, 1) := by decide +kernel
theorem dX7_mask_44 : decode cX7_mask 44 = .ok (.iload_n 3, 1) := by decide +kernel
theorem dX7_mask_45 : decode cX7_mask 45 = .ok (.iastore, 1) := by decide +kernel
theorem dX7_mask_46 : decode cX7_mask 46 = .ok (.aload_n 0, 1) := by decide +kernel
theorem dX7_mask_47 : decode cX7_mask 47 = .ok (.getfield 30, 3) := by decide +kernel
theorem dX7_mask_50 : decode cX7_mask 50 = .ok (.bipush 6, 2) := by decide +kernel
theorem dX7_mask_52 : decode cX7_mask 52 = .ok (.iload_n 1, 1) := by decide +kernel
theorem dX7_mask_53 : decode cX7_mask 53 = .ok (.imul, 1) := by decide +kernel
theorem dX7_mask_54 : decode cX7_mask 54 = .ok (.iload_n 2, 1) := by decide +kernel
theorem dX7_mask_55 : decode cX7_mask 55 = .ok (.iadd, 1) := by decide +kernel
theorem dX7_mask_56 : decode cX7_mask 56 = .ok (.iload 4, 2) := by decide +kernel
theorem dX7_mask_58 : decode cX7_mask 58 = .ok (.iastore, 1) := by decide +kernel
theorem dX7_mask_59 : decode cX7_mask 59 = .ok (.iconst 0, 1) := by decide +kernel
theorem dX7_mask_60 : decode cX7_mask 60 = .ok (.ireturn, 1) := by decide +kernel
theorem dX7_dial_0 : decode cX7_dial 0 = .ok (.aload_n 0, 1) := by decide +kernel
theorem dX7_dial_1 : decode cX7_dial 1 = .ok (.iload_n 1, 1) := by decide +kernel
theorem dX7_dial_2 : decode cX7_dial 2 = .ok (.iload_n 2, 1) := by decide +kernel
theorem dX7_dial_3 : decode cX7_dial 3 = .ok (.invokevirtual 131, 3) := by decide +kernel
theorem dX7_dial_6 : decode cX7_dial 6 = .ok (.ifCond .ne 5, 3) := by decide +kernel
theorem dX7_dial_9 : decode cX7_dial 9 = .ok (.iconst (-1), 1) := by decide +kernel
theorem dX7_dial_10 : decode cX7_dial 10 = .ok (.ireturn, 1) := by decide +kernel
theorem dX7_dial_11 : decode cX7_dial 11 = .ok (.aload_n 0, 1) := by decide +kernel
theorem dX7_dial_12 : decode cX7_dial 12 = .ok (.getfield 21, 3) := by decide +kernel
theorem dX7_dial_15 : decode cX7_dial 15 = .ok (.bipush 6, 2) := by decide +kernel
theorem dX7_dial_17 : decode cX7_dial 17 = .ok (.iload_n 1, 1) := by decide +kernel
theorem dX7_dial_18 : decode cX7_dial 18 = .ok (.imul, 1) := by decide +kernel
theorem dX7_dial_19 : decode cX7_dial 19 = .ok (.iload_n 2, 1) := by decide +kernel
theorem dX7_dial_20 : decode cX7_dial 20 = .ok (.iadd, 1) := by decide +kernel
theorem dX7_dial_21 : decode cX7_dial 21 = .ok (.iaload, 1) := by decide +kernel
theorem dX7_dial_22 : decode cX7_dial 22 = .ok (.ifCond .ne 7, 3) := by decide +kernel
theorem dX7_dial_25 : decode cX7_dial 25 = .ok (.iconst 1, 1) := by decide +kernel
theorem dX7_dial_26 : decode cX7_dial 26 = .ok (.goto 4, 3) := by decide +kernel
theorem dX7_dial_29 : decode cX7_dial 29 = .ok (.iconst 0, 1) := by decide +kernel
theorem dX7_dial_30 : decode cX7_dial 30 = .ok (.istore 6, 2) := by decide +kernel
theorem dX7_dial_32 : decode cX7_dial 32 = .ok (.iload 6, 2) := by decide +kernel
theorem dX7_dial_34 : decode cX7_dial 34 = .ok (.ifCond .ne 18, 3) := by decide +kernel
theorem dX7_dial_37 : decode cX7_dial 37 = .ok (.aload_n 0, 1) := by decide +kernel
theorem dX7_dial_38 : decode cX7_dial 38 = .ok (.getfield 21, 3) := by decide +kernel
theorem dX7_dial_41 : decode cX7_dial 41 = .ok (.bipush 6, 2) := by decide +kernel
theorem dX7_dial_43 : decode cX7_dial 43 = .ok (.iload_n 1, 1) := by decide +kernel
theorem dX7_dial_44 : decode cX7_dial 44 = .ok (.imul, 1) := by decide +kernel
theorem dX7_dial_45 : decode cX7_dial 45 = .ok (.iload_n 2, 1) := by decide +kernel
theorem dX7_dial_46 : decode cX7_dial 46 = .ok (.iadd, 1) := by decide +kernel
theorem dX7_dial_47 : decode cX7_dial 47 = .ok (.iaload, 1) := by decide +kernel
theorem dX7_dial_48 : decode cX7_dial 48 = .ok (.iconst 4, 1) := by decide +kernel
theorem dX7_dial_49 : decode cX7_dial 49 = .ok (.if_icmp .ne 24, 3) := by decide +kernel
theorem dX7_dial_52 : decode cX7_dial 52 = .ok (.iload 6, 2) := by decide +kernel
theorem dX7_dial_54 : decode cX7_dial 54 = .ok (.ifCond .eq 15, 3) := by decide +kernel
theorem dX7_dial_57 : decode cX7_dial 57 = .ok (.iload_n 3, 1) := by decide +kernel
theorem dX7_dial_58 : decode cX7_dial 58 = .ok (.iconst 1, 1) := by decide +kernel
theorem dX7_dial_59 : decode cX7_dial 59 = .ok (.iconst 4, 1) := by decide +kernel
theorem dX7_dial_60 : decode cX7_dial 60 = .ok (.invokestatic 95, 3) := by decide +kernel
theorem dX7_dial_63 : decode cX7_dial 63 = .ok (.ifCond .ne 12, 3) := by decide +kernel
theorem dX7_dial_66 : decode cX7_dial 66 = .ok (.goto 7, 3) := by decide +kernel
theorem dX7_dial_69 : decode cX7_dial 69 = .ok (.iload_n 3, 1) := by decide +kernel
theorem dX7_dial_70 : decode cX7_dial 70 = .ok (.ifCond .eq 5, 3) := by decide +kernel
theorem dX7_dial_73 : decode cX7_dial 73 = .ok (.iconst (-1), 1) := by decide +kernel
theorem dX7_dial_74 : decode cX7_dial 74 = .ok (.ireturn, 1) := by decide +kernel
theorem dX7_dial_75 : decode cX7_dial 75 = .ok (.iload 6, 2) := by decide +kernel
theorem dX7_dial_77 : decode cX7_dial 77 = .ok (.ifCond .eq 69, 3) := by decide +kernel
theorem dX7_dial_80 : decode cX7_dial 80 = .ok (.iload 4, 2) := by decide +kernel
theorem dX7_dial_82 : decode cX7_dial 82 = .ok (.iconst 1, 1) := by decide +kernel
theorem dX7_dial_83 : decode cX7_dial 83 = .ok (.if_icmp .eq 23, 3) := by decide +kernel
theorem dX7_dial_86 : decode cX7_dial 86 = .ok (.iload 4, 2) := by decide +kernel
theorem dX7_dial_88 : decode cX7_dial 88 = .ok (.iconst 3, 1) := by decide +kernel
theorem dX7_dial_89 : decode cX7_dial 89 = .ok (.if_icmp .eq 17, 3) := by decide +kernel
theorem dX7_dial_92 : decode cX7_dial 92 = .ok (.iload 4, 2) := by decide +kernel
theorem dX7_dial_94 : decode cX7_dial 94 = .ok (.bipush 7, 2) := by decide +kernel
theorem dX7_dial_96 : decode cX7_dial 96 = .ok (.if_icmp .eq 10, 3) := by decide +kernel
theorem dX7_dial_99 : decode cX7_dial 99 = .ok (.iload 4, 2) := by decide +kernel
theorem dX7_dial_101 : decode cX7_dial 101 = .ok (.bipush 9, 2) := by decide +kernel
theorem dX7_dial_103 : decode cX7_dial 103 = .ok (.if_icmp .ne 14, 3) := by decide +kernel
theorem dX7_dial_106 : decode cX7_dial 106 = .ok (.iload 5, 2) := by decide +kernel
theorem dX7_dial_108 : decode cX7_dial 108 = .ok (.iconst 0, 1) := by decide +kernel
theorem dX7_dial_109 : decode cX7_dial 109 = .ok (.bipush 9, 2) := by decide +kernel
theorem dX7_dial_111 : decode cX7_dial 111 = .ok (.invokestatic 95, 3) := by decide +kernel
theorem dX7_dial_114 : decode cX7_dial 114 = .ok (.ifCond .ne 6, 3) := by decide +kernel
theorem dX7_dial_117 : decode cX7_dial 117 = .ok (.bipush (-2), 2) := by decide +kernel
theorem dX7_dial_119 : decode cX7_dial 119 = .ok (.ireturn, 1) := by decide +kernel
theorem dX7_dial_120 : decode cX7_dial 120 = .ok (.aload_n 0, 1) := by decide +kernel
theorem dX7_dial_121 : decode cX7_dial 121 = .ok (.getfield 39, 3) := by decide +kernel
theorem dX7_dial_124 : decode cX7_dial 124 = .ok (.iconst 5, 1) := by decide +kernel
theorem dX7_dial_125 : decode cX7_dial 125 = .ok (.iload_n 1, 1) := by decide +kernel
theorem dX7_dial_126 : decode cX7_dial 126 = .ok (.imul, 1) := by decide +kernel
theorem dX7_dial_127 : decode cX7_dial 127 = .ok (.iload_n 3, 1) := by decide +kernel
theorem dX7_dial_128 : decode cX7_dial 128 = .ok (.iadd, 1) := by decide +kernel
theorem dX7_dial_129 : decode cX7_dial 129 = .ok (.iload 4, 2) := by decide +kernel
theorem dX7_dial_131 : decode cX7_dial 131 = .ok (.iastore, 1) := by decide +kernel
theorem dX7_dial_132 : decode cX7_dial 132 = .ok (.aload_n 0, 1) := by decide +kernel
theorem dX7_dial_133 : decode cX7_dial 133 = .ok (.getfield 42, 3) := by decide +kernel
theorem dX7_dial_136 : decode cX7_dial 136 = .ok (.iconst 5, 1) := by decide +kernel
theorem dX7_dial_137 : decode cX7_dial 137 = .ok (.iload_n 1, 1) := by decide +kernel
theorem dX7_dial_138 : decode cX7_dial 138 = .ok (.imul, 1) := by decide +kernel
theorem dX7_dial_139 : decode cX7_dial 139 = .ok (.iload_n 3, 1) := by decide +kernel
theorem dX7_dial_140 : decode cX7_dial 140 = .ok (.iadd, 1) := by decide +kernel
theorem dX7_dial_141 : decode cX7_dial 141 = .ok (.iload 5, 2) := by decide +kernel
theorem dX7_dial_143 : decode cX7_dial 143 = .ok (.iastore, 1) := by decide +kernel
theorem dX7_dial_144 : decode cX7_dial 144 = .ok (.iconst 0, 1) := by decide +kernel
theorem dX7_dial_145 : decode cX7_dial 145 = .ok (.ireturn, 1) := by decide +kernel
theorem dX7_dial_146 : decode cX7_dial 146 = .ok (.iload 4, 2) := by decide +kernel
theorem dX7_dial_148 : decode cX7_dial 148 = .ok (.iconst 1, 1) := by decide +kernel
theorem dX7_dial_149 : decode cX7_dial 149 = .ok (.bipush 99, 2) := by decide +kernel
theorem dX7_dial_151 : decode cX7_dial 151 = .ok (.invokestatic 95, 3) := by decide +kernel
theorem dX7_dial_154 : decode cX7_dial 154 = .ok (.ifCond .eq 28, 3) := by decide +kernel
theorem dX7_dial_157 : decode cX7_dial 157 = .ok (.iload 4, 2) := by decide +kernel
theorem dX7_dial_159 : decode cX7_dial 159 = .ok (.iconst 2, 1) := by decide +kernel
theorem dX7_dial_160 : decode cX7_dial 160 = .ok (.irem, 1) := by decide +kernel
theorem dX7_dial_161 : decode cX7_dial 161 = .ok (.ifCond .eq 21, 3) := by decide +kernel
theorem dX7_dial_164 : decode cX7_dial 164 = .ok (.iload 4, 2) := by decide +kernel
theorem dX7_dial_166 : decode cX7_dial 166 = .ok (.iconst 5, 1) := by decide +kernel
theorem dX7_dial_167 : decode cX7_dial 167 = .ok (.irem, 1) := by decide +kernel
theorem dX7_dial_168 : decode cX7_dial 168 = .ok (.ifCond .eq 14, 3) := by decide +kernel
theorem dX7_dial_171 : decode cX7_dial 171 = .ok (.iload 5, 2) := by decide +kernel
theorem dX7_dial_173 : decode cX7_dial 173 = .ok (.iconst 0, 1) := by decide +kernel
theorem dX7_dial_174 : decode cX7_dial 174 = .ok (.bipush 99, 2) := by decide +kernel
theorem dX7_dial_176 : decode cX7_dial 176 = .ok (.invokestatic 95, 3) := by decide +kernel
theorem dX7_dial_179 : decode cX7_dial 179 = .ok (.ifCond .ne 6, 3) := by decide +kernel
theorem dX7_dial_182 : decode cX7_dial 182 = .ok (.bipush (-2), 2) := by decide +kernel
theorem dX7_dial_184 : decode cX7_dial 184 = .ok (.ireturn, 1) := by decide +kernel
theorem dX7_dial_185 : decode cX7_dial 185 = .ok (.aload_n 0, 1) := by decide +kernel
theorem dX7_dial_186 : decode cX7_dial 186 = .ok (.getfield 33, 3) := by decide +kernel
theorem dX7_dial_189 : decode cX7_dial 189 = .ok (.bipush 6, 2) := by decide +kernel
theorem dX7_dial_191 : decode cX7_dial 191 = .ok (.iload_n 1, 1) := by decide +kernel
theorem dX7_dial_192 : decode cX7_dial 192 = .ok (.imul, 1) := by decide +kernel
theorem dX7_dial_193 : decode cX7_dial 193 = .ok (.iload_n 2, 1) := by decide +kernel
theorem dX7_dial_194 : decode cX7_dial 194 = .ok (.iadd, 1) := by decide +kernel
theorem dX7_dial_195 : decode cX7_dial 195 = .ok (.iload 4, 2) := by decide +kernel
theorem dX7_dial_197 : decode cX7_dial 197 = .ok (.iastore, 1) := by decide +kernel
theorem dX7_dial_198 : decode cX7_dial 198 = .ok (.aload_n 0, 1) := by decide +kernel
theorem dX7_dial_199 : decode cX7_dial 199 = .ok (.getfield 36, 3) := by decide +kernel
theorem dX7_dial_202 : decode cX7_dial 202 = .ok (.bipush 6, 2) := by decide +kernel
theorem dX7_dial_204 : decode cX7_dial 204 = .ok (.iload_n 1, 1) := by decide +kernel
theorem dX7_dial_205 : decode cX7_dial 205 = .ok (.imul, 1) := by decide +kernel
theorem dX7_dial_206 : decode cX7_dial 206 = .ok (.iload_n 2, 1) := by decide +kernel
theorem dX7_dial_207 : decode cX7_dial 207 = .ok (.iadd, 1) := by decide +kernel
theorem dX7_dial_208 : decode cX7_dial 208 = .ok (.iload 5, 2) := by decide +kernel
theorem dX7_dial_210 : decode cX7_dial 210 = .ok (.iastore, 1) := by decide +kernel
theorem dX7_dial_211 : decode cX7_dial 211 = .ok (.iconst 0, 1) := by decide +kernel
theorem dX7_dial_212 : decode cX7_dial 212 = .ok (.ireturn, 1) := by decide +kernel
theorem dX7_seed_0 : decode cX7_seed 0 = .ok (.iload_n 1, 1) := by decide +kernel
theorem dX7_seed_1 : decode cX7_seed 1 = .ok (.iconst 0, 1) := by decide +kernel
theorem dX7_seed_2 : decode cX7_seed 2 = .ok (.bipush 60, 2) := by decide +kernel
theorem dX7_seed_4 : decode cX7_seed 4 = .ok (.invokestatic 95, 3) := by decide +kernel
theorem dX7_seed_7 : decode cX7_seed 7 = .ok (.ifCond .ne 6, 3) := by decide +kernel
theorem dX7_seed_10 : decode cX7_seed 10 = .ok (.bipush (-2), 2) := by decide +kernel
theorem dX7_seed_12 : decode cX7_seed 12 = .ok (.ireturn, 1) := by decide +kernel
theorem dX7_seed_13 : decode cX7_seed 13 = .ok (.aload_n 0, 1) := by decide +kernel
theorem dX7_seed_14 : decode cX7_seed 14 = .ok (.getfield 137, 3) := by decide +kernel
theorem dX7_seed_17 : decode cX7_seed 17 = .ok (.istore_n 2, 1) := by decide +kernel
theorem dX7_seed_18 : decode cX7_seed 18 = .ok (.aload_n 0, 1) := by decide +kernel
theorem dX7_seed_19 : decode cX7_seed 19 = .ok (.iload_n 1, 1) := by decide +kernel
theorem dX7_seed_20 : decode cX7_seed 20 = .ok (.putfield 137, 3) := by decide +kernel
theorem dX7_seed_23 : decode cX7_seed 23 = .ok (.iload_n 2, 1) := by decide +kernel
theorem dX7_seed_24 : decode cX7_seed 24 = .ok (.ireturn, 1) := by decide +kernel
theorem dX7_turnedKey_0 : decode cX7_turnedKey 0 = .ok (.iconst 0, 1) := by decide +kernel
theorem dX7_turnedKey_1 : decode cX7_turnedKey 1 = .ok (.istore_n 3, 1) := by decide +kernel
theorem dX7_turnedKey_2 : decode cX7_turnedKey 2 = .ok (.iload_n 2, 1) := by decide +kernel
theorem dX7_turnedKey_3 : decode cX7_turnedKey 3 = .ok (.bipush 10, 2) := by decide +kernel
theorem dX7_turnedKey_5 : decode cX7_turnedKey 5 = .ok (.idiv, 1) := by decide +kernel
theorem dX7_turnedKey_6 : decode cX7_turnedKey 6 = .ok (.istore 4, 2) := by decide +kernel
theorem dX7_turnedKey_8 : decode cX7_turnedKey 8 = .ok (.bipush 10, 2) := by decide +kernel
theorem dX7_turnedKey_10 : decode cX7_turnedKey 10 = .ok (.istore 5, 2) := by decide +kernel
theorem dX7_turnedKey_12 : decode cX7_turnedKey 12 = .ok (.iconst 1, 1) := by decide +kernel
theorem dX7_turnedKey_13 : decode cX7_turnedKey 13 = .ok (.istore 6, 2) := by decide +kernel
theorem dX7_turnedKey_15 : decode cX7_turnedKey 15 = .ok (.iload 6, 2) := by decide +kernel
theorem dX7_turnedKey_17 : decode cX7_turnedKey 17 = .ok (.iconst 5, 1) := by decide +kernel
theorem dX7_turnedKey_18 : decode cX7_turnedKey 18 = .ok (.if_icmp .ge 61, 3) := by decide +kernel
theorem dX7_turnedKey_21 : decode cX7_turnedKey 21 = .ok (.iload_n 3, 1) := by decide +kernel
theorem dX7_turnedKey_22 : decode cX7_turnedKey 22 = .ok (.iload 5, 2) := by decide +kernel
theorem dX7_turnedKey_24 : decode cX7_turnedKey 24 = .ok (.aload_n 0, 1) := by decide +kernel
theorem dX7_turnedKey_25 : decode cX7_turnedKey 25 = .ok (.getfield 39, 3) := by decide +kernel
theorem dX7_turnedKey_28 : decode cX7_turnedKey 28 = .ok (.iconst 5, 1) := by decide +kernel
theorem dX7_turnedKey_29 : decode cX7_turnedKey 29 = .ok (.iload_n 1, 1) := by decide +kernel
theorem dX7_turnedKey_30 : decode cX7_turnedKey 30 = .ok (.imul, 1) := by decide +kernel
theorem dX7_turnedKey_31 : decode cX7_turnedKey 31 = .ok (.iload 6, 2) := by decide +kernel
theorem dX7_turnedKey_33 : decode cX7_turnedKey 33 = .ok (.iadd, 1) := by decide +kernel
theorem dX7_turnedKey_34 : decode cX7_turnedKey 34 = .ok (.iaload, 1) := by decide +kernel
theorem dX7_turnedKey_35 : decode cX7_turnedKey 35 = .ok (.iload 4, 2) := by decide +kernel
theorem dX7_turnedKey_37 : decode cX7_turnedKey 37 = .ok (.bipush 10, 2) := by decide +kernel
theorem dX7_turnedKey_39 : decode cX7_turnedKey 39 = .ok (.irem, 1) := by decide +kernel
theorem dX7_turnedKey_40 : decode cX7_turnedKey 40 = .ok (.imul, 1) := by decide +kernel
theorem dX7_turnedKey_41 : decode cX7_turnedKey 41 = .ok (.aload_n 0, 1) := by decide +kernel
theorem dX7_turnedKey_42 : decode cX7_turnedKey 42 = .ok (.getfield 42, 3) := by decide +kernel
theorem dX7_turnedKey_45 : decode cX7_turnedKey 45 = .ok (.iconst 5, 1) := by decide +kernel
theorem dX7_turnedKey_46 : decode cX7_turnedKey 46 = .ok (.iload_n 1, 1) := by decide +kernel
theorem dX7_turnedKey_47 : decode cX7_turnedKey 47 = .ok (.imul, 1) := by decide +kernel
theorem dX7_turnedKey_48 : decode cX7_turnedKey 48 = .ok (.iload 6, 2) := by decide +kernel
theorem dX7_turnedKey_50 : decode cX7_turnedKey 50 = .ok (.iadd, 1) := by decide +kernel
theorem dX7_turnedKey_51 : decode cX7_turnedKey 51 = .ok (.iaload, 1) := by decide +kernel
theorem dX7_turnedKey_52 : decode cX7_turnedKey 52 = .ok (.iadd, 1) := by decide +kernel
theorem dX7_turnedKey_53 : decode cX7_turnedKey 53 = .ok (.bipush 10, 2) := by decide +kernel
theorem dX7_turnedKey_55 : decode cX7_turnedKey 55 = .ok (.irem, 1) := by decide +kernel
theorem dX7_turnedKey_56 : decode cX7_turnedKey 56 = .ok (.imul, 1) := by decide +kernel
theorem dX7_turnedKey_57 : decode cX7_turnedKey 57 = .ok (.iadd, 1) := by decide +kernel
theorem dX7_turnedKey_58 : decode cX7_turnedKey 58 = .ok (.istore_n 3, 1) := by decide +kernel
theorem dX7_turnedKey_59 : decode cX7_turnedKey 59 = .ok (.iload 4, 2) := by decide +kernel
theorem dX7_turnedKey_61 : decode cX7_turnedKey 61 = .ok (.bipush 10, 2) := by decide +kernel
theorem dX7_turnedKey_63 : decode cX7_turnedKey 63 = .ok (.idiv, 1) := by decide +kernel
theorem dX7_turnedKey_64 : decode cX7_turnedKey 64 = .ok (.istore 4, 2) := by decide +kernel
theorem dX7_turnedKey_66 : decode cX7_turnedKey 66 = .ok (.iload 5, 2) := by decide +kernel
theorem dX7_turnedKey_68 : decode cX7_turnedKey 68 = .ok (.bipush 10, 2) := by decide +kernel
theorem dX7_turnedKey_70 : decode cX7_turnedKey 70 = .ok (.imul, 1) := by decide +kernel
theorem dX7_turnedKey_71 : decode cX7_turnedKey 71 = .ok (.istore 5, 2) := by decide +kernel
theorem dX7_turnedKey_73 : decode cX7_turnedKey 73 = .ok (.iinc 6 1, 3) := by decide +kernel
theorem dX7_turnedKey_76 : decode cX7_turnedKey 76 = .ok (.goto (-61), 3) := by decide +kernel
theorem dX7_turnedKey_79 : decode cX7_turnedKey 79 = .ok (.iload_n 3, 1) := by decide +kernel
theorem dX7_turnedKey_80 : decode cX7_turnedKey 80 = .ok (.iload_n 3, 1) := by decide +kernel
theorem dX7_turnedKey_81 : decode cX7_turnedKey 81 = .ok (.invokestatic 104, 3) := by decide +kernel
theorem dX7_turnedKey_84 : decode cX7_turnedKey 84 = .ok (.iadd, 1) := by decide +kernel
theorem dX7_turnedKey_85 : decode cX7_turnedKey 85 = .ok (.ireturn, 1) := by decide +kernel
theorem dX7_turnedName_0 : decode cX7_turnedName 0 = .ok (.aload_n 0, 1) := by decide +kernel
theorem dX7_turnedName_1 : decode cX7_turnedName 1 = .ok (.getfield 33, 3) := by decide +kernel
theorem dX7_turnedName_4 : decode cX7_turnedName 4 = .ok (.iload_n 1, 1) := by decide +kernel
theorem dX7_turnedName_5 : decode cX7_turnedName 5 = .ok (.iaload, 1) := by decide +kernel
theorem dX7_turnedName_6 : decode cX7_turnedName 6 = .ok (.iload_n 2, 1) := by decide +kernel
theorem dX7_turnedName_7 : decode cX7_turnedName 7 = .ok (.imul, 1) := by decide +kernel
theorem dX7_turnedName_8 : decode cX7_turnedName 8 = .ok (.aload_n 0, 1) := by decide +kernel
theorem dX7_turnedName_9 : decode cX7_turnedName 9 = .ok (.getfield 36, 3) := by decide +kernel
theorem dX7_turnedName_12 : decode cX7_turnedName 12 = .ok (.iload_n 1, 1) := by decide +kernel
theorem dX7_turnedName_13 : decode cX7_turnedName 13 = .ok (.iaload, 1) := by decide +kernel
theorem dX7_turnedName_14 : decode cX7_turnedName 14 = .ok (.iadd, 1) := by decide +kernel
theorem dX7_turnedName_15 : decode cX7_turnedName 15 = .ok (.bipush 100, 2) := by decide +kernel
theorem dX7_turnedName_17 : decode cX7_turnedName 17 = .ok (.irem, 1) := by decide +kernel
theorem dX7_turnedName_18 : decode cX7_turnedName 18 = .ok (.ireturn, 1) := by decide +kernel
theorem dX7_ownerOf_0 : decode cX7_ownerOf 0 = .ok (.aload_n 0, 1) := by decide +kernel
theorem dX7_ownerOf_1 : decode cX7_ownerOf 1 = .ok (.getfield 45, 3) := by decide +kernel
theorem dX7_ownerOf_4 : decode cX7_ownerOf 4 = .ok (.iload_n 1, 1) := by decide +kernel
theorem dX7_ownerOf_5 : decode cX7_ownerOf 5 = .ok (.iload_n 2, 1) := by decide +kernel
theorem dX7_ownerOf_6 : decode cX7_ownerOf 6 = .ok (.aload_n 0, 1) := by decide +kernel
theorem dX7_ownerOf_7 : decode cX7_ownerOf 7 = .ok (.getfield 18, 3) := by decide +kernel
theorem dX7_ownerOf_10 : decode cX7_ownerOf 10 = .ok (.iload_n 1, 1) := by decide +kernel
theorem dX7_ownerOf_11 : decode cX7_ownerOf 11 = .ok (.iaload, 1) := by decide +kernel
theorem dX7_ownerOf_12 : decode cX7_ownerOf 12 = .ok (.invokestatic 127, 3) := by decide +kernel
theorem dX7_ownerOf_15 : decode cX7_ownerOf 15 = .ok (.iaload, 1) := by decide +kernel
theorem dX7_ownerOf_16 : decode cX7_ownerOf 16 = .ok (.ireturn, 1) := by decide +kernel
theorem dX7_shiftOf_0 : decode cX7_shiftOf 0 = .ok (.iload_n 1, 1) := by decide +kernel
theorem dX7_shiftOf_1 : decode cX7_shiftOf 1 = .ok (.ldc 119, 2) := by decide +kernel
theorem dX7_shiftOf_3 : decode cX7_shiftOf 3 = .ok (.if_icmp .ne 5, 3) := by decide +kernel
theorem dX7_shiftOf_6 : decode cX7_shiftOf 6 = .ok (.iconst 0, 1) := by decide +kernel
theorem dX7_shiftOf_7 : decode cX7_shiftOf 7 = .ok (.ireturn, 1) := by decide +kernel
theorem dX7_shiftOf_8 : decode cX7_shiftOf 8 = .ok (.iconst 0, 1) := by decide +kernel
theorem dX7_shiftOf_9 : decode cX7_shiftOf 9 = .ok (.istore_n 2, 1) := by decide +kernel
theorem dX7_shiftOf_10 : decode cX7_shiftOf 10 = .ok (.aload_n 0, 1) := by decide +kernel
theorem dX7_shiftOf_11 : decode cX7_shiftOf 11 = .ok (.iload_n 1, 1) := by decide +kernel
theorem dX7_shiftOf_12 : decode cX7_shiftOf 12 = .ok (.iload_n 1, 1) := by decide +kernel
theorem dX7_shiftOf_13 : decode cX7_shiftOf 13 = .ok (.aload_n 0, 1) := by decide +kernel
theorem dX7_shiftOf_14 : decode cX7_shiftOf 14 = .ok (.getfield 137, 3) := by decide +kernel
theorem dX7_shiftOf_17 : decode cX7_shiftOf 17 = .ok (.iadd, 1) := by decide +kernel
theorem dX7_shiftOf_18 : decode cX7_shiftOf 18 = .ok (.iload_n 2, 1) := by decide +kernel
theorem dX7_shiftOf_19 : decode cX7_shiftOf 19 = .ok (.iadd, 1) := by decide +kernel
theorem dX7_shiftOf_20 : decode cX7_shiftOf 20 = .ok (.bipush 61, 2) := by decide +kernel
theorem dX7_shiftOf_22 : decode cX7_shiftOf 22 = .ok (.irem, 1) := by decide +kernel
theorem dX7_shiftOf_23 : decode cX7_shiftOf 23 = .ok (.bipush 30, 2) := by decide +kernel
theorem dX7_shiftOf_25 : decode cX7_shiftOf 25 = .ok (.isub, 1) := by decide +kernel
theorem dX7_shiftOf_26 : decode cX7_shiftOf 26 = .ok (.invokevirtual 140, 3) := by decide +kernel
theorem dX7_shiftOf_29 : decode cX7_shiftOf 29 = .ok (.ifCond .ne 9, 3) := by decide +kernel
theorem dX7_shiftOf_32 : decode cX7_shiftOf 32 = .ok (.iinc 2 1, 3) := by decide +kernel
theorem dX7_shiftOf_35 : decode cX7_shiftOf 35 = .ok (.goto (-25), 3) := by decide +kernel
theorem dX7_shiftOf_38 : decode cX7_shiftOf 38 = .ok (.iload_n 1, 1) := by decide +kernel
theorem dX7_shiftOf_39 : decode cX7_shiftOf 39 = .ok (.aload_n 0, 1) := by decide +kernel
theorem dX7_shiftOf_40 : decode cX7_shiftOf 40 = .ok (.getfield 137, 3) := by decide +kernel
theorem dX7_shiftOf_43 : decode cX7_shiftOf 43 = .ok (.iadd, 1) := by decide +kernel
theorem dX7_shiftOf_44 : decode cX7_shiftOf 44 = .ok (.iload_n 2, 1) := by decide +kernel
theorem dX7_shiftOf_45 : decode cX7_shiftOf 45 = .ok (.iadd, 1) := by decide +kernel
theorem dX7_shiftOf_46 : decode cX7_shiftOf 46 = .ok (.bipush 61, 2) := by decide +kernel
theorem dX7_shiftOf_48 : decode cX7_shiftOf 48 = .ok (.irem, 1) := by decide +kernel
theorem dX7_shiftOf_49 : decode cX7_shiftOf 49 = .ok (.bipush 30, 2) := by decide +kernel
theorem dX7_shiftOf_51 : decode cX7_shiftOf 51 = .ok (.isub, 1) := by decide +kernel
theorem dX7_shiftOf_52 : decode cX7_shiftOf 52 = .ok (.ireturn, 1) := by decide +kernel
theorem dX7_stays_0 : decode cX7_stays 0 = .ok (.iconst 0, 1) := by decide +kernel
theorem dX7_stays_1 : decode cX7_stays 1 = .ok (.istore_n 3, 1) := by decide +kernel
theorem dX7_stays_2 : decode cX7_stays 2 = .ok (.iload_n 3, 1) := by decide +kernel
theorem dX7_stays_3 : decode cX7_stays 3 = .ok (.aload_n 0, 1) := by decide +kernel
theorem dX7_stays_4 : decode cX7_stays 4 = .ok (.getfield 92, 3) := by decide +kernel
theorem dX7_stays_7 : decode cX7_stays 7 = .ok (.if_icmp .ge 114, 3) := by decide +kernel
theorem dX7_stays_10 : decode cX7_stays 10 = .ok (.iconst 0, 1) := by decide +kernel
theorem dX7_stays_11 : decode cX7_stays 11 = .ok (.istore 4, 2) := by decide +kernel
theorem dX7_stays_13 : decode cX7_stays 13 = .ok (.iload 4, 2) := by decide +kernel
theorem dX7_stays_15 : decode cX7_stays 15 = .ok (.aload_n 0, 1) := by decide +kernel
theorem dX7_stays_16 : decode cX7_stays 16 = .ok (.getfield 15, 3) := by decide +kernel
theorem dX7_stays_19 : decode cX7_stays 19 = .ok (.iload_n 3, 1) := by decide +kernel
theorem dX7_stays_20 : decode cX7_stays 20 = .ok (.iaload, 1) := by decide +kernel
theorem dX7_stays_21 : decode cX7_stays 21 = .ok (.if_icmp .ge 94, 3) := by decide +kernel
theorem dX7_stays_24 : decode cX7_stays 24 = .ok (.iconst 0, 1) := by decide +kernel
theorem dX7_stays_25 : decode cX7_stays 25 = .ok (.istore 5, 2) := by decide +kernel
theorem dX7_stays_27 : decode cX7_stays 27 = .ok (.iload 5, 2) := by decide +kernel
theorem dX7_stays_29 : decode cX7_stays 29 = .ok (.aload_n 0, 1) := by decide +kernel
theorem dX7_stays_30 : decode cX7_stays 30 = .ok (.getfield 9, 3) := by decide +kernel
theorem dX7_stays_33 : decode cX7_stays 33 = .ok (.iload_n 3, 1) := by decide +kernel
theorem dX7_stays_34 : decode cX7_stays 34 = .ok (.iaload, 1) := by decide +kernel
theorem dX7_stays_35 : decode cX7_stays 35 = .ok (.if_icmp .ge 74, 3) := by decide +kernel
theorem dX7_stays_38 : decode cX7_stays 38 = .ok (.aload_n 0, 1) := by decide +kernel
theorem dX7_stays_39 : decode cX7_stays 39 = .ok (.getfield 45, 3) := by decide +kernel
theorem dX7_stays_42 : decode cX7_stays 42 = .ok (.iload_n 3, 1) := by decide +kernel
theorem dX7_stays_43 : decode cX7_stays 43 = .ok (.iload 4, 2) := by decide +kernel
theorem dX7_stays_45 : decode cX7_stays 45 = .ok (.iload 5, 2) := by decide +kernel
theorem dX7_stays_47 : decode cX7_stays 47 = .ok (.invokestatic 127, 3) := by decide +kernel
theorem dX7_stays_50 : decode cX7_stays 50 = .ok (.iaload, 1) := by decide +kernel
theorem dX7_stays_51 : decode cX7_stays 51 = .ok (.istore 6, 2) := by decide +kernel
theorem dX7_stays_53 : decode cX7_stays 53 = .ok (.aload_n 0, 1) := by decide +kernel
theorem dX7_stays_54 : decode cX7_stays 54 = .ok (.getfield 27, 3) := by decide +kernel
theorem dX7_stays_57 : decode cX7_stays 57 = .ok (.bipush 6, 2) := by decide +kernel
theorem dX7_stays_59 : decode cX7_stays 59 = .ok (.iload_n 3, 1) := by decide +kernel
theorem dX7_stays_60 : decode cX7_stays 60 = .ok (.imul, 1) := by decide +kernel
theorem dX7_stays_61 : decode cX7_stays 61 = .ok (.iload 5, 2) := by decide +kernel
theorem dX7_stays_63 : decode cX7_stays 63 = .ok (.iadd, 1) := by decide +kernel
theorem dX7_stays_64 : decode cX7_stays 64 = .ok (.iaload, 1) := by decide +kernel
theorem dX7_stays_65 : decode cX7_stays 65 = .ok (.iconst 2, 1) := by decide +kernel
theorem dX7_stays_66 : decode cX7_stays 66 = .ok (.if_icmp .ne 37, 3) := by decide +kernel
theorem dX7_stays_69 : decode cX7_stays 69 = .ok (.iload 6, 2) := by decide +kernel
theorem dX7_stays_71 : decode cX7_stays 71 = .ok (.ldc 119, 2) := by decide +kernel
theorem dX7_stays_73 : decode cX7_stays 73 = .ok (.if_icmp .eq 30, 3) := by decide +kernel
theorem dX7_stays_76 : decode cX7_stays 76 = .ok (.aload_n 0, 1) := by decide +kernel
theorem dX7_stays_77 : decode cX7_stays 77 = .ok (.iload_n 3, 1) := by decide +kernel
theorem dX7_stays_78 : decode cX7_stays 78 = .ok (.iload 4, 2) := by decide +kernel
theorem dX7_stays_80 : decode cX7_stays 80 = .ok (.invokevirtual 143, 3) := by decide +kernel
theorem dX7_stays_83 : decode cX7_stays 83 = .ok (.iload_n 1, 1) := by decide +kernel
theorem dX7_stays_84 : decode cX7_stays 84 = .ok (.if_icmp .ne 19, 3) := by decide +kernel
theorem dX7_stays_87 : decode cX7_stays 87 = .ok (.iload 6, 2) := by decide +kernel
theorem dX7_stays_89 : decode cX7_stays 89 = .ok (.iload_n 2, 1) := by decide +kernel
theorem dX7_stays_90 : decode cX7_stays 90 = .ok (.iadd, 1) := by decide +kernel
theorem dX7_stays_91 : decode cX7_stays 91 = .ok (.iconst 0, 1) := by decide +kernel
theorem dX7_stays_92 : decode cX7_stays 92 = .ok (.sipush 9999, 3) := by decide +kernel
theorem dX7_stays_95 : decode cX7_stays 95 = .ok (.invokestatic 95, 3) := by decide +kernel
theorem dX7_stays_98 : decode cX7_stays 98 = .ok (.ifCond .ne 5, 3) := by decide +kernel
theorem dX7_stays_101 : decode cX7_stays 101 = .ok (.iconst 0, 1) := by decide +kernel
theorem dX7_stays_102 : decode cX7_stays 102 = .ok (.ireturn, 1) := by decide +kernel
theorem dX7_stays_103 : decode cX7_stays 103 = .ok (.iinc 5 1, 3) := by decide +kernel
theorem dX7_stays_106 : decode cX7_stays 106 = .ok (.goto (-79), 3) := by decide +kernel
theorem dX7_stays_109 : decode cX7_stays 109 = .ok (.iinc 4 1, 3) := by decide +kernel
theorem dX7_stays_112 : decode cX7_stays 112 = .ok (.goto (-99), 3) := by decide +kernel
theorem dX7_stays_115 : decode cX7_stays 115 = .ok (.iinc 3 1, 3) := by decide +kernel
theorem dX7_stays_118 : decode cX7_stays 118 = .ok (.goto (-116), 3) := by decide +kernel
theorem dX7_stays_121 : decode cX7_stays 121 = .ok (.iconst 1, 1) := by decide +kernel
theorem dX7_stays_122 : decode cX7_stays 122 = .ok (.ireturn, 1) := by decide +kernel
theorem dX7_coarse_0 : decode cX7_coarse 0 = .ok (.iload_n 0, 1) := by decide +kernel
theorem dX7_coarse_1 : decode cX7_coarse 1 = .ok (.iload_n 1, 1) := by decide +kernel
theorem dX7_coarse_2 : decode cX7_coarse 2 = .ok (.irem, 1) := by decide +kernel
theorem dX7_coarse_3 : decode cX7_coarse 3 = .ok (.istore_n 2, 1) := by decide +kernel
theorem dX7_coarse_4 : decode cX7_coarse 4 = .ok (.iload_n 0, 1) := by decide +kernel
theorem dX7_coarse_5 : decode cX7_coarse 5 = .ok (.iload_n 2, 1) := by decide +kernel
theorem dX7_coarse_6 : decode cX7_coarse 6 = .ok (.ifCond .ge 9, 3) := by decide +kernel
theorem dX7_coarse_9 : decode cX7_coarse 9 = .ok (.iload_n 2, 1) := by decide +kernel
theorem dX7_coarse_10 : decode cX7_coarse 10 = .ok (.iload_n 1, 1) := by decide +kernel
theorem dX7_coarse_11 : decode cX7_coarse 11 = .ok (.iadd, 1) := by decide +kernel
theorem dX7_coarse_12 : decode cX7_coarse 12 = .ok (.goto 4, 3) := by decide +kernel
theorem dX7_coarse_15 : decode cX7_coarse 15 = .ok (.iload_n 2, 1) := by decide +kernel
theorem dX7_coarse_16 : decode cX7_coarse 16 = .ok (.isub, 1) := by decide +kernel
theorem dX7_coarse_17 : decode cX7_coarse 17 = .ok (.ireturn, 1) := by decide +kernel
theorem dX7_maskedCell_0 : decode cX7_maskedCell 0 = .ok (.bipush 6, 2) := by decide +kernel
theorem dX7_maskedCell_2 : decode cX7_maskedCell 2 = .ok (.iload_n 1, 1) := by decide +kernel
theorem dX7_maskedCell_3 : decode cX7_maskedCell 3 = .ok (.imul, 1) := by decide +kernel
theorem dX7_maskedCell_4 : decode cX7_maskedCell 4 = .ok (.iload_n 3, 1) := by decide +kernel
theorem dX7_maskedCell_5 : decode cX7_maskedCell 5 = .ok (.iadd, 1) := by decide +kernel
theorem dX7_maskedCell_6 : decode cX7_maskedCell 6 = .ok (.istore 4, 2) := by decide +kernel
theorem dX7_maskedCell_8 : decode cX7_maskedCell 8 = .ok (.aload_n 0, 1) := by decide +kernel
theorem dX7_maskedCell_9 : decode cX7_maskedCell 9 = .ok (.getfield 45, 3) := by decide +kernel
theorem dX7_maskedCell_12 : decode cX7_maskedCell 12 = .ok (.iload_n 1, 1) := by decide +kernel
theorem dX7_maskedCell_13 : decode cX7_maskedCell 13 = .ok (.iload_n 2, 1) := by decide +kernel
theorem dX7_maskedCell_14 : decode cX7_maskedCell 14 = .ok (.iload_n 3, 1) := by decide +kernel
theorem dX7_maskedCell_15 : decode cX7_maskedCell 15 = .ok (.invokestatic 127, 3) := by decide +kernel
theorem dX7_maskedCell_18 : decode cX7_maskedCell 18 = .ok (.iaload, 1) := by decide +kernel
theorem dX7_maskedCell_19 : decode cX7_maskedCell 19 = .ok (.istore 5, 2) := by decide +kernel
theorem dX7_maskedCell_21 : decode cX7_maskedCell 21 = .ok (.aload_n 0, 1) := by decide +kernel
theorem dX7_maskedCell_22 : decode cX7_maskedCell 22 = .ok (.getfield 27, 3) := by decide +kernel
theorem dX7_maskedCell_25 : decode cX7_maskedCell 25 = .ok (.iload 4, 2) := by decide +kernel
theorem dX7_maskedCell_27 : decode cX7_maskedCell 27 = .ok (.iaload, 1) := by decide +kernel
theorem dX7_maskedCell_28 : decode cX7_maskedCell 28 = .ok (.iconst 4, 1) := by decide +kernel
theorem dX7_maskedCell_29 : decode cX7_maskedCell 29 = .ok (.if_icmp .ne 30, 3) := by decide +kernel
theorem dX7_maskedCell_32 : decode cX7_maskedCell 32 = .ok (.aload_n 0, 1) := by decide +kernel
theorem dX7_maskedCell_33 : decode cX7_maskedCell 33 = .ok (.getfield 45, 3) := by decide +kernel
theorem dX7_maskedCell_36 : decode cX7_maskedCell 36 = .ok (.iload_n 1, 1) := by decide +kernel
theorem dX7_maskedCell_37 : decode cX7_maskedCell 37 = .ok (.iload_n 2, 1) := by decide +kernel
theorem dX7_maskedCell_38 : decode cX7_maskedCell 38 = .ok (.aload_n 0, 1) := by decide +kernel
theorem dX7_maskedCell_39 : decode cX7_maskedCell 39 = .ok (.getfield 30, 3) := by decide +kernel
theorem dX7_maskedCell_42 : decode cX7_maskedCell 42 = .ok (.iload 4, 2) := by decide +kernel
theorem dX7_maskedCell_44 : decode cX7_maskedCell 44 = .ok (.iaload, 1) := by decide +kernel
theorem dX7_maskedCell_45 : decode cX7_maskedCell 45 = .ok (.iadd, 1) := by decide +kernel
theorem dX7_maskedCell_46 : decode cX7_maskedCell 46 = .ok (.aload_n 0, 1) := by decide +kernel
theorem dX7_maskedCell_47 : decode cX7_maskedCell 47 = .ok (.getfield 15, 3) := by decide +kernel
theorem dX7_maskedCell_50 : decode cX7_maskedCell 50 = .ok (.iload_n 1, 1) := by decide +kernel
theorem dX7_maskedCell_51 : decode cX7_maskedCell 51 = .ok (.iaload, 1) := by decide +kernel
theorem dX7_maskedCell_52 : decode cX7_maskedCell 52 = .ok (.irem, 1) := by decide +kernel
theorem dX7_maskedCell_53 : decode cX7_maskedCell 53 = .ok (.iload_n 3, 1) := by decide +kernel
theorem dX7_maskedCell_54 : decode cX7_maskedCell 54 = .ok (.invokestatic 127, 3) := by decide +kernel
theorem dX7_maskedCell_57 : decode cX7_maskedCell 57 = .ok (.iaload, 1) := by decide +kernel
theorem dX7_maskedCell_58 : decode cX7_maskedCell 58 = .ok (.ireturn, 1) := by decide +kernel
theorem dX7_maskedCell_59 : decode cX7_maskedCell 59 = .ok (.iload 5, 2) := by decide +kernel
theorem dX7_maskedCell_61 : decode cX7_maskedCell 61 = .ok (.ldc 119, 2) := by decide +kernel
theorem dX7_maskedCell_63 : decode cX7_maskedCell 63 = .ok (.if_icmp .eq 14, 3) := by decide +kernel
theorem dX7_maskedCell_66 : decode cX7_maskedCell 66 = .ok (.aload_n 0, 1) := by decide +kernel
theorem dX7_maskedCell_67 : decode cX7_maskedCell 67 = .ok (.getfield 27, 3) := by decide +kernel
theorem dX7_maskedCell_70 : decode cX7_maskedCell 70 = .ok (.iload 4, 2) := by decide +kernel
theorem dX7_maskedCell_72 : decode cX7_maskedCell 72 = .ok (.iaload, 1) := by decide +kernel
theorem dX7_maskedCell_73 : decode cX7_maskedCell 73 = .ok (.iconst 5, 1) := by decide +kernel
theorem dX7_maskedCell_74 : decode cX7_maskedCell 74 = .ok (.if_icmp .ne 6, 3) := by decide +kernel
theorem dX7_maskedCell_77 : decode cX7_maskedCell 77 = .ok (.ldc 119, 2) := by decide +kernel
theorem dX7_maskedCell_79 : decode cX7_maskedCell 79 = .ok (.ireturn, 1) := by decide +kernel
theorem dX7_maskedCell_80 : decode cX7_maskedCell 80 = .ok (.aload_n 0, 1) := by decide +kernel
theorem dX7_maskedCell_81 : decode cX7_maskedCell 81 = .ok (.getfield 21, 3) := by decide +kernel
theorem dX7_maskedCell_84 : decode cX7_maskedCell 84 = .ok (.iload 4, 2) := by decide +kernel
theorem dX7_maskedCell_86 : decode cX7_maskedCell 86 = .ok (.iaload, 1) := by decide +kernel
theorem dX7_maskedCell_87 : decode cX7_maskedCell 87 = .ok (.iconst 1, 1) := by decide +kernel
theorem dX7_maskedCell_88 : decode cX7_maskedCell 88 = .ok (.if_icmp .ne 41, 3) := by decide +kernel
theorem dX7_maskedCell_91 : decode cX7_maskedCell 91 = .ok (.aload_n 0, 1) := by decide +kernel
theorem dX7_maskedCell_92 : decode cX7_maskedCell 92 = .ok (.getfield 27, 3) := by decide +kernel
theorem dX7_maskedCell_95 : decode cX7_maskedCell 95 = .ok (.bipush 6, 2) := by decide +kernel
theorem dX7_maskedCell_97 : decode cX7_maskedCell 97 = .ok (.aload_n 0, 1) := by decide +kernel
theorem dX7_maskedCell_98 : decode cX7_maskedCell 98 = .ok (.getfield 24, 3) := by decide +kernel
theorem dX7_maskedCell_101 : decode cX7_maskedCell 101 = .ok (.iload 4, 2) := by decide +kernel
theorem dX7_maskedCell_103 : decode cX7_maskedCell 103 = .ok (.iaload, 1) := by decide +kernel
theorem dX7_maskedCell_104 : decode cX7_maskedCell 104 = .ok (.imul, 1) := by decide +kernel
theorem dX7_maskedCell_105 : decode cX7_maskedCell 105 = .ok (.iaload, 1) := by decide +kernel
theorem dX7_maskedCell_106 : decode cX7_maskedCell 106 = .ok (.iconst 1, 1) := by decide +kernel
theorem dX7_maskedCell_107 : decode cX7_maskedCell 107 = .ok (.if_icmp .ne 19, 3) := by decide +kernel
theorem dX7_maskedCell_110 : decode cX7_maskedCell 110 = .ok (.aload_n 0, 1) := by decide +kernel
theorem dX7_maskedCell_111 : decode cX7_maskedCell 111 = .ok (.aload_n 0, 1) := by decide +kernel
theorem dX7_maskedCell_112 : decode cX7_maskedCell 112 = .ok (.getfield 24, 3) := by decide +kernel
theorem dX7_maskedCell_115 : decode cX7_maskedCell 115 = .ok (.iload 4, 2) := by decide +kernel
theorem dX7_maskedCell_117 : decode cX7_maskedCell 117 = .ok (.iaload, 1) := by decide +kernel
theorem dX7_maskedCell_118 : decode cX7_maskedCell 118 = .ok (.iload 5, 2) := by decide +kernel
theorem dX7_maskedCell_120 : decode cX7_maskedCell 120 = .ok (.invokevirtual 147, 3) := by decide +kernel
theorem dX7_maskedCell_123 : decode cX7_maskedCell 123 = .ok (.goto 5, 3) := by decide +kernel
theorem dX7_maskedCell_126 : decode cX7_maskedCell 126 = .ok (.iload 5, 2) := by decide +kernel
theorem dX7_maskedCell_128 : decode cX7_maskedCell 128 = .ok (.ireturn, 1) := by decide +kernel
theorem dX7_maskedCell_129 : decode cX7_maskedCell 129 = .ok (.aload_n 0, 1) := by decide +kernel
theorem dX7_maskedCell_130 : decode cX7_maskedCell 130 = .ok (.getfield 27, 3) := by decide +kernel
theorem dX7_maskedCell_133 : decode cX7_maskedCell 133 = .ok (.iload 4, 2) := by decide +kernel
theorem dX7_maskedCell_135 : decode cX7_maskedCell 135 = .ok (.iaload, 1) := by decide +kernel
theorem dX7_maskedCell_136 : decode cX7_maskedCell 136 = .ok (.tableswitch 84 1 3 #[28, 57, 71], 28) := by decide +kernel
theorem dX7_maskedCell_164 : decode cX7_maskedCell 164 = .ok (.aload_n 0, 1) := by decide +kernel
theorem dX7_maskedCell_165 : decode cX7_maskedCell 165 = .ok (.getfield 21, 3) := by decide +kernel
theorem dX7_maskedCell_168 : decode cX7_maskedCell 168 = .ok (.iload 4, 2) := by decide +kernel
theorem dX7_maskedCell_170 : decode cX7_maskedCell 170 = .ok (.iaload, 1) := by decide +kernel
theorem dX7_maskedCell_171 : decode cX7_maskedCell 171 = .ok (.ifCond .ne 13, 3) := by decide +kernel
theorem dX7_maskedCell_174 : decode cX7_maskedCell 174 = .ok (.aload_n 0, 1) := by decide +kernel
theorem dX7_maskedCell_175 : decode cX7_maskedCell 175 = .ok (.iload_n 1, 1) := by decide +kernel
theorem dX7_maskedCell_176 : decode cX7_maskedCell 176 = .ok (.iload 5, 2) := by decide +kernel
theorem dX7_maskedCell_178 : decode cX7_maskedCell 178 = .ok (.invokevirtual 147, 3) := by decide +kernel
theorem dX7_maskedCell_181 : decode cX7_maskedCell 181 = .ok (.goto 11, 3) := by decide +kernel
theorem dX7_maskedCell_184 : decode cX7_maskedCell 184 = .ok (.aload_n 0, 1) := by decide +kernel
theorem dX7_maskedCell_185 : decode cX7_maskedCell 185 = .ok (.iload 4, 2) := by decide +kernel
theorem dX7_maskedCell_187 : decode cX7_maskedCell 187 = .ok (.iload 5, 2) := by decide +kernel
theorem dX7_maskedCell_189 : decode cX7_maskedCell 189 = .ok (.invokevirtual 150, 3) := by decide +kernel
theorem dX7_maskedCell_192 : decode cX7_maskedCell 192 = .ok (.ireturn, 1) := by decide +kernel
theorem dX7_maskedCell_193 : decode cX7_maskedCell 193 = .ok (.iload 5, 2) := by decide +kernel
theorem dX7_maskedCell_195 : decode cX7_maskedCell 195 = .ok (.aload_n 0, 1) := by decide +kernel
theorem dX7_maskedCell_196 : decode cX7_maskedCell 196 = .ok (.aload_n 0, 1) := by decide +kernel
theorem dX7_maskedCell_197 : decode cX7_maskedCell 197 = .ok (.iload_n 1, 1) := by decide +kernel
theorem dX7_maskedCell_198 : decode cX7_maskedCell 198 = .ok (.iload_n 2, 1) := by decide +kernel
theorem dX7_maskedCell_199 : decode cX7_maskedCell 199 = .ok (.invokevirtual 143, 3) := by decide +kernel
theorem dX7_maskedCell_202 : decode cX7_maskedCell 202 = .ok (.invokevirtual 153, 3) := by decide +kernel
theorem dX7_maskedCell_205 : decode cX7_maskedCell 205 = .ok (.iadd, 1) := by decide +kernel
theorem dX7_maskedCell_206 : decode cX7_maskedCell 206 = .ok (.ireturn, 1) := by decide +kernel
theorem dX7_maskedCell_207 : decode cX7_maskedCell 207 = .ok (.iload 5, 2) := by decide +kernel
theorem dX7_maskedCell_209 : decode cX7_maskedCell 209 = .ok (.aload_n 0, 1) := by decide +kernel
theorem dX7_maskedCell_210 : decode cX7_maskedCell 210 = .ok (.getfield 30, 3) := by decide +kernel
theorem dX7_maskedCell_213 : decode cX7_maskedCell 213 = .ok (.iload 4, 2) := by decide +kernel
theorem dX7_maskedCell_215 : decode cX7_maskedCell 215 = .ok (.iaload, 1) := by decide +kernel
theorem dX7_maskedCell_216 : decode cX7_maskedCell 216 = .ok (.invokestatic 156, 3) := by decide +kernel
theorem dX7_maskedCell_219 : decode cX7_maskedCell 219 = .ok (.ireturn, 1) := by decide +kernel
theorem dX7_maskedCell_220 : decode cX7_maskedCell 220 = .ok (.iload 5, 2) := by decide +kernel
theorem dX7_maskedCell_222 : decode cX7_maskedCell 222 = .ok (.ireturn, 1) := by decide +kernel
theorem dX7_maskTable_0 : decode cX7_maskTable 0 = .ok (.iconst 0, 1) := by decide +kernel
theorem dX7_maskTable_1 : decode cX7_maskTable 1 = .ok (.istore_n 2, 1) := by decide +kernel
theorem dX7_maskTable_2 : decode cX7_maskTable 2 = .ok (.iload_n 2, 1) := by decide +kernel
theorem dX7_maskTable_3 : decode cX7_maskTable 3 = .ok (.aload_n 0, 1) := by decide +kernel
theorem dX7_maskTable_4 : decode cX7_maskTable 4 = .ok (.getfield 15, 3) := by decide +kernel
theorem dX7_maskTable_7 : decode cX7_maskTable 7 = .ok (.iload_n 1, 1) := by decide +kernel
theorem dX7_maskTable_8 : decode cX7_maskTable 8 = .ok (.iaload, 1) := by decide +kernel
theorem dX7_maskTable_9 : decode cX7_maskTable 9 = .ok (.if_icmp .ge 45, 3) := by decide +kernel
theorem dX7_maskTable_12 : decode cX7_maskTable 12 = .ok (.iconst 0, 1) := by decide +kernel
theorem dX7_maskTable_13 : decode cX7_maskTable 13 = .ok (.istore_n 3, 1) := by decide +kernel
theorem dX7_maskTable_14 : decode cX7_maskTable 14 = .ok (.iload_n 3, 1) := by decide +kernel
theorem dX7_maskTable_15 : decode cX7_maskTable 15 = .ok (.aload_n 0, 1) := by decide +kernel
theorem dX7_maskTable_16 : decode cX7_maskTable 16 = .ok (.getfield 9, 3) := by decide +kernel
theorem dX7_maskTable_19 : decode cX7_maskTable 19 = .ok (.iload_n 1, 1) := by decide +kernel
theorem dX7_maskTable_20 : decode cX7_maskTable 20 = .ok (.iaload, 1) := by decide +kernel
theorem dX7_maskTable_21 : decode cX7_maskTable 21 = .ok (.if_icmp .ge 27, 3) := by decide +kernel
theorem dX7_maskTable_24 : decode cX7_maskTable 24 = .ok (.aload_n 0, 1) := by decide +kernel
theorem dX7_maskTable_25 : decode cX7_maskTable 25 = .ok (.getfield 51, 3) := by decide +kernel
theorem dX7_maskTable_28 : decode cX7_maskTable 28 = .ok (.iload_n 1, 1) := by decide +kernel
theorem dX7_maskTable_29 : decode cX7_maskTable 29 = .ok (.iload_n 2, 1) := by decide +kernel
theorem dX7_maskTable_30 : decode cX7_maskTable 30 = .ok (.iload_n 3, 1) := by decide +kernel
theorem dX7_maskTable_31 : decode cX7_maskTable 31 = .ok (.invokestatic 127, 3) := by decide +kernel
theorem dX7_maskTable_34 : decode cX7_maskTable 34 = .ok (.aload_n 0, 1) := by decide +kernel
theorem dX7_maskTable_35 : decode cX7_maskTable 35 = .ok (.iload_n 1, 1) := by decide +kernel
theorem dX7_maskTable_36 : decode cX7_maskTable 36 = .ok (.iload_n 2, 1) := by decide +kernel
theorem dX7_maskTable_37 : decode cX7_maskTable 37 = .ok (.iload_n 3, 1) := by decide +kernel
theorem dX7_maskTable_38 : decode cX7_maskTable 38 = .ok (.invokevirtual 159, 3) := by decide +kernel
theorem dX7_maskTable_41 : decode cX7_maskTable 41 = .ok (.iastore, 1) := by decide +kernel
theorem dX7_maskTable_42 : decode cX7_maskTable 42 = .ok (.iinc 3 1, 3) := by decide +kernel
theorem dX7_maskTable_45 : decode cX7_maskTable 45 = .ok (.goto (-31), 3) := by decide +kernel
theorem dX7_maskTable_48 : decode cX7_maskTable 48 = .ok (.iinc 2 1, 3) := by decide +kernel
theorem dX7_maskTable_51 : decode cX7_maskTable 51 = .ok (.goto (-49), 3) := by decide +kernel
theorem dX7_maskTable_54 : decode cX7_maskTable 54 = .ok (.return_, 1) := by decide +kernel
theorem dX7_rule_0 : decode cX7_rule 0 = .ok (.aload_n 0, 1) := by decide +kernel
theorem dX7_rule_1 : decode cX7_rule 1 = .ok (.getfield 57, 3) := by decide +kernel
theorem dX7_rule_4 : decode cX7_rule 4 = .ok (.aload_n 0, 1) := by decide +kernel
theorem dX7_rule_5 : decode cX7_rule 5 = .ok (.getfield 162, 3) := by decide +kernel
theorem dX7_rule_8 : decode cX7_rule 8 = .ok (.iload_n 1, 1) := by decide +kernel
theorem dX7_rule_9 : decode cX7_rule 9 = .ok (.iastore, 1) := by decide +kernel
theorem dX7_rule_10 : decode cX7_rule 10 = .ok (.aload_n 0, 1) := by decide +kernel
theorem dX7_rule_11 : decode cX7_rule 11 = .ok (.getfield 60, 3) := by decide +kernel
theorem dX7_rule_14 : decode cX7_rule 14 = .ok (.aload_n 0, 1) := by decide +kernel
theorem dX7_rule_15 : decode cX7_rule 15 = .ok (.getfield 162, 3) := by decide +kernel
theorem dX7_rule_18 : decode cX7_rule 18 = .ok (.iload_n 2, 1) := by decide +kernel
theorem dX7_rule_19 : decode cX7_rule 19 = .ok (.iastore, 1) := by decide +kernel
theorem dX7_rule_20 : decode cX7_rule 20 = .ok (.aload_n 0, 1) := by decide +kernel
theorem dX7_rule_21 : decode cX7_rule 21 = .ok (.getfield 63, 3) := by decide +kernel
theorem dX7_rule_24 : decode cX7_rule 24 = .ok (.aload_n 0, 1) := by decide +kernel
theorem dX7_rule_25 : decode cX7_rule 25 = .ok (.getfield 162, 3) := by decide +kernel
theorem dX7_rule_28 : decode cX7_rule 28 = .ok (.iload_n 3, 1) := by decide +kernel
theorem dX7_rule_29 : decode cX7_rule 29 = .ok (.iastore, 1) := by decide +kernel
theorem dX7_rule_30 : decode cX7_rule 30 = .ok (.aload_n 0, 1) := by decide +kernel
theorem dX7_rule_31 : decode cX7_rule 31 = .ok (.getfield 66, 3) := by decide +kernel
theorem dX7_rule_34 : decode cX7_rule 34 = .ok (.aload_n 0, 1) := by decide +kernel
theorem dX7_rule_35 : decode cX7_rule 35 = .ok (.getfield 162, 3) := by decide +kernel
theorem dX7_rule_38 : decode cX7_rule 38 = .ok (.iload 4, 2) := by decide +kernel
theorem dX7_rule_40 : decode cX7_rule 40 = .ok (.iastore, 1) := by decide +kernel
theorem dX7_rule_41 : decode cX7_rule 41 = .ok (.aload_n 0, 1) := by decide +kernel
theorem dX7_rule_42 : decode cX7_rule 42 = .ok (.getfield 75, 3) := by decide +kernel
theorem dX7_rule_45 : decode cX7_rule 45 = .ok (.aload_n 0, 1) := by decide +kernel
theorem dX7_rule_46 : decode cX7_rule 46 = .ok (.getfield 162, 3) := by decide +kernel
theorem dX7_rule_49 : decode cX7_rule 49 = .ok (.iconst 0, 1) := by decide +kernel
theorem dX7_rule_50 : decode cX7_rule 50 = .ok (.bastore, 1) := by decide +kernel
theorem dX7_rule_51 : decode cX7_rule 51 = .ok (.aload_n 0, 1) := by decide +kernel
theorem dX7_rule_52 : decode cX7_rule 52 = .ok (.dup, 1) := by decide +kernel
theorem dX7_rule_53 : decode cX7_rule 53 = .ok (.getfield 162, 3) := by decide +kernel
theorem dX7_rule_56 : decode cX7_rule 56 = .ok (.iconst 1, 1) := by decide +kernel
theorem dX7_rule_57 : decode cX7_rule 57 = .ok (.iadd, 1) := by decide +kernel
theorem dX7_rule_58 : decode cX7_rule 58 = .ok (.putfield 162, 3) := by decide +kernel
theorem dX7_rule_61 : decode cX7_rule 61 = .ok (.aload_n 0, 1) := by decide +kernel
theorem dX7_rule_62 : decode cX7_rule 62 = .ok (.getfield 162, 3) := by decide +kernel
theorem dX7_rule_65 : decode cX7_rule 65 = .ok (.iconst 1, 1) := by decide +kernel
theorem dX7_rule_66 : decode cX7_rule 66 = .ok (.isub, 1) := by decide +kernel
theorem dX7_rule_67 : decode cX7_rule 67 = .ok (.ireturn, 1) := by decide +kernel
theorem dX7_order_0 : decode cX7_order 0 = .ok (.aload_n 0, 1) := by decide +kernel
theorem dX7_order_1 : decode cX7_order 1 = .ok (.iload_n 1, 1) := by decide +kernel
theorem dX7_order_2 : decode cX7_order 2 = .ok (.iload_n 2, 1) := by decide +kernel
theorem dX7_order_3 : decode cX7_order 3 = .ok (.invokevirtual 131, 3) := by decide +kernel
theorem dX7_order_6 : decode cX7_order 6 = .ok (.ifCond .eq 12, 3) := by decide +kernel
theorem dX7_order_9 : decode cX7_order 9 = .ok (.aload_n 0, 1) := by decide +kernel
theorem dX7_order_10 : decode cX7_order 10 = .ok (.iload_n 1, 1) := by decide +kernel
theorem dX7_order_11 : decode cX7_order 11 = .ok (.iload_n 3, 1) := by decide +kernel
theorem dX7_order_12 : decode cX7_order 12 = .ok (.invokevirtual 131, 3) := by decide +kernel
theorem dX7_order_15 : decode cX7_order 15 = .ok (.ifCond .ne 5, 3) := by decide +kernel
theorem dX7_order_18 : decode cX7_order 18 = .ok (.iconst (-1), 1) := by decide +kernel
theorem dX7_order_19 : decode cX7_order 19 = .ok (.ireturn, 1) := by decide +kernel
theorem dX7_order_20 : decode cX7_order 20 = .ok (.iload_n 2, 1) := by decide +kernel
theorem dX7_order_21 : decode cX7_order 21 = .ok (.iload_n 3, 1) := by decide +kernel
theorem dX7_order_22 : decode cX7_order 22 = .ok (.if_icmp .eq 33, 3) := by decide +kernel
theorem dX7_order_25 : decode cX7_order 25 = .ok (.aload_n 0, 1) := by decide +kernel
theorem dX7_order_26 : decode cX7_order 26 = .ok (.getfield 21, 3) := by decide +kernel
theorem dX7_order_29 : decode cX7_order 29 = .ok (.bipush 6, 2) := by decide +kernel
theorem dX7_order_31 : decode cX7_order 31 = .ok (.iload_n 1, 1) := by decide +kernel
theorem dX7_order_32 : decode cX7_order 32 = .ok (.imul, 1) := by decide +kernel
theorem dX7_order_33 : decode cX7_order 33 = .ok (.iload_n 2, 1) := by decide +kernel
theorem dX7_order_34 : decode cX7_order 34 = .ok (.iadd, 1) := by decide +kernel
theorem dX7_order_35 : decode cX7_order 35 = .ok (.iaload, 1) := by decide +kernel
theorem dX7_order_36 : decode cX7_order 36 = .ok (.iconst 2, 1) := by decide +kernel
theorem dX7_order_37 : decode cX7_order 37 = .ok (.if_icmp .ne 18, 3) := by decide +kernel
theorem dX7_order_40 : decode cX7_order 40 = .ok (.aload_n 0, 1) := by decide +kernel
theorem dX7_order_41 : decode cX7_order 41 = .ok (.getfield 21, 3) := by decide +kernel
theorem dX7_order_44 : decode cX7_order 44 = .ok (.bipush 6, 2) := by decide +kernel
theorem dX7_order_46 : decode cX7_order 46 = .ok (.iload_n 1, 1) := by decide +kernel
theorem dX7_order_47 : decode cX7_order 47 = .ok (.imul, 1) := by decide +kernel
theorem dX7_order_48 : decode cX7_order 48 = .ok (.iload_n 3, 1) := by decide +kernel
theorem dX7_order_49 : decode cX7_order 49 = .ok (.iadd, 1) := by decide +kernel
theorem dX7_order_50 : decode cX7_order 50 = .ok (.iaload, 1) := by decide +kernel
theorem dX7_order_51 : decode cX7_order 51 = .ok (.iconst 2, 1) := by decide +kernel
theorem dX7_order_52 : decode cX7_order 52 = .ok (.if_icmp .eq 6, 3) := by decide +kernel
theorem dX7_order_55 : decode cX7_order 55 = .ok (.bipush (-2), 2) := by decide +kernel
theorem dX7_order_57 : decode cX7_order 57 = .ok (.ireturn, 1) := by decide +kernel
theorem dX7_order_58 : decode cX7_order 58 = .ok (.aload_n 0, 1) := by decide +kernel
theorem dX7_order_59 : decode cX7_order 59 = .ok (.getfield 162, 3) := by decide +kernel
theorem dX7_order_62 : decode cX7_order 62 = .ok (.bipush 8, 2) := by decide +kernel
theorem dX7_order_64 : decode cX7_order 64 = .ok (.if_icmp .ne 8, 3) := by decide +kernel
theorem dX7_order_67 : decode cX7_order 67 = .ok (.bipush (-4), 2) := by decide +kernel
theorem dX7_order_69 : decode cX7_order 69 = .ok (.goto 11, 3) := by decide +kernel
theorem dX7_order_72 : decode cX7_order 72 = .ok (.aload_n 0, 1) := by decide +kernel
theorem dX7_order_73 : decode cX7_order 73 = .ok (.iconst 0, 1) := by decide +kernel
theorem dX7_order_74 : decode cX7_order 74 = .ok (.iload_n 1, 1) := by decide +kernel
theorem dX7_order_75 : decode cX7_order 75 = .ok (.iload_n 2, 1) := by decide +kernel
theorem dX7_order_76 : decode cX7_order 76 = .ok (.iload_n 3, 1) := by decide +kernel
theorem dX7_order_77 : decode cX7_order 77 = .ok (.invokevirtual 165, 3) := by decide +kernel
theorem dX7_order_80 : decode cX7_order 80 = .ok (.ireturn, 1) := by decide +kernel
theorem dX7_agree_0 : decode cX7_agree 0 = .ok (.aload_n 0, 1) := by decide +kernel
theorem dX7_agree_1 : decode cX7_agree 1 = .ok (.iload_n 1, 1) := by decide +kernel
theorem dX7_agree_2 : decode cX7_agree 2 = .ok (.iload_n 2, 1) := by decide +kernel
theorem dX7_agree_3 : decode cX7_agree 3 = .ok (.invokevirtual 131, 3) := by decide +kernel
theorem dX7_agree_6 : decode cX7_agree 6 = .ok (.ifCond .eq 23, 3) := by decide +kernel
theorem dX7_agree_9 : decode cX7_agree 9 = .ok (.aload_n 0, 1) := by decide +kernel
theorem dX7_agree_10 : decode cX7_agree 10 = .ok (.iload_n 3, 1) := by decide +kernel
theorem dX7_agree_11 : decode cX7_agree 11 = .ok (.iload 4, 2) := by decide +kernel
theorem dX7_agree_13 : decode cX7_agree 13 = .ok (.invokevirtual 131, 3) := by decide +kernel
theorem dX7_agree_16 : decode cX7_agree 16 = .ok (.ifCond .eq 13, 3) := by decide +kernel
theorem dX7_agree_19 : decode cX7_agree 19 = .ok (.aload_n 0, 1) := by decide +kernel
theorem dX7_agree_20 : decode cX7_agree 20 = .ok (.iload_n 3, 1) := by decide +kernel
theorem dX7_agree_21 : decode cX7_agree 21 = .ok (.iload 5, 2) := by decide +kernel
theorem dX7_agree_23 : decode cX7_agree 23 = .ok (.invokevirtual 131, 3) := by decide +kernel
theorem dX7_agree_26 : decode cX7_agree 26 = .ok (.ifCond .ne 5, 3) := by decide +kernel
theorem dX7_agree_29 : decode cX7_agree 29 = .ok (.iconst (-1), 1) := by decide +kernel
theorem dX7_agree_30 : decode cX7_agree 30 = .ok (.ireturn, 1) := by decide +kernel
theorem dX7_agree_31 : decode cX7_agree 31 = .ok (.iload_n 1, 1) := by decide +kernel
theorem dX7_agree_32 : decode cX7_agree 32 = .ok (.iload_n 3, 1) := by decide +kernel
theorem dX7_agree_33 : decode cX7_agree 33 = .ok (.if_icmp .eq 76, 3) := by decide +kernel
theorem dX7_agree_36 : decode cX7_agree 36 = .ok (.aload_n 0, 1) := by decide +kernel
theorem dX7_agree_37 : decode cX7_agree 37 = .ok (.getfield 21, 3) := by decide +kernel
theorem dX7_agree_40 : decode cX7_agree 40 = .ok (.bipush 6, 2) := by decide +kernel
theorem dX7_agree_42 : decode cX7_agree 42 = .ok (.iload_n 1, 1) := by decide +kernel
theorem dX7_agree_43 : decode cX7_agree 43 = .ok (.imul, 1) := by decide +kernel
theorem dX7_agree_44 : decode cX7_agree 44 = .ok (.iload_n 2, 1) := by decide +kernel
theorem dX7_agree_45 : decode cX7_agree 45 = .ok (.iadd, 1) := by decide +kernel
theorem dX7_agree_46 : decode cX7_agree 46 = .ok (.iaload, 1) := by decide +kernel
theorem dX7_agree_47 : decode cX7_agree 47 = .ok (.iconst 3, 1) := by decide +kernel
theorem dX7_agree_48 : decode cX7_agree 48 = .ok (.if_icmp .ne 61, 3) := by decide +kernel
theorem dX7_agree_51 : decode cX7_agree 51 = .ok (.aload_n 0, 1) := by decide +kernel
theorem dX7_agree_52 : decode cX7_agree 52 = .ok (.getfield 21, 3) := by decide +kernel
theorem dX7_agree_55 : decode cX7_agree 55 = .ok (.bipush 6, 2) := by decide +kernel
theorem dX7_agree_57 : decode cX7_agree 57 = .ok (.iload_n 3, 1) := by decide +kernel
theorem dX7_agree_58 : decode cX7_agree 58 = .ok (.imul, 1) := by decide +kernel
theorem dX7_agree_59 : decode cX7_agree 59 = .ok (.iload 4, 2) := by decide +kernel
theorem dX7_agree_61 : decode cX7_agree 61 = .ok (.iadd, 1) := by decide +kernel
theorem dX7_agree_62 : decode cX7_agree 62 = .ok (.iaload, 1) := by decide +kernel
theorem dX7_agree_63 : decode cX7_agree 63 = .ok (.iconst 3, 1) := by decide +kernel
theorem dX7_agree_64 : decode cX7_agree 64 = .ok (.if_icmp .ne 45, 3) := by decide +kernel
theorem dX7_agree_67 : decode cX7_agree 67 = .ok (.aload_n 0, 1) := by decide +kernel
theorem dX7_agree_68 : decode cX7_agree 68 = .ok (.getfield 21, 3) := by decide +kernel
theorem dX7_agree_71 : decode cX7_agree 71 = .ok (.bipush 6, 2) := by decide +kernel
theorem dX7_agree_73 : decode cX7_agree 73 = .ok (.iload_n 3, 1) := by decide +kernel
theorem dX7_agree_74 : decode cX7_agree 74 = .ok (.imul, 1) := by decide +kernel
theorem dX7_agree_75 : decode cX7_agree 75 = .ok (.iload 5, 2) := by decide +kernel
theorem dX7_agree_77 : decode cX7_agree 77 = .ok (.iadd, 1) := by decide +kernel
theorem dX7_agree_78 : decode cX7_agree 78 = .ok (.iaload, 1) := by decide +kernel
theorem dX7_agree_79 : decode cX7_agree 79 = .ok (.iconst 1, 1) := by decide +kernel
theorem dX7_agree_80 : decode cX7_agree 80 = .ok (.if_icmp .ne 29, 3) := by decide +kernel
theorem dX7_agree_83 : decode cX7_agree 83 = .ok (.aload_n 0, 1) := by decide +kernel
theorem dX7_agree_84 : decode cX7_agree 84 = .ok (.getfield 24, 3) := by decide +kernel
theorem dX7_agree_87 : decode cX7_agree 87 = .ok (.bipush 6, 2) := by decide +kernel
theorem dX7_agree_89 : decode cX7_agree 89 = .ok (.iload_n 3, 1) := by decide +kernel
theorem dX7_agree_90 : decode cX7_agree 90 = .ok (.imul, 1) := by decide +kernel
theorem dX7_agree_91 : decode cX7_agree 91 = .ok (.iload 5, 2) := by decide +kernel
theorem dX7_agree_93 : decode cX7_agree 93 = .ok (.iadd, 1) := by decide +kernel
theorem dX7_agree_94 : decode cX7_agree 94 = .ok (.iaload, 1) := by decide +kernel
theorem dX7_agree_95 : decode cX7_agree 95 = .ok (.iload_n 1, 1) := by decide +kernel
theorem dX7_agree_96 : decode cX7_agree 96 = .ok (.if_icmp .ne 13, 3) := by decide +kernel
theorem dX7_agree_99 : decode cX7_agree 99 = .ok (.iload 6, 2) := by decide +kernel
theorem dX7_agree_101 : decode cX7_agree 101 = .ok (.iconst 0, 1) := by decide +kernel
theorem dX7_agree_102 : decode cX7_agree 102 = .ok (.iconst 1, 1) := by decide +kernel
theorem dX7_agree_103 : decode cX7_agree 103 = .ok (.invokestatic 95, 3) := by decide +kernel
theorem dX7_agree_106 : decode cX7_agree 106 = .ok (.ifCond .ne 6, 3) := by decide +kernel
theorem dX7_agree_109 : decode cX7_agree 109 = .ok (.bipush (-2), 2) := by decide +kernel
theorem dX7_agree_111 : decode cX7_agree 111 = .ok (.ireturn, 1) := by decide +kernel
theorem dX7_agree_112 : decode cX7_agree 112 = .ok (.aload_n 0, 1) := by decide +kernel
theorem dX7_agree_113 : decode cX7_agree 113 = .ok (.getfield 162, 3) := by decide +kernel
theorem dX7_agree_116 : decode cX7_agree 116 = .ok (.bipush 8, 2) := by decide +kernel
theorem dX7_agree_118 : decode cX7_agree 118 = .ok (.if_icmp .ne 6, 3) := by decide +kernel
theorem dX7_agree_121 : decode cX7_agree 121 = .ok (.bipush (-4), 2) := by decide +kernel
theorem dX7_agree_123 : decode cX7_agree 123 = .ok (.ireturn, 1) := by decide +kernel
theorem dX7_agree_124 : decode cX7_agree 124 = .ok (.aload_n 0, 1) := by decide +kernel
theorem dX7_agree_125 : decode cX7_agree 125 = .ok (.iconst 1, 1) := by decide +kernel
theorem dX7_agree_126 : decode cX7_agree 126 = .ok (.iload_n 1, 1) := by decide +kernel
theorem dX7_agree_127 : decode cX7_agree 127 = .ok (.iload_n 2, 1) := by decide +kernel
theorem dX7_agree_128 : decode cX7_agree 128 = .ok (.iload 4, 2) := by decide +kernel
theorem dX7_agree_130 : decode cX7_agree 130 = .ok (.invokevirtual 165, 3) := by decide +kernel
theorem dX7_agree_133 : decode cX7_agree 133 = .ok (.istore 7, 2) := by decide +kernel
theorem dX7_agree_135 : decode cX7_agree 135 = .ok (.aload_n 0, 1) := by decide +kernel
theorem dX7_agree_136 : decode cX7_agree 136 = .ok (.getfield 69, 3) := by decide +kernel
theorem dX7_agree_139 : decode cX7_agree 139 = .ok (.iload 7, 2) := by decide +kernel
theorem dX7_agree_141 : decode cX7_agree 141 = .ok (.iload_n 3, 1) := by decide +kernel
theorem dX7_agree_142 : decode cX7_agree 142 = .ok (.iastore, 1) := by decide +kernel
theorem dX7_agree_143 : decode cX7_agree 143 = .ok (.aload_n 0, 1) := by decide +kernel
theorem dX7_agree_144 : decode cX7_agree 144 = .ok (.getfield 72, 3) := by decide +kernel
theorem dX7_agree_147 : decode cX7_agree 147 = .ok (.iload 7, 2) := by decide +kernel
theorem dX7_agree_149 : decode cX7_agree 149 = .ok (.iload 5, 2) := by decide +kernel
theorem dX7_agree_151 : decode cX7_agree 151 = .ok (.iastore, 1) := by decide +kernel
theorem dX7_agree_152 : decode cX7_agree 152 = .ok (.aload_n 0, 1) := by decide +kernel
theorem dX7_agree_153 : decode cX7_agree 153 = .ok (.getfield 75, 3) := by decide +kernel
theorem dX7_agree_156 : decode cX7_agree 156 = .ok (.iload 7, 2) := by decide +kernel
theorem dX7_agree_158 : decode cX7_agree 158 = .ok (.iload 6, 2) := by decide +kernel
theorem dX7_agree_160 : decode cX7_agree 160 = .ok (.iconst 1, 1) := by decide +kernel
theorem dX7_agree_161 : decode cX7_agree 161 = .ok (.if_icmp .ne 7, 3) := by decide +kernel
theorem dX7_agree_164 : decode cX7_agree 164 = .ok (.iconst 1, 1) := by decide +kernel
theorem dX7_agree_165 : decode cX7_agree 165 = .ok (.goto 4, 3) := by decide +kernel
theorem dX7_agree_168 : decode cX7_agree 168 = .ok (.iconst 0, 1) := by decide +kernel
theorem dX7_agree_169 : decode cX7_agree 169 = .ok (.bastore, 1) := by decide +kernel
theorem dX7_agree_170 : decode cX7_agree 170 = .ok (.iload 7, 2) := by decide +kernel
theorem dX7_agree_172 : decode cX7_agree 172 = .ok (.ireturn, 1) := by decide +kernel
theorem dX7_found_0 : decode cX7_found 0 = .ok (.aload_n 0, 1) := by decide +kernel
theorem dX7_found_1 : decode cX7_found 1 = .ok (.iload_n 1, 1) := by decide +kernel
theorem dX7_found_2 : decode cX7_found 2 = .ok (.iload_n 2, 1) := by decide +kernel
theorem dX7_found_3 : decode cX7_found 3 = .ok (.invokevirtual 131, 3) := by decide +kernel
theorem dX7_found_6 : decode cX7_found 6 = .ok (.ifCond .ne 5, 3) := by decide +kernel
theorem dX7_found_9 : decode cX7_found 9 = .ok (.iconst (-1), 1) := by decide +kernel
theorem dX7_found_10 : decode cX7_found 10 = .ok (.ireturn, 1) := by decide +kernel
theorem dX7_found_11 : decode cX7_found 11 = .ok (.aload_n 0, 1) := by decide +kernel
theorem dX7_found_12 : decode cX7_found 12 = .ok (.getfield 21, 3) := by decide +kernel
theorem dX7_found_15 : decode cX7_found 15 = .ok (.bipush 6, 2) := by decide +kernel
theorem dX7_found_17 : decode cX7_found 17 = .ok (.iload_n 1, 1) := by decide +kernel
theorem dX7_found_18 : decode cX7_found 18 = .ok (.imul, 1) := by decide +kernel
theorem dX7_found_19 : decode cX7_found 19 = .ok (.iload_n 2, 1) := by decide +kernel
theorem dX7_found_20 : decode cX7_found 20 = .ok (.iadd, 1) := by decide +kernel
theorem dX7_found_21 : decode cX7_found 21 = .ok (.iaload, 1) := by decide +kernel
theorem dX7_found_22 : decode cX7_found 22 = .ok (.iconst 1, 1) := by decide +kernel
theorem dX7_found_23 : decode cX7_found 23 = .ok (.if_icmp .eq 6, 3) := by decide +kernel
theorem dX7_found_26 : decode cX7_found 26 = .ok (.bipush (-2), 2) := by decide +kernel
theorem dX7_found_28 : decode cX7_found 28 = .ok (.ireturn, 1) := by decide +kernel
theorem dX7_found_29 : decode cX7_found 29 = .ok (.aload_n 0, 1) := by decide +kernel
theorem dX7_found_30 : decode cX7_found 30 = .ok (.getfield 162, 3) := by decide +kernel
theorem dX7_found_33 : decode cX7_found 33 = .ok (.bipush 8, 2) := by decide +kernel
theorem dX7_found_35 : decode cX7_found 35 = .ok (.if_icmp .ne 8, 3) := by decide +kernel
theorem dX7_found_38 : decode cX7_found 38 = .ok (.bipush (-4), 2) := by decide +kernel
theorem dX7_found_40 : decode cX7_found 40 = .ok (.goto 11, 3) := by decide +kernel
theorem dX7_found_43 : decode cX7_found 43 = .ok (.aload_n 0, 1) := by decide +kernel
theorem dX7_found_44 : decode cX7_found 44 = .ok (.iconst 2, 1) := by decide +kernel
theorem dX7_found_45 : decode cX7_found 45 = .ok (.iload_n 1, 1) := by decide +kernel
theorem dX7_found_46 : decode cX7_found 46 = .ok (.iload_n 2, 1) := by decide +kernel
theorem dX7_found_47 : decode cX7_found 47 = .ok (.iconst 0, 1) := by decide +kernel
theorem dX7_found_48 : decode cX7_found 48 = .ok (.invokevirtual 165, 3) := by decide +kernel
theorem dX7_found_51 : decode cX7_found 51 = .ok (.ireturn, 1) := by decide +kernel
theorem dX7_unrule_0 : decode cX7_unrule 0 = .ok (.aload_n 0, 1) := by decide +kernel
theorem dX7_unrule_1 : decode cX7_unrule 1 = .ok (.getfield 162, 3) := by decide +kernel
theorem dX7_unrule_4 : decode cX7_unrule 4 = .ok (.istore_n 1, 1) := by decide +kernel
theorem dX7_unrule_5 : decode cX7_unrule 5 = .ok (.aload_n 0, 1) := by decide +kernel
theorem dX7_unrule_6 : decode cX7_unrule 6 = .ok (.iconst 0, 1) := by decide +kernel
theorem dX7_unrule_7 : decode cX7_unrule 7 = .ok (.putfield 162, 3) := by decide +kernel
theorem dX7_unrule_10 : decode cX7_unrule 10 = .ok (.iload_n 1, 1) := by decide +kernel
theorem dX7_unrule_11 : decode cX7_unrule 11 = .ok (.ireturn, 1) := by decide +kernel
theorem dX7_sumFor_0 : decode cX7_sumFor 0 = .ok (.iconst 0, 1) := by decide +kernel
theorem dX7_sumFor_1 : decode cX7_sumFor 1 = .ok (.istore_n 3, 1) := by decide +kernel
theorem dX7_sumFor_2 : decode cX7_sumFor 2 = .ok (.aload_n 0, 1) := by decide +kernel
theorem dX7_sumFor_3 : decode cX7_sumFor 3 = .ok (.getfield 69, 3) := by decide +kernel
theorem dX7_sumFor_6 : decode cX7_sumFor 6 = .ok (.iload_n 1, 1) := by decide +kernel
theorem dX7_sumFor_7 : decode cX7_sumFor 7 = .ok (.iaload, 1) := by decide +kernel
theorem dX7_sumFor_8 : decode cX7_sumFor 8 = .ok (.istore 4, 2) := by decide +kernel
theorem dX7_sumFor_10 : decode cX7_sumFor 10 = .ok (.iconst 0, 1) := by decide +kernel
theorem dX7_sumFor_11 : decode cX7_sumFor 11 = .ok (.istore 5, 2) := by decide +kernel
theorem dX7_sumFor_13 : decode cX7_sumFor 13 = .ok (.iload 5, 2) := by decide +kernel
theorem dX7_sumFor_15 : decode cX7_sumFor 15 = .ok (.aload_n 0, 1) := by decide +kernel
theorem dX7_sumFor_16 : decode cX7_sumFor 16 = .ok (.getfield 15, 3) := by decide +kernel
theorem dX7_sumFor_19 : decode cX7_sumFor 19 = .ok (.iload 4, 2) := by decide +kernel
theorem dX7_sumFor_21 : decode cX7_sumFor 21 = .ok (.iaload, 1) := by decide +kernel
theorem dX7_sumFor_22 : decode cX7_sumFor 22 = .ok (.if_icmp .ge 78, 3) := by decide +kernel
theorem dX7_sumFor_25 : decode cX7_sumFor 25 = .ok (.aload_n 0, 1) := by decide +kernel
theorem dX7_sumFor_26 : decode cX7_sumFor 26 = .ok (.getfield 79, 3) := by decide +kernel
theorem dX7_sumFor_29 : decode cX7_sumFor 29 = .ok (.iload 4, 2) := by decide +kernel
theorem dX7_sumFor_31 : decode cX7_sumFor 31 = .ok (.iload 5, 2) := by decide +kernel
theorem dX7_sumFor_33 : decode cX7_sumFor 33 = .ok (.aload_n 0, 1) := by decide +kernel
theorem dX7_sumFor_34 : decode cX7_sumFor 34 = .ok (.getfield 66, 3) := by decide +kernel
theorem dX7_sumFor_37 : decode cX7_sumFor 37 = .ok (.iload_n 1, 1) := by decide +kernel
theorem dX7_sumFor_38 : decode cX7_sumFor 38 = .ok (.iaload, 1) := by decide +kernel
theorem dX7_sumFor_39 : decode cX7_sumFor 39 = .ok (.invokestatic 127, 3) := by decide +kernel
theorem dX7_sumFor_42 : decode cX7_sumFor 42 = .ok (.iaload, 1) := by decide +kernel
theorem dX7_sumFor_43 : decode cX7_sumFor 43 = .ok (.istore 6, 2) := by decide +kernel
theorem dX7_sumFor_45 : decode cX7_sumFor 45 = .ok (.aload_n 0, 1) := by decide +kernel
theorem dX7_sumFor_46 : decode cX7_sumFor 46 = .ok (.getfield 79, 3) := by decide +kernel
theorem dX7_sumFor_49 : decode cX7_sumFor 49 = .ok (.iload 4, 2) := by decide +kernel
theorem dX7_sumFor_51 : decode cX7_sumFor 51 = .ok (.iload 5, 2) := by decide +kernel
theorem dX7_sumFor_53 : decode cX7_sumFor 53 = .ok (.aload_n 0, 1) := by decide +kernel
theorem dX7_sumFor_54 : decode cX7_sumFor 54 = .ok (.getfield 72, 3) := by decide +kernel
theorem dX7_sumFor_57 : decode cX7_sumFor 57 = .ok (.iload_n 1, 1) := by decide +kernel
theorem dX7_sumFor_58 : decode cX7_sumFor 58 = .ok (.iaload, 1) := by decide +kernel
theorem dX7_sumFor_59 : decode cX7_sumFor 59 = .ok (.invokestatic 127, 3) := by decide +kernel
theorem dX7_sumFor_62 : decode cX7_sumFor 62 = .ok (.iaload, 1) := by decide +kernel
theorem dX7_sumFor_63 : decode cX7_sumFor 63 = .ok (.aload_n 0, 1) := by decide +kernel
theorem dX7_sumFor_64 : decode cX7_sumFor 64 = .ok (.getfield 79, 3) := by decide +kernel
theorem dX7_sumFor_67 : decode cX7_sumFor 67 = .ok (.aload_n 0, 1) := by decide +kernel
theorem dX7_sumFor_68 : decode cX7_sumFor 68 = .ok (.getfield 60, 3) := by decide +kernel
theorem dX7_sumFor_71 : decode cX7_sumFor 71 = .ok (.iload_n 1, 1) := by decide +kernel
theorem dX7_sumFor_72 : decode cX7_sumFor 72 = .ok (.iaload, 1) := by decide +kernel
theorem dX7_sumFor_73 : decode cX7_sumFor 73 = .ok (.iload_n 2, 1) := by decide +kernel
theorem dX7_sumFor_74 : decode cX7_sumFor 74 = .ok (.iconst 0, 1) := by decide +kernel
theorem dX7_sumFor_75 : decode cX7_sumFor 75 = .ok (.invokestatic 127, 3) := by decide +kernel
theorem dX7_sumFor_78 : decode cX7_sumFor 78 = .ok (.iaload, 1) := by decide +kernel
theorem dX7_sumFor_79 : decode cX7_sumFor 79 = .ok (.if_icmp .ne 15, 3) := by decide +kernel
theorem dX7_sumFor_82 : decode cX7_sumFor 82 = .ok (.iload 6, 2) := by decide +kernel
theorem dX7_sumFor_84 : decode cX7_sumFor 84 = .ok (.ldc 119, 2) := by decide +kernel
theorem dX7_sumFor_86 : decode cX7_sumFor 86 = .ok (.if_icmp .eq 8, 3) := by decide +kernel
theorem dX7_sumFor_89 : decode cX7_sumFor 89 = .ok (.iload_n 3, 1) := by decide +kernel
theorem dX7_sumFor_90 : decode cX7_sumFor 90 = .ok (.iload 6, 2) := by decide +kernel
theorem dX7_sumFor_92 : decode cX7_sumFor 92 = .ok (.iadd, 1) := by decide +kernel
theorem dX7_sumFor_93 : decode cX7_sumFor 93 = .ok (.istore_n 3, 1) := by decide +kernel
theorem dX7_sumFor_94 : decode cX7_sumFor 94 = .ok (.iinc 5 1, 3) := by decide +kernel
theorem dX7_sumFor_97 : decode cX7_sumFor 97 = .ok (.goto (-84), 3) := by decide +kernel
theorem dX7_sumFor_100 : decode cX7_sumFor 100 = .ok (.iload_n 3, 1) := by decide +kernel
theorem dX7_sumFor_101 : decode cX7_sumFor 101 = .ok (.ireturn, 1) := by decide +kernel
theorem dX7_isKeyOf_0 : decode cX7_isKeyOf 0 = .ok (.iconst 0, 1) := by decide +kernel
theorem dX7_isKeyOf_1 : decode cX7_isKeyOf 1 = .ok (.istore_n 3, 1) := by decide +kernel
theorem dX7_isKeyOf_2 : decode cX7_isKeyOf 2 = .ok (.iload_n 3, 1) := by decide +kernel
theorem dX7_isKeyOf_3 : decode cX7_isKeyOf 3 = .ok (.aload_n 0, 1) := by decide +kernel
theorem dX7_isKeyOf_4 : decode cX7_isKeyOf 4 = .ok (.getfield 15, 3) := by decide +kernel
theorem dX7_isKeyOf_7 : decode cX7_isKeyOf 7 = .ok (.iload_n 1, 1) := by decide +kernel
theorem dX7_isKeyOf_8 : decode cX7_isKeyOf 8 = .ok (.iaload, 1) := by decide +kernel
theorem dX7_isKeyOf_9 : decode cX7_isKeyOf 9 = .ok (.if_icmp .ge 26, 3) := by decide +kernel
theorem dX7_isKeyOf_12 : decode cX7_isKeyOf 12 = .ok (.aload_n 0, 1) := by decide +kernel
theorem dX7_isKeyOf_13 : decode cX7_isKeyOf 13 = .ok (.getfield 79, 3) := by decide +kernel
theorem dX7_isKeyOf_16 : decode cX7_isKeyOf 16 = .ok (.iload_n 1, 1) := by decide +kernel
theorem dX7_isKeyOf_17 : decode cX7_isKeyOf 17 = .ok (.iload_n 3, 1) := by decide +kernel
theorem dX7_isKeyOf_18 : decode cX7_isKeyOf 18 = .ok (.iconst 0, 1) := by decide +kernel
theorem dX7_isKeyOf_19 : decode cX7_isKeyOf 19 = .ok (.invokestatic 127, 3) := by decide +kernel
theorem dX7_isKeyOf_22 : decode cX7_isKeyOf 22 = .ok (.iaload, 1) := by decide +kernel
theorem dX7_isKeyOf_23 : decode cX7_isKeyOf 23 = .ok (.iload_n 2, 1) := by decide +kernel
theorem dX7_isKeyOf_24 : decode cX7_isKeyOf 24 = .ok (.if_icmp .ne 5, 3) := by decide +kernel
theorem dX7_isKeyOf_27 : decode cX7_isKeyOf 27 = .ok (.iconst 1, 1) := by decide +kernel
theorem dX7_isKeyOf_28 : decode cX7_isKeyOf 28 = .ok (.ireturn, 1) := by decide +kernel
theorem dX7_isKeyOf_29 : decode cX7_isKeyOf 29 = .ok (.iinc 3 1, 3) := by decide +kernel
theorem dX7_isKeyOf_32 : decode cX7_isKeyOf 32 = .ok (.goto (-30), 3) := by decide +kernel
theorem dX7_isKeyOf_35 : decode cX7_isKeyOf 35 = .ok (.iconst 0, 1) := by decide +kernel
theorem dX7_isKeyOf_36 : decode cX7_isKeyOf 36 = .ok (.ireturn, 1) := by decide +kernel
theorem dX7_holdsFor_0 : decode cX7_holdsFor 0 = .ok (.aload_n 0, 1) := by decide +kernel
theorem dX7_holdsFor_1 : decode cX7_holdsFor 1 = .ok (.getfield 60, 3) := by decide +kernel
theorem dX7_holdsFor_4 : decode cX7_holdsFor 4 = .ok (.iload_n 1, 1) := by decide +kernel
theorem dX7_holdsFor_5 : decode cX7_holdsFor 5 = .ok (.iaload, 1) := by decide +kernel
theorem dX7_holdsFor_6 : decode cX7_holdsFor 6 = .ok (.istore_n 3, 1) := by decide +kernel
theorem dX7_holdsFor_7 : decode cX7_holdsFor 7 = .ok (.aload_n 0, 1) := by decide +kernel
theorem dX7_holdsFor_8 : decode cX7_holdsFor 8 = .ok (.getfield 79, 3) := by decide +kernel
theorem dX7_holdsFor_11 : decode cX7_holdsFor 11 = .ok (.iload_n 3, 1) := by decide +kernel
theorem dX7_holdsFor_12 : decode cX7_holdsFor 12 = .ok (.iload_n 2, 1) := by decide +kernel
theorem dX7_holdsFor_13 : decode cX7_holdsFor 13 = .ok (.aload_n 0, 1) := by decide +kernel
theorem dX7_holdsFor_14 : decode cX7_holdsFor 14 = .ok (.getfield 63, 3) := by decide +kernel
theorem dX7_holdsFor_17 : decode cX7_holdsFor 17 = .ok (.iload_n 1, 1) := by decide +kernel
theorem dX7_holdsFor_18 : decode cX7_holdsFor 18 = .ok (.iaload, 1) := by decide +kernel
theorem dX7_holdsFor_19 : decode cX7_holdsFor 19 = .ok (.invokestatic 127, 3) := by decide +kernel
theorem dX7_holdsFor_22 : decode cX7_holdsFor 22 = .ok (.iaload, 1) := by decide +kernel
theorem dX7_holdsFor_23 : decode cX7_holdsFor 23 = .ok (.istore 4, 2) := by decide +kernel
theorem dX7_holdsFor_25 : decode cX7_holdsFor 25 = .ok (.aload_n 0, 1) := by decide +kernel
theorem dX7_holdsFor_26 : decode cX7_holdsFor 26 = .ok (.getfield 79, 3) := by decide +kernel
theorem dX7_holdsFor_29 : decode cX7_holdsFor 29 = .ok (.iload_n 3, 1) := by decide +kernel
theorem dX7_holdsFor_30 : decode cX7_holdsFor 30 = .ok (.iload_n 2, 1) := by decide +kernel
theorem dX7_holdsFor_31 : decode cX7_holdsFor 31 = .ok (.aload_n 0, 1) := by decide +kernel
theorem dX7_holdsFor_32 : decode cX7_holdsFor 32 = .ok (.getfield 66, 3) := by decide +kernel
theorem dX7_holdsFor_35 : decode cX7_holdsFor 35 = .ok (.iload_n 1, 1) := by decide +kernel
theorem dX7_holdsFor_36 : decode cX7_holdsFor 36 = .ok (.iaload, 1) := by decide +kernel
theorem dX7_holdsFor_37 : decode cX7_holdsFor 37 = .ok (.invokestatic 127, 3) := by decide +kernel
theorem dX7_holdsFor_40 : decode cX7_holdsFor 40 = .ok (.iaload, 1) := by decide +kernel
theorem dX7_holdsFor_41 : decode cX7_holdsFor 41 = .ok (.istore 5, 2) := by decide +kernel
theorem dX7_holdsFor_43 : decode cX7_holdsFor 43 = .ok (.iload 4, 2) := by decide +kernel
theorem dX7_holdsFor_45 : decode cX7_holdsFor 45 = .ok (.ldc 119, 2) := by decide +kernel
theorem dX7_holdsFor_47 : decode cX7_holdsFor 47 = .ok (.if_icmp .ne 5, 3) := by decide +kernel
theorem dX7_holdsFor_50 : decode cX7_holdsFor 50 = .ok (.iconst 1, 1) := by decide +kernel
theorem dX7_holdsFor_51 : decode cX7_holdsFor 51 = .ok (.ireturn, 1) := by decide +kernel
theorem dX7_holdsFor_52 : decode cX7_holdsFor 52 = .ok (.aload_n 0, 1) := by decide +kernel
theorem dX7_holdsFor_53 : decode cX7_holdsFor 53 = .ok (.getfield 57, 3) := by decide +kernel
theorem dX7_holdsFor_56 : decode cX7_holdsFor 56 = .ok (.iload_n 1, 1) := by decide +kernel
theorem dX7_holdsFor_57 : decode cX7_holdsFor 57 = .ok (.iaload, 1) := by decide +kernel
theorem dX7_holdsFor_58 : decode cX7_holdsFor 58 = .ok (.ifCond .ne 23, 3) := by decide +kernel
theorem dX7_holdsFor_61 : decode cX7_holdsFor 61 = .ok (.iload 5, 2) := by decide +kernel
theorem dX7_holdsFor_63 : decode cX7_holdsFor 63 = .ok (.ldc 119, 2) := by decide +kernel
theorem dX7_holdsFor_65 : decode cX7_holdsFor 65 = .ok (.if_icmp .eq 10, 3) := by decide +kernel
theorem dX7_holdsFor_68 : decode cX7_holdsFor 68 = .ok (.iload 4, 2) := by decide +kernel
theorem dX7_holdsFor_70 : decode cX7_holdsFor 70 = .ok (.iload 5, 2) := by decide +kernel
theorem dX7_holdsFor_72 : decode cX7_holdsFor 72 = .ok (.if_icmp .gt 7, 3) := by decide +kernel
theorem dX7_holdsFor_75 : decode cX7_holdsFor 75 = .ok (.iconst 1, 1) := by decide +kernel
theorem dX7_holdsFor_76 : decode cX7_holdsFor 76 = .ok (.goto 4, 3) := by decide +kernel
theorem dX7_holdsFor_79 : decode cX7_holdsFor 79 = .ok (.iconst 0, 1) := by decide +kernel
theorem dX7_holdsFor_80 : decode cX7_holdsFor 80 = .ok (.ireturn, 1) := by decide +kernel
theorem dX7_holdsFor_81 : decode cX7_holdsFor 81 = .ok (.aload_n 0, 1) := by decide +kernel
theorem dX7_holdsFor_82 : decode cX7_holdsFor 82 = .ok (.getfield 57, 3) := by decide +kernel
theorem dX7_holdsFor_85 : decode cX7_holdsFor 85 = .ok (.iload_n 1, 1) := by decide +kernel
theorem dX7_holdsFor_86 : decode cX7_holdsFor 86 = .ok (.iaload, 1) := by decide +kernel
theorem dX7_holdsFor_87 : decode cX7_holdsFor 87 = .ok (.iconst 1, 1) := by decide +kernel
theorem dX7_holdsFor_88 : decode cX7_holdsFor 88 = .ok (.if_icmp .ne 22, 3) := by decide +kernel
theorem dX7_holdsFor_91 : decode cX7_holdsFor 91 = .ok (.iload 4, 2) := by decide +kernel
theorem dX7_holdsFor_93 : decode cX7_holdsFor 93 = .ok (.aload_n 0, 1) := by decide +kernel
theorem dX7_holdsFor_94 : decode cX7_holdsFor 94 = .ok (.iload_n 1, 1) := by decide +kernel
theorem dX7_holdsFor_95 : decode cX7_holdsFor 95 = .ok (.iload_n 2, 1) := by decide +kernel
theorem dX7_holdsFor_96 : decode cX7_holdsFor 96 = .ok (.invokevirtual 169, 3) := by decide +kernel
theorem dX7_holdsFor_99 : decode cX7_holdsFor 99 = .ok (.if_icmp .ne 7, 3) := by decide +kernel
theorem dX7_holdsFor_102 : decode cX7_holdsFor 102 = .ok (.iconst 1, 1) := by decide +kernel
theorem dX7_holdsFor_103 : decode cX7_holdsFor 103 = .ok (.goto 29, 3) := by decide +kernel
theorem dX7_holdsFor_106 : decode cX7_holdsFor 106 = .ok (.iconst 0, 1) := by decide +kernel
theorem dX7_holdsFor_107 : decode cX7_holdsFor 107 = .ok (.goto 25, 3) := by decide +kernel
theorem dX7_holdsFor_110 : decode cX7_holdsFor 110 = .ok (.aload_n 0, 1) := by decide +kernel
theorem dX7_holdsFor_111 : decode cX7_holdsFor 111 = .ok (.aload_n 0, 1) := by decide +kernel
theorem dX7_holdsFor_112 : decode cX7_holdsFor 112 = .ok (.getfield 24, 3) := by decide +kernel
theorem dX7_holdsFor_115 : decode cX7_holdsFor 115 = .ok (.bipush 6, 2) := by decide +kernel
theorem dX7_holdsFor_117 : decode cX7_holdsFor 117 = .ok (.iload_n 3, 1) := by decide +kernel
theorem dX7_holdsFor_118 : decode cX7_holdsFor 118 = .ok (.imul, 1) := by decide +kernel
theorem dX7_holdsFor_119 : decode cX7_holdsFor 119 = .ok (.aload_n 0, 1) := by decide +kernel
theorem dX7_holdsFor_120 : decode cX7_holdsFor 120 = .ok (.getfield 63, 3) := by decide +kernel
theorem dX7_holdsFor_123 : decode cX7_holdsFor 123 = .ok (.iload_n 1, 1) := by decide +kernel
theorem dX7_holdsFor_124 : decode cX7_holdsFor 124 = .ok (.iaload, 1) := by decide +kernel
theorem dX7_holdsFor_125 : decode cX7_holdsFor 125 = .ok (.iadd, 1) := by decide +kernel
theorem dX7_holdsFor_126 : decode cX7_holdsFor 126 = .ok (.iaload, 1) := by decide +kernel
theorem dX7_holdsFor_127 : decode cX7_holdsFor 127 = .ok (.iload 4, 2) := by decide +kernel
theorem dX7_holdsFor_129 : decode cX7_holdsFor 129 = .ok (.invokevirtual 172, 3) := by decide +kernel
theorem dX7_holdsFor_132 : decode cX7_holdsFor 132 = .ok (.ireturn, 1) := by decide +kernel
theorem dX7_firstBroken_0 : decode cX7_firstBroken 0 = .ok (.iconst 0, 1) := by decide +kernel
theorem dX7_firstBroken_1 : decode cX7_firstBroken 1 = .ok (.istore_n 1, 1) := by decide +kernel
theorem dX7_firstBroken_2 : decode cX7_firstBroken 2 = .ok (.iload_n 1, 1) := by decide +kernel
theorem dX7_firstBroken_3 : decode cX7_firstBroken 3 = .ok (.aload_n 0, 1) := by decide +kernel
theorem dX7_firstBroken_4 : decode cX7_firstBroken 4 = .ok (.getfield 162, 3) := by decide +kernel
theorem dX7_firstBroken_7 : decode cX7_firstBroken 7 = .ok (.if_icmp .ge 43, 3) := by decide +kernel
theorem dX7_firstBroken_10 : decode cX7_firstBroken 10 = .ok (.iconst 0, 1) := by decide +kernel
theorem dX7_firstBroken_11 : decode cX7_firstBroken 11 = .ok (.istore_n 2, 1) := by decide +kernel
theorem dX7_firstBroken_12 : decode cX7_firstBroken 12 = .ok (.iload_n 2, 1) := by decide +kernel
theorem dX7_firstBroken_13 : decode cX7_firstBroken 13 = .ok (.aload_n 0, 1) := by decide +kernel
theorem dX7_firstBroken_14 : decode cX7_firstBroken 14 = .ok (.getfield 15, 3) := by decide +kernel
theorem dX7_firstBroken_17 : decode cX7_firstBroken 17 = .ok (.aload_n 0, 1) := by decide +kernel
theorem dX7_firstBroken_18 : decode cX7_firstBroken 18 = .ok (.getfield 60, 3) := by decide +kernel
theorem dX7_firstBroken_21 : decode cX7_firstBroken 21 = .ok (.iload_n 1, 1) := by decide +kernel
theorem dX7_firstBroken_22 : decode cX7_firstBroken 22 = .ok (.iaload, 1) := by decide +kernel
theorem dX7_firstBroken_23 : decode cX7_firstBroken 23 = .ok (.iaload, 1) := by decide +kernel
theorem dX7_firstBroken_24 : decode cX7_firstBroken 24 = .ok (.if_icmp .ge 20, 3) := by decide +kernel
theorem dX7_firstBroken_27 : decode cX7_firstBroken 27 = .ok (.aload_n 0, 1) := by decide +kernel
theorem dX7_firstBroken_28 : decode cX7_firstBroken 28 = .ok (.iload_n 1, 1) := by decide +kernel
theorem dX7_firstBroken_29 : decode cX7_firstBroken 29 = .ok (.iload_n 2, 1) := by decide +kernel
theorem dX7_firstBroken_30 : decode cX7_firstBroken 30 = .ok (.invokevirtual 175, 3) := by decide +kernel
theorem dX7_firstBroken_33 : decode cX7_firstBroken 33 = .ok (.ifCond .ne 5, 3) := by decide +kernel
theorem dX7_firstBroken_36 : decode cX7_firstBroken 36 = .ok (.iload_n 1, 1) := by decide +kernel
theorem dX7_firstBroken_37 : decode cX7_firstBroken 37 = .ok (.ireturn, 1) := by decide +kernel
theorem dX7_firstBroken_38 : decode cX7_firstBroken 38 = .ok (.iinc 2 1, 3) := by decide +kernel
theorem dX7_firstBroken_41 : decode cX7_firstBroken 41 = .ok (.goto (-29), 3) := by decide +kernel
theorem dX7_firstBroken_44 : decode cX7_firstBroken 44 = .ok (.iinc 1 1, 3) := by decide +kernel
theorem dX7_firstBroken_47 : decode cX7_firstBroken 47 = .ok (.goto (-45), 3) := by decide +kernel
theorem dX7_firstBroken_50 : decode cX7_firstBroken 50 = .ok (.bipush 100, 2) := by decide +kernel
theorem dX7_firstBroken_52 : decode cX7_firstBroken 52 = .ok (.ireturn, 1) := by decide +kernel
theorem dX7_see_0 : decode cX7_see 0 = .ok (.iconst 0, 1) := by decide +kernel
theorem dX7_see_1 : decode cX7_see 1 = .ok (.istore_n 2, 1) := by decide +kernel
theorem dX7_see_2 : decode cX7_see 2 = .ok (.iload_n 2, 1) := by decide +kernel
theorem dX7_see_3 : decode cX7_see 3 = .ok (.sipush 288, 3) := by decide +kernel
theorem dX7_see_6 : decode cX7_see 6 = .ok (.if_icmp .ge 35, 3) := by decide +kernel
theorem dX7_see_9 : decode cX7_see 9 = .ok (.aload_n 0, 1) := by decide +kernel
theorem dX7_see_10 : decode cX7_see 10 = .ok (.getfield 79, 3) := by decide +kernel
theorem dX7_see_13 : decode cX7_see 13 = .ok (.iload_n 2, 1) := by decide +kernel
theorem dX7_see_14 : decode cX7_see 14 = .ok (.iload_n 1, 1) := by decide +kernel
theorem dX7_see_15 : decode cX7_see 15 = .ok (.iconst 1, 1) := by decide +kernel
theorem dX7_see_16 : decode cX7_see 16 = .ok (.if_icmp .ne 12, 3) := by decide +kernel
theorem dX7_see_19 : decode cX7_see 19 = .ok (.aload_n 0, 1) := by decide +kernel
theorem dX7_see_20 : decode cX7_see 20 = .ok (.getfield 48, 3) := by decide +kernel
theorem dX7_see_23 : decode cX7_see 23 = .ok (.iload_n 2, 1) := by decide +kernel
theorem dX7_see_24 : decode cX7_see 24 = .ok (.iaload, 1) := by decide +kernel
theorem dX7_see_25 : decode cX7_see 25 = .ok (.goto 9, 3) := by decide +kernel
theorem dX7_see_28 : decode cX7_see 28 = .ok (.aload_n 0, 1) := by decide +kernel
theorem dX7_see_29 : decode cX7_see 29 = .ok (.getfield 45, 3) := by decide +kernel
theorem dX7_see_32 : decode cX7_see 32 = .ok (.iload_n 2, 1) := by decide +kernel
theorem dX7_see_33 : decode cX7_see 33 = .ok (.iaload, 1) := by decide +kernel
theorem dX7_see_34 : decode cX7_see 34 = .ok (.iastore, 1) := by decide +kernel
theorem dX7_see_35 : decode cX7_see 35 = .ok (.iinc 2 1, 3) := by decide +kernel
theorem dX7_see_38 : decode cX7_see 38 = .ok (.goto (-36), 3) := by decide +kernel
theorem dX7_see_41 : decode cX7_see 41 = .ok (.return_, 1) := by decide +kernel
theorem dX7_broken_0 : decode cX7_broken 0 = .ok (.iload_n 1, 1) := by decide +kernel
theorem dX7_broken_1 : decode cX7_broken 1 = .ok (.iconst 0, 1) := by decide +kernel
theorem dX7_broken_2 : decode cX7_broken 2 = .ok (.iconst 1, 1) := by decide +kernel
theorem dX7_broken_3 : decode cX7_broken 3 = .ok (.invokestatic 95, 3) := by decide +kernel
theorem dX7_broken_6 : decode cX7_broken 6 = .ok (.ifCond .ne 6, 3) := by decide +kernel
theorem dX7_broken_9 : decode cX7_broken 9 = .ok (.bipush (-2), 2) := by decide +kernel
theorem dX7_broken_11 : decode cX7_broken 11 = .ok (.ireturn, 1) := by decide +kernel
theorem dX7_broken_12 : decode cX7_broken 12 = .ok (.iload_n 1, 1) := by decide +kernel
theorem dX7_broken_13 : decode cX7_broken 13 = .ok (.iconst 1, 1) := by decide +kernel
theorem dX7_broken_14 : decode cX7_broken 14 = .ok (.if_icmp .ne 13, 3) := by decide +kernel
theorem dX7_broken_17 : decode cX7_broken 17 = .ok (.aload_n 0, 1) := by decide +kernel
theorem dX7_broken_18 : decode cX7_broken 18 = .ok (.getfield 112, 3) := by decide +kernel
theorem dX7_broken_21 : decode cX7_broken 21 = .ok (.ifCond .ne 6, 3) := by decide +kernel
theorem dX7_broken_24 : decode cX7_broken 24 = .ok (.bipush (-3), 2) := by decide +kernel
theorem dX7_broken_26 : decode cX7_broken 26 = .ok (.ireturn, 1) := by decide +kernel
theorem dX7_broken_27 : decode cX7_broken 27 = .ok (.aload_n 0, 1) := by decide +kernel
theorem dX7_broken_28 : decode cX7_broken 28 = .ok (.iload_n 1, 1) := by decide +kernel
theorem dX7_broken_29 : decode cX7_broken 29 = .ok (.invokevirtual 178, 3) := by decide +kernel
theorem dX7_broken_32 : decode cX7_broken 32 = .ok (.aload_n 0, 1) := by decide +kernel
theorem dX7_broken_33 : decode cX7_broken 33 = .ok (.invokevirtual 182, 3) := by decide +kernel
theorem dX7_broken_36 : decode cX7_broken 36 = .ok (.ireturn, 1) := by decide +kernel
theorem dX7_make_0 : decode cX7_make 0 = .ok (.iconst 0, 1) := by decide +kernel
theorem dX7_make_1 : decode cX7_make 1 = .ok (.istore_n 1, 1) := by decide +kernel
theorem dX7_make_2 : decode cX7_make 2 = .ok (.iload_n 1, 1) := by decide +kernel
theorem dX7_make_3 : decode cX7_make 3 = .ok (.aload_n 0, 1) := by decide +kernel
theorem dX7_make_4 : decode cX7_make 4 = .ok (.getfield 92, 3) := by decide +kernel
theorem dX7_make_7 : decode cX7_make 7 = .ok (.if_icmp .ge 14, 3) := by decide +kernel
theorem dX7_make_10 : decode cX7_make 10 = .ok (.aload_n 0, 1) := by decide +kernel
theorem dX7_make_11 : decode cX7_make 11 = .ok (.iload_n 1, 1) := by decide +kernel
theorem dX7_make_12 : decode cX7_make 12 = .ok (.invokevirtual 186, 3) := by decide +kernel
theorem dX7_make_15 : decode cX7_make 15 = .ok (.iinc 1 1, 3) := by decide +kernel
theorem dX7_make_18 : decode cX7_make 18 = .ok (.goto (-16), 3) := by decide +kernel
theorem dX7_make_21 : decode cX7_make 21 = .ok (.iconst 0, 1) := by decide +kernel
theorem dX7_make_22 : decode cX7_make 22 = .ok (.istore_n 1, 1) := by decide +kernel
theorem dX7_make_23 : decode cX7_make 23 = .ok (.iload_n 1, 1) := by decide +kernel
theorem dX7_make_24 : decode cX7_make 24 = .ok (.sipush 288, 3) := by decide +kernel
theorem dX7_make_27 : decode cX7_make 27 = .ok (.if_icmp .ge 21, 3) := by decide +kernel
theorem dX7_make_30 : decode cX7_make 30 = .ok (.aload_n 0, 1) := by decide +kernel
theorem dX7_make_31 : decode cX7_make 31 = .ok (.getfield 79, 3) := by decide +kernel
theorem dX7_make_34 : decode cX7_make 34 = .ok (.iload_n 1, 1) := by decide +kernel
theorem dX7_make_35 : decode cX7_make 35 = .ok (.aload_n 0, 1) := by decide +kernel
theorem dX7_make_36 : decode cX7_make 36 = .ok (.getfield 51, 3) := by decide +kernel
theorem dX7_make_39 : decode cX7_make 39 = .ok (.iload_n 1, 1) := by decide +kernel
theorem dX7_make_40 : decode cX7_make 40 = .ok (.iaload, 1) := by decide +kernel
theorem dX7_make_41 : decode cX7_make 41 = .ok (.iastore, 1) := by decide +kernel
theorem dX7_make_42 : decode cX7_make 42 = .ok (.iinc 1 1, 3) := by decide +kernel
theorem dX7_make_45 : decode cX7_make 45 = .ok (.goto (-22), 3) := by decide +kernel
theorem dX7_make_48 : decode cX7_make 48 = .ok (.iconst 0, 1) := by decide +kernel
theorem dX7_make_49 : decode cX7_make 49 = .ok (.istore_n 1, 1) := by decide +kernel
theorem dX7_make_50 : decode cX7_make 50 = .ok (.iload_n 1, 1) := by decide +kernel
theorem dX7_make_51 : decode cX7_make 51 = .ok (.aload_n 0, 1) := by decide +kernel
theorem dX7_make_52 : decode cX7_make 52 = .ok (.getfield 162, 3) := by decide +kernel
theorem dX7_make_55 : decode cX7_make 55 = .ok (.if_icmp .ge 81, 3) := by decide +kernel
theorem dX7_make_58 : decode cX7_make 58 = .ok (.iconst 0, 1) := by decide +kernel
theorem dX7_make_59 : decode cX7_make 59 = .ok (.istore_n 2, 1) := by decide +kernel
theorem dX7_make_60 : decode cX7_make 60 = .ok (.iload_n 2, 1) := by decide +kernel
theorem dX7_make_61 : decode cX7_make 61 = .ok (.aload_n 0, 1) := by decide +kernel
theorem dX7_make_62 : decode cX7_make 62 = .ok (.getfield 15, 3) := by decide +kernel
theorem dX7_make_65 : decode cX7_make 65 = .ok (.aload_n 0, 1) := by decide +kernel
theorem dX7_make_66 : decode cX7_make 66 = .ok (.getfield 60, 3) := by decide +kernel
theorem dX7_make_69 : decode cX7_make 69 = .ok (.iload_n 1, 1) := by decide +kernel
theorem dX7_make_70 : decode cX7_make 70 = .ok (.iaload, 1) := by decide +kernel
theorem dX7_make_71 : decode cX7_make 71 = .ok (.iaload, 1) := by decide +kernel
theorem dX7_make_72 : decode cX7_make 72 = .ok (.if_icmp .ge 58, 3) := by decide +kernel
theorem dX7_make_75 : decode cX7_make 75 = .ok (.aload_n 0, 1) := by decide +kernel
theorem dX7_make_76 : decode cX7_make 76 = .ok (.getfield 75, 3) := by decide +kernel
theorem dX7_make_79 : decode cX7_make 79 = .ok (.iload_n 1, 1) := by decide +kernel
theorem dX7_make_80 : decode cX7_make 80 = .ok (.baload, 1) := by decide +kernel
theorem dX7_make_81 : decode cX7_make 81 = .ok (.ifCond .eq 49, 3) := by decide +kernel
theorem dX7_make_84 : decode cX7_make 84 = .ok (.aload_n 0, 1) := by decide +kernel
theorem dX7_make_85 : decode cX7_make 85 = .ok (.getfield 60, 3) := by decide +kernel
theorem dX7_make_88 : decode cX7_make 88 = .ok (.iload_n 1, 1) := by decide +kernel
theorem dX7_make_89 : decode cX7_make 89 = .ok (.iaload, 1) := by decide +kernel
theorem dX7_make_90 : decode cX7_make 90 = .ok (.iload_n 2, 1) := by decide +kernel
theorem dX7_make_91 : decode cX7_make 91 = .ok (.aload_n 0, 1) := by decide +kernel
theorem dX7_make_92 : decode cX7_make 92 = .ok (.getfield 63, 3) := by decide +kernel
theorem dX7_make_95 : decode cX7_make 95 = .ok (.iload_n 1, 1) := by decide +kernel
theorem dX7_make_96 : decode cX7_make 96 = .ok (.iaload, 1) := by decide +kernel
theorem dX7_make_97 : decode cX7_make 97 = .ok (.invokestatic 127, 3) := by decide +kernel
theorem dX7_make_100 : decode cX7_make 100 = .ok (.istore_n 3, 1) := by decide +kernel
theorem dX7_make_101 : decode cX7_make 101 = .ok (.aload_n 0, 1) := by decide +kernel
theorem dX7_make_102 : decode cX7_make 102 = .ok (.getfield 79, 3) := by decide +kernel
theorem dX7_make_105 : decode cX7_make 105 = .ok (.iload_n 3, 1) := by decide +kernel
theorem dX7_make_106 : decode cX7_make 106 = .ok (.iaload, 1) := by decide +kernel
theorem dX7_make_107 : decode cX7_make 107 = .ok (.ldc 119, 2) := by decide +kernel
theorem dX7_make_109 : decode cX7_make 109 = .ok (.if_icmp .eq 15, 3) := by decide +kernel
theorem dX7_make_112 : decode cX7_make 112 = .ok (.aload_n 0, 1) := by decide +kernel
theorem dX7_make_113 : decode cX7_make 113 = .ok (.getfield 79, 3) := by decide +kernel
theorem dX7_make_116 : decode cX7_make 116 = .ok (.iload_n 3, 1) := by decide +kernel
theorem dX7_make_117 : decode cX7_make 117 = .ok (.aload_n 0, 1) := by decide +kernel
theorem dX7_make_118 : decode cX7_make 118 = .ok (.iload_n 1, 1) := by decide +kernel
theorem dX7_make_119 : decode cX7_make 119 = .ok (.iload_n 2, 1) := by decide +kernel
theorem dX7_make_120 : decode cX7_make 120 = .ok (.invokevirtual 169, 3) := by decide +kernel
theorem dX7_make_123 : decode cX7_make 123 = .ok (.iastore, 1) := by decide +kernel
theorem dX7_make_124 : decode cX7_make 124 = .ok (.iinc 2 1, 3) := by decide +kernel
theorem dX7_make_127 : decode cX7_make 127 = .ok (.goto (-67), 3) := by decide +kernel
theorem dX7_make_130 : decode cX7_make 130 = .ok (.iinc 1 1, 3) := by decide +kernel
theorem dX7_make_133 : decode cX7_make 133 = .ok (.goto (-83), 3) := by decide +kernel
theorem dX7_make_136 : decode cX7_make 136 = .ok (.aload_n 0, 1) := by decide +kernel
theorem dX7_make_137 : decode cX7_make 137 = .ok (.invokevirtual 182, 3) := by decide +kernel
theorem dX7_make_140 : decode cX7_make 140 = .ok (.istore_n 1, 1) := by decide +kernel
theorem dX7_make_141 : decode cX7_make 141 = .ok (.iload_n 1, 1) := by decide +kernel
theorem dX7_make_142 : decode cX7_make 142 = .ok (.bipush 100, 2) := by decide +kernel
theorem dX7_make_144 : decode cX7_make 144 = .ok (.if_icmp .ge 5, 3) := by decide +kernel
theorem dX7_make_147 : decode cX7_make 147 = .ok (.iload_n 1, 1) := by decide +kernel
theorem dX7_make_148 : decode cX7_make 148 = .ok (.ireturn, 1) := by decide +kernel
theorem dX7_make_149 : decode cX7_make 149 = .ok (.iconst 0, 1) := by decide +kernel
theorem dX7_make_150 : decode cX7_make 150 = .ok (.istore_n 2, 1) := by decide +kernel
theorem dX7_make_151 : decode cX7_make 151 = .ok (.iload_n 2, 1) := by decide +kernel
theorem dX7_make_152 : decode cX7_make 152 = .ok (.sipush 288, 3) := by decide +kernel
theorem dX7_make_155 : decode cX7_make 155 = .ok (.if_icmp .ge 21, 3) := by decide +kernel
theorem dX7_make_158 : decode cX7_make 158 = .ok (.aload_n 0, 1) := by decide +kernel
theorem dX7_make_159 : decode cX7_make 159 = .ok (.getfield 48, 3) := by decide +kernel
theorem dX7_make_162 : decode cX7_make 162 = .ok (.iload_n 2, 1) := by decide +kernel
theorem dX7_make_163 : decode cX7_make 163 = .ok (.aload_n 0, 1) := by decide +kernel
theorem dX7_make_164 : decode cX7_make 164 = .ok (.getfield 79, 3) := by decide +kernel
theorem dX7_make_167 : decode cX7_make 167 = .ok (.iload_n 2, 1) := by decide +kernel
theorem dX7_make_168 : decode cX7_make 168 = .ok (.iaload, 1) := by decide +kernel
theorem dX7_make_169 : decode cX7_make 169 = .ok (.iastore, 1) := by decide +kernel
theorem dX7_make_170 : decode cX7_make 170 = .ok (.iinc 2 1, 3) := by decide +kernel
theorem dX7_make_173 : decode cX7_make 173 = .ok (.goto (-22), 3) := by decide +kernel
theorem dX7_make_176 : decode cX7_make 176 = .ok (.aload_n 0, 1) := by decide +kernel
theorem dX7_make_177 : decode cX7_make 177 = .ok (.iconst 1, 1) := by decide +kernel
theorem dX7_make_178 : decode cX7_make 178 = .ok (.putfield 112, 3) := by decide +kernel
theorem dX7_make_181 : decode cX7_make 181 = .ok (.bipush 100, 2) := by decide +kernel
theorem dX7_make_183 : decode cX7_make 183 = .ok (.ireturn, 1) := by decide +kernel
theorem dX7_at_0 : decode cX7_at 0 = .ok (.aload_n 0, 1) := by decide +kernel
theorem dX7_at_1 : decode cX7_at 1 = .ok (.iload_n 1, 1) := by decide +kernel
theorem dX7_at_2 : decode cX7_at 2 = .ok (.iload_n 3, 1) := by decide +kernel
theorem dX7_at_3 : decode cX7_at 3 = .ok (.invokevirtual 131, 3) := by decide +kernel
theorem dX7_at_6 : decode cX7_at 6 = .ok (.ifCond .eq 35, 3) := by decide +kernel
theorem dX7_at_9 : decode cX7_at 9 = .ok (.aload_n 0, 1) := by decide +kernel
theorem dX7_at_10 : decode cX7_at 10 = .ok (.iload_n 1, 1) := by decide +kernel
theorem dX7_at_11 : decode cX7_at 11 = .ok (.iload_n 2, 1) := by decide +kernel
theorem dX7_at_12 : decode cX7_at 12 = .ok (.invokevirtual 189, 3) := by decide +kernel
theorem dX7_at_15 : decode cX7_at 15 = .ok (.ifCond .eq 26, 3) := by decide +kernel
theorem dX7_at_18 : decode cX7_at 18 = .ok (.iload 4, 2) := by decide +kernel
theorem dX7_at_20 : decode cX7_at 20 = .ok (.iconst 0, 1) := by decide +kernel
theorem dX7_at_21 : decode cX7_at 21 = .ok (.iconst 1, 1) := by decide +kernel
theorem dX7_at_22 : decode cX7_at 22 = .ok (.invokestatic 95, 3) := by decide +kernel
theorem dX7_at_25 : decode cX7_at 25 = .ok (.ifCond .eq 16, 3) := by decide +kernel
theorem dX7_at_28 : decode cX7_at 28 = .ok (.iload 4, 2) := by decide +kernel
theorem dX7_at_30 : decode cX7_at 30 = .ok (.iconst 1, 1) := by decide +kernel
theorem dX7_at_31 : decode cX7_at 31 = .ok (.if_icmp .ne 13, 3) := by decide +kernel
theorem dX7_at_34 : decode cX7_at 34 = .ok (.aload_n 0, 1) := by decide +kernel
theorem dX7_at_35 : decode cX7_at 35 = .ok (.getfield 112, 3) := by decide +kernel
theorem dX7_at_38 : decode cX7_at 38 = .ok (.ifCond .ne 6, 3) := by decide +kernel
theorem dX7_at_41 : decode cX7_at 41 = .ok (.ldc 119, 2) := by decide +kernel
theorem dX7_at_43 : decode cX7_at 43 = .ok (.ireturn, 1) := by decide +kernel
theorem dX7_at_44 : decode cX7_at 44 = .ok (.iload 4, 2) := by decide +kernel
theorem dX7_at_46 : decode cX7_at 46 = .ok (.iconst 1, 1) := by decide +kernel
theorem dX7_at_47 : decode cX7_at 47 = .ok (.if_icmp .ne 17, 3) := by decide +kernel
theorem dX7_at_50 : decode cX7_at 50 = .ok (.aload_n 0, 1) := by decide +kernel
theorem dX7_at_51 : decode cX7_at 51 = .ok (.getfield 48, 3) := by decide +kernel
theorem dX7_at_54 : decode cX7_at 54 = .ok (.iload_n 1, 1) := by decide +kernel
theorem dX7_at_55 : decode cX7_at 55 = .ok (.iload_n 2, 1) := by decide +kernel
theorem dX7_at_56 : decode cX7_at 56 = .ok (.iload_n 3, 1) := by decide +kernel
theorem dX7_at_57 : decode cX7_at 57 = .ok (.invokestatic 127, 3) := by decide +kernel
theorem dX7_at_60 : decode cX7_at 60 = .ok (.iaload, 1) := by decide +kernel
theorem dX7_at_61 : decode cX7_at 61 = .ok (.goto 14, 3) := by decide +kernel
theorem dX7_at_64 : decode cX7_at 64 = .ok (.aload_n 0, 1) := by decide +kernel
theorem dX7_at_65 : decode cX7_at 65 = .ok (.getfield 45, 3) := by decide +kernel
theorem dX7_at_68 : decode cX7_at 68 = .ok (.iload_n 1, 1) := by decide +kernel
theorem dX7_at_69 : decode cX7_at 69 = .ok (.iload_n 2, 1) := by decide +kernel
theorem dX7_at_70 : decode cX7_at 70 = .ok (.iload_n 3, 1) := by decide +kernel
theorem dX7_at_71 : decode cX7_at 71 = .ok (.invokestatic 127, 3) := by decide +kernel
theorem dX7_at_74 : decode cX7_at 74 = .ok (.iaload, 1) := by decide +kernel
theorem dX7_at_75 : decode cX7_at 75 = .ok (.ireturn, 1) := by decide +kernel
theorem dX7_turned_0 : decode cX7_turned 0 = .ok (.aload_n 0, 1) := by decide +kernel
theorem dX7_turned_1 : decode cX7_turned 1 = .ok (.iload_n 1, 1) := by decide +kernel
theorem dX7_turned_2 : decode cX7_turned 2 = .ok (.iload_n 2, 1) := by decide +kernel
theorem dX7_turned_3 : decode cX7_turned 3 = .ok (.invokevirtual 131, 3) := by decide +kernel
theorem dX7_turned_6 : decode cX7_turned 6 = .ok (.ifCond .eq 32, 3) := by decide +kernel
theorem dX7_turned_9 : decode cX7_turned 9 = .ok (.aload_n 0, 1) := by decide +kernel
theorem dX7_turned_10 : decode cX7_turned 10 = .ok (.getfield 21, 3) := by decide +kernel
theorem dX7_turned_13 : decode cX7_turned 13 = .ok (.bipush 6, 2) := by decide +kernel
theorem dX7_turned_15 : decode cX7_turned 15 = .ok (.iload_n 1, 1) := by decide +kernel
theorem dX7_turned_16 : decode cX7_turned 16 = .ok (.imul, 1) := by decide +kernel
theorem dX7_turned_17 : decode cX7_turned 17 = .ok (.iload_n 2, 1) := by decide +kernel
theorem dX7_turned_18 : decode cX7_turned 18 = .ok (.iadd, 1) := by decide +kernel
theorem dX7_turned_19 : decode cX7_turned 19 = .ok (.iaload, 1) := by decide +kernel
theorem dX7_turned_20 : decode cX7_turned 20 = .ok (.ifCond .eq 20, 3) := by decide +kernel
theorem dX7_turned_23 : decode cX7_turned 23 = .ok (.aload_n 0, 1) := by decide +kernel
theorem dX7_turned_24 : decode cX7_turned 24 = .ok (.getfield 21, 3) := by decide +kernel
theorem dX7_turned_27 : decode cX7_turned 27 = .ok (.bipush 6, 2) := by decide +kernel
theorem dX7_turned_29 : decode cX7_turned 29 = .ok (.iload_n 1, 1) := by decide +kernel
theorem dX7_turned_30 : decode cX7_turned 30 = .ok (.imul, 1) := by decide +kernel
theorem dX7_turned_31 : decode cX7_turned 31 = .ok (.iload_n 2, 1) := by decide +kernel
theorem dX7_turned_32 : decode cX7_turned 32 = .ok (.iadd, 1) := by decide +kernel
theorem dX7_turned_33 : decode cX7_turned 33 = .ok (.iaload, 1) := by decide +kernel
theorem dX7_turned_34 : decode cX7_turned 34 = .ok (.iconst 4, 1) := by decide +kernel
theorem dX7_turned_35 : decode cX7_turned 35 = .ok (.if_icmp .eq 5, 3) := by decide +kernel
theorem dX7_turned_38 : decode cX7_turned 38 = .ok (.iconst (-1), 1) := by decide +kernel
theorem dX7_turned_39 : decode cX7_turned 39 = .ok (.ireturn, 1) := by decide +kernel
theorem dX7_turned_40 : decode cX7_turned 40 = .ok (.aload_n 0, 1) := by decide +kernel
theorem dX7_turned_41 : decode cX7_turned 41 = .ok (.getfield 21, 3) := by decide +kernel
theorem dX7_turned_44 : decode cX7_turned 44 = .ok (.bipush 6, 2) := by decide +kernel
theorem dX7_turned_46 : decode cX7_turned 46 = .ok (.iload_n 1, 1) := by decide +kernel
theorem dX7_turned_47 : decode cX7_turned 47 = .ok (.imul, 1) := by decide +kernel
theorem dX7_turned_48 : decode cX7_turned 48 = .ok (.iload_n 2, 1) := by decide +kernel
theorem dX7_turned_49 : decode cX7_turned 49 = .ok (.iadd, 1) := by decide +kernel
theorem dX7_turned_50 : decode cX7_turned 50 = .ok (.iaload, 1) := by decide +kernel
theorem dX7_turned_51 : decode cX7_turned 51 = .ok (.ifCond .ne 22, 3) := by decide +kernel
theorem dX7_turned_54 : decode cX7_turned 54 = .ok (.iload_n 3, 1) := by decide +kernel
theorem dX7_turned_55 : decode cX7_turned 55 = .ok (.invokestatic 120, 3) := by decide +kernel
theorem dX7_turned_58 : decode cX7_turned 58 = .ok (.ifCond .eq 12, 3) := by decide +kernel
theorem dX7_turned_61 : decode cX7_turned 61 = .ok (.aload_n 0, 1) := by decide +kernel
theorem dX7_turned_62 : decode cX7_turned 62 = .ok (.iload_n 1, 1) := by decide +kernel
theorem dX7_turned_63 : decode cX7_turned 63 = .ok (.iload_n 3, 1) := by decide +kernel
theorem dX7_turned_64 : decode cX7_turned 64 = .ok (.invokevirtual 147, 3) := by decide +kernel
theorem dX7_turned_67 : decode cX7_turned 67 = .ok (.goto 5, 3) := by decide +kernel
theorem dX7_turned_70 : decode cX7_turned 70 = .ok (.bipush (-2), 2) := by decide +kernel
theorem dX7_turned_72 : decode cX7_turned 72 = .ok (.ireturn, 1) := by decide +kernel
theorem dX7_turned_73 : decode cX7_turned 73 = .ok (.iload_n 3, 1) := by decide +kernel
theorem dX7_turned_74 : decode cX7_turned 74 = .ok (.iconst 0, 1) := by decide +kernel
theorem dX7_turned_75 : decode cX7_turned 75 = .ok (.bipush 99, 2) := by decide +kernel
theorem dX7_turned_77 : decode cX7_turned 77 = .ok (.invokestatic 95, 3) := by decide +kernel
theorem dX7_turned_80 : decode cX7_turned 80 = .ok (.ifCond .eq 17, 3) := by decide +kernel
theorem dX7_turned_83 : decode cX7_turned 83 = .ok (.aload_n 0, 1) := by decide +kernel
theorem dX7_turned_84 : decode cX7_turned 84 = .ok (.bipush 6, 2) := by decide +kernel
theorem dX7_turned_86 : decode cX7_turned 86 = .ok (.iload_n 1, 1) := by decide +kernel
theorem dX7_turned_87 : decode cX7_turned 87 = .ok (.imul, 1) := by decide +kernel
theorem dX7_turned_88 : decode cX7_turned 88 = .ok (.iload_n 2, 1) := by decide +kernel
theorem dX7_turned_89 : decode cX7_turned 89 = .ok (.iadd, 1) := by decide +kernel
theorem dX7_turned_90 : decode cX7_turned 90 = .ok (.iload_n 3, 1) := by decide +kernel
theorem dX7_turned_91 : decode cX7_turned 91 = .ok (.invokevirtual 150, 3) := by decide +kernel
theorem dX7_turned_94 : decode cX7_turned 94 = .ok (.goto 5, 3) := by decide +kernel
theorem dX7_turned_97 : decode cX7_turned 97 = .ok (.bipush (-2), 2) := by decide +kernel
theorem dX7_turned_99 : decode cX7_turned 99 = .ok (.ireturn, 1) := by decide +kernel
theorem dX7_shift_0 : decode cX7_shift 0 = .ok (.iload_n 1, 1) := by decide +kernel
theorem dX7_shift_1 : decode cX7_shift 1 = .ok (.invokestatic 120, 3) := by decide +kernel
theorem dX7_shift_4 : decode cX7_shift 4 = .ok (.ifCond .eq 11, 3) := by decide +kernel
theorem dX7_shift_7 : decode cX7_shift 7 = .ok (.aload_n 0, 1) := by decide +kernel
theorem dX7_shift_8 : decode cX7_shift 8 = .ok (.iload_n 1, 1) := by decide +kernel
theorem dX7_shift_9 : decode cX7_shift 9 = .ok (.invokevirtual 153, 3) := by decide +kernel
theorem dX7_shift_12 : decode cX7_shift 12 = .ok (.goto 5, 3) := by decide +kernel
theorem dX7_shift_15 : decode cX7_shift 15 = .ok (.ldc 119, 2) := by decide +kernel
theorem dX7_shift_17 : decode cX7_shift 17 = .ok (.ireturn, 1) := by decide +kernel
theorem dX7_count_0 : decode cX7_count 0 = .ok (.aload_n 0, 1) := by decide +kernel
theorem dX7_count_1 : decode cX7_count 1 = .ok (.iload_n 1, 1) := by decide +kernel
theorem dX7_count_2 : decode cX7_count 2 = .ok (.iload_n 2, 1) := by decide +kernel
theorem dX7_count_3 : decode cX7_count 3 = .ok (.invokevirtual 131, 3) := by decide +kernel
theorem dX7_count_6 : decode cX7_count 6 = .ok (.ifCond .ne 5, 3) := by decide +kernel
theorem dX7_count_9 : decode cX7_count 9 = .ok (.iconst (-1), 1) := by decide +kernel
theorem dX7_count_10 : decode cX7_count 10 = .ok (.ireturn, 1) := by decide +kernel
theorem dX7_count_11 : decode cX7_count 11 = .ok (.iload 4, 2) := by decide +kernel
theorem dX7_count_13 : decode cX7_count 13 = .ok (.iconst 0, 1) := by decide +kernel
theorem dX7_count_14 : decode cX7_count 14 = .ok (.iconst 1, 1) := by decide +kernel
theorem dX7_count_15 : decode cX7_count 15 = .ok (.invokestatic 95, 3) := by decide +kernel
theorem dX7_count_18 : decode cX7_count 18 = .ok (.ifCond .ne 6, 3) := by decide +kernel
theorem dX7_count_21 : decode cX7_count 21 = .ok (.bipush (-2), 2) := by decide +kernel
theorem dX7_count_23 : decode cX7_count 23 = .ok (.ireturn, 1) := by decide +kernel
theorem dX7_count_24 : decode cX7_count 24 = .ok (.iload 4, 2) := by decide +kernel
theorem dX7_count_26 : decode cX7_count 26 = .ok (.iconst 1, 1) := by decide +kernel
theorem dX7_count_27 : decode cX7_count 27 = .ok (.if_icmp .ne 13, 3) := by decide +kernel
theorem dX7_count_30 : decode cX7_count 30 = .ok (.aload_n 0, 1) := by decide +kernel
theorem dX7_count_31 : decode cX7_count 31 = .ok (.getfield 112, 3) := by decide +kernel
theorem dX7_count_34 : decode cX7_count 34 = .ok (.ifCond .ne 6, 3) := by decide +kernel
theorem dX7_count_37 : decode cX7_count 37 = .ok (.bipush (-3), 2) := by decide +kernel
theorem dX7_count_39 : decode cX7_count 39 = .ok (.ireturn, 1) := by decide +kernel
theorem dX7_count_40 : decode cX7_count 40 = .ok (.aload_n 0, 1) := by decide +kernel
theorem dX7_count_41 : decode cX7_count 41 = .ok (.iload 4, 2) := by decide +kernel
theorem dX7_count_43 : decode cX7_count 43 = .ok (.invokevirtual 178, 3) := by decide +kernel
theorem dX7_count_46 : decode cX7_count 46 = .ok (.iconst 0, 1) := by decide +kernel
theorem dX7_count_47 : decode cX7_count 47 = .ok (.istore 5, 2) := by decide +kernel
theorem dX7_count_49 : decode cX7_count 49 = .ok (.iconst 0, 1) := by decide +kernel
theorem dX7_count_50 : decode cX7_count 50 = .ok (.istore 6, 2) := by decide +kernel
theorem dX7_count_52 : decode cX7_count 52 = .ok (.iload 6, 2) := by decide +kernel
theorem dX7_count_54 : decode cX7_count 54 = .ok (.aload_n 0, 1) := by decide +kernel
theorem dX7_count_55 : decode cX7_count 55 = .ok (.getfield 15, 3) := by decide +kernel
theorem dX7_count_58 : decode cX7_count 58 = .ok (.iload_n 1, 1) := by decide +kernel
theorem dX7_count_59 : decode cX7_count 59 = .ok (.iaload, 1) := by decide +kernel
theorem dX7_count_60 : decode cX7_count 60 = .ok (.if_icmp .ge 35, 3) := by decide +kernel
theorem dX7_count_63 : decode cX7_count 63 = .ok (.iload 5, 2) := by decide +kernel
theorem dX7_count_65 : decode cX7_count 65 = .ok (.aload_n 0, 1) := by decide +kernel
theorem dX7_count_66 : decode cX7_count 66 = .ok (.getfield 79, 3) := by decide +kernel
theorem dX7_count_69 : decode cX7_count 69 = .ok (.iload_n 1, 1) := by decide +kernel
theorem dX7_count_70 : decode cX7_count 70 = .ok (.iload 6, 2) := by decide +kernel
theorem dX7_count_72 : decode cX7_count 72 = .ok (.iload_n 2, 1) := by decide +kernel
theorem dX7_count_73 : decode cX7_count 73 = .ok (.invokestatic 127, 3) := by decide +kernel
theorem dX7_count_76 : decode cX7_count 76 = .ok (.iaload, 1) := by decide +kernel
theorem dX7_count_77 : decode cX7_count 77 = .ok (.iload_n 3, 1) := by decide +kernel
theorem dX7_count_78 : decode cX7_count 78 = .ok (.if_icmp .ne 7, 3) := by decide +kernel
theorem dX7_count_81 : decode cX7_count 81 = .ok (.iconst 1, 1) := by decide +kernel
theorem dX7_count_82 : decode cX7_count 82 = .ok (.goto 4, 3) := by decide +kernel
theorem dX7_count_85 : decode cX7_count 85 = .ok (.iconst 0, 1) := by decide +kernel
theorem dX7_count_86 : decode cX7_count 86 = .ok (.iadd, 1) := by decide +kernel
theorem dX7_count_87 : decode cX7_count 87 = .ok (.istore 5, 2) := by decide +kernel
theorem dX7_count_89 : decode cX7_count 89 = .ok (.iinc 6 1, 3) := by decide +kernel
theorem dX7_count_92 : decode cX7_count 92 = .ok (.goto (-40), 3) := by decide +kernel
theorem dX7_count_95 : decode cX7_count 95 = .ok (.iload 5, 2) := by decide +kernel
theorem dX7_count_97 : decode cX7_count 97 = .ok (.ireturn, 1) := by decide +kernel
theorem dX7_joins_0 : decode cX7_joins 0 = .ok (.aload_n 0, 1) := by decide +kernel
theorem dX7_joins_1 : decode cX7_joins 1 = .ok (.iload_n 1, 1) := by decide +kernel
theorem dX7_joins_2 : decode cX7_joins 2 = .ok (.iload_n 2, 1) := by decide +kernel
theorem dX7_joins_3 : decode cX7_joins 3 = .ok (.invokevirtual 131, 3) := by decide +kernel
theorem dX7_joins_6 : decode cX7_joins 6 = .ok (.ifCond .ne 5, 3) := by decide +kernel
theorem dX7_joins_9 : decode cX7_joins 9 = .ok (.iconst (-1), 1) := by decide +kernel
theorem dX7_joins_10 : decode cX7_joins 10 = .ok (.ireturn, 1) := by decide +kernel
theorem dX7_joins_11 : decode cX7_joins 11 = .ok (.aload_n 0, 1) := by decide +kernel
theorem dX7_joins_12 : decode cX7_joins 12 = .ok (.getfield 21, 3) := by decide +kernel
theorem dX7_joins_15 : decode cX7_joins 15 = .ok (.bipush 6, 2) := by decide +kernel
theorem dX7_joins_17 : decode cX7_joins 17 = .ok (.iload_n 1, 1) := by decide +kernel
theorem dX7_joins_18 : decode cX7_joins 18 = .ok (.imul, 1) := by decide +kernel
theorem dX7_joins_19 : decode cX7_joins 19 = .ok (.iload_n 2, 1) := by decide +kernel
theorem dX7_joins_20 : decode cX7_joins 20 = .ok (.iadd, 1) := by decide +kernel
theorem dX7_joins_21 : decode cX7_joins 21 = .ok (.iaload, 1) := by decide +kernel
theorem dX7_joins_22 : decode cX7_joins 22 = .ok (.iconst 1, 1) := by decide +kernel
theorem dX7_joins_23 : decode cX7_joins 23 = .ok (.if_icmp .ne 12, 3) := by decide +kernel
theorem dX7_joins_26 : decode cX7_joins 26 = .ok (.iload_n 3, 1) := by decide +kernel
theorem dX7_joins_27 : decode cX7_joins 27 = .ok (.iconst 0, 1) := by decide +kernel
theorem dX7_joins_28 : decode cX7_joins 28 = .ok (.iconst 1, 1) := by decide +kernel
theorem dX7_joins_29 : decode cX7_joins 29 = .ok (.invokestatic 95, 3) := by decide +kernel
theorem dX7_joins_32 : decode cX7_joins 32 = .ok (.ifCond .ne 6, 3) := by decide +kernel
theorem dX7_joins_35 : decode cX7_joins 35 = .ok (.bipush (-2), 2) := by decide +kernel
theorem dX7_joins_37 : decode cX7_joins 37 = .ok (.ireturn, 1) := by decide +kernel
theorem dX7_joins_38 : decode cX7_joins 38 = .ok (.iload_n 3, 1) := by decide +kernel
theorem dX7_joins_39 : decode cX7_joins 39 = .ok (.iconst 1, 1) := by decide +kernel
theorem dX7_joins_40 : decode cX7_joins 40 = .ok (.if_icmp .ne 13, 3) := by decide +kernel
theorem dX7_joins_43 : decode cX7_joins 43 = .ok (.aload_n 0, 1) := by decide +kernel
theorem dX7_joins_44 : decode cX7_joins 44 = .ok (.getfield 112, 3) := by decide +kernel
theorem dX7_joins_47 : decode cX7_joins 47 = .ok (.ifCond .ne 6, 3) := by decide +kernel
theorem dX7_joins_50 : decode cX7_joins 50 = .ok (.bipush (-3), 2) := by decide +kernel
theorem dX7_joins_52 : decode cX7_joins 52 = .ok (.ireturn, 1) := by decide +kernel
theorem dX7_joins_53 : decode cX7_joins 53 = .ok (.aload_n 0, 1) := by decide +kernel
theorem dX7_joins_54 : decode cX7_joins 54 = .ok (.iload_n 3, 1) := by decide +kernel
theorem dX7_joins_55 : decode cX7_joins 55 = .ok (.invokevirtual 178, 3) := by decide +kernel
theorem dX7_joins_58 : decode cX7_joins 58 = .ok (.iconst 0, 1) := by decide +kernel
theorem dX7_joins_59 : decode cX7_joins 59 = .ok (.istore 4, 2) := by decide +kernel
theorem dX7_joins_61 : decode cX7_joins 61 = .ok (.iconst 0, 1) := by decide +kernel
theorem dX7_joins_62 : decode cX7_joins 62 = .ok (.istore 5, 2) := by decide +kernel
theorem dX7_joins_64 : decode cX7_joins 64 = .ok (.iload 5, 2) := by decide +kernel
theorem dX7_joins_66 : decode cX7_joins 66 = .ok (.aload_n 0, 1) := by decide +kernel
theorem dX7_joins_67 : decode cX7_joins 67 = .ok (.getfield 15, 3) := by decide +kernel
theorem dX7_joins_70 : decode cX7_joins 70 = .ok (.iload_n 1, 1) := by decide +kernel
theorem dX7_joins_71 : decode cX7_joins 71 = .ok (.iaload, 1) := by decide +kernel
theorem dX7_joins_72 : decode cX7_joins 72 = .ok (.if_icmp .ge 86, 3) := by decide +kernel
theorem dX7_joins_75 : decode cX7_joins 75 = .ok (.iconst 0, 1) := by decide +kernel
theorem dX7_joins_76 : decode cX7_joins 76 = .ok (.istore 6, 2) := by decide +kernel
theorem dX7_joins_78 : decode cX7_joins 78 = .ok (.iload 6, 2) := by decide +kernel
theorem dX7_joins_80 : decode cX7_joins 80 = .ok (.aload_n 0, 1) := by decide +kernel
theorem dX7_joins_81 : decode cX7_joins 81 = .ok (.getfield 15, 3) := by decide +kernel
theorem dX7_joins_84 : decode cX7_joins 84 = .ok (.aload_n 0, 1) := by decide +kernel
theorem dX7_joins_85 : decode cX7_joins 85 = .ok (.getfield 24, 3) := by decide +kernel
theorem dX7_joins_88 : decode cX7_joins 88 = .ok (.bipush 6, 2) := by decide +kernel
theorem dX7_joins_90 : decode cX7_joins 90 = .ok (.iload_n 1, 1) := by decide +kernel
theorem dX7_joins_91 : decode cX7_joins 91 = .ok (.imul, 1) := by decide +kernel
theorem dX7_joins_92 : decode cX7_joins 92 = .ok (.iload_n 2, 1) := by decide +kernel
theorem dX7_joins_93 : decode cX7_joins 93 = .ok (.iadd, 1) := by decide +kernel
theorem dX7_joins_94 : decode cX7_joins 94 = .ok (.iaload, 1) := by decide +kernel
theorem dX7_joins_95 : decode cX7_joins 95 = .ok (.iaload, 1) := by decide +kernel
theorem dX7_joins_96 : decode cX7_joins 96 = .ok (.if_icmp .ge 56, 3) := by decide +kernel
theorem dX7_joins_99 : decode cX7_joins 99 = .ok (.iload 4, 2) := by decide +kernel
theorem dX7_joins_101 : decode cX7_joins 101 = .ok (.aload_n 0, 1) := by decide +kernel
theorem dX7_joins_102 : decode cX7_joins 102 = .ok (.getfield 79, 3) := by decide +kernel
theorem dX7_joins_105 : decode cX7_joins 105 = .ok (.iload_n 1, 1) := by decide +kernel
theorem dX7_joins_106 : decode cX7_joins 106 = .ok (.iload 5, 2) := by decide +kernel
theorem dX7_joins_108 : decode cX7_joins 108 = .ok (.iload_n 2, 1) := by decide +kernel
theorem dX7_joins_109 : decode cX7_joins 109 = .ok (.invokestatic 127, 3) := by decide +kernel
theorem dX7_joins_112 : decode cX7_joins 112 = .ok (.iaload, 1) := by decide +kernel
theorem dX7_joins_113 : decode cX7_joins 113 = .ok (.aload_n 0, 1) := by decide +kernel
theorem dX7_joins_114 : decode cX7_joins 114 = .ok (.getfield 79, 3) := by decide +kernel
theorem dX7_joins_117 : decode cX7_joins 117 = .ok (.aload_n 0, 1) := by decide +kernel
theorem dX7_joins_118 : decode cX7_joins 118 = .ok (.getfield 24, 3) := by decide +kernel
theorem dX7_joins_121 : decode cX7_joins 121 = .ok (.bipush 6, 2) := by decide +kernel
theorem dX7_joins_123 : decode cX7_joins 123 = .ok (.iload_n 1, 1) := by decide +kernel
theorem dX7_joins_124 : decode cX7_joins 124 = .ok (.imul, 1) := by decide +kernel
theorem dX7_joins_125 : decode cX7_joins 125 = .ok (.iload_n 2, 1) := by decide +kernel
theorem dX7_joins_126 : decode cX7_joins 126 = .ok (.iadd, 1) := by decide +kernel
theorem dX7_joins_127 : decode cX7_joins 127 = .ok (.iaload, 1) := by decide +kernel
theorem dX7_joins_128 : decode cX7_joins 128 = .ok (.iload 6, 2) := by decide +kernel
theorem dX7_joins_130 : decode cX7_joins 130 = .ok (.iconst 0, 1) := by decide +kernel
theorem dX7_joins_131 : decode cX7_joins 131 = .ok (.invokestatic 127, 3) := by decide +kernel
theorem dX7_joins_134 : decode cX7_joins 134 = .ok (.iaload, 1) := by decide +kernel
theorem dX7_joins_135 : decode cX7_joins 135 = .ok (.if_icmp .ne 7, 3) := by decide +kernel
theorem dX7_joins_138 : decode cX7_joins 138 = .ok (.iconst 1, 1) := by decide +kernel
theorem dX7_joins_139 : decode cX7_joins 139 = .ok (.goto 4, 3) := by decide +kernel
theorem dX7_joins_142 : decode cX7_joins 142 = .ok (.iconst 0, 1) := by decide +kernel
theorem dX7_joins_143 : decode cX7_joins 143 = .ok (.iadd, 1) := by decide +kernel
theorem dX7_joins_144 : decode cX7_joins 144 = .ok (.istore 4, 2) := by decide +kernel
theorem dX7_joins_146 : decode cX7_joins 146 = .ok (.iinc 6 1, 3) := by decide +kernel
theorem dX7_joins_149 : decode cX7_joins 149 = .ok (.goto (-71), 3) := by decide +kernel
theorem dX7_joins_152 : decode cX7_joins 152 = .ok (.iinc 5 1, 3) := by decide +kernel
theorem dX7_joins_155 : decode cX7_joins 155 = .ok (.goto (-91), 3) := by decide +kernel
theorem dX7_joins_158 : decode cX7_joins 158 = .ok (.iload 4, 2) := by decide +kernel
theorem dX7_joins_160 : decode cX7_joins 160 = .ok (.ireturn, 1) := by decide +kernel
theorem dX7_miss_0 : decode cX7_miss 0 = .ok (.aload_n 0, 1) := by decide +kernel
theorem dX7_miss_1 : decode cX7_miss 1 = .ok (.iload_n 1, 1) := by decide +kernel
theorem dX7_miss_2 : decode cX7_miss 2 = .ok (.iload_n 2, 1) := by decide +kernel
theorem dX7_miss_3 : decode cX7_miss 3 = .ok (.invokevirtual 131, 3) := by decide +kernel
theorem dX7_miss_6 : decode cX7_miss 6 = .ok (.ifCond .ne 5, 3) := by decide +kernel
theorem dX7_miss_9 : decode cX7_miss 9 = .ok (.iconst (-1), 1) := by decide +kernel
theorem dX7_miss_10 : decode cX7_miss 10 = .ok (.ireturn, 1) := by decide +kernel
theorem dX7_miss_11 : decode cX7_miss 11 = .ok (.aload_n 0, 1) := by decide +kernel
theorem dX7_miss_12 : decode cX7_miss 12 = .ok (.getfield 21, 3) := by decide +kernel
theorem dX7_miss_15 : decode cX7_miss 15 = .ok (.bipush 6, 2) := by decide +kernel
theorem dX7_miss_17 : decode cX7_miss 17 = .ok (.iload_n 1, 1) := by decide +kernel
theorem dX7_miss_18 : decode cX7_miss 18 = .ok (.imul, 1) := by decide +kernel
theorem dX7_miss_19 : decode cX7_miss 19 = .ok (.iload_n 2, 1) := by decide +kernel
theorem dX7_miss_20 : decode cX7_miss 20 = .ok (.iadd, 1) := by decide +kernel
theorem dX7_miss_21 : decode cX7_miss 21 = .ok (.iaload, 1) := by decide +kernel
theorem dX7_miss_22 : decode cX7_miss 22 = .ok (.iconst 2, 1) := by decide +kernel
theorem dX7_miss_23 : decode cX7_miss 23 = .ok (.if_icmp .eq 21, 3) := by decide +kernel
theorem dX7_miss_26 : decode cX7_miss 26 = .ok (.aload_n 0, 1) := by decide +kernel
theorem dX7_miss_27 : decode cX7_miss 27 = .ok (.getfield 21, 3) := by decide +kernel
theorem dX7_miss_30 : decode cX7_miss 30 = .ok (.bipush 6, 2) := by decide +kernel
theorem dX7_miss_32 : decode cX7_miss 32 = .ok (.iload_n 1, 1) := by decide +kernel
theorem dX7_miss_33 : decode cX7_miss 33 = .ok (.imul, 1) := by decide +kernel
theorem dX7_miss_34 : decode cX7_miss 34 = .ok (.iload_n 2, 1) := by decide +kernel
theorem dX7_miss_35 : decode cX7_miss 35 = .ok (.iadd, 1) := by decide +kernel
theorem dX7_miss_36 : decode cX7_miss 36 = .ok (.iaload, 1) := by decide +kernel
theorem dX7_miss_37 : decode cX7_miss 37 = .ok (.iconst 3, 1) := by decide +kernel
theorem dX7_miss_38 : decode cX7_miss 38 = .ok (.if_icmp .eq 6, 3) := by decide +kernel
theorem dX7_miss_41 : decode cX7_miss 41 = .ok (.bipush (-2), 2) := by decide +kernel
theorem dX7_miss_43 : decode cX7_miss 43 = .ok (.ireturn, 1) := by decide +kernel
theorem dX7_miss_44 : decode cX7_miss 44 = .ok (.aload_n 0, 1) := by decide +kernel
theorem dX7_miss_45 : decode cX7_miss 45 = .ok (.getfield 112, 3) := by decide +kernel
theorem dX7_miss_48 : decode cX7_miss 48 = .ok (.ifCond .ne 6, 3) := by decide +kernel
theorem dX7_miss_51 : decode cX7_miss 51 = .ok (.bipush (-3), 2) := by decide +kernel
theorem dX7_miss_53 : decode cX7_miss 53 = .ok (.ireturn, 1) := by decide +kernel
theorem dX7_miss_54 : decode cX7_miss 54 = .ok (.iconst 0, 1) := by decide +kernel
theorem dX7_miss_55 : decode cX7_miss 55 = .ok (.istore_n 3, 1) := by decide +kernel
theorem dX7_miss_56 : decode cX7_miss 56 = .ok (.iconst 0, 1) := by decide +kernel
theorem dX7_miss_57 : decode cX7_miss 57 = .ok (.istore 4, 2) := by decide +kernel
theorem dX7_miss_59 : decode cX7_miss 59 = .ok (.iload 4, 2) := by decide +kernel
theorem dX7_miss_61 : decode cX7_miss 61 = .ok (.aload_n 0, 1) := by decide +kernel
theorem dX7_miss_62 : decode cX7_miss 62 = .ok (.getfield 15, 3) := by decide +kernel
theorem dX7_miss_65 : decode cX7_miss 65 = .ok (.iload_n 1, 1) := by decide +kernel
theorem dX7_miss_66 : decode cX7_miss 66 = .ok (.iaload, 1) := by decide +kernel
theorem dX7_miss_67 : decode cX7_miss 67 = .ok (.if_icmp .ge 74, 3) := by decide +kernel
theorem dX7_miss_70 : decode cX7_miss 70 = .ok (.aload_n 0, 1) := by decide +kernel
theorem dX7_miss_71 : decode cX7_miss 71 = .ok (.getfield 45, 3) := by decide +kernel
theorem dX7_miss_74 : decode cX7_miss 74 = .ok (.iload_n 1, 1) := by decide +kernel
theorem dX7_miss_75 : decode cX7_miss 75 = .ok (.iload 4, 2) := by decide +kernel
theorem dX7_miss_77 : decode cX7_miss 77 = .ok (.iload_n 2, 1) := by decide +kernel
theorem dX7_miss_78 : decode cX7_miss 78 = .ok (.invokestatic 127, 3) := by decide +kernel
theorem dX7_miss_81 : decode cX7_miss 81 = .ok (.iaload, 1) := by decide +kernel
theorem dX7_miss_82 : decode cX7_miss 82 = .ok (.istore 5, 2) := by decide +kernel
theorem dX7_miss_84 : decode cX7_miss 84 = .ok (.aload_n 0, 1) := by decide +kernel
theorem dX7_miss_85 : decode cX7_miss 85 = .ok (.getfield 48, 3) := by decide +kernel
theorem dX7_miss_88 : decode cX7_miss 88 = .ok (.iload_n 1, 1) := by decide +kernel
theorem dX7_miss_89 : decode cX7_miss 89 = .ok (.iload 4, 2) := by decide +kernel
theorem dX7_miss_91 : decode cX7_miss 91 = .ok (.iload_n 2, 1) := by decide +kernel
theorem dX7_miss_92 : decode cX7_miss 92 = .ok (.invokestatic 127, 3) := by decide +kernel
theorem dX7_miss_95 : decode cX7_miss 95 = .ok (.iaload, 1) := by decide +kernel
theorem dX7_miss_96 : decode cX7_miss 96 = .ok (.istore 6, 2) := by decide +kernel
theorem dX7_miss_98 : decode cX7_miss 98 = .ok (.iload 5, 2) := by decide +kernel
theorem dX7_miss_100 : decode cX7_miss 100 = .ok (.ldc 119, 2) := by decide +kernel
theorem dX7_miss_102 : decode cX7_miss 102 = .ok (.if_icmp .eq 33, 3) := by decide +kernel
theorem dX7_miss_105 : decode cX7_miss 105 = .ok (.iload 6, 2) := by decide +kernel
theorem dX7_miss_107 : decode cX7_miss 107 = .ok (.ldc 119, 2) := by decide +kernel
theorem dX7_miss_109 : decode cX7_miss 109 = .ok (.if_icmp .eq 26, 3) := by decide +kernel
theorem dX7_miss_112 : decode cX7_miss 112 = .ok (.iload_n 3, 1) := by decide +kernel
theorem dX7_miss_113 : decode cX7_miss 113 = .ok (.iload 5, 2) := by decide +kernel
theorem dX7_miss_115 : decode cX7_miss 115 = .ok (.iload 6, 2) := by decide +kernel
theorem dX7_miss_117 : decode cX7_miss 117 = .ok (.if_icmp .ge 11, 3) := by decide +kernel
theorem dX7_miss_120 : decode cX7_miss 120 = .ok (.iload 6, 2) := by decide +kernel
theorem dX7_miss_122 : decode cX7_miss 122 = .ok (.iload 5, 2) := by decide +kernel
theorem dX7_miss_124 : decode cX7_miss 124 = .ok (.isub, 1) := by decide +kernel
theorem dX7_miss_125 : decode cX7_miss 125 = .ok (.goto 8, 3) := by decide +kernel
theorem dX7_miss_128 : decode cX7_miss 128 = .ok (.iload 5, 2) := by decide +kernel
theorem dX7_miss_130 : decode cX7_miss 130 = .ok (.iload 6, 2) := by decide +kernel
theorem dX7_miss_132 : decode cX7_miss 132 = .ok (.isub, 1) := by decide +kernel
theorem dX7_miss_133 : decode cX7_miss 133 = .ok (.iadd, 1) := by decide +kernel
theorem dX7_miss_134 : decode cX7_miss 134 = .ok (.istore_n 3, 1) := by decide +kernel
theorem dX7_miss_135 : decode cX7_miss 135 = .ok (.iinc 4 1, 3) := by decide +kernel
theorem dX7_miss_138 : decode cX7_miss 138 = .ok (.goto (-79), 3) := by decide +kernel
theorem dX7_miss_141 : decode cX7_miss 141 = .ok (.iload_n 3, 1) := by decide +kernel
theorem dX7_miss_142 : decode cX7_miss 142 = .ok (.ireturn, 1) := by decide +kernel
theorem dX7_isKnown_0 : decode cX7_isKnown 0 = .ok (.iload_n 2, 1) := by decide +kernel
theorem dX7_isKnown_1 : decode cX7_isKnown 1 = .ok (.ifCond .lt 19, 3) := by decide +kernel
theorem dX7_isKnown_4 : decode cX7_isKnown 4 = .ok (.iload_n 2, 1) := by decide +kernel
theorem dX7_isKnown_5 : decode cX7_isKnown 5 = .ok (.iconst 1, 1) := by decide +kernel
theorem dX7_isKnown_6 : decode cX7_isKnown 6 = .ok (.aload_n 0, 1) := by decide +kernel
theorem dX7_isKnown_7 : decode cX7_isKnown 7 = .ok (.getfield 9, 3) := by decide +kernel
theorem dX7_isKnown_10 : decode cX7_isKnown 10 = .ok (.iload_n 1, 1) := by decide +kernel
theorem dX7_isKnown_11 : decode cX7_isKnown 11 = .ok (.iaload, 1) := by decide +kernel
theorem dX7_isKnown_12 : decode cX7_isKnown 12 = .ok (.ishl, 1) := by decide +kernel
theorem dX7_isKnown_13 : decode cX7_isKnown 13 = .ok (.if_icmp .ge 7, 3) := by decide +kernel
theorem dX7_isKnown_16 : decode cX7_isKnown 16 = .ok (.iconst 1, 1) := by decide +kernel
theorem dX7_isKnown_17 : decode cX7_isKnown 17 = .ok (.goto 4, 3) := by decide +kernel
theorem dX7_isKnown_20 : decode cX7_isKnown 20 = .ok (.iconst 0, 1) := by decide +kernel
theorem dX7_isKnown_21 : decode cX7_isKnown 21 = .ok (.ireturn, 1) := by decide +kernel
theorem dX7_isPlain_0 : decode cX7_isPlain 0 = .ok (.bipush 6, 2) := by decide +kernel
theorem dX7_isPlain_2 : decode cX7_isPlain 2 = .ok (.iload_n 1, 1) := by decide +kernel
theorem dX7_isPlain_3 : decode cX7_isPlain 3 = .ok (.imul, 1) := by decide +kernel
theorem dX7_isPlain_4 : decode cX7_isPlain 4 = .ok (.iload_n 2, 1) := by decide +kernel
theorem dX7_isPlain_5 : decode cX7_isPlain 5 = .ok (.iadd, 1) := by decide +kernel
theorem dX7_isPlain_6 : decode cX7_isPlain 6 = .ok (.istore_n 3, 1) := by decide +kernel
theorem dX7_isPlain_7 : decode cX7_isPlain 7 = .ok (.aload_n 0, 1) := by decide +kernel
theorem dX7_isPlain_8 : decode cX7_isPlain 8 = .ok (.getfield 21, 3) := by decide +kernel
theorem dX7_isPlain_11 : decode cX7_isPlain 11 = .ok (.iload_n 3, 1) := by decide +kernel
theorem dX7_isPlain_12 : decode cX7_isPlain 12 = .ok (.iaload, 1) := by decide +kernel
theorem dX7_isPlain_13 : decode cX7_isPlain 13 = .ok (.iconst 1, 1) := by decide +kernel
theorem dX7_isPlain_14 : decode cX7_isPlain 14 = .ok (.if_icmp .ne 36, 3) := by decide +kernel
theorem dX7_isPlain_17 : decode cX7_isPlain 17 = .ok (.aload_n 0, 1) := by decide +kernel
theorem dX7_isPlain_18 : decode cX7_isPlain 18 = .ok (.getfield 27, 3) := by decide +kernel
theorem dX7_isPlain_21 : decode cX7_isPlain 21 = .ok (.iload_n 3, 1) := by decide +kernel
theorem dX7_isPlain_22 : decode cX7_isPlain 22 = .ok (.iaload, 1) := by decide +kernel
theorem dX7_isPlain_23 : decode cX7_isPlain 23 = .ok (.ifCond .ne 27, 3) := by decide +kernel
theorem dX7_isPlain_26 : decode cX7_isPlain 26 = .ok (.aload_n 0, 1) := by decide +kernel
theorem dX7_isPlain_27 : decode cX7_isPlain 27 = .ok (.getfield 27, 3) := by decide +kernel
theorem dX7_isPlain_30 : decode cX7_isPlain 30 = .ok (.bipush 6, 2) := by decide +kernel
theorem dX7_isPlain_32 : decode cX7_isPlain 32 = .ok (.aload_n 0, 1) := by decide +kernel
theorem dX7_isPlain_33 : decode cX7_isPlain 33 = .ok (.getfield 24, 3) := by decide +kernel
theorem dX7_isPlain_36 : decode cX7_isPlain 36 = .ok (.iload_n 3, 1) := by decide +kernel
theorem dX7_isPlain_37 : decode cX7_isPlain 37 = .ok (.iaload, 1) := by decide +kernel
theorem dX7_isPlain_38 : decode cX7_isPlain 38 = .ok (.imul, 1) := by decide +kernel
theorem dX7_isPlain_39 : decode cX7_isPlain 39 = .ok (.iaload, 1) := by decide +kernel
theorem dX7_isPlain_40 : decode cX7_isPlain 40 = .ok (.iconst 1, 1) := by decide +kernel
theorem dX7_isPlain_41 : decode cX7_isPlain 41 = .ok (.if_icmp .eq 7, 3) := by decide +kernel
theorem dX7_isPlain_44 : decode cX7_isPlain 44 = .ok (.iconst 1, 1) := by decide +kernel
theorem dX7_isPlain_45 : decode cX7_isPlain 45 = .ok (.goto 4, 3) := by decide +kernel
theorem dX7_isPlain_48 : decode cX7_isPlain 48 = .ok (.iconst 0, 1) := by decide +kernel
theorem dX7_isPlain_49 : decode cX7_isPlain 49 = .ok (.ireturn, 1) := by decide +kernel
theorem dX7_isPlain_50 : decode cX7_isPlain 50 = .ok (.aload_n 0, 1) := by decide +kernel
theorem dX7_isPlain_51 : decode cX7_isPlain 51 = .ok (.getfield 27, 3) := by decide +kernel
theorem dX7_isPlain_54 : decode cX7_isPlain 54 = .ok (.iload_n 3, 1) := by decide +kernel
theorem dX7_isPlain_55 : decode cX7_isPlain 55 = .ok (.iaload, 1) := by decide +kernel
theorem dX7_isPlain_56 : decode cX7_isPlain 56 = .ok (.ifCond .eq 13, 3) := by decide +kernel
theorem dX7_isPlain_59 : decode cX7_isPlain 59 = .ok (.aload_n 0, 1) := by decide +kernel
theorem dX7_isPlain_60 : decode cX7_isPlain 60 = .ok (.getfield 27, 3) := by decide +kernel
theorem dX7_isPlain_63 : decode cX7_isPlain 63 = .ok (.iload_n 3, 1) := by decide +kernel
theorem dX7_isPlain_64 : decode cX7_isPlain 64 = .ok (.iaload, 1) := by decide +kernel
theorem dX7_isPlain_65 : decode cX7_isPlain 65 = .ok (.iconst 3, 1) := by decide +kernel
theorem dX7_isPlain_66 : decode cX7_isPlain 66 = .ok (.if_icmp .ne 7, 3) := by decide +kernel
theorem dX7_isPlain_69 : decode cX7_isPlain 69 = .ok (.iconst 1, 1) := by decide +kernel
theorem dX7_isPlain_70 : decode cX7_isPlain 70 = .ok (.goto 4, 3) := by decide +kernel
theorem dX7_isPlain_73 : decode cX7_isPlain 73 = .ok (.iconst 0, 1) := by decide +kernel
theorem dX7_isPlain_74 : decode cX7_isPlain 74 = .ok (.ireturn, 1) := by decide +kernel
theorem dX7_couldBe_0 : decode cX7_couldBe 0 = .ok (.iconst (-1), 1) := by decide +kernel
theorem dX7_couldBe_1 : decode cX7_couldBe 1 = .ok (.istore 5, 2) := by decide +kernel
theorem dX7_couldBe_3 : decode cX7_couldBe 3 = .ok (.iconst 0, 1) := by decide +kernel
theorem dX7_couldBe_4 : decode cX7_couldBe 4 = .ok (.istore 6, 2) := by decide +kernel
theorem dX7_couldBe_6 : decode cX7_couldBe 6 = .ok (.iload 6, 2) := by decide +kernel
theorem dX7_couldBe_8 : decode cX7_couldBe 8 = .ok (.aload_n 0, 1) := by decide +kernel
theorem dX7_couldBe_9 : decode cX7_couldBe 9 = .ok (.getfield 9, 3) := by decide +kernel
theorem dX7_couldBe_12 : decode cX7_couldBe 12 = .ok (.iload_n 1, 1) := by decide +kernel
theorem dX7_couldBe_13 : decode cX7_couldBe 13 = .ok (.iaload, 1) := by decide +kernel
theorem dX7_couldBe_14 : decode cX7_couldBe 14 = .ok (.if_icmp .ge 194, 3) := by decide +kernel
theorem dX7_couldBe_17 : decode cX7_couldBe 17 = .ok (.iload_n 3, 1) := by decide +kernel
theorem dX7_couldBe_18 : decode cX7_couldBe 18 = .ok (.iload 6, 2) := by decide +kernel
theorem dX7_couldBe_20 : decode cX7_couldBe 20 = .ok (.ishr, 1) := by decide +kernel
theorem dX7_couldBe_21 : decode cX7_couldBe 21 = .ok (.iconst 1, 1) := by decide +kernel
theorem dX7_couldBe_22 : decode cX7_couldBe 22 = .ok (.iand, 1) := by decide +kernel
theorem dX7_couldBe_23 : decode cX7_couldBe 23 = .ok (.ifCond .ne 6, 3) := by decide +kernel
theorem dX7_couldBe_26 : decode cX7_couldBe 26 = .ok (.goto 176, 3) := by decide +kernel
theorem dX7_couldBe_29 : decode cX7_couldBe 29 = .ok (.aload_n 0, 1) := by decide +kernel
theorem dX7_couldBe_30 : decode cX7_couldBe 30 = .ok (.getfield 51, 3) := by decide +kernel
theorem dX7_couldBe_33 : decode cX7_couldBe 33 = .ok (.iload_n 1, 1) := by decide +kernel
theorem dX7_couldBe_34 : decode cX7_couldBe 34 = .ok (.iload 4, 2) := by decide +kernel
theorem dX7_couldBe_36 : decode cX7_couldBe 36 = .ok (.iload 6, 2) := by decide +kernel
theorem dX7_couldBe_38 : decode cX7_couldBe 38 = .ok (.invokestatic 127, 3) := by decide +kernel
theorem dX7_couldBe_41 : decode cX7_couldBe 41 = .ok (.iaload, 1) := by decide +kernel
theorem dX7_couldBe_42 : decode cX7_couldBe 42 = .ok (.istore 7, 2) := by decide +kernel
theorem dX7_couldBe_44 : decode cX7_couldBe 44 = .ok (.aload_n 0, 1) := by decide +kernel
theorem dX7_couldBe_45 : decode cX7_couldBe 45 = .ok (.iload_n 1, 1) := by decide +kernel
theorem dX7_couldBe_46 : decode cX7_couldBe 46 = .ok (.iload 6, 2) := by decide +kernel
theorem dX7_couldBe_48 : decode cX7_couldBe 48 = .ok (.invokevirtual 192, 3) := by decide +kernel
theorem dX7_couldBe_51 : decode cX7_couldBe 51 = .ok (.ifCond .eq 22, 3) := by decide +kernel
theorem dX7_couldBe_54 : decode cX7_couldBe 54 = .ok (.iload 7, 2) := by decide +kernel
theorem dX7_couldBe_56 : decode cX7_couldBe 56 = .ok (.aload_n 0, 1) := by decide +kernel
theorem dX7_couldBe_57 : decode cX7_couldBe 57 = .ok (.getfield 51, 3) := by decide +kernel
theorem dX7_couldBe_60 : decode cX7_couldBe 60 = .ok (.iload_n 1, 1) := by decide +kernel
theorem dX7_couldBe_61 : decode cX7_couldBe 61 = .ok (.iload_n 2, 1) := by decide +kernel
theorem dX7_couldBe_62 : decode cX7_couldBe 62 = .ok (.iload 6, 2) := by decide +kernel
theorem dX7_couldBe_64 : decode cX7_couldBe 64 = .ok (.invokestatic 127, 3) := by decide +kernel
theorem dX7_couldBe_67 : decode cX7_couldBe 67 = .ok (.iaload, 1) := by decide +kernel
theorem dX7_couldBe_68 : decode cX7_couldBe 68 = .ok (.if_icmp .eq 5, 3) := by decide +kernel
theorem dX7_couldBe_71 : decode cX7_couldBe 71 = .ok (.iconst 0, 1) := by decide +kernel
theorem dX7_couldBe_72 : decode cX7_couldBe 72 = .ok (.ireturn, 1) := by decide +kernel
theorem dX7_couldBe_73 : decode cX7_couldBe 73 = .ok (.aload_n 0, 1) := by decide +kernel
theorem dX7_couldBe_74 : decode cX7_couldBe 74 = .ok (.getfield 27, 3) := by decide +kernel
theorem dX7_couldBe_77 : decode cX7_couldBe 77 = .ok (.bipush 6, 2) := by decide +kernel
theorem dX7_couldBe_79 : decode cX7_couldBe 79 = .ok (.iload_n 1, 1) := by decide +kernel
theorem dX7_couldBe_80 : decode cX7_couldBe 80 = .ok (.imul, 1) := by decide +kernel
theorem dX7_couldBe_81 : decode cX7_couldBe 81 = .ok (.iload 6, 2) := by decide +kernel
theorem dX7_couldBe_83 : decode cX7_couldBe 83 = .ok (.iadd, 1) := by decide +kernel
theorem dX7_couldBe_84 : decode cX7_couldBe 84 = .ok (.iaload, 1) := by decide +kernel
theorem dX7_couldBe_85 : decode cX7_couldBe 85 = .ok (.iconst 2, 1) := by decide +kernel
theorem dX7_couldBe_86 : decode cX7_couldBe 86 = .ok (.if_icmp .eq 6, 3) := by decide +kernel
theorem dX7_couldBe_89 : decode cX7_couldBe 89 = .ok (.goto 113, 3) := by decide +kernel
theorem dX7_couldBe_92 : decode cX7_couldBe 92 = .ok (.aload_n 0, 1) := by decide +kernel
theorem dX7_couldBe_93 : decode cX7_couldBe 93 = .ok (.getfield 45, 3) := by decide +kernel
theorem dX7_couldBe_96 : decode cX7_couldBe 96 = .ok (.iload_n 1, 1) := by decide +kernel
theorem dX7_couldBe_97 : decode cX7_couldBe 97 = .ok (.iload_n 2, 1) := by decide +kernel
theorem dX7_couldBe_98 : decode cX7_couldBe 98 = .ok (.iload 6, 2) := by decide +kernel
theorem dX7_couldBe_100 : decode cX7_couldBe 100 = .ok (.invokestatic 127, 3) := by decide +kernel
theorem dX7_couldBe_103 : decode cX7_couldBe 103 = .ok (.iaload, 1) := by decide +kernel
theorem dX7_couldBe_104 : decode cX7_couldBe 104 = .ok (.istore 8, 2) := by decide +kernel
theorem dX7_couldBe_106 : decode cX7_couldBe 106 = .ok (.iload 7, 2) := by decide +kernel
theorem dX7_couldBe_108 : decode cX7_couldBe 108 = .ok (.ldc 119, 2) := by decide +kernel
theorem dX7_couldBe_110 : decode cX7_couldBe 110 = .ok (.if_icmp .ne 7, 3) := by decide +kernel
theorem dX7_couldBe_113 : decode cX7_couldBe 113 = .ok (.iconst 1, 1) := by decide +kernel
theorem dX7_couldBe_114 : decode cX7_couldBe 114 = .ok (.goto 4, 3) := by decide +kernel
theorem dX7_couldBe_117 : decode cX7_couldBe 117 = .ok (.iconst 0, 1) := by decide +kernel
theorem dX7_couldBe_118 : decode cX7_couldBe 118 = .ok (.iload 8, 2) := by decide +kernel
theorem dX7_couldBe_120 : decode cX7_couldBe 120 = .ok (.ldc 119, 2) := by decide +kernel
theorem dX7_couldBe_122 : decode cX7_couldBe 122 = .ok (.if_icmp .ne 7, 3) := by decide +kernel
theorem dX7_couldBe_125 : decode cX7_couldBe 125 = .ok (.iconst 1, 1) := by decide +kernel
theorem dX7_couldBe_126 : decode cX7_couldBe 126 = .ok (.goto 4, 3) := by decide +kernel
theorem dX7_couldBe_129 : decode cX7_couldBe 129 = .ok (.iconst 0, 1) := by decide +kernel
theorem dX7_couldBe_130 : decode cX7_couldBe 130 = .ok (.if_icmp .eq 5, 3) := by decide +kernel
theorem dX7_couldBe_133 : decode cX7_couldBe 133 = .ok (.iconst 0, 1) := by decide +kernel
theorem dX7_couldBe_134 : decode cX7_couldBe 134 = .ok (.ireturn, 1) := by decide +kernel
theorem dX7_couldBe_135 : decode cX7_couldBe 135 = .ok (.iload 7, 2) := by decide +kernel
theorem dX7_couldBe_137 : decode cX7_couldBe 137 = .ok (.ldc 119, 2) := by decide +kernel
theorem dX7_couldBe_139 : decode cX7_couldBe 139 = .ok (.if_icmp .ne 6, 3) := by decide +kernel
theorem dX7_couldBe_142 : decode cX7_couldBe 142 = .ok (.goto 60, 3) := by decide +kernel
theorem dX7_couldBe_145 : decode cX7_couldBe 145 = .ok (.iload 5, 2) := by decide +kernel
theorem dX7_couldBe_147 : decode cX7_couldBe 147 = .ok (.iconst (-1), 1) := by decide +kernel
theorem dX7_couldBe_148 : decode cX7_couldBe 148 = .ok (.if_icmp .eq 39, 3) := by decide +kernel
theorem dX7_couldBe_151 : decode cX7_couldBe 151 = .ok (.iload 7, 2) := by decide +kernel
theorem dX7_couldBe_153 : decode cX7_couldBe 153 = .ok (.aload_n 0, 1) := by decide +kernel
theorem dX7_couldBe_154 : decode cX7_couldBe 154 = .ok (.getfield 51, 3) := by decide +kernel
theorem dX7_couldBe_157 : decode cX7_couldBe 157 = .ok (.iload_n 1, 1) := by decide +kernel
theorem dX7_couldBe_158 : decode cX7_couldBe 158 = .ok (.iload 4, 2) := by decide +kernel
theorem dX7_couldBe_160 : decode cX7_couldBe 160 = .ok (.iload 5, 2) := by decide +kernel
theorem dX7_couldBe_162 : decode cX7_couldBe 162 = .ok (.invokestatic 127, 3) := by decide +kernel
theorem dX7_couldBe_165 : decode cX7_couldBe 165 = .ok (.iaload, 1) := by decide +kernel
theorem dX7_couldBe_166 : decode cX7_couldBe 166 = .ok (.isub, 1) := by decide +kernel
theorem dX7_couldBe_167 : decode cX7_couldBe 167 = .ok (.iload 8, 2) := by decide +kernel
theorem dX7_couldBe_169 : decode cX7_couldBe 169 = .ok (.aload_n 0, 1) := by decide +kernel
theorem dX7_couldBe_170 : decode cX7_couldBe 170 = .ok (.getfield 45, 3) := by decide +kernel
theorem dX7_couldBe_173 : decode cX7_couldBe 173 = .ok (.iload_n 1, 1) := by decide +kernel
theorem dX7_couldBe_174 : decode cX7_couldBe 174 = .ok (.iload_n 2, 1) := by decide +kernel
theorem dX7_couldBe_175 : decode cX7_couldBe 175 = .ok (.iload 5, 2) := by decide +kernel
theorem dX7_couldBe_177 : decode cX7_couldBe 177 = .ok (.invokestatic 127, 3) := by decide +kernel
theorem dX7_couldBe_180 : decode cX7_couldBe 180 = .ok (.iaload, 1) := by decide +kernel
theorem dX7_couldBe_181 : decode cX7_couldBe 181 = .ok (.isub, 1) := by decide +kernel
theorem dX7_couldBe_182 : decode cX7_couldBe 182 = .ok (.if_icmp .eq 5, 3) := by decide +kernel
theorem dX7_couldBe_185 : decode cX7_couldBe 185 = .ok (.iconst 0, 1) := by decide +kernel
theorem dX7_couldBe_186 : decode cX7_couldBe 186 = .ok (.ireturn, 1) := by decide +kernel
theorem dX7_couldBe_187 : decode cX7_couldBe 187 = .ok (.iload 5, 2) := by decide +kernel
theorem dX7_couldBe_189 : decode cX7_couldBe 189 = .ok (.iconst (-1), 1) := by decide +kernel
theorem dX7_couldBe_190 : decode cX7_couldBe 190 = .ok (.if_icmp .ne 8, 3) := by decide +kernel
theorem dX7_couldBe_193 : decode cX7_couldBe 193 = .ok (.iload 6, 2) := by decide +kernel
theorem dX7_couldBe_195 : decode cX7_couldBe 195 = .ok (.goto 5, 3) := by decide +kernel
theorem dX7_couldBe_198 : decode cX7_couldBe 198 = .ok (.iload 5, 2) := by decide +kernel
theorem dX7_couldBe_200 : decode cX7_couldBe 200 = .ok (.istore 5, 2) := by decide +kernel
theorem dX7_couldBe_202 : decode cX7_couldBe 202 = .ok (.iinc 6 1, 3) := by decide +kernel
theorem dX7_couldBe_205 : decode cX7_couldBe 205 = .ok (.goto (-199), 3) := by decide +kernel
theorem dX7_couldBe_208 : decode cX7_couldBe 208 = .ok (.iconst 1, 1) := by decide +kernel
theorem dX7_couldBe_209 : decode cX7_couldBe 209 = .ok (.ireturn, 1) := by decide +kernel
theorem dX7_couldOf_0 : decode cX7_couldOf 0 = .ok (.iconst 0, 1) := by decide +kernel
theorem dX7_couldOf_1 : decode cX7_couldOf 1 = .ok (.istore 4, 2) := by decide +kernel
theorem dX7_couldOf_3 : decode cX7_couldOf 3 = .ok (.iconst 0, 1) := by decide +kernel
theorem dX7_couldOf_4 : decode cX7_couldOf 4 = .ok (.istore 5, 2) := by decide +kernel
theorem dX7_couldOf_6 : decode cX7_couldOf 6 = .ok (.iload 5, 2) := by decide +kernel
theorem dX7_couldOf_8 : decode cX7_couldOf 8 = .ok (.aload_n 0, 1) := by decide +kernel
theorem dX7_couldOf_9 : decode cX7_couldOf 9 = .ok (.getfield 15, 3) := by decide +kernel
theorem dX7_couldOf_12 : decode cX7_couldOf 12 = .ok (.iload_n 1, 1) := by decide +kernel
theorem dX7_couldOf_13 : decode cX7_couldOf 13 = .ok (.iaload, 1) := by decide +kernel
theorem dX7_couldOf_14 : decode cX7_couldOf 14 = .ok (.if_icmp .ge 31, 3) := by decide +kernel
theorem dX7_couldOf_17 : decode cX7_couldOf 17 = .ok (.iload 4, 2) := by decide +kernel
theorem dX7_couldOf_19 : decode cX7_couldOf 19 = .ok (.aload_n 0, 1) := by decide +kernel
theorem dX7_couldOf_20 : decode cX7_couldOf 20 = .ok (.iload_n 1, 1) := by decide +kernel
theorem dX7_couldOf_21 : decode cX7_couldOf 21 = .ok (.iload_n 2, 1) := by decide +kernel
theorem dX7_couldOf_22 : decode cX7_couldOf 22 = .ok (.iload_n 3, 1) := by decide +kernel
theorem dX7_couldOf_23 : decode cX7_couldOf 23 = .ok (.iload 5, 2) := by decide +kernel
theorem dX7_couldOf_25 : decode cX7_couldOf 25 = .ok (.invokevirtual 195, 3) := by decide +kernel
theorem dX7_couldOf_28 : decode cX7_couldOf 28 = .ok (.ifCond .eq 7, 3) := by decide +kernel
