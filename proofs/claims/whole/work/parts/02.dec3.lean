theorem dX8_lays_91 : decode cX8_lays 91 = .ok (.iinc 4 1, 3) := by decide +kernel
theorem dX8_lays_94 : decode cX8_lays 94 = .ok (.goto (-65), 3) := by decide +kernel
theorem dX8_lays_97 : decode cX8_lays 97 = .ok (.iinc 2 1, 3) := by decide +kernel
theorem dX8_lays_100 : decode cX8_lays 100 = .ok (.goto (-98), 3) := by decide +kernel
theorem dX8_lays_103 : decode cX8_lays 103 = .ok (.aload_n 0, 1) := by decide +kernel
theorem dX8_lays_104 : decode cX8_lays 104 = .ok (.iconst 0, 1) := by decide +kernel
theorem dX8_lays_105 : decode cX8_lays 105 = .ok (.putfield 86, 3) := by decide +kernel
theorem dX8_lays_108 : decode cX8_lays 108 = .ok (.aload_n 0, 1) := by decide +kernel
theorem dX8_lays_109 : decode cX8_lays 109 = .ok (.iconst 1, 1) := by decide +kernel
theorem dX8_lays_110 : decode cX8_lays 110 = .ok (.putfield 89, 3) := by decide +kernel
theorem dX8_lays_113 : decode cX8_lays 113 = .ok (.iconst 0, 1) := by decide +kernel
theorem dX8_lays_114 : decode cX8_lays 114 = .ok (.istore_n 2, 1) := by decide +kernel
theorem dX8_lays_115 : decode cX8_lays 115 = .ok (.iload_n 2, 1) := by decide +kernel
theorem dX8_lays_116 : decode cX8_lays 116 = .ok (.aload_n 0, 1) := by decide +kernel
theorem dX8_lays_117 : decode cX8_lays 117 = .ok (.getfield 7, 3) := by decide +kernel
theorem dX8_lays_120 : decode cX8_lays 120 = .ok (.if_icmp .ge 98, 3) := by decide +kernel
theorem dX8_lays_123 : decode cX8_lays 123 = .ok (.iconst 0, 1) := by decide +kernel
theorem dX8_lays_124 : decode cX8_lays 124 = .ok (.istore_n 3, 1) := by decide +kernel
theorem dX8_lays_125 : decode cX8_lays 125 = .ok (.iload_n 3, 1) := by decide +kernel
theorem dX8_lays_126 : decode cX8_lays 126 = .ok (.iload_n 2, 1) := by decide +kernel
theorem dX8_lays_127 : decode cX8_lays 127 = .ok (.if_icmp .ge 85, 3) := by decide +kernel
theorem dX8_lays_130 : decode cX8_lays 130 = .ok (.aload_n 0, 1) := by decide +kernel
theorem dX8_lays_131 : decode cX8_lays 131 = .ok (.getfield 33, 3) := by decide +kernel
theorem dX8_lays_134 : decode cX8_lays 134 = .ok (.iload_n 2, 1) := by decide +kernel
theorem dX8_lays_135 : decode cX8_lays 135 = .ok (.iaload, 1) := by decide +kernel
theorem dX8_lays_136 : decode cX8_lays 136 = .ok (.aload_n 0, 1) := by decide +kernel
theorem dX8_lays_137 : decode cX8_lays 137 = .ok (.getfield 33, 3) := by decide +kernel
theorem dX8_lays_140 : decode cX8_lays 140 = .ok (.iload_n 3, 1) := by decide +kernel
theorem dX8_lays_141 : decode cX8_lays 141 = .ok (.iaload, 1) := by decide +kernel
theorem dX8_lays_142 : decode cX8_lays 142 = .ok (.isub, 1) := by decide +kernel
theorem dX8_lays_143 : decode cX8_lays 143 = .ok (.istore 4, 2) := by decide +kernel
theorem dX8_lays_145 : decode cX8_lays 145 = .ok (.iload 4, 2) := by decide +kernel
theorem dX8_lays_147 : decode cX8_lays 147 = .ok (.ifCond .ge 9, 3) := by decide +kernel
theorem dX8_lays_150 : decode cX8_lays 150 = .ok (.iload 4, 2) := by decide +kernel
theorem dX8_lays_152 : decode cX8_lays 152 = .ok (.ineg, 1) := by decide +kernel
theorem dX8_lays_153 : decode cX8_lays 153 = .ok (.goto 5, 3) := by decide +kernel
theorem dX8_lays_156 : decode cX8_lays 156 = .ok (.iload 4, 2) := by decide +kernel
theorem dX8_lays_158 : decode cX8_lays 158 = .ok (.istore 4, 2) := by decide +kernel
theorem dX8_lays_160 : decode cX8_lays 160 = .ok (.aload_n 0, 1) := by decide +kernel
theorem dX8_lays_161 : decode cX8_lays 161 = .ok (.iload_n 2, 1) := by decide +kernel
theorem dX8_lays_162 : decode cX8_lays 162 = .ok (.iload_n 3, 1) := by decide +kernel
theorem dX8_lays_163 : decode cX8_lays 163 = .ok (.invokevirtual 47, 3) := by decide +kernel
theorem dX8_lays_166 : decode cX8_lays 166 = .ok (.ifCond .le 40, 3) := by decide +kernel
theorem dX8_lays_169 : decode cX8_lays 169 = .ok (.iload 4, 2) := by decide +kernel
theorem dX8_lays_171 : decode cX8_lays 171 = .ok (.aload_n 0, 1) := by decide +kernel
theorem dX8_lays_172 : decode cX8_lays 172 = .ok (.getfield 89, 3) := by decide +kernel
theorem dX8_lays_175 : decode cX8_lays 175 = .ok (.imul, 1) := by decide +kernel
theorem dX8_lays_176 : decode cX8_lays 176 = .ok (.aload_n 0, 1) := by decide +kernel
theorem dX8_lays_177 : decode cX8_lays 177 = .ok (.getfield 86, 3) := by decide +kernel
theorem dX8_lays_180 : decode cX8_lays 180 = .ok (.aload_n 0, 1) := by decide +kernel
theorem dX8_lays_181 : decode cX8_lays 181 = .ok (.iload_n 2, 1) := by decide +kernel
theorem dX8_lays_182 : decode cX8_lays 182 = .ok (.iload_n 3, 1) := by decide +kernel
theorem dX8_lays_183 : decode cX8_lays 183 = .ok (.invokevirtual 47, 3) := by decide +kernel
theorem dX8_lays_186 : decode cX8_lays 186 = .ok (.imul, 1) := by decide +kernel
theorem dX8_lays_187 : decode cX8_lays 187 = .ok (.if_icmp .le 19, 3) := by decide +kernel
theorem dX8_lays_190 : decode cX8_lays 190 = .ok (.aload_n 0, 1) := by decide +kernel
theorem dX8_lays_191 : decode cX8_lays 191 = .ok (.iload 4, 2) := by decide +kernel
theorem dX8_lays_193 : decode cX8_lays 193 = .ok (.putfield 86, 3) := by decide +kernel
theorem dX8_lays_196 : decode cX8_lays 196 = .ok (.aload_n 0, 1) := by decide +kernel
theorem dX8_lays_197 : decode cX8_lays 197 = .ok (.aload_n 0, 1) := by decide +kernel
theorem dX8_lays_198 : decode cX8_lays 198 = .ok (.iload_n 2, 1) := by decide +kernel
theorem dX8_lays_199 : decode cX8_lays 199 = .ok (.iload_n 3, 1) := by decide +kernel
theorem dX8_lays_200 : decode cX8_lays 200 = .ok (.invokevirtual 47, 3) := by decide +kernel
theorem dX8_lays_203 : decode cX8_lays 203 = .ok (.putfield 89, 3) := by decide +kernel
theorem dX8_lays_206 : decode cX8_lays 206 = .ok (.iinc 3 1, 3) := by decide +kernel
theorem dX8_lays_209 : decode cX8_lays 209 = .ok (.goto (-84), 3) := by decide +kernel
theorem dX8_lays_212 : decode cX8_lays 212 = .ok (.iinc 2 1, 3) := by decide +kernel
theorem dX8_lays_215 : decode cX8_lays 215 = .ok (.goto (-100), 3) := by decide +kernel
theorem dX8_lays_218 : decode cX8_lays 218 = .ok (.return_, 1) := by decide +kernel
theorem dX8_common_0 : decode cX8_common 0 = .ok (.iload_n 0, 1) := by decide +kernel
theorem dX8_common_1 : decode cX8_common 1 = .ok (.istore_n 2, 1) := by decide +kernel
theorem dX8_common_2 : decode cX8_common 2 = .ok (.iload_n 1, 1) := by decide +kernel
theorem dX8_common_3 : decode cX8_common 3 = .ok (.istore_n 3, 1) := by decide +kernel
theorem dX8_common_4 : decode cX8_common 4 = .ok (.iload_n 3, 1) := by decide +kernel
theorem dX8_common_5 : decode cX8_common 5 = .ok (.ifCond .eq 16, 3) := by decide +kernel
theorem dX8_common_8 : decode cX8_common 8 = .ok (.iload_n 2, 1) := by decide +kernel
theorem dX8_common_9 : decode cX8_common 9 = .ok (.iload_n 3, 1) := by decide +kernel
theorem dX8_common_10 : decode cX8_common 10 = .ok (.irem, 1) := by decide +kernel
theorem dX8_common_11 : decode cX8_common 11 = .ok (.istore 4, 2) := by decide +kernel
theorem dX8_common_13 : decode cX8_common 13 = .ok (.iload_n 3, 1) := by decide +kernel
theorem dX8_common_14 : decode cX8_common 14 = .ok (.istore_n 2, 1) := by decide +kernel
theorem dX8_common_15 : decode cX8_common 15 = .ok (.iload 4, 2) := by decide +kernel
theorem dX8_common_17 : decode cX8_common 17 = .ok (.istore_n 3, 1) := by decide +kernel
theorem dX8_common_18 : decode cX8_common 18 = .ok (.goto (-14), 3) := by decide +kernel
theorem dX8_common_21 : decode cX8_common 21 = .ok (.iload_n 2, 1) := by decide +kernel
theorem dX8_common_22 : decode cX8_common 22 = .ok (.ireturn, 1) := by decide +kernel
theorem dX8_stretch_0 : decode cX8_stretch 0 = .ok (.iload_n 1, 1) := by decide +kernel
theorem dX8_stretch_1 : decode cX8_stretch 1 = .ok (.iconst 1, 1) := by decide +kernel
theorem dX8_stretch_2 : decode cX8_stretch 2 = .ok (.if_icmp .ne 10, 3) := by decide +kernel
theorem dX8_stretch_5 : decode cX8_stretch 5 = .ok (.aload_n 0, 1) := by decide +kernel
theorem dX8_stretch_6 : decode cX8_stretch 6 = .ok (.getfield 86, 3) := by decide +kernel
theorem dX8_stretch_9 : decode cX8_stretch 9 = .ok (.goto 7, 3) := by decide +kernel
theorem dX8_stretch_12 : decode cX8_stretch 12 = .ok (.aload_n 0, 1) := by decide +kernel
theorem dX8_stretch_13 : decode cX8_stretch 13 = .ok (.getfield 89, 3) := by decide +kernel
theorem dX8_stretch_16 : decode cX8_stretch 16 = .ok (.aload_n 0, 1) := by decide +kernel
theorem dX8_stretch_17 : decode cX8_stretch 17 = .ok (.getfield 86, 3) := by decide +kernel
theorem dX8_stretch_20 : decode cX8_stretch 20 = .ok (.aload_n 0, 1) := by decide +kernel
theorem dX8_stretch_21 : decode cX8_stretch 21 = .ok (.getfield 89, 3) := by decide +kernel
theorem dX8_stretch_24 : decode cX8_stretch 24 = .ok (.invokestatic 92, 3) := by decide +kernel
theorem dX8_stretch_27 : decode cX8_stretch 27 = .ok (.idiv, 1) := by decide +kernel
theorem dX8_stretch_28 : decode cX8_stretch 28 = .ok (.ireturn, 1) := by decide +kernel
theorem dX8_line_0 : decode cX8_line 0 = .ok (.aload_n 0, 1) := by decide +kernel
theorem dX8_line_1 : decode cX8_line 1 = .ok (.iload_n 1, 1) := by decide +kernel
theorem dX8_line_2 : decode cX8_line 2 = .ok (.invokevirtual 95, 3) := by decide +kernel
theorem dX8_line_5 : decode cX8_line 5 = .ok (.ifCond .eq 24, 3) := by decide +kernel
theorem dX8_line_8 : decode cX8_line 8 = .ok (.iload_n 3, 1) := by decide +kernel
theorem dX8_line_9 : decode cX8_line 9 = .ok (.iconst 0, 1) := by decide +kernel
theorem dX8_line_10 : decode cX8_line 10 = .ok (.iconst 2, 1) := by decide +kernel
theorem dX8_line_11 : decode cX8_line 11 = .ok (.invokestatic 39, 3) := by decide +kernel
theorem dX8_line_14 : decode cX8_line 14 = .ok (.ifCond .eq 15, 3) := by decide +kernel
theorem dX8_line_17 : decode cX8_line 17 = .ok (.iload_n 3, 1) := by decide +kernel
theorem dX8_line_18 : decode cX8_line 18 = .ok (.ifCond .ne 13, 3) := by decide +kernel
theorem dX8_line_21 : decode cX8_line 21 = .ok (.aload_n 0, 1) := by decide +kernel
theorem dX8_line_22 : decode cX8_line 22 = .ok (.iload_n 2, 1) := by decide +kernel
theorem dX8_line_23 : decode cX8_line 23 = .ok (.invokevirtual 43, 3) := by decide +kernel
theorem dX8_line_26 : decode cX8_line 26 = .ok (.ifCond .ne 5, 3) := by decide +kernel
theorem dX8_line_29 : decode cX8_line 29 = .ok (.iconst (-1), 1) := by decide +kernel
theorem dX8_line_30 : decode cX8_line 30 = .ok (.ireturn, 1) := by decide +kernel
theorem dX8_line_31 : decode cX8_line 31 = .ok (.aload_n 0, 1) := by decide +kernel
theorem dX8_line_32 : decode cX8_line 32 = .ok (.iload_n 1, 1) := by decide +kernel
theorem dX8_line_33 : decode cX8_line 33 = .ok (.invokevirtual 98, 3) := by decide +kernel
theorem dX8_line_36 : decode cX8_line 36 = .ok (.iload_n 3, 1) := by decide +kernel
theorem dX8_line_37 : decode cX8_line 37 = .ok (.ifCond .ne 12, 3) := by decide +kernel
theorem dX8_line_40 : decode cX8_line 40 = .ok (.aload_n 0, 1) := by decide +kernel
theorem dX8_line_41 : decode cX8_line 41 = .ok (.getfield 33, 3) := by decide +kernel
theorem dX8_line_44 : decode cX8_line 44 = .ok (.iload_n 2, 1) := by decide +kernel
theorem dX8_line_45 : decode cX8_line 45 = .ok (.iaload, 1) := by decide +kernel
theorem dX8_line_46 : decode cX8_line 46 = .ok (.goto 8, 3) := by decide +kernel
theorem dX8_line_49 : decode cX8_line 49 = .ok (.aload_n 0, 1) := by decide +kernel
theorem dX8_line_50 : decode cX8_line 50 = .ok (.iload_n 3, 1) := by decide +kernel
theorem dX8_line_51 : decode cX8_line 51 = .ok (.invokevirtual 102, 3) := by decide +kernel
theorem dX8_line_54 : decode cX8_line 54 = .ok (.ireturn, 1) := by decide +kernel
theorem dX8_isLower_0 : decode cX8_isLower 0 = .ok (.iconst 0, 1) := by decide +kernel
theorem dX8_isLower_1 : decode cX8_isLower 1 = .ok (.istore_n 2, 1) := by decide +kernel
theorem dX8_isLower_2 : decode cX8_isLower 2 = .ok (.iload_n 0, 1) := by decide +kernel
theorem dX8_isLower_3 : decode cX8_isLower 3 = .ok (.iconst 3, 1) := by decide +kernel
theorem dX8_isLower_4 : decode cX8_isLower 4 = .ok (.iload_n 2, 1) := by decide +kernel
theorem dX8_isLower_5 : decode cX8_isLower 5 = .ok (.imul, 1) := by decide +kernel
theorem dX8_isLower_6 : decode cX8_isLower 6 = .ok (.ishr, 1) := by decide +kernel
theorem dX8_isLower_7 : decode cX8_isLower 7 = .ok (.bipush 7, 2) := by decide +kernel
theorem dX8_isLower_9 : decode cX8_isLower 9 = .ok (.iand, 1) := by decide +kernel
theorem dX8_isLower_10 : decode cX8_isLower 10 = .ok (.iload_n 1, 1) := by decide +kernel
theorem dX8_isLower_11 : decode cX8_isLower 11 = .ok (.iconst 3, 1) := by decide +kernel
theorem dX8_isLower_12 : decode cX8_isLower 12 = .ok (.iload_n 2, 1) := by decide +kernel
theorem dX8_isLower_13 : decode cX8_isLower 13 = .ok (.imul, 1) := by decide +kernel
theorem dX8_isLower_14 : decode cX8_isLower 14 = .ok (.ishr, 1) := by decide +kernel
theorem dX8_isLower_15 : decode cX8_isLower 15 = .ok (.bipush 7, 2) := by decide +kernel
theorem dX8_isLower_17 : decode cX8_isLower 17 = .ok (.iand, 1) := by decide +kernel
theorem dX8_isLower_18 : decode cX8_isLower 18 = .ok (.if_icmp .ne 9, 3) := by decide +kernel
theorem dX8_isLower_21 : decode cX8_isLower 21 = .ok (.iinc 2 1, 3) := by decide +kernel
theorem dX8_isLower_24 : decode cX8_isLower 24 = .ok (.goto (-22), 3) := by decide +kernel
theorem dX8_isLower_27 : decode cX8_isLower 27 = .ok (.iload_n 0, 1) := by decide +kernel
theorem dX8_isLower_28 : decode cX8_isLower 28 = .ok (.iconst 3, 1) := by decide +kernel
theorem dX8_isLower_29 : decode cX8_isLower 29 = .ok (.iload_n 2, 1) := by decide +kernel
theorem dX8_isLower_30 : decode cX8_isLower 30 = .ok (.imul, 1) := by decide +kernel
theorem dX8_isLower_31 : decode cX8_isLower 31 = .ok (.ishr, 1) := by decide +kernel
theorem dX8_isLower_32 : decode cX8_isLower 32 = .ok (.bipush 7, 2) := by decide +kernel
theorem dX8_isLower_34 : decode cX8_isLower 34 = .ok (.iand, 1) := by decide +kernel
theorem dX8_isLower_35 : decode cX8_isLower 35 = .ok (.iload_n 1, 1) := by decide +kernel
theorem dX8_isLower_36 : decode cX8_isLower 36 = .ok (.iconst 3, 1) := by decide +kernel
theorem dX8_isLower_37 : decode cX8_isLower 37 = .ok (.iload_n 2, 1) := by decide +kernel
theorem dX8_isLower_38 : decode cX8_isLower 38 = .ok (.imul, 1) := by decide +kernel
theorem dX8_isLower_39 : decode cX8_isLower 39 = .ok (.ishr, 1) := by decide +kernel
theorem dX8_isLower_40 : decode cX8_isLower 40 = .ok (.bipush 7, 2) := by decide +kernel
theorem dX8_isLower_42 : decode cX8_isLower 42 = .ok (.iand, 1) := by decide +kernel
theorem dX8_isLower_43 : decode cX8_isLower 43 = .ok (.if_icmp .ge 7, 3) := by decide +kernel
theorem dX8_isLower_46 : decode cX8_isLower 46 = .ok (.iconst 1, 1) := by decide +kernel
theorem dX8_isLower_47 : decode cX8_isLower 47 = .ok (.goto 4, 3) := by decide +kernel
theorem dX8_isLower_50 : decode cX8_isLower 50 = .ok (.iconst 0, 1) := by decide +kernel
theorem dX8_isLower_51 : decode cX8_isLower 51 = .ok (.ireturn, 1) := by decide +kernel
theorem dX8_best_0 : decode cX8_best 0 = .ok (.iload_n 1, 1) := by decide +kernel
theorem dX8_best_1 : decode cX8_best 1 = .ok (.iconst 0, 1) := by decide +kernel
theorem dX8_best_2 : decode cX8_best 2 = .ok (.iconst 2, 1) := by decide +kernel
theorem dX8_best_3 : decode cX8_best 3 = .ok (.invokestatic 39, 3) := by decide +kernel
theorem dX8_best_6 : decode cX8_best 6 = .ok (.ifCond .ne 5, 3) := by decide +kernel
theorem dX8_best_9 : decode cX8_best 9 = .ok (.iconst (-1), 1) := by decide +kernel
theorem dX8_best_10 : decode cX8_best 10 = .ok (.ireturn, 1) := by decide +kernel
theorem dX8_best_11 : decode cX8_best 11 = .ok (.iconst (-1), 1) := by decide +kernel
theorem dX8_best_12 : decode cX8_best 12 = .ok (.istore_n 2, 1) := by decide +kernel
theorem dX8_best_13 : decode cX8_best 13 = .ok (.iconst 0, 1) := by decide +kernel
theorem dX8_best_14 : decode cX8_best 14 = .ok (.istore_n 3, 1) := by decide +kernel
theorem dX8_best_15 : decode cX8_best 15 = .ok (.iconst 1, 1) := by decide +kernel
theorem dX8_best_16 : decode cX8_best 16 = .ok (.istore 4, 2) := by decide +kernel
theorem dX8_best_18 : decode cX8_best 18 = .ok (.iconst 0, 1) := by decide +kernel
theorem dX8_best_19 : decode cX8_best 19 = .ok (.istore 5, 2) := by decide +kernel
theorem dX8_best_21 : decode cX8_best 21 = .ok (.iload 5, 2) := by decide +kernel
theorem dX8_best_23 : decode cX8_best 23 = .ok (.iconst 1, 1) := by decide +kernel
theorem dX8_best_24 : decode cX8_best 24 = .ok (.iconst 3, 1) := by decide +kernel
theorem dX8_best_25 : decode cX8_best 25 = .ok (.aload_n 0, 1) := by decide +kernel
theorem dX8_best_26 : decode cX8_best 26 = .ok (.getfield 7, 3) := by decide +kernel
theorem dX8_best_29 : decode cX8_best 29 = .ok (.imul, 1) := by decide +kernel
theorem dX8_best_30 : decode cX8_best 30 = .ok (.ishl, 1) := by decide +kernel
theorem dX8_best_31 : decode cX8_best 31 = .ok (.if_icmp .ge 77, 3) := by decide +kernel
theorem dX8_best_34 : decode cX8_best 34 = .ok (.aload_n 0, 1) := by decide +kernel
theorem dX8_best_35 : decode cX8_best 35 = .ok (.iload 5, 2) := by decide +kernel
theorem dX8_best_37 : decode cX8_best 37 = .ok (.invokevirtual 95, 3) := by decide +kernel
theorem dX8_best_40 : decode cX8_best 40 = .ok (.ifCond .eq 62, 3) := by decide +kernel
theorem dX8_best_43 : decode cX8_best 43 = .ok (.aload_n 0, 1) := by decide +kernel
theorem dX8_best_44 : decode cX8_best 44 = .ok (.iload 5, 2) := by decide +kernel
theorem dX8_best_46 : decode cX8_best 46 = .ok (.invokevirtual 98, 3) := by decide +kernel
theorem dX8_best_49 : decode cX8_best 49 = .ok (.aload_n 0, 1) := by decide +kernel
theorem dX8_best_50 : decode cX8_best 50 = .ok (.getfield 86, 3) := by decide +kernel
theorem dX8_best_53 : decode cX8_best 53 = .ok (.iload 4, 2) := by decide +kernel
theorem dX8_best_55 : decode cX8_best 55 = .ok (.imul, 1) := by decide +kernel
theorem dX8_best_56 : decode cX8_best 56 = .ok (.iload_n 3, 1) := by decide +kernel
theorem dX8_best_57 : decode cX8_best 57 = .ok (.aload_n 0, 1) := by decide +kernel
theorem dX8_best_58 : decode cX8_best 58 = .ok (.getfield 89, 3) := by decide +kernel
theorem dX8_best_61 : decode cX8_best 61 = .ok (.imul, 1) := by decide +kernel
theorem dX8_best_62 : decode cX8_best 62 = .ok (.isub, 1) := by decide +kernel
theorem dX8_best_63 : decode cX8_best 63 = .ok (.istore 6, 2) := by decide +kernel
theorem dX8_best_65 : decode cX8_best 65 = .ok (.iload_n 2, 1) := by decide +kernel
theorem dX8_best_66 : decode cX8_best 66 = .ok (.ifCond .lt 22, 3) := by decide +kernel
theorem dX8_best_69 : decode cX8_best 69 = .ok (.iload 6, 2) := by decide +kernel
theorem dX8_best_71 : decode cX8_best 71 = .ok (.ifCond .lt 17, 3) := by decide +kernel
theorem dX8_best_74 : decode cX8_best 74 = .ok (.iload 6, 2) := by decide +kernel
theorem dX8_best_76 : decode cX8_best 76 = .ok (.ifCond .ne 26, 3) := by decide +kernel
theorem dX8_best_79 : decode cX8_best 79 = .ok (.iload 5, 2) := by decide +kernel
theorem dX8_best_81 : decode cX8_best 81 = .ok (.iload_n 2, 1) := by decide +kernel
theorem dX8_best_82 : decode cX8_best 82 = .ok (.invokestatic 105, 3) := by decide +kernel
theorem dX8_best_85 : decode cX8_best 85 = .ok (.ifCond .eq 17, 3) := by decide +kernel
theorem dX8_best_88 : decode cX8_best 88 = .ok (.iload 5, 2) := by decide +kernel
theorem dX8_best_90 : decode cX8_best 90 = .ok (.istore_n 2, 1) := by decide +kernel
theorem dX8_best_91 : decode cX8_best 91 = .ok (.aload_n 0, 1) := by decide +kernel
theorem dX8_best_92 : decode cX8_best 92 = .ok (.getfield 86, 3) := by decide +kernel
theorem dX8_best_95 : decode cX8_best 95 = .ok (.istore_n 3, 1) := by decide +kernel
theorem dX8_best_96 : decode cX8_best 96 = .ok (.aload_n 0, 1) := by decide +kernel
theorem dX8_best_97 : decode cX8_best 97 = .ok (.getfield 89, 3) := by decide +kernel
theorem dX8_best_100 : decode cX8_best 100 = .ok (.istore 4, 2) := by decide +kernel
theorem dX8_best_102 : decode cX8_best 102 = .ok (.iinc 5 1, 3) := by decide +kernel
theorem dX8_best_105 : decode cX8_best 105 = .ok (.goto (-84), 3) := by decide +kernel
theorem dX8_best_108 : decode cX8_best 108 = .ok (.aload_n 0, 1) := by decide +kernel
theorem dX8_best_109 : decode cX8_best 109 = .ok (.iload_n 2, 1) := by decide +kernel
theorem dX8_best_110 : decode cX8_best 110 = .ok (.invokevirtual 98, 3) := by decide +kernel
theorem dX8_best_113 : decode cX8_best 113 = .ok (.iload_n 1, 1) := by decide +kernel
theorem dX8_best_114 : decode cX8_best 114 = .ok (.ifCond .ne 7, 3) := by decide +kernel
theorem dX8_best_117 : decode cX8_best 117 = .ok (.iload_n 2, 1) := by decide +kernel
theorem dX8_best_118 : decode cX8_best 118 = .ok (.goto 8, 3) := by decide +kernel
theorem dX8_best_121 : decode cX8_best 121 = .ok (.aload_n 0, 1) := by decide +kernel
theorem dX8_best_122 : decode cX8_best 122 = .ok (.iload_n 1, 1) := by decide +kernel
theorem dX8_best_123 : decode cX8_best 123 = .ok (.invokevirtual 102, 3) := by decide +kernel
theorem dX8_best_126 : decode cX8_best 126 = .ok (.ireturn, 1) := by decide +kernel
theorem dX8_worthOf_0 : decode cX8_worthOf 0 = .ok (.iconst 0, 1) := by decide +kernel
theorem dX8_worthOf_1 : decode cX8_worthOf 1 = .ok (.istore_n 3, 1) := by decide +kernel
theorem dX8_worthOf_2 : decode cX8_worthOf 2 = .ok (.iconst 0, 1) := by decide +kernel
theorem dX8_worthOf_3 : decode cX8_worthOf 3 = .ok (.istore 4, 2) := by decide +kernel
theorem dX8_worthOf_5 : decode cX8_worthOf 5 = .ok (.iconst 0, 1) := by decide +kernel
theorem dX8_worthOf_6 : decode cX8_worthOf 6 = .ok (.istore 5, 2) := by decide +kernel
theorem dX8_worthOf_8 : decode cX8_worthOf 8 = .ok (.iload 5, 2) := by decide +kernel
theorem dX8_worthOf_10 : decode cX8_worthOf 10 = .ok (.aload_n 0, 1) := by decide +kernel
theorem dX8_worthOf_11 : decode cX8_worthOf 11 = .ok (.getfield 7, 3) := by decide +kernel
theorem dX8_worthOf_14 : decode cX8_worthOf 14 = .ok (.if_icmp .ge 90, 3) := by decide +kernel
theorem dX8_worthOf_17 : decode cX8_worthOf 17 = .ok (.bipush 99, 2) := by decide +kernel
theorem dX8_worthOf_19 : decode cX8_worthOf 19 = .ok (.istore 6, 2) := by decide +kernel
theorem dX8_worthOf_21 : decode cX8_worthOf 21 = .ok (.iconst 0, 1) := by decide +kernel
theorem dX8_worthOf_22 : decode cX8_worthOf 22 = .ok (.istore 7, 2) := by decide +kernel
theorem dX8_worthOf_24 : decode cX8_worthOf 24 = .ok (.iload 7, 2) := by decide +kernel
theorem dX8_worthOf_26 : decode cX8_worthOf 26 = .ok (.aload_n 0, 1) := by decide +kernel
theorem dX8_worthOf_27 : decode cX8_worthOf 27 = .ok (.getfield 7, 3) := by decide +kernel
theorem dX8_worthOf_30 : decode cX8_worthOf 30 = .ok (.if_icmp .ge 47, 3) := by decide +kernel
theorem dX8_worthOf_33 : decode cX8_worthOf 33 = .ok (.iload_n 1, 1) := by decide +kernel
theorem dX8_worthOf_34 : decode cX8_worthOf 34 = .ok (.iload 7, 2) := by decide +kernel
theorem dX8_worthOf_36 : decode cX8_worthOf 36 = .ok (.ishr, 1) := by decide +kernel
theorem dX8_worthOf_37 : decode cX8_worthOf 37 = .ok (.iconst 1, 1) := by decide +kernel
theorem dX8_worthOf_38 : decode cX8_worthOf 38 = .ok (.iand, 1) := by decide +kernel
theorem dX8_worthOf_39 : decode cX8_worthOf 39 = .ok (.iconst 1, 1) := by decide +kernel
theorem dX8_worthOf_40 : decode cX8_worthOf 40 = .ok (.if_icmp .ne 27, 3) := by decide +kernel
theorem dX8_worthOf_43 : decode cX8_worthOf 43 = .ok (.aload_n 0, 1) := by decide +kernel
theorem dX8_worthOf_44 : decode cX8_worthOf 44 = .ok (.iload 5, 2) := by decide +kernel
theorem dX8_worthOf_46 : decode cX8_worthOf 46 = .ok (.iload 7, 2) := by decide +kernel
theorem dX8_worthOf_48 : decode cX8_worthOf 48 = .ok (.invokevirtual 47, 3) := by decide +kernel
theorem dX8_worthOf_51 : decode cX8_worthOf 51 = .ok (.iload 6, 2) := by decide +kernel
theorem dX8_worthOf_53 : decode cX8_worthOf 53 = .ok (.if_icmp .ge 14, 3) := by decide +kernel
theorem dX8_worthOf_56 : decode cX8_worthOf 56 = .ok (.aload_n 0, 1) := by decide +kernel
theorem dX8_worthOf_57 : decode cX8_worthOf 57 = .ok (.iload 5, 2) := by decide +kernel
theorem dX8_worthOf_59 : decode cX8_worthOf 59 = .ok (.iload 7, 2) := by decide +kernel
theorem dX8_worthOf_61 : decode cX8_worthOf 61 = .ok (.invokevirtual 47, 3) := by decide +kernel
theorem dX8_worthOf_64 : decode cX8_worthOf 64 = .ok (.goto 5, 3) := by decide +kernel
theorem dX8_worthOf_67 : decode cX8_worthOf 67 = .ok (.iload 6, 2) := by decide +kernel
theorem dX8_worthOf_69 : decode cX8_worthOf 69 = .ok (.istore 6, 2) := by decide +kernel
theorem dX8_worthOf_71 : decode cX8_worthOf 71 = .ok (.iinc 7 1, 3) := by decide +kernel
theorem dX8_worthOf_74 : decode cX8_worthOf 74 = .ok (.goto (-50), 3) := by decide +kernel
theorem dX8_worthOf_77 : decode cX8_worthOf 77 = .ok (.iload_n 3, 1) := by decide +kernel
theorem dX8_worthOf_78 : decode cX8_worthOf 78 = .ok (.iload 6, 2) := by decide +kernel
theorem dX8_worthOf_80 : decode cX8_worthOf 80 = .ok (.iadd, 1) := by decide +kernel
theorem dX8_worthOf_81 : decode cX8_worthOf 81 = .ok (.istore_n 3, 1) := by decide +kernel
theorem dX8_worthOf_82 : decode cX8_worthOf 82 = .ok (.iload 6, 2) := by decide +kernel
theorem dX8_worthOf_84 : decode cX8_worthOf 84 = .ok (.iload 4, 2) := by decide +kernel
theorem dX8_worthOf_86 : decode cX8_worthOf 86 = .ok (.if_icmp .le 8, 3) := by decide +kernel
theorem dX8_worthOf_89 : decode cX8_worthOf 89 = .ok (.iload 6, 2) := by decide +kernel
theorem dX8_worthOf_91 : decode cX8_worthOf 91 = .ok (.goto 5, 3) := by decide +kernel
theorem dX8_worthOf_94 : decode cX8_worthOf 94 = .ok (.iload 4, 2) := by decide +kernel
theorem dX8_worthOf_96 : decode cX8_worthOf 96 = .ok (.istore 4, 2) := by decide +kernel
theorem dX8_worthOf_98 : decode cX8_worthOf 98 = .ok (.iinc 5 1, 3) := by decide +kernel
theorem dX8_worthOf_101 : decode cX8_worthOf 101 = .ok (.goto (-93), 3) := by decide +kernel
theorem dX8_worthOf_104 : decode cX8_worthOf 104 = .ok (.iload_n 2, 1) := by decide +kernel
theorem dX8_worthOf_105 : decode cX8_worthOf 105 = .ok (.ifCond .ne 8, 3) := by decide +kernel
theorem dX8_worthOf_108 : decode cX8_worthOf 108 = .ok (.iload 4, 2) := by decide +kernel
theorem dX8_worthOf_110 : decode cX8_worthOf 110 = .ok (.goto 4, 3) := by decide +kernel
theorem dX8_worthOf_113 : decode cX8_worthOf 113 = .ok (.iload_n 3, 1) := by decide +kernel
theorem dX8_worthOf_114 : decode cX8_worthOf 114 = .ok (.ireturn, 1) := by decide +kernel
theorem dX8_centres_0 : decode cX8_centres 0 = .ok (.iload_n 1, 1) := by decide +kernel
theorem dX8_centres_1 : decode cX8_centres 1 = .ok (.iconst 1, 1) := by decide +kernel
theorem dX8_centres_2 : decode cX8_centres 2 = .ok (.aload_n 0, 1) := by decide +kernel
theorem dX8_centres_3 : decode cX8_centres 3 = .ok (.getfield 7, 3) := by decide +kernel
theorem dX8_centres_6 : decode cX8_centres 6 = .ok (.invokestatic 39, 3) := by decide +kernel
theorem dX8_centres_9 : decode cX8_centres 9 = .ok (.ifCond .eq 21, 3) := by decide +kernel
theorem dX8_centres_12 : decode cX8_centres 12 = .ok (.iload_n 2, 1) := by decide +kernel
theorem dX8_centres_13 : decode cX8_centres 13 = .ok (.iconst 0, 1) := by decide +kernel
theorem dX8_centres_14 : decode cX8_centres 14 = .ok (.iconst 1, 1) := by decide +kernel
theorem dX8_centres_15 : decode cX8_centres 15 = .ok (.invokestatic 39, 3) := by decide +kernel
theorem dX8_centres_18 : decode cX8_centres 18 = .ok (.ifCond .eq 12, 3) := by decide +kernel
theorem dX8_centres_21 : decode cX8_centres 21 = .ok (.iload_n 3, 1) := by decide +kernel
theorem dX8_centres_22 : decode cX8_centres 22 = .ok (.iconst 0, 1) := by decide +kernel
theorem dX8_centres_23 : decode cX8_centres 23 = .ok (.iconst 1, 1) := by decide +kernel
theorem dX8_centres_24 : decode cX8_centres 24 = .ok (.invokestatic 39, 3) := by decide +kernel
theorem dX8_centres_27 : decode cX8_centres 27 = .ok (.ifCond .ne 5, 3) := by decide +kernel
theorem dX8_centres_30 : decode cX8_centres 30 = .ok (.iconst (-1), 1) := by decide +kernel
theorem dX8_centres_31 : decode cX8_centres 31 = .ok (.ireturn, 1) := by decide +kernel
theorem dX8_centres_32 : decode cX8_centres 32 = .ok (.iconst 0, 1) := by decide +kernel
theorem dX8_centres_33 : decode cX8_centres 33 = .ok (.istore 4, 2) := by decide +kernel
theorem dX8_centres_35 : decode cX8_centres 35 = .ok (.sipush 9999, 3) := by decide +kernel
theorem dX8_centres_38 : decode cX8_centres 38 = .ok (.istore 5, 2) := by decide +kernel
theorem dX8_centres_40 : decode cX8_centres 40 = .ok (.iconst 1, 1) := by decide +kernel
theorem dX8_centres_41 : decode cX8_centres 41 = .ok (.istore 6, 2) := by decide +kernel
theorem dX8_centres_43 : decode cX8_centres 43 = .ok (.iload 6, 2) := by decide +kernel
theorem dX8_centres_45 : decode cX8_centres 45 = .ok (.iconst 1, 1) := by decide +kernel
theorem dX8_centres_46 : decode cX8_centres 46 = .ok (.aload_n 0, 1) := by decide +kernel
theorem dX8_centres_47 : decode cX8_centres 47 = .ok (.getfield 7, 3) := by decide +kernel
theorem dX8_centres_50 : decode cX8_centres 50 = .ok (.ishl, 1) := by decide +kernel
theorem dX8_centres_51 : decode cX8_centres 51 = .ok (.if_icmp .ge 43, 3) := by decide +kernel
theorem dX8_centres_54 : decode cX8_centres 54 = .ok (.iload 6, 2) := by decide +kernel
theorem dX8_centres_56 : decode cX8_centres 56 = .ok (.invokestatic 65, 3) := by decide +kernel
theorem dX8_centres_59 : decode cX8_centres 59 = .ok (.iload_n 1, 1) := by decide +kernel
theorem dX8_centres_60 : decode cX8_centres 60 = .ok (.if_icmp .ne 28, 3) := by decide +kernel
theorem dX8_centres_63 : decode cX8_centres 63 = .ok (.aload_n 0, 1) := by decide +kernel
theorem dX8_centres_64 : decode cX8_centres 64 = .ok (.iload 6, 2) := by decide +kernel
theorem dX8_centres_66 : decode cX8_centres 66 = .ok (.iload_n 2, 1) := by decide +kernel
theorem dX8_centres_67 : decode cX8_centres 67 = .ok (.invokevirtual 108, 3) := by decide +kernel
theorem dX8_centres_70 : decode cX8_centres 70 = .ok (.iload 5, 2) := by decide +kernel
theorem dX8_centres_72 : decode cX8_centres 72 = .ok (.if_icmp .ge 16, 3) := by decide +kernel
theorem dX8_centres_75 : decode cX8_centres 75 = .ok (.aload_n 0, 1) := by decide +kernel
theorem dX8_centres_76 : decode cX8_centres 76 = .ok (.iload 6, 2) := by decide +kernel
theorem dX8_centres_78 : decode cX8_centres 78 = .ok (.iload_n 2, 1) := by decide +kernel
theorem dX8_centres_79 : decode cX8_centres 79 = .ok (.invokevirtual 108, 3) := by decide +kernel
theorem dX8_centres_82 : decode cX8_centres 82 = .ok (.istore 5, 2) := by decide +kernel
theorem dX8_centres_84 : decode cX8_centres 84 = .ok (.iload 6, 2) := by decide +kernel
theorem dX8_centres_86 : decode cX8_centres 86 = .ok (.istore 4, 2) := by decide +kernel
theorem dX8_centres_88 : decode cX8_centres 88 = .ok (.iinc 6 1, 3) := by decide +kernel
theorem dX8_centres_91 : decode cX8_centres 91 = .ok (.goto (-48), 3) := by decide +kernel
theorem dX8_centres_94 : decode cX8_centres 94 = .ok (.iload_n 3, 1) := by decide +kernel
theorem dX8_centres_95 : decode cX8_centres 95 = .ok (.ifCond .ne 8, 3) := by decide +kernel
theorem dX8_centres_98 : decode cX8_centres 98 = .ok (.iload 4, 2) := by decide +kernel
theorem dX8_centres_100 : decode cX8_centres 100 = .ok (.goto 5, 3) := by decide +kernel
theorem dX8_centres_103 : decode cX8_centres 103 = .ok (.iload 5, 2) := by decide +kernel
theorem dX8_centres_105 : decode cX8_centres 105 = .ok (.ireturn, 1) := by decide +kernel
theorem dX8_number_0 : decode cX8_number 0 = .ok (.iload_n 1, 1) := by decide +kernel
theorem dX8_number_1 : decode cX8_number 1 = .ok (.iconst 0, 1) := by decide +kernel
theorem dX8_number_2 : decode cX8_number 2 = .ok (.bipush 9, 2) := by decide +kernel
theorem dX8_number_4 : decode cX8_number 4 = .ok (.invokestatic 39, 3) := by decide +kernel
theorem dX8_number_7 : decode cX8_number 7 = .ok (.ifCond .eq 16, 3) := by decide +kernel
theorem dX8_number_10 : decode cX8_number 10 = .ok (.iload_n 2, 1) := by decide +kernel
theorem dX8_number_11 : decode cX8_number 11 = .ok (.sipush (-1000), 3) := by decide +kernel
theorem dX8_number_14 : decode cX8_number 14 = .ok (.sipush 1000, 3) := by decide +kernel
theorem dX8_number_17 : decode cX8_number 17 = .ok (.invokestatic 39, 3) := by decide +kernel
theorem dX8_number_20 : decode cX8_number 20 = .ok (.ifCond .ne 7, 3) := by decide +kernel
theorem dX8_number_23 : decode cX8_number 23 = .ok (.sipush (-10000), 3) := by decide +kernel
theorem dX8_number_26 : decode cX8_number 26 = .ok (.ireturn, 1) := by decide +kernel
theorem dX8_number_27 : decode cX8_number 27 = .ok (.aload_n 0, 1) := by decide +kernel
theorem dX8_number_28 : decode cX8_number 28 = .ok (.getfield 23, 3) := by decide +kernel
theorem dX8_number_31 : decode cX8_number 31 = .ok (.iload_n 1, 1) := by decide +kernel
theorem dX8_number_32 : decode cX8_number 32 = .ok (.iaload, 1) := by decide +kernel
theorem dX8_number_33 : decode cX8_number 33 = .ok (.istore_n 3, 1) := by decide +kernel
theorem dX8_number_34 : decode cX8_number 34 = .ok (.aload_n 0, 1) := by decide +kernel
theorem dX8_number_35 : decode cX8_number 35 = .ok (.getfield 23, 3) := by decide +kernel
theorem dX8_number_38 : decode cX8_number 38 = .ok (.iload_n 1, 1) := by decide +kernel
theorem dX8_number_39 : decode cX8_number 39 = .ok (.iload_n 2, 1) := by decide +kernel
theorem dX8_number_40 : decode cX8_number 40 = .ok (.iastore, 1) := by decide +kernel
theorem dX8_number_41 : decode cX8_number 41 = .ok (.iload_n 3, 1) := by decide +kernel
theorem dX8_number_42 : decode cX8_number 42 = .ok (.ireturn, 1) := by decide +kernel
theorem dX8_sumOf_0 : decode cX8_sumOf 0 = .ok (.iconst 0, 1) := by decide +kernel
theorem dX8_sumOf_1 : decode cX8_sumOf 1 = .ok (.istore_n 3, 1) := by decide +kernel
theorem dX8_sumOf_2 : decode cX8_sumOf 2 = .ok (.iconst 0, 1) := by decide +kernel
theorem dX8_sumOf_3 : decode cX8_sumOf 3 = .ok (.istore 4, 2) := by decide +kernel
theorem dX8_sumOf_5 : decode cX8_sumOf 5 = .ok (.iload 4, 2) := by decide +kernel
theorem dX8_sumOf_7 : decode cX8_sumOf 7 = .ok (.iload_n 1, 1) := by decide +kernel
theorem dX8_sumOf_8 : decode cX8_sumOf 8 = .ok (.if_icmp .ge 40, 3) := by decide +kernel
theorem dX8_sumOf_11 : decode cX8_sumOf 11 = .ok (.iload_n 3, 1) := by decide +kernel
theorem dX8_sumOf_12 : decode cX8_sumOf 12 = .ok (.iload_n 2, 1) := by decide +kernel
theorem dX8_sumOf_13 : decode cX8_sumOf 13 = .ok (.iload 4, 2) := by decide +kernel
theorem dX8_sumOf_15 : decode cX8_sumOf 15 = .ok (.ishr, 1) := by decide +kernel
theorem dX8_sumOf_16 : decode cX8_sumOf 16 = .ok (.iconst 1, 1) := by decide +kernel
theorem dX8_sumOf_17 : decode cX8_sumOf 17 = .ok (.iand, 1) := by decide +kernel
theorem dX8_sumOf_18 : decode cX8_sumOf 18 = .ok (.iconst 1, 1) := by decide +kernel
theorem dX8_sumOf_19 : decode cX8_sumOf 19 = .ok (.if_icmp .ne 14, 3) := by decide +kernel
theorem dX8_sumOf_22 : decode cX8_sumOf 22 = .ok (.aload_n 0, 1) := by decide +kernel
theorem dX8_sumOf_23 : decode cX8_sumOf 23 = .ok (.getfield 23, 3) := by decide +kernel
theorem dX8_sumOf_26 : decode cX8_sumOf 26 = .ok (.iload 4, 2) := by decide +kernel
theorem dX8_sumOf_28 : decode cX8_sumOf 28 = .ok (.iaload, 1) := by decide +kernel
theorem dX8_sumOf_29 : decode cX8_sumOf 29 = .ok (.ineg, 1) := by decide +kernel
theorem dX8_sumOf_30 : decode cX8_sumOf 30 = .ok (.goto 10, 3) := by decide +kernel
theorem dX8_sumOf_33 : decode cX8_sumOf 33 = .ok (.aload_n 0, 1) := by decide +kernel
theorem dX8_sumOf_34 : decode cX8_sumOf 34 = .ok (.getfield 23, 3) := by decide +kernel
theorem dX8_sumOf_37 : decode cX8_sumOf 37 = .ok (.iload 4, 2) := by decide +kernel
theorem dX8_sumOf_39 : decode cX8_sumOf 39 = .ok (.iaload, 1) := by decide +kernel
theorem dX8_sumOf_40 : decode cX8_sumOf 40 = .ok (.iadd, 1) := by decide +kernel
theorem dX8_sumOf_41 : decode cX8_sumOf 41 = .ok (.istore_n 3, 1) := by decide +kernel
theorem dX8_sumOf_42 : decode cX8_sumOf 42 = .ok (.iinc 4 1, 3) := by decide +kernel
theorem dX8_sumOf_45 : decode cX8_sumOf 45 = .ok (.goto (-40), 3) := by decide +kernel
theorem dX8_sumOf_48 : decode cX8_sumOf 48 = .ok (.iload_n 3, 1) := by decide +kernel
theorem dX8_sumOf_49 : decode cX8_sumOf 49 = .ok (.ifCond .ge 8, 3) := by decide +kernel
theorem dX8_sumOf_52 : decode cX8_sumOf 52 = .ok (.iload_n 3, 1) := by decide +kernel
theorem dX8_sumOf_53 : decode cX8_sumOf 53 = .ok (.ineg, 1) := by decide +kernel
theorem dX8_sumOf_54 : decode cX8_sumOf 54 = .ok (.goto 4, 3) := by decide +kernel
theorem dX8_sumOf_57 : decode cX8_sumOf 57 = .ok (.iload_n 3, 1) := by decide +kernel
theorem dX8_sumOf_58 : decode cX8_sumOf 58 = .ok (.ireturn, 1) := by decide +kernel
theorem dX8_signs_0 : decode cX8_signs 0 = .ok (.iload_n 1, 1) := by decide +kernel
theorem dX8_signs_1 : decode cX8_signs 1 = .ok (.iconst 1, 1) := by decide +kernel
theorem dX8_signs_2 : decode cX8_signs 2 = .ok (.bipush 10, 2) := by decide +kernel
theorem dX8_signs_4 : decode cX8_signs 4 = .ok (.invokestatic 39, 3) := by decide +kernel
theorem dX8_signs_7 : decode cX8_signs 7 = .ok (.ifCond .eq 14, 3) := by decide +kernel
theorem dX8_signs_10 : decode cX8_signs 10 = .ok (.iload_n 2, 1) := by decide +kernel
theorem dX8_signs_11 : decode cX8_signs 11 = .ok (.iconst 0, 1) := by decide +kernel
theorem dX8_signs_12 : decode cX8_signs 12 = .ok (.sipush 10000, 3) := by decide +kernel
theorem dX8_signs_15 : decode cX8_signs 15 = .ok (.invokestatic 39, 3) := by decide +kernel
theorem dX8_signs_18 : decode cX8_signs 18 = .ok (.ifCond .ne 5, 3) := by decide +kernel
theorem dX8_signs_21 : decode cX8_signs 21 = .ok (.iconst (-1), 1) := by decide +kernel
theorem dX8_signs_22 : decode cX8_signs 22 = .ok (.ireturn, 1) := by decide +kernel
theorem dX8_signs_23 : decode cX8_signs 23 = .ok (.iconst 0, 1) := by decide +kernel
theorem dX8_signs_24 : decode cX8_signs 24 = .ok (.istore_n 3, 1) := by decide +kernel
theorem dX8_signs_25 : decode cX8_signs 25 = .ok (.iconst 0, 1) := by decide +kernel
theorem dX8_signs_26 : decode cX8_signs 26 = .ok (.istore 4, 2) := by decide +kernel
theorem dX8_signs_28 : decode cX8_signs 28 = .ok (.iload 4, 2) := by decide +kernel
theorem dX8_signs_30 : decode cX8_signs 30 = .ok (.iconst 1, 1) := by decide +kernel
theorem dX8_signs_31 : decode cX8_signs 31 = .ok (.iload_n 1, 1) := by decide +kernel
theorem dX8_signs_32 : decode cX8_signs 32 = .ok (.ishl, 1) := by decide +kernel
theorem dX8_signs_33 : decode cX8_signs 33 = .ok (.if_icmp .ge 28, 3) := by decide +kernel
theorem dX8_signs_36 : decode cX8_signs 36 = .ok (.iload_n 3, 1) := by decide +kernel
theorem dX8_signs_37 : decode cX8_signs 37 = .ok (.aload_n 0, 1) := by decide +kernel
theorem dX8_signs_38 : decode cX8_signs 38 = .ok (.iload_n 1, 1) := by decide +kernel
theorem dX8_signs_39 : decode cX8_signs 39 = .ok (.iload 4, 2) := by decide +kernel
theorem dX8_signs_41 : decode cX8_signs 41 = .ok (.invokevirtual 111, 3) := by decide +kernel
theorem dX8_signs_44 : decode cX8_signs 44 = .ok (.iload_n 2, 1) := by decide +kernel
theorem dX8_signs_45 : decode cX8_signs 45 = .ok (.if_icmp .gt 7, 3) := by decide +kernel
theorem dX8_signs_48 : decode cX8_signs 48 = .ok (.iconst 1, 1) := by decide +kernel
theorem dX8_signs_49 : decode cX8_signs 49 = .ok (.goto 4, 3) := by decide +kernel
theorem dX8_signs_52 : decode cX8_signs 52 = .ok (.iconst 0, 1) := by decide +kernel
theorem dX8_signs_53 : decode cX8_signs 53 = .ok (.iadd, 1) := by decide +kernel
theorem dX8_signs_54 : decode cX8_signs 54 = .ok (.istore_n 3, 1) := by decide +kernel
theorem dX8_signs_55 : decode cX8_signs 55 = .ok (.iinc 4 1, 3) := by decide +kernel
theorem dX8_signs_58 : decode cX8_signs 58 = .ok (.goto (-30), 3) := by decide +kernel
theorem dX8_signs_61 : decode cX8_signs 61 = .ok (.iload_n 3, 1) := by decide +kernel
theorem dX8_signs_62 : decode cX8_signs 62 = .ok (.ireturn, 1) := by decide +kernel
theorem dX8_least_0 : decode cX8_least 0 = .ok (.iload_n 1, 1) := by decide +kernel
theorem dX8_least_1 : decode cX8_least 1 = .ok (.iconst 1, 1) := by decide +kernel
theorem dX8_least_2 : decode cX8_least 2 = .ok (.bipush 10, 2) := by decide +kernel
theorem dX8_least_4 : decode cX8_least 4 = .ok (.invokestatic 39, 3) := by decide +kernel
theorem dX8_least_7 : decode cX8_least 7 = .ok (.ifCond .eq 12, 3) := by decide +kernel
theorem dX8_least_10 : decode cX8_least 10 = .ok (.iload_n 2, 1) := by decide +kernel
theorem dX8_least_11 : decode cX8_least 11 = .ok (.iconst 0, 1) := by decide +kernel
theorem dX8_least_12 : decode cX8_least 12 = .ok (.iconst 1, 1) := by decide +kernel
theorem dX8_least_13 : decode cX8_least 13 = .ok (.invokestatic 39, 3) := by decide +kernel
theorem dX8_least_16 : decode cX8_least 16 = .ok (.ifCond .ne 5, 3) := by decide +kernel
theorem dX8_least_19 : decode cX8_least 19 = .ok (.iconst (-1), 1) := by decide +kernel
theorem dX8_least_20 : decode cX8_least 20 = .ok (.ireturn, 1) := by decide +kernel
theorem dX8_least_21 : decode cX8_least 21 = .ok (.iconst 0, 1) := by decide +kernel
theorem dX8_least_22 : decode cX8_least 22 = .ok (.istore_n 3, 1) := by decide +kernel
theorem dX8_least_23 : decode cX8_least 23 = .ok (.iconst 1, 1) := by decide +kernel
theorem dX8_least_24 : decode cX8_least 24 = .ok (.istore 4, 2) := by decide +kernel
theorem dX8_least_26 : decode cX8_least 26 = .ok (.iload 4, 2) := by decide +kernel
theorem dX8_least_28 : decode cX8_least 28 = .ok (.iconst 1, 1) := by decide +kernel
theorem dX8_least_29 : decode cX8_least 29 = .ok (.iload_n 1, 1) := by decide +kernel
theorem dX8_least_30 : decode cX8_least 30 = .ok (.ishl, 1) := by decide +kernel
theorem dX8_least_31 : decode cX8_least 31 = .ok (.if_icmp .ge 32, 3) := by decide +kernel
theorem dX8_least_34 : decode cX8_least 34 = .ok (.aload_n 0, 1) := by decide +kernel
theorem dX8_least_35 : decode cX8_least 35 = .ok (.iload_n 1, 1) := by decide +kernel
theorem dX8_least_36 : decode cX8_least 36 = .ok (.iload 4, 2) := by decide +kernel
theorem dX8_least_38 : decode cX8_least 38 = .ok (.invokevirtual 111, 3) := by decide +kernel
theorem dX8_least_41 : decode cX8_least 41 = .ok (.aload_n 0, 1) := by decide +kernel
theorem dX8_least_42 : decode cX8_least 42 = .ok (.iload_n 1, 1) := by decide +kernel
theorem dX8_least_43 : decode cX8_least 43 = .ok (.iload_n 3, 1) := by decide +kernel
theorem dX8_least_44 : decode cX8_least 44 = .ok (.invokevirtual 111, 3) := by decide +kernel
theorem dX8_least_47 : decode cX8_least 47 = .ok (.if_icmp .ge 8, 3) := by decide +kernel
theorem dX8_least_50 : decode cX8_least 50 = .ok (.iload 4, 2) := by decide +kernel
theorem dX8_least_52 : decode cX8_least 52 = .ok (.goto 4, 3) := by decide +kernel
theorem dX8_least_55 : decode cX8_least 55 = .ok (.iload_n 3, 1) := by decide +kernel
theorem dX8_least_56 : decode cX8_least 56 = .ok (.istore_n 3, 1) := by decide +kernel
theorem dX8_least_57 : decode cX8_least 57 = .ok (.iinc 4 1, 3) := by decide +kernel
theorem dX8_least_60 : decode cX8_least 60 = .ok (.goto (-34), 3) := by decide +kernel
theorem dX8_least_63 : decode cX8_least 63 = .ok (.iload_n 2, 1) := by decide +kernel
theorem dX8_least_64 : decode cX8_least 64 = .ok (.ifCond .ne 7, 3) := by decide +kernel
theorem dX8_least_67 : decode cX8_least 67 = .ok (.iload_n 3, 1) := by decide +kernel
theorem dX8_least_68 : decode cX8_least 68 = .ok (.goto 9, 3) := by decide +kernel
theorem dX8_least_71 : decode cX8_least 71 = .ok (.aload_n 0, 1) := by decide +kernel
theorem dX8_least_72 : decode cX8_least 72 = .ok (.iload_n 1, 1) := by decide +kernel
theorem dX8_least_73 : decode cX8_least 73 = .ok (.iload_n 3, 1) := by decide +kernel
theorem dX8_least_74 : decode cX8_least 74 = .ok (.invokevirtual 111, 3) := by decide +kernel
theorem dX8_least_77 : decode cX8_least 77 = .ok (.ireturn, 1) := by decide +kernel
theorem dX8_count_0 : decode cX8_count 0 = .ok (.aload_n 0, 1) := by decide +kernel
theorem dX8_count_1 : decode cX8_count 1 = .ok (.getfield 7, 3) := by decide +kernel
theorem dX8_count_4 : decode cX8_count 4 = .ok (.ireturn, 1) := by decide +kernel
theorem dJ6_bitCount_0f7a4_0 : decode cJ6_bitCount_0f7a4 0 = .ok (.iload_n 0, 1) := by decide +kernel
theorem dJ6_bitCount_0f7a4_1 : decode cJ6_bitCount_0f7a4 1 = .ok (.iload_n 0, 1) := by decide +kernel
theorem dJ6_bitCount_0f7a4_2 : decode cJ6_bitCount_0f7a4 2 = .ok (.iconst 1, 1) := by decide +kernel
theorem dJ6_bitCount_0f7a4_3 : decode cJ6_bitCount_0f7a4 3 = .ok (.iushr, 1) := by decide +kernel
theorem dJ6_bitCount_0f7a4_4 : decode cJ6_bitCount_0f7a4 4 = .ok (.ldc_w 265, 3) := by decide +kernel
theorem dJ6_bitCount_0f7a4_7 : decode cJ6_bitCount_0f7a4 7 = .ok (.iand, 1) := by decide +kernel
theorem dJ6_bitCount_0f7a4_8 : decode cJ6_bitCount_0f7a4 8 = .ok (.isub, 1) := by decide +kernel
theorem dJ6_bitCount_0f7a4_9 : decode cJ6_bitCount_0f7a4 9 = .ok (.istore_n 0, 1) := by decide +kernel
theorem dJ6_bitCount_0f7a4_10 : decode cJ6_bitCount_0f7a4 10 = .ok (.iload_n 0, 1) := by decide +kernel
theorem dJ6_bitCount_0f7a4_11 : decode cJ6_bitCount_0f7a4 11 = .ok (.ldc_w 266, 3) := by decide +kernel
theorem dJ6_bitCount_0f7a4_14 : decode cJ6_bitCount_0f7a4 14 = .ok (.iand, 1) := by decide +kernel
theorem dJ6_bitCount_0f7a4_15 : decode cJ6_bitCount_0f7a4 15 = .ok (.iload_n 0, 1) := by decide +kernel
theorem dJ6_bitCount_0f7a4_16 : decode cJ6_bitCount_0f7a4 16 = .ok (.iconst 2, 1) := by decide +kernel
theorem dJ6_bitCount_0f7a4_17 : decode cJ6_bitCount_0f7a4 17 = .ok (.iushr, 1) := by decide +kernel
theorem dJ6_bitCount_0f7a4_18 : decode cJ6_bitCount_0f7a4 18 = .ok (.ldc_w 266, 3) := by decide +kernel
theorem dJ6_bitCount_0f7a4_21 : decode cJ6_bitCount_0f7a4 21 = .ok (.iand, 1) := by decide +kernel
theorem dJ6_bitCount_0f7a4_22 : decode cJ6_bitCount_0f7a4 22 = .ok (.iadd, 1) := by decide +kernel
theorem dJ6_bitCount_0f7a4_23 : decode cJ6_bitCount_0f7a4 23 = .ok (.istore_n 0, 1) := by decide +kernel
theorem dJ6_bitCount_0f7a4_24 : decode cJ6_bitCount_0f7a4 24 = .ok (.iload_n 0, 1) := by decide +kernel
theorem dJ6_bitCount_0f7a4_25 : decode cJ6_bitCount_0f7a4 25 = .ok (.iload_n 0, 1) := by decide +kernel
theorem dJ6_bitCount_0f7a4_26 : decode cJ6_bitCount_0f7a4 26 = .ok (.iconst 4, 1) := by decide +kernel
theorem dJ6_bitCount_0f7a4_27 : decode cJ6_bitCount_0f7a4 27 = .ok (.iushr, 1) := by decide +kernel
theorem dJ6_bitCount_0f7a4_28 : decode cJ6_bitCount_0f7a4 28 = .ok (.iadd, 1) := by decide +kernel
theorem dJ6_bitCount_0f7a4_29 : decode cJ6_bitCount_0f7a4 29 = .ok (.ldc_w 267, 3) := by decide +kernel
theorem dJ6_bitCount_0f7a4_32 : decode cJ6_bitCount_0f7a4 32 = .ok (.iand, 1) := by decide +kernel
theorem dJ6_bitCount_0f7a4_33 : decode cJ6_bitCount_0f7a4 33 = .ok (.istore_n 0, 1) := by decide +kernel
theorem dJ6_bitCount_0f7a4_34 : decode cJ6_bitCount_0f7a4 34 = .ok (.iload_n 0, 1) := by decide +kernel
theorem dJ6_bitCount_0f7a4_35 : decode cJ6_bitCount_0f7a4 35 = .ok (.iload_n 0, 1) := by decide +kernel
theorem dJ6_bitCount_0f7a4_36 : decode cJ6_bitCount_0f7a4 36 = .ok (.bipush 8, 2) := by decide +kernel
theorem dJ6_bitCount_0f7a4_38 : decode cJ6_bitCount_0f7a4 38 = .ok (.iushr, 1) := by decide +kernel
theorem dJ6_bitCount_0f7a4_39 : decode cJ6_bitCount_0f7a4 39 = .ok (.iadd, 1) := by decide +kernel
theorem dJ6_bitCount_0f7a4_40 : decode cJ6_bitCount_0f7a4 40 = .ok (.istore_n 0, 1) := by decide +kernel
theorem dJ6_bitCount_0f7a4_41 : decode cJ6_bitCount_0f7a4 41 = .ok (.iload_n 0, 1) := by decide +kernel
theorem dJ6_bitCount_0f7a4_42 : decode cJ6_bitCount_0f7a4 42 = .ok (.iload_n 0, 1) := by decide +kernel
theorem dJ6_bitCount_0f7a4_43 : decode cJ6_bitCount_0f7a4 43 = .ok (.bipush 16, 2) := by decide +kernel
theorem dJ6_bitCount_0f7a4_45 : decode cJ6_bitCount_0f7a4 45 = .ok (.iushr, 1) := by decide +kernel
theorem dJ6_bitCount_0f7a4_46 : decode cJ6_bitCount_0f7a4 46 = .ok (.iadd, 1) := by decide +kernel
theorem dJ6_bitCount_0f7a4_47 : decode cJ6_bitCount_0f7a4 47 = .ok (.istore_n 0, 1) := by decide +kernel
theorem dJ6_bitCount_0f7a4_48 : decode cJ6_bitCount_0f7a4 48 = .ok (.iload_n 0, 1) := by decide +kernel
theorem dJ6_bitCount_0f7a4_49 : decode cJ6_bitCount_0f7a4 49 = .ok (.bipush 63, 2) := by decide +kernel
theorem dJ6_bitCount_0f7a4_51 : decode cJ6_bitCount_0f7a4 51 = .ok (.iand, 1) := by decide +kernel
theorem dJ6_bitCount_0f7a4_52 : decode cJ6_bitCount_0f7a4 52 = .ok (.ireturn, 1) := by decide +kernel
theorem dJ9_abs_0f7a4_0 : decode cJ9_abs_0f7a4 0 = .ok (.iload_n 0, 1) := by decide +kernel
theorem dJ9_abs_0f7a4_1 : decode cJ9_abs_0f7a4 1 = .ok (.ifCond .ge 8, 3) := by decide +kernel
theorem dJ9_abs_0f7a4_4 : decode cJ9_abs_0f7a4 4 = .ok (.iload_n 0, 1) := by decide +kernel
theorem dJ9_abs_0f7a4_5 : decode cJ9_abs_0f7a4 5 = .ok (.ineg, 1) := by decide +kernel
theorem dJ9_abs_0f7a4_6 : decode cJ9_abs_0f7a4 6 = .ok (.goto 4, 3) := by decide +kernel
theorem dJ9_abs_0f7a4_9 : decode cJ9_abs_0f7a4 9 = .ok (.iload_n 0, 1) := by decide +kernel
theorem dJ9_abs_0f7a4_10 : decode cJ9_abs_0f7a4 10 = .ok (.ireturn, 1) := by decide +kernel
theorem dJ9_max_7cf53_0 : decode cJ9_max_7cf53 0 = .ok (.iload_n 0, 1) := by decide +kernel
theorem dJ9_max_7cf53_1 : decode cJ9_max_7cf53 1 = .ok (.iload_n 1, 1) := by decide +kernel
theorem dJ9_max_7cf53_2 : decode cJ9_max_7cf53 2 = .ok (.if_icmp .lt 7, 3) := by decide +kernel
theorem dJ9_max_7cf53_5 : decode cJ9_max_7cf53 5 = .ok (.iload_n 0, 1) := by decide +kernel
theorem dJ9_max_7cf53_6 : decode cJ9_max_7cf53 6 = .ok (.goto 4, 3) := by decide +kernel
theorem dJ9_max_7cf53_9 : decode cJ9_max_7cf53 9 = .ok (.iload_n 1, 1) := by decide +kernel
theorem dJ9_max_7cf53_10 : decode cJ9_max_7cf53 10 = .ok (.ireturn, 1) := by decide +kernel
theorem dJ9_min_7cf53_0 : decode cJ9_min_7cf53 0 = .ok (.iload_n 0, 1) := by decide +kernel
theorem dJ9_min_7cf53_1 : decode cJ9_min_7cf53 1 = .ok (.iload_n 1, 1) := by decide +kernel
theorem dJ9_min_7cf53_2 : decode cJ9_min_7cf53 2 = .ok (.if_icmp .gt 7, 3) := by decide +kernel
theorem dJ9_min_7cf53_5 : decode cJ9_min_7cf53 5 = .ok (.iload_n 0, 1) := by decide +kernel
theorem dJ9_min_7cf53_6 : decode cJ9_min_7cf53 6 = .ok (.goto 4, 3) := by decide +kernel
theorem dJ9_min_7cf53_9 : decode cJ9_min_7cf53 9 = .ok (.iload_n 1, 1) := by decide +kernel
theorem dJ9_min_7cf53_10 : decode cJ9_min_7cf53 10 = .ok (.ireturn, 1) := by decide +kernel
theorem dL_law_0 : decode cL_law 0 = .ok (.new 7, 3) := by decide +kernel
theorem dL_law_3 : decode cL_law 3 = .ok (.dup, 1) := by decide +kernel
theorem dL_law_4 : decode cL_law 4 = .ok (.invokespecial 9, 3) := by decide +kernel
theorem dL_law_7 : decode cL_law 7 = .ok (.astore_n 1, 1) := by decide +kernel
theorem dL_law_8 : decode cL_law 8 = .ok (.new 10, 3) := by decide +kernel
theorem dL_law_11 : decode cL_law 11 = .ok (.dup, 1) := by decide +kernel
theorem dL_law_12 : decode cL_law 12 = .ok (.invokespecial 12, 3) := by decide +kernel
theorem dL_law_15 : decode cL_law 15 = .ok (.astore_n 2, 1) := by decide +kernel
theorem dL_law_16 : decode cL_law 16 = .ok (.iconst 0, 1) := by decide +kernel
theorem dL_law_17 : decode cL_law 17 = .ok (.istore_n 3, 1) := by decide +kernel
theorem dL_law_18 : decode cL_law 18 = .ok (.iload_n 3, 1) := by decide +kernel
theorem dL_law_19 : decode cL_law 19 = .ok (.aload_n 0, 1) := by decide +kernel
theorem dL_law_20 : decode cL_law 20 = .ok (.arraylength, 1) := by decide +kernel
theorem dL_law_21 : decode cL_law 21 = .ok (.iconst 4, 1) := by decide +kernel
theorem dL_law_22 : decode cL_law 22 = .ok (.isub, 1) := by decide +kernel
theorem dL_law_23 : decode cL_law 23 = .ok (.if_icmp .gt 608, 3) := by decide +kernel
theorem dL_law_26 : decode cL_law 26 = .ok (.aload_n 0, 1) := by decide +kernel
theorem dL_law_27 : decode cL_law 27 = .ok (.iload_n 3, 1) := by decide +kernel
theorem dL_law_28 : decode cL_law 28 = .ok (.iaload, 1) := by decide +kernel
theorem dL_law_29 : decode cL_law 29 = .ok (.bipush 31, 2) := by decide +kernel
theorem dL_law_31 : decode cL_law 31 = .ok (.iand, 1) := by decide +kernel
theorem dL_law_32 : decode cL_law 32 = .ok (.tableswitch 593 0 17 #[88, 111, 154, 187, 210, 233, 246, 259, 283, 316, 339, 372, 415, 438, 481, 514, 547, 580], 88) := by decide +kernel
theorem dL_law_120 : decode cL_law 120 = .ok (.aload_n 1, 1) := by decide +kernel
theorem dL_law_121 : decode cL_law 121 = .ok (.aload_n 0, 1) := by decide +kernel
theorem dL_law_122 : decode cL_law 122 = .ok (.iload_n 3, 1) := by decide +kernel
theorem dL_law_123 : decode cL_law 123 = .ok (.iconst 1, 1) := by decide +kernel
theorem dL_law_124 : decode cL_law 124 = .ok (.iadd, 1) := by decide +kernel
theorem dL_law_125 : decode cL_law 125 = .ok (.iaload, 1) := by decide +kernel
theorem dL_law_126 : decode cL_law 126 = .ok (.invokevirtual 13, 3) := by decide +kernel
theorem dL_law_129 : decode cL_law 129 = .ok (.aload_n 2, 1) := by decide +kernel
theorem dL_law_130 : decode cL_law 130 = .ok (.aload_n 0, 1) := by decide +kernel
theorem dL_law_131 : decode cL_law 131 = .ok (.iload_n 3, 1) := by decide +kernel
theorem dL_law_132 : decode cL_law 132 = .ok (.iconst 1, 1) := by decide +kernel
theorem dL_law_133 : decode cL_law 133 = .ok (.iadd, 1) := by decide +kernel
theorem dL_law_134 : decode cL_law 134 = .ok (.iaload, 1) := by decide +kernel
theorem dL_law_135 : decode cL_law 135 = .ok (.invokevirtual 17, 3) := by decide +kernel
theorem dL_law_138 : decode cL_law 138 = .ok (.if_icmp .eq 487, 3) := by decide +kernel
theorem dL_law_141 : decode cL_law 141 = .ok (.iconst 0, 1) := by decide +kernel
theorem dL_law_142 : decode cL_law 142 = .ok (.ireturn, 1) := by decide +kernel
theorem dL_law_143 : decode cL_law 143 = .ok (.aload_n 1, 1) := by decide +kernel
theorem dL_law_144 : decode cL_law 144 = .ok (.aload_n 0, 1) := by decide +kernel
theorem dL_law_145 : decode cL_law 145 = .ok (.iload_n 3, 1) := by decide +kernel
theorem dL_law_146 : decode cL_law 146 = .ok (.iconst 1, 1) := by decide +kernel
theorem dL_law_147 : decode cL_law 147 = .ok (.iadd, 1) := by decide +kernel
theorem dL_law_148 : decode cL_law 148 = .ok (.iaload, 1) := by decide +kernel
theorem dL_law_149 : decode cL_law 149 = .ok (.aload_n 0, 1) := by decide +kernel
theorem dL_law_150 : decode cL_law 150 = .ok (.iload_n 3, 1) := by decide +kernel
theorem dL_law_151 : decode cL_law 151 = .ok (.iconst 2, 1) := by decide +kernel
theorem dL_law_152 : decode cL_law 152 = .ok (.iadd, 1) := by decide +kernel
theorem dL_law_153 : decode cL_law 153 = .ok (.iaload, 1) := by decide +kernel
theorem dL_law_154 : decode cL_law 154 = .ok (.aload_n 0, 1) := by decide +kernel
theorem dL_law_155 : decode cL_law 155 = .ok (.iload_n 3, 1) := by decide +kernel
theorem dL_law_156 : decode cL_law 156 = .ok (.iconst 3, 1) := by decide +kernel
theorem dL_law_157 : decode cL_law 157 = .ok (.iadd, 1) := by decide +kernel
theorem dL_law_158 : decode cL_law 158 = .ok (.iaload, 1) := by decide +kernel
theorem dL_law_159 : decode cL_law 159 = .ok (.invokevirtual 18, 3) := by decide +kernel
theorem dL_law_162 : decode cL_law 162 = .ok (.aload_n 2, 1) := by decide +kernel
theorem dL_law_163 : decode cL_law 163 = .ok (.aload_n 0, 1) := by decide +kernel
theorem dL_law_164 : decode cL_law 164 = .ok (.iload_n 3, 1) := by decide +kernel
theorem dL_law_165 : decode cL_law 165 = .ok (.iconst 1, 1) := by decide +kernel
theorem dL_law_166 : decode cL_law 166 = .ok (.iadd, 1) := by decide +kernel
theorem dL_law_167 : decode cL_law 167 = .ok (.iaload, 1) := by decide +kernel
theorem dL_law_168 : decode cL_law 168 = .ok (.aload_n 0, 1) := by decide +kernel
theorem dL_law_169 : decode cL_law 169 = .ok (.iload_n 3, 1) := by decide +kernel
theorem dL_law_170 : decode cL_law 170 = .ok (.iconst 2, 1) := by decide +kernel
theorem dL_law_171 : decode cL_law 171 = .ok (.iadd, 1) := by decide +kernel
theorem dL_law_172 : decode cL_law 172 = .ok (.iaload, 1) := by decide +kernel
theorem dL_law_173 : decode cL_law 173 = .ok (.aload_n 0, 1) := by decide +kernel
theorem dL_law_174 : decode cL_law 174 = .ok (.iload_n 3, 1) := by decide +kernel
theorem dL_law_175 : decode cL_law 175 = .ok (.iconst 3, 1) := by decide +kernel
theorem dL_law_176 : decode cL_law 176 = .ok (.iadd, 1) := by decide +kernel
theorem dL_law_177 : decode cL_law 177 = .ok (.iaload, 1) := by decide +kernel
theorem dL_law_178 : decode cL_law 178 = .ok (.invokevirtual 22, 3) := by decide +kernel
theorem dL_law_181 : decode cL_law 181 = .ok (.if_icmp .eq 444, 3) := by decide +kernel
theorem dL_law_184 : decode cL_law 184 = .ok (.iconst 0, 1) := by decide +kernel
theorem dL_law_185 : decode cL_law 185 = .ok (.ireturn, 1) := by decide +kernel
theorem dL_law_186 : decode cL_law 186 = .ok (.aload_n 1, 1) := by decide +kernel
theorem dL_law_187 : decode cL_law 187 = .ok (.aload_n 0, 1) := by decide +kernel
theorem dL_law_188 : decode cL_law 188 = .ok (.iload_n 3, 1) := by decide +kernel
theorem dL_law_189 : decode cL_law 189 = .ok (.iconst 1, 1) := by decide +kernel
theorem dL_law_190 : decode cL_law 190 = .ok (.iadd, 1) := by decide +kernel
theorem dL_law_191 : decode cL_law 191 = .ok (.iaload, 1) := by decide +kernel
theorem dL_law_192 : decode cL_law 192 = .ok (.aload_n 0, 1) := by decide +kernel
theorem dL_law_193 : decode cL_law 193 = .ok (.iload_n 3, 1) := by decide +kernel
theorem dL_law_194 : decode cL_law 194 = .ok (.iconst 2, 1) := by decide +kernel
theorem dL_law_195 : decode cL_law 195 = .ok (.iadd, 1) := by decide +kernel
theorem dL_law_196 : decode cL_law 196 = .ok (.iaload, 1) := by decide +kernel
theorem dL_law_197 : decode cL_law 197 = .ok (.invokevirtual 23, 3) := by decide +kernel
theorem dL_law_200 : decode cL_law 200 = .ok (.aload_n 2, 1) := by decide +kernel
theorem dL_law_201 : decode cL_law 201 = .ok (.aload_n 0, 1) := by decide +kernel
theorem dL_law_202 : decode cL_law 202 = .ok (.iload_n 3, 1) := by decide +kernel
theorem dL_law_203 : decode cL_law 203 = .ok (.iconst 1, 1) := by decide +kernel
theorem dL_law_204 : decode cL_law 204 = .ok (.iadd, 1) := by decide +kernel
theorem dL_law_205 : decode cL_law 205 = .ok (.iaload, 1) := by decide +kernel
theorem dL_law_206 : decode cL_law 206 = .ok (.aload_n 0, 1) := by decide +kernel
theorem dL_law_207 : decode cL_law 207 = .ok (.iload_n 3, 1) := by decide +kernel
theorem dL_law_208 : decode cL_law 208 = .ok (.iconst 2, 1) := by decide +kernel
theorem dL_law_209 : decode cL_law 209 = .ok (.iadd, 1) := by decide +kernel
theorem dL_law_210 : decode cL_law 210 = .ok (.iaload, 1) := by decide +kernel
theorem dL_law_211 : decode cL_law 211 = .ok (.invokevirtual 27, 3) := by decide +kernel
theorem dL_law_214 : decode cL_law 214 = .ok (.if_icmp .eq 411, 3) := by decide +kernel
theorem dL_law_217 : decode cL_law 217 = .ok (.iconst 0, 1) := by decide +kernel
theorem dL_law_218 : decode cL_law 218 = .ok (.ireturn, 1) := by decide +kernel
theorem dL_law_219 : decode cL_law 219 = .ok (.aload_n 1, 1) := by decide +kernel
theorem dL_law_220 : decode cL_law 220 = .ok (.aload_n 0, 1) := by decide +kernel
theorem dL_law_221 : decode cL_law 221 = .ok (.iload_n 3, 1) := by decide +kernel
theorem dL_law_222 : decode cL_law 222 = .ok (.iconst 1, 1) := by decide +kernel
theorem dL_law_223 : decode cL_law 223 = .ok (.iadd, 1) := by decide +kernel
theorem dL_law_224 : decode cL_law 224 = .ok (.iaload, 1) := by decide +kernel
theorem dL_law_225 : decode cL_law 225 = .ok (.invokevirtual 28, 3) := by decide +kernel
theorem dL_law_228 : decode cL_law 228 = .ok (.aload_n 2, 1) := by decide +kernel
theorem dL_law_229 : decode cL_law 229 = .ok (.aload_n 0, 1) := by decide +kernel
theorem dL_law_230 : decode cL_law 230 = .ok (.iload_n 3, 1) := by decide +kernel
theorem dL_law_231 : decode cL_law 231 = .ok (.iconst 1, 1) := by decide +kernel
theorem dL_law_232 : decode cL_law 232 = .ok (.iadd, 1) := by decide +kernel
theorem dL_law_233 : decode cL_law 233 = .ok (.iaload, 1) := by decide +kernel
theorem dL_law_234 : decode cL_law 234 = .ok (.invokevirtual 31, 3) := by decide +kernel
theorem dL_law_237 : decode cL_law 237 = .ok (.if_icmp .eq 388, 3) := by decide +kernel
theorem dL_law_240 : decode cL_law 240 = .ok (.iconst 0, 1) := by decide +kernel
theorem dL_law_241 : decode cL_law 241 = .ok (.ireturn, 1) := by decide +kernel
theorem dL_law_242 : decode cL_law 242 = .ok (.aload_n 1, 1) := by decide +kernel
theorem dL_law_243 : decode cL_law 243 = .ok (.aload_n 0, 1) := by decide +kernel
theorem dL_law_244 : decode cL_law 244 = .ok (.iload_n 3, 1) := by decide +kernel
theorem dL_law_245 : decode cL_law 245 = .ok (.iconst 1, 1) := by decide +kernel
theorem dL_law_246 : decode cL_law 246 = .ok (.iadd, 1) := by decide +kernel
theorem dL_law_247 : decode cL_law 247 = .ok (.iaload, 1) := by decide +kernel
theorem dL_law_248 : decode cL_law 248 = .ok (.invokevirtual 32, 3) := by decide +kernel
theorem dL_law_251 : decode cL_law 251 = .ok (.aload_n 2, 1) := by decide +kernel
theorem dL_law_252 : decode cL_law 252 = .ok (.aload_n 0, 1) := by decide +kernel
theorem dL_law_253 : decode cL_law 253 = .ok (.iload_n 3, 1) := by decide +kernel
theorem dL_law_254 : decode cL_law 254 = .ok (.iconst 1, 1) := by decide +kernel
theorem dL_law_255 : decode cL_law 255 = .ok (.iadd, 1) := by decide +kernel
theorem dL_law_256 : decode cL_law 256 = .ok (.iaload, 1) := by decide +kernel
theorem dL_law_257 : decode cL_law 257 = .ok (.invokevirtual 35, 3) := by decide +kernel
theorem dL_law_260 : decode cL_law 260 = .ok (.if_icmp .eq 365, 3) := by decide +kernel
theorem dL_law_263 : decode cL_law 263 = .ok (.iconst 0, 1) := by decide +kernel
theorem dL_law_264 : decode cL_law 264 = .ok (.ireturn, 1) := by decide +kernel
theorem dL_law_265 : decode cL_law 265 = .ok (.aload_n 1, 1) := by decide +kernel
theorem dL_law_266 : decode cL_law 266 = .ok (.invokevirtual 36, 3) := by decide +kernel
theorem dL_law_269 : decode cL_law 269 = .ok (.aload_n 2, 1) := by decide +kernel
theorem dL_law_270 : decode cL_law 270 = .ok (.invokevirtual 40, 3) := by decide +kernel
theorem dL_law_273 : decode cL_law 273 = .ok (.if_icmp .eq 352, 3) := by decide +kernel
theorem dL_law_276 : decode cL_law 276 = .ok (.iconst 0, 1) := by decide +kernel
theorem dL_law_277 : decode cL_law 277 = .ok (.ireturn, 1) := by decide +kernel
theorem dL_law_278 : decode cL_law 278 = .ok (.aload_n 1, 1) := by decide +kernel
theorem dL_law_279 : decode cL_law 279 = .ok (.invokevirtual 41, 3) := by decide +kernel
theorem dL_law_282 : decode cL_law 282 = .ok (.aload_n 2, 1) := by decide +kernel
theorem dL_law_283 : decode cL_law 283 = .ok (.invokevirtual 44, 3) := by decide +kernel
theorem dL_law_286 : decode cL_law 286 = .ok (.if_icmp .eq 339, 3) := by decide +kernel
theorem dL_law_289 : decode cL_law 289 = .ok (.iconst 0, 1) := by decide +kernel
theorem dL_law_290 : decode cL_law 290 = .ok (.ireturn, 1) := by decide +kernel
theorem dL_law_291 : decode cL_law 291 = .ok (.aload_n 1, 1) := by decide +kernel
theorem dL_law_292 : decode cL_law 292 = .ok (.aload_n 0, 1) := by decide +kernel
theorem dL_law_293 : decode cL_law 293 = .ok (.iload_n 3, 1) := by decide +kernel
theorem dL_law_294 : decode cL_law 294 = .ok (.iconst 1, 1) := by decide +kernel
theorem dL_law_295 : decode cL_law 295 = .ok (.iadd, 1) := by decide +kernel
theorem dL_law_296 : decode cL_law 296 = .ok (.iaload, 1) := by decide +kernel
theorem dL_law_297 : decode cL_law 297 = .ok (.invokevirtual 45, 3) := by decide +kernel
theorem dL_law_300 : decode cL_law 300 = .ok (.aload_n 2, 1) := by decide +kernel
theorem dL_law_301 : decode cL_law 301 = .ok (.aload_n 0, 1) := by decide +kernel
theorem dL_law_302 : decode cL_law 302 = .ok (.iload_n 3, 1) := by decide +kernel
theorem dL_law_303 : decode cL_law 303 = .ok (.iconst 1, 1) := by decide +kernel
theorem dL_law_304 : decode cL_law 304 = .ok (.iadd, 1) := by decide +kernel
theorem dL_law_305 : decode cL_law 305 = .ok (.iaload, 1) := by decide +kernel
theorem dL_law_306 : decode cL_law 306 = .ok (.invokevirtual 49, 3) := by decide +kernel
theorem dL_law_309 : decode cL_law 309 = .ok (.lcmp, 1) := by decide +kernel
theorem dL_law_310 : decode cL_law 310 = .ok (.ifCond .eq 315, 3) := by decide +kernel
theorem dL_law_313 : decode cL_law 313 = .ok (.iconst 0, 1) := by decide +kernel
theorem dL_law_314 : decode cL_law 314 = .ok (.ireturn, 1) := by decide +kernel
theorem dL_law_315 : decode cL_law 315 = .ok (.aload_n 1, 1) := by decide +kernel
theorem dL_law_316 : decode cL_law 316 = .ok (.aload_n 0, 1) := by decide +kernel
theorem dL_law_317 : decode cL_law 317 = .ok (.iload_n 3, 1) := by decide +kernel
theorem dL_law_318 : decode cL_law 318 = .ok (.iconst 1, 1) := by decide +kernel
theorem dL_law_319 : decode cL_law 319 = .ok (.iadd, 1) := by decide +kernel
theorem dL_law_320 : decode cL_law 320 = .ok (.iaload, 1) := by decide +kernel
theorem dL_law_321 : decode cL_law 321 = .ok (.aload_n 0, 1) := by decide +kernel
theorem dL_law_322 : decode cL_law 322 = .ok (.iload_n 3, 1) := by decide +kernel
theorem dL_law_323 : decode cL_law 323 = .ok (.iconst 2, 1) := by decide +kernel
theorem dL_law_324 : decode cL_law 324 = .ok (.iadd, 1) := by decide +kernel
theorem dL_law_325 : decode cL_law 325 = .ok (.iaload, 1) := by decide +kernel
theorem dL_law_326 : decode cL_law 326 = .ok (.invokevirtual 50, 3) := by decide +kernel
theorem dL_law_329 : decode cL_law 329 = .ok (.aload_n 2, 1) := by decide +kernel
theorem dL_law_330 : decode cL_law 330 = .ok (.aload_n 0, 1) := by decide +kernel
theorem dL_law_331 : decode cL_law 331 = .ok (.iload_n 3, 1) := by decide +kernel
theorem dL_law_332 : decode cL_law 332 = .ok (.iconst 1, 1) := by decide +kernel
theorem dL_law_333 : decode cL_law 333 = .ok (.iadd, 1) := by decide +kernel
theorem dL_law_334 : decode cL_law 334 = .ok (.iaload, 1) := by decide +kernel
theorem dL_law_335 : decode cL_law 335 = .ok (.aload_n 0, 1) := by decide +kernel
theorem dL_law_336 : decode cL_law 336 = .ok (.iload_n 3, 1) := by decide +kernel
theorem dL_law_337 : decode cL_law 337 = .ok (.iconst 2, 1) := by decide +kernel
theorem dL_law_338 : decode cL_law 338 = .ok (.iadd, 1) := by decide +kernel
theorem dL_law_339 : decode cL_law 339 = .ok (.iaload, 1) := by decide +kernel
theorem dL_law_340 : decode cL_law 340 = .ok (.invokevirtual 53, 3) := by decide +kernel
theorem dL_law_343 : decode cL_law 343 = .ok (.if_icmp .eq 282, 3) := by decide +kernel
theorem dL_law_346 : decode cL_law 346 = .ok (.iconst 0, 1) := by decide +kernel
theorem dL_law_347 : decode cL_law 347 = .ok (.ireturn, 1) := by decide +kernel
theorem dL_law_348 : decode cL_law 348 = .ok (.aload_n 1, 1) := by decide +kernel
theorem dL_law_349 : decode cL_law 349 = .ok (.aload_n 0, 1) := by decide +kernel
theorem dL_law_350 : decode cL_law 350 = .ok (.iload_n 3, 1) := by decide +kernel
theorem dL_law_351 : decode cL_law 351 = .ok (.iconst 1, 1) := by decide +kernel
theorem dL_law_352 : decode cL_law 352 = .ok (.iadd, 1) := by decide +kernel
theorem dL_law_353 : decode cL_law 353 = .ok (.iaload, 1) := by decide +kernel
theorem dL_law_354 : decode cL_law 354 = .ok (.invokevirtual 54, 3) := by decide +kernel
theorem dL_law_357 : decode cL_law 357 = .ok (.aload_n 2, 1) := by decide +kernel
theorem dL_law_358 : decode cL_law 358 = .ok (.aload_n 0, 1) := by decide +kernel
theorem dL_law_359 : decode cL_law 359 = .ok (.iload_n 3, 1) := by decide +kernel
theorem dL_law_360 : decode cL_law 360 = .ok (.iconst 1, 1) := by decide +kernel
theorem dL_law_361 : decode cL_law 361 = .ok (.iadd, 1) := by decide +kernel
theorem dL_law_362 : decode cL_law 362 = .ok (.iaload, 1) := by decide +kernel
theorem dL_law_363 : decode cL_law 363 = .ok (.invokevirtual 57, 3) := by decide +kernel
theorem dL_law_366 : decode cL_law 366 = .ok (.if_icmp .eq 259, 3) := by decide +kernel
theorem dL_law_369 : decode cL_law 369 = .ok (.iconst 0, 1) := by decide +kernel
theorem dL_law_370 : decode cL_law 370 = .ok (.ireturn, 1) := by decide +kernel
theorem dL_law_371 : decode cL_law 371 = .ok (.aload_n 1, 1) := by decide +kernel
theorem dL_law_372 : decode cL_law 372 = .ok (.aload_n 0, 1) := by decide +kernel
theorem dL_law_373 : decode cL_law 373 = .ok (.iload_n 3, 1) := by decide +kernel
theorem dL_law_374 : decode cL_law 374 = .ok (.iconst 1, 1) := by decide +kernel
theorem dL_law_375 : decode cL_law 375 = .ok (.iadd, 1) := by decide +kernel
theorem dL_law_376 : decode cL_law 376 = .ok (.iaload, 1) := by decide +kernel
theorem dL_law_377 : decode cL_law 377 = .ok (.aload_n 0, 1) := by decide +kernel
theorem dL_law_378 : decode cL_law 378 = .ok (.iload_n 3, 1) := by decide +kernel
theorem dL_law_379 : decode cL_law 379 = .ok (.iconst 2, 1) := by decide +kernel
theorem dL_law_380 : decode cL_law 380 = .ok (.iadd, 1) := by decide +kernel
theorem dL_law_381 : decode cL_law 381 = .ok (.iaload, 1) := by decide +kernel
theorem dL_law_382 : decode cL_law 382 = .ok (.invokevirtual 58, 3) := by decide +kernel
theorem dL_law_385 : decode cL_law 385 = .ok (.aload_n 2, 1) := by decide +kernel
theorem dL_law_386 : decode cL_law 386 = .ok (.aload_n 0, 1) := by decide +kernel
theorem dL_law_387 : decode cL_law 387 = .ok (.iload_n 3, 1) := by decide +kernel
theorem dL_law_388 : decode cL_law 388 = .ok (.iconst 1, 1) := by decide +kernel
theorem dL_law_389 : decode cL_law 389 = .ok (.iadd, 1) := by decide +kernel
theorem dL_law_390 : decode cL_law 390 = .ok (.iaload, 1) := by decide +kernel
theorem dL_law_391 : decode cL_law 391 = .ok (.aload_n 0, 1) := by decide +kernel
theorem dL_law_392 : decode cL_law 392 = .ok (.iload_n 3, 1) := by decide +kernel
theorem dL_law_393 : decode cL_law 393 = .ok (.iconst 2, 1) := by decide +kernel
theorem dL_law_394 : decode cL_law 394 = .ok (.iadd, 1) := by decide +kernel
theorem dL_law_395 : decode cL_law 395 = .ok (.iaload, 1) := by decide +kernel
theorem dL_law_396 : decode cL_law 396 = .ok (.invokevirtual 61, 3) := by decide +kernel
theorem dL_law_399 : decode cL_law 399 = .ok (.if_icmp .eq 226, 3) := by decide +kernel
theorem dL_law_402 : decode cL_law 402 = .ok (.iconst 0, 1) := by decide +kernel
theorem dL_law_403 : decode cL_law 403 = .ok (.ireturn, 1) := by decide +kernel
theorem dL_law_404 : decode cL_law 404 = .ok (.aload_n 1, 1) := by decide +kernel
theorem dL_law_405 : decode cL_law 405 = .ok (.aload_n 0, 1) := by decide +kernel
theorem dL_law_406 : decode cL_law 406 = .ok (.iload_n 3, 1) := by decide +kernel
theorem dL_law_407 : decode cL_law 407 = .ok (.iconst 1, 1) := by decide +kernel
theorem dL_law_408 : decode cL_law 408 = .ok (.iadd, 1) := by decide +kernel
theorem dL_law_409 : decode cL_law 409 = .ok (.iaload, 1) := by decide +kernel
theorem dL_law_410 : decode cL_law 410 = .ok (.aload_n 0, 1) := by decide +kernel
theorem dL_law_411 : decode cL_law 411 = .ok (.iload_n 3, 1) := by decide +kernel
theorem dL_law_412 : decode cL_law 412 = .ok (.iconst 2, 1) := by decide +kernel
theorem dL_law_413 : decode cL_law 413 = .ok (.iadd, 1) := by decide +kernel
theorem dL_law_414 : decode cL_law 414 = .ok (.iaload, 1) := by decide +kernel
theorem dL_law_415 : decode cL_law 415 = .ok (.aload_n 0, 1) := by decide +kernel
theorem dL_law_416 : decode cL_law 416 = .ok (.iload_n 3, 1) := by decide +kernel
theorem dL_law_417 : decode cL_law 417 = .ok (.iconst 3, 1) := by decide +kernel
theorem dL_law_418 : decode cL_law 418 = .ok (.iadd, 1) := by decide +kernel
theorem dL_law_419 : decode cL_law 419 = .ok (.iaload, 1) := by decide +kernel
theorem dL_law_420 : decode cL_law 420 = .ok (.invokevirtual 62, 3) := by decide +kernel
theorem dL_law_423 : decode cL_law 423 = .ok (.aload_n 2, 1) := by decide +kernel
theorem dL_law_424 : decode cL_law 424 = .ok (.aload_n 0, 1) := by decide +kernel
theorem dL_law_425 : decode cL_law 425 = .ok (.iload_n 3, 1) := by decide +kernel
theorem dL_law_426 : decode cL_law 426 = .ok (.iconst 1, 1) := by decide +kernel
theorem dL_law_427 : decode cL_law 427 = .ok (.iadd, 1) := by decide +kernel
theorem dL_law_428 : decode cL_law 428 = .ok (.iaload, 1) := by decide +kernel
theorem dL_law_429 : decode cL_law 429 = .ok (.aload_n 0, 1) := by decide +kernel
theorem dL_law_430 : decode cL_law 430 = .ok (.iload_n 3, 1) := by decide +kernel
theorem dL_law_431 : decode cL_law 431 = .ok (.iconst 2, 1) := by decide +kernel
theorem dL_law_432 : decode cL_law 432 = .ok (.iadd, 1) := by decide +kernel
theorem dL_law_433 : decode cL_law 433 = .ok (.iaload, 1) := by decide +kernel
theorem dL_law_434 : decode cL_law 434 = .ok (.aload_n 0, 1) := by decide +kernel
theorem dL_law_435 : decode cL_law 435 = .ok (.iload_n 3, 1) := by decide +kernel
theorem dL_law_436 : decode cL_law 436 = .ok (.iconst 3, 1) := by decide +kernel
theorem dL_law_437 : decode cL_law 437 = .ok (.iadd, 1) := by decide +kernel
theorem dL_law_438 : decode cL_law 438 = .ok (.iaload, 1) := by decide +kernel
theorem dL_law_439 : decode cL_law 439 = .ok (.invokevirtual 65, 3) := by decide +kernel
theorem dL_law_442 : decode cL_law 442 = .ok (.if_icmp .eq 183, 3) := by decide +kernel
theorem dL_law_445 : decode cL_law 445 = .ok (.iconst 0, 1) := by decide +kernel
theorem dL_law_446 : decode cL_law 446 = .ok (.ireturn, 1) := by decide +kernel
theorem dL_law_447 : decode cL_law 447 = .ok (.aload_n 1, 1) := by decide +kernel
theorem dL_law_448 : decode cL_law 448 = .ok (.aload_n 0, 1) := by decide +kernel
theorem dL_law_449 : decode cL_law 449 = .ok (.iload_n 3, 1) := by decide +kernel
theorem dL_law_450 : decode cL_law 450 = .ok (.iconst 1, 1) := by decide +kernel
theorem dL_law_451 : decode cL_law 451 = .ok (.iadd, 1) := by decide +kernel
theorem dL_law_452 : decode cL_law 452 = .ok (.iaload, 1) := by decide +kernel
theorem dL_law_453 : decode cL_law 453 = .ok (.invokevirtual 66, 3) := by decide +kernel
theorem dL_law_456 : decode cL_law 456 = .ok (.aload_n 2, 1) := by decide +kernel
theorem dL_law_457 : decode cL_law 457 = .ok (.aload_n 0, 1) := by decide +kernel
theorem dL_law_458 : decode cL_law 458 = .ok (.iload_n 3, 1) := by decide +kernel
theorem dL_law_459 : decode cL_law 459 = .ok (.iconst 1, 1) := by decide +kernel
theorem dL_law_460 : decode cL_law 460 = .ok (.iadd, 1) := by decide +kernel
theorem dL_law_461 : decode cL_law 461 = .ok (.iaload, 1) := by decide +kernel
theorem dL_law_462 : decode cL_law 462 = .ok (.invokevirtual 69, 3) := by decide +kernel
theorem dL_law_465 : decode cL_law 465 = .ok (.if_icmp .eq 160, 3) := by decide +kernel
theorem dL_law_468 : decode cL_law 468 = .ok (.iconst 0, 1) := by decide +kernel
theorem dL_law_469 : decode cL_law 469 = .ok (.ireturn, 1) := by decide +kernel
theorem dL_law_470 : decode cL_law 470 = .ok (.aload_n 1, 1) := by decide +kernel
theorem dL_law_471 : decode cL_law 471 = .ok (.aload_n 0, 1) := by decide +kernel
theorem dL_law_472 : decode cL_law 472 = .ok (.iload_n 3, 1) := by decide +kernel
theorem dL_law_473 : decode cL_law 473 = .ok (.iconst 1, 1) := by decide +kernel
theorem dL_law_474 : decode cL_law 474 = .ok (.iadd, 1) := by decide +kernel
theorem dL_law_475 : decode cL_law 475 = .ok (.iaload, 1) := by decide +kernel
theorem dL_law_476 : decode cL_law 476 = .ok (.aload_n 0, 1) := by decide +kernel
theorem dL_law_477 : decode cL_law 477 = .ok (.iload_n 3, 1) := by decide +kernel
theorem dL_law_478 : decode cL_law 478 = .ok (.iconst 2, 1) := by decide +kernel
theorem dL_law_479 : decode cL_law 479 = .ok (.iadd, 1) := by decide +kernel
theorem dL_law_480 : decode cL_law 480 = .ok (.iaload, 1) := by decide +kernel
theorem dL_law_481 : decode cL_law 481 = .ok (.aload_n 0, 1) := by decide +kernel
theorem dL_law_482 : decode cL_law 482 = .ok (.iload_n 3, 1) := by decide +kernel
theorem dL_law_483 : decode cL_law 483 = .ok (.iconst 3, 1) := by decide +kernel
theorem dL_law_484 : decode cL_law 484 = .ok (.iadd, 1) := by decide +kernel
theorem dL_law_485 : decode cL_law 485 = .ok (.iaload, 1) := by decide +kernel
theorem dL_law_486 : decode cL_law 486 = .ok (.invokevirtual 70, 3) := by decide +kernel
theorem dL_law_489 : decode cL_law 489 = .ok (.aload_n 2, 1) := by decide +kernel
theorem dL_law_490 : decode cL_law 490 = .ok (.aload_n 0, 1) := by decide +kernel
theorem dL_law_491 : decode cL_law 491 = .ok (.iload_n 3, 1) := by decide +kernel
theorem dL_law_492 : decode cL_law 492 = .ok (.iconst 1, 1) := by decide +kernel
theorem dL_law_493 : decode cL_law 493 = .ok (.iadd, 1) := by decide +kernel
theorem dL_law_494 : decode cL_law 494 = .ok (.iaload, 1) := by decide +kernel
theorem dL_law_495 : decode cL_law 495 = .ok (.aload_n 0, 1) := by decide +kernel
theorem dL_law_496 : decode cL_law 496 = .ok (.iload_n 3, 1) := by decide +kernel
theorem dL_law_497 : decode cL_law 497 = .ok (.iconst 2, 1) := by decide +kernel
theorem dL_law_498 : decode cL_law 498 = .ok (.iadd, 1) := by decide +kernel
theorem dL_law_499 : decode cL_law 499 = .ok (.iaload, 1) := by decide +kernel
theorem dL_law_500 : decode cL_law 500 = .ok (.aload_n 0, 1) := by decide +kernel
theorem dL_law_501 : decode cL_law 501 = .ok (.iload_n 3, 1) := by decide +kernel
theorem dL_law_502 : decode cL_law 502 = .ok (.iconst 3, 1) := by decide +kernel
theorem dL_law_503 : decode cL_law 503 = .ok (.iadd, 1) := by decide +kernel
theorem dL_law_504 : decode cL_law 504 = .ok (.iaload, 1) := by decide +kernel
theorem dL_law_505 : decode cL_law 505 = .ok (.invokevirtual 73, 3) := by decide +kernel
theorem dL_law_508 : decode cL_law 508 = .ok (.if_icmp .eq 117, 3) := by decide +kernel
theorem dL_law_511 : decode cL_law 511 = .ok (.iconst 0, 1) := by decide +kernel
theorem dL_law_512 : decode cL_law 512 = .ok (.ireturn, 1) := by decide +kernel
theorem dL_law_513 : decode cL_law 513 = .ok (.aload_n 1, 1) := by decide +kernel
theorem dL_law_514 : decode cL_law 514 = .ok (.aload_n 0, 1) := by decide +kernel
theorem dL_law_515 : decode cL_law 515 = .ok (.iload_n 3, 1) := by decide +kernel
theorem dL_law_516 : decode cL_law 516 = .ok (.iconst 1, 1) := by decide +kernel
theorem dL_law_517 : decode cL_law 517 = .ok (.iadd, 1) := by decide +kernel
theorem dL_law_518 : decode cL_law 518 = .ok (.iaload, 1) := by decide +kernel
theorem dL_law_519 : decode cL_law 519 = .ok (.aload_n 0, 1) := by decide +kernel
theorem dL_law_520 : decode cL_law 520 = .ok (.iload_n 3, 1) := by decide +kernel
theorem dL_law_521 : decode cL_law 521 = .ok (.iconst 2, 1) := by decide +kernel
theorem dL_law_522 : decode cL_law 522 = .ok (.iadd, 1) := by decide +kernel
theorem dL_law_523 : decode cL_law 523 = .ok (.iaload, 1) := by decide +kernel
theorem dL_law_524 : decode cL_law 524 = .ok (.invokevirtual 74, 3) := by decide +kernel
theorem dL_law_527 : decode cL_law 527 = .ok (.aload_n 2, 1) := by decide +kernel
theorem dL_law_528 : decode cL_law 528 = .ok (.aload_n 0, 1) := by decide +kernel
theorem dL_law_529 : decode cL_law 529 = .ok (.iload_n 3, 1) := by decide +kernel
theorem dL_law_530 : decode cL_law 530 = .ok (.iconst 1, 1) := by decide +kernel
theorem dL_law_531 : decode cL_law 531 = .ok (.iadd, 1) := by decide +kernel
theorem dL_law_532 : decode cL_law 532 = .ok (.iaload, 1) := by decide +kernel
theorem dL_law_533 : decode cL_law 533 = .ok (.aload_n 0, 1) := by decide +kernel
theorem dL_law_534 : decode cL_law 534 = .ok (.iload_n 3, 1) := by decide +kernel
theorem dL_law_535 : decode cL_law 535 = .ok (.iconst 2, 1) := by decide +kernel
theorem dL_law_536 : decode cL_law 536 = .ok (.iadd, 1) := by decide +kernel
theorem dL_law_537 : decode cL_law 537 = .ok (.iaload, 1) := by decide +kernel
theorem dL_law_538 : decode cL_law 538 = .ok (.invokevirtual 77, 3) := by decide +kernel
theorem dL_law_541 : decode cL_law 541 = .ok (.if_icmp .eq 84, 3) := by decide +kernel
theorem dL_law_544 : decode cL_law 544 = .ok (.iconst 0, 1) := by decide +kernel
theorem dL_law_545 : decode cL_law 545 = .ok (.ireturn, 1) := by decide +kernel
theorem dL_law_546 : decode cL_law 546 = .ok (.aload_n 1, 1) := by decide +kernel
theorem dL_law_547 : decode cL_law 547 = .ok (.aload_n 0, 1) := by decide +kernel
theorem dL_law_548 : decode cL_law 548 = .ok (.iload_n 3, 1) := by decide +kernel
theorem dL_law_549 : decode cL_law 549 = .ok (.iconst 1, 1) := by decide +kernel
theorem dL_law_550 : decode cL_law 550 = .ok (.iadd, 1) := by decide +kernel
theorem dL_law_551 : decode cL_law 551 = .ok (.iaload, 1) := by decide +kernel
theorem dL_law_552 : decode cL_law 552 = .ok (.aload_n 0, 1) := by decide +kernel
theorem dL_law_553 : decode cL_law 553 = .ok (.iload_n 3, 1) := by decide +kernel
theorem dL_law_554 : decode cL_law 554 = .ok (.iconst 2, 1) := by decide +kernel
theorem dL_law_555 : decode cL_law 555 = .ok (.iadd, 1) := by decide +kernel
theorem dL_law_556 : decode cL_law 556 = .ok (.iaload, 1) := by decide +kernel
theorem dL_law_557 : decode cL_law 557 = .ok (.invokevirtual 78, 3) := by decide +kernel
theorem dL_law_560 : decode cL_law 560 = .ok (.aload_n 2, 1) := by decide +kernel
theorem dL_law_561 : decode cL_law 561 = .ok (.aload_n 0, 1) := by decide +kernel
theorem dL_law_562 : decode cL_law 562 = .ok (.iload_n 3, 1) := by decide +kernel
theorem dL_law_563 : decode cL_law 563 = .ok (.iconst 1, 1) := by decide +kernel
theorem dL_law_564 : decode cL_law 564 = .ok (.iadd, 1) := by decide +kernel
theorem dL_law_565 : decode cL_law 565 = .ok (.iaload, 1) := by decide +kernel
theorem dL_law_566 : decode cL_law 566 = .ok (.aload_n 0, 1) := by decide +kernel
theorem dL_law_567 : decode cL_law 567 = .ok (.iload_n 3, 1) := by decide +kernel
theorem dL_law_568 : decode cL_law 568 = .ok (.iconst 2, 1) := by decide +kernel
theorem dL_law_569 : decode cL_law 569 = .ok (.iadd, 1) := by decide +kernel
theorem dL_law_570 : decode cL_law 570 = .ok (.iaload, 1) := by decide +kernel
theorem dL_law_571 : decode cL_law 571 = .ok (.invokevirtual 81, 3) := by decide +kernel
theorem dL_law_574 : decode cL_law 574 = .ok (.if_icmp .eq 51, 3) := by decide +kernel
theorem dL_law_577 : decode cL_law 577 = .ok (.iconst 0, 1) := by decide +kernel
theorem dL_law_578 : decode cL_law 578 = .ok (.ireturn, 1) := by decide +kernel
theorem dL_law_579 : decode cL_law 579 = .ok (.aload_n 1, 1) := by decide +kernel
theorem dL_law_580 : decode cL_law 580 = .ok (.aload_n 0, 1) := by decide +kernel
theorem dL_law_581 : decode cL_law 581 = .ok (.iload_n 3, 1) := by decide +kernel
theorem dL_law_582 : decode cL_law 582 = .ok (.iconst 1, 1) := by decide +kernel
theorem dL_law_583 : decode cL_law 583 = .ok (.iadd, 1) := by decide +kernel
theorem dL_law_584 : decode cL_law 584 = .ok (.iaload, 1) := by decide +kernel
theorem dL_law_585 : decode cL_law 585 = .ok (.aload_n 0, 1) := by decide +kernel
theorem dL_law_586 : decode cL_law 586 = .ok (.iload_n 3, 1) := by decide +kernel
theorem dL_law_587 : decode cL_law 587 = .ok (.iconst 2, 1) := by decide +kernel
theorem dL_law_588 : decode cL_law 588 = .ok (.iadd, 1) := by decide +kernel
theorem dL_law_589 : decode cL_law 589 = .ok (.iaload, 1) := by decide +kernel
theorem dL_law_590 : decode cL_law 590 = .ok (.invokevirtual 82, 3) := by decide +kernel
theorem dL_law_593 : decode cL_law 593 = .ok (.aload_n 2, 1) := by decide +kernel
theorem dL_law_594 : decode cL_law 594 = .ok (.aload_n 0, 1) := by decide +kernel
theorem dL_law_595 : decode cL_law 595 = .ok (.iload_n 3, 1) := by decide +kernel
theorem dL_law_596 : decode cL_law 596 = .ok (.iconst 1, 1) := by decide +kernel
theorem dL_law_597 : decode cL_law 597 = .ok (.iadd, 1) := by decide +kernel
theorem dL_law_598 : decode cL_law 598 = .ok (.iaload, 1) := by decide +kernel
theorem dL_law_599 : decode cL_law 599 = .ok (.aload_n 0, 1) := by decide +kernel
theorem dL_law_600 : decode cL_law 600 = .ok (.iload_n 3, 1) := by decide +kernel
theorem dL_law_601 : decode cL_law 601 = .ok (.iconst 2, 1) := by decide +kernel
theorem dL_law_602 : decode cL_law 602 = .ok (.iadd, 1) := by decide +kernel
theorem dL_law_603 : decode cL_law 603 = .ok (.iaload, 1) := by decide +kernel
theorem dL_law_604 : decode cL_law 604 = .ok (.invokevirtual 85, 3) := by decide +kernel
theorem dL_law_607 : decode cL_law 607 = .ok (.if_icmp .eq 18, 3) := by decide +kernel
theorem dL_law_610 : decode cL_law 610 = .ok (.iconst 0, 1) := by decide +kernel
theorem dL_law_611 : decode cL_law 611 = .ok (.ireturn, 1) := by decide +kernel
theorem dL_law_612 : decode cL_law 612 = .ok (.aload_n 1, 1) := by decide +kernel
theorem dL_law_613 : decode cL_law 613 = .ok (.invokevirtual 86, 3) := by decide +kernel
theorem dL_law_616 : decode cL_law 616 = .ok (.aload_n 2, 1) := by decide +kernel
theorem dL_law_617 : decode cL_law 617 = .ok (.invokevirtual 89, 3) := by decide +kernel
theorem dL_law_620 : decode cL_law 620 = .ok (.if_icmp .eq 5, 3) := by decide +kernel
theorem dL_law_623 : decode cL_law 623 = .ok (.iconst 0, 1) := by decide +kernel
theorem dL_law_624 : decode cL_law 624 = .ok (.ireturn, 1) := by decide +kernel
theorem dL_law_625 : decode cL_law 625 = .ok (.iinc 3 4, 3) := by decide +kernel
theorem dL_law_628 : decode cL_law 628 = .ok (.goto (-610), 3) := by decide +kernel
theorem dL_law_631 : decode cL_law 631 = .ok (.iconst 1, 1) := by decide +kernel
theorem dL_law_632 : decode cL_law 632 = .ok (.ireturn, 1) := by decide +kernel
