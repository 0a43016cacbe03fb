theorem dX8_set_60 : decode cX8_set 60 = .ok (.imul, 1) := by decide +kernel
theorem dX8_set_61 : decode cX8_set 61 = .ok (.iload_n 1, 1) := by decide +kernel
theorem dX8_set_62 : decode cX8_set 62 = .ok (.iadd, 1) := by decide +kernel
theorem dX8_set_63 : decode cX8_set 63 = .ok (.iload_n 3, 1) := by decide +kernel
theorem dX8_set_64 : decode cX8_set 64 = .ok (.iastore, 1) := by decide +kernel
theorem dX8_set_65 : decode cX8_set 65 = .ok (.iload 4, 2) := by decide +kernel
theorem dX8_set_67 : decode cX8_set 67 = .ok (.ireturn, 1) := by decide +kernel
theorem dX8_at_0 : decode cX8_at 0 = .ok (.aload_n 0, 1) := by decide +kernel
theorem dX8_at_1 : decode cX8_at 1 = .ok (.iload_n 1, 1) := by decide +kernel
theorem dX8_at_2 : decode cX8_at 2 = .ok (.invokevirtual 43, 3) := by decide +kernel
theorem dX8_at_5 : decode cX8_at 5 = .ok (.ifCond .eq 20, 3) := by decide +kernel
theorem dX8_at_8 : decode cX8_at 8 = .ok (.aload_n 0, 1) := by decide +kernel
theorem dX8_at_9 : decode cX8_at 9 = .ok (.iload_n 2, 1) := by decide +kernel
theorem dX8_at_10 : decode cX8_at 10 = .ok (.invokevirtual 43, 3) := by decide +kernel
theorem dX8_at_13 : decode cX8_at 13 = .ok (.ifCond .eq 12, 3) := by decide +kernel
theorem dX8_at_16 : decode cX8_at 16 = .ok (.aload_n 0, 1) := by decide +kernel
theorem dX8_at_17 : decode cX8_at 17 = .ok (.iload_n 1, 1) := by decide +kernel
theorem dX8_at_18 : decode cX8_at 18 = .ok (.iload_n 2, 1) := by decide +kernel
theorem dX8_at_19 : decode cX8_at 19 = .ok (.invokevirtual 47, 3) := by decide +kernel
theorem dX8_at_22 : decode cX8_at 22 = .ok (.goto 4, 3) := by decide +kernel
theorem dX8_at_25 : decode cX8_at 25 = .ok (.iconst (-1), 1) := by decide +kernel
theorem dX8_at_26 : decode cX8_at 26 = .ok (.ireturn, 1) := by decide +kernel
theorem dX8_isTwice_0 : decode cX8_isTwice 0 = .ok (.iload_n 0, 1) := by decide +kernel
theorem dX8_isTwice_1 : decode cX8_isTwice 1 = .ok (.iload_n 1, 1) := by decide +kernel
theorem dX8_isTwice_2 : decode cX8_isTwice 2 = .ok (.if_icmp .le 7, 3) := by decide +kernel
theorem dX8_isTwice_5 : decode cX8_isTwice 5 = .ok (.iload_n 0, 1) := by decide +kernel
theorem dX8_isTwice_6 : decode cX8_isTwice 6 = .ok (.goto 4, 3) := by decide +kernel
theorem dX8_isTwice_9 : decode cX8_isTwice 9 = .ok (.iload_n 1, 1) := by decide +kernel
theorem dX8_isTwice_10 : decode cX8_isTwice 10 = .ok (.istore_n 3, 1) := by decide +kernel
theorem dX8_isTwice_11 : decode cX8_isTwice 11 = .ok (.iload_n 2, 1) := by decide +kernel
theorem dX8_isTwice_12 : decode cX8_isTwice 12 = .ok (.iload_n 3, 1) := by decide +kernel
theorem dX8_isTwice_13 : decode cX8_isTwice 13 = .ok (.if_icmp .le 7, 3) := by decide +kernel
theorem dX8_isTwice_16 : decode cX8_isTwice 16 = .ok (.iload_n 2, 1) := by decide +kernel
theorem dX8_isTwice_17 : decode cX8_isTwice 17 = .ok (.goto 4, 3) := by decide +kernel
theorem dX8_isTwice_20 : decode cX8_isTwice 20 = .ok (.iload_n 3, 1) := by decide +kernel
theorem dX8_isTwice_21 : decode cX8_isTwice 21 = .ok (.istore_n 3, 1) := by decide +kernel
theorem dX8_isTwice_22 : decode cX8_isTwice 22 = .ok (.iload_n 0, 1) := by decide +kernel
theorem dX8_isTwice_23 : decode cX8_isTwice 23 = .ok (.iload_n 3, 1) := by decide +kernel
theorem dX8_isTwice_24 : decode cX8_isTwice 24 = .ok (.if_icmp .ne 7, 3) := by decide +kernel
theorem dX8_isTwice_27 : decode cX8_isTwice 27 = .ok (.iconst 1, 1) := by decide +kernel
theorem dX8_isTwice_28 : decode cX8_isTwice 28 = .ok (.goto 4, 3) := by decide +kernel
theorem dX8_isTwice_31 : decode cX8_isTwice 31 = .ok (.iconst 0, 1) := by decide +kernel
theorem dX8_isTwice_32 : decode cX8_isTwice 32 = .ok (.iload_n 1, 1) := by decide +kernel
theorem dX8_isTwice_33 : decode cX8_isTwice 33 = .ok (.iload_n 3, 1) := by decide +kernel
theorem dX8_isTwice_34 : decode cX8_isTwice 34 = .ok (.if_icmp .ne 7, 3) := by decide +kernel
theorem dX8_isTwice_37 : decode cX8_isTwice 37 = .ok (.iconst 1, 1) := by decide +kernel
theorem dX8_isTwice_38 : decode cX8_isTwice 38 = .ok (.goto 4, 3) := by decide +kernel
theorem dX8_isTwice_41 : decode cX8_isTwice 41 = .ok (.iconst 0, 1) := by decide +kernel
theorem dX8_isTwice_42 : decode cX8_isTwice 42 = .ok (.iadd, 1) := by decide +kernel
theorem dX8_isTwice_43 : decode cX8_isTwice 43 = .ok (.iload_n 2, 1) := by decide +kernel
theorem dX8_isTwice_44 : decode cX8_isTwice 44 = .ok (.iload_n 3, 1) := by decide +kernel
theorem dX8_isTwice_45 : decode cX8_isTwice 45 = .ok (.if_icmp .ne 7, 3) := by decide +kernel
theorem dX8_isTwice_48 : decode cX8_isTwice 48 = .ok (.iconst 1, 1) := by decide +kernel
theorem dX8_isTwice_49 : decode cX8_isTwice 49 = .ok (.goto 4, 3) := by decide +kernel
theorem dX8_isTwice_52 : decode cX8_isTwice 52 = .ok (.iconst 0, 1) := by decide +kernel
theorem dX8_isTwice_53 : decode cX8_isTwice 53 = .ok (.iadd, 1) := by decide +kernel
theorem dX8_isTwice_54 : decode cX8_isTwice 54 = .ok (.iconst 1, 1) := by decide +kernel
theorem dX8_isTwice_55 : decode cX8_isTwice 55 = .ok (.if_icmp .le 7, 3) := by decide +kernel
theorem dX8_isTwice_58 : decode cX8_isTwice 58 = .ok (.iconst 1, 1) := by decide +kernel
theorem dX8_isTwice_59 : decode cX8_isTwice 59 = .ok (.goto 4, 3) := by decide +kernel
theorem dX8_isTwice_62 : decode cX8_isTwice 62 = .ok (.iconst 0, 1) := by decide +kernel
theorem dX8_isTwice_63 : decode cX8_isTwice 63 = .ok (.ireturn, 1) := by decide +kernel
theorem dX8_isBroken_0 : decode cX8_isBroken 0 = .ok (.iload_n 2, 1) := by decide +kernel
theorem dX8_isBroken_1 : decode cX8_isBroken 1 = .ok (.bipush 64, 2) := by decide +kernel
theorem dX8_isBroken_3 : decode cX8_isBroken 3 = .ok (.idiv, 1) := by decide +kernel
theorem dX8_isBroken_4 : decode cX8_isBroken 4 = .ok (.bipush 8, 2) := by decide +kernel
theorem dX8_isBroken_6 : decode cX8_isBroken 6 = .ok (.irem, 1) := by decide +kernel
theorem dX8_isBroken_7 : decode cX8_isBroken 7 = .ok (.istore_n 3, 1) := by decide +kernel
theorem dX8_isBroken_8 : decode cX8_isBroken 8 = .ok (.iload_n 2, 1) := by decide +kernel
theorem dX8_isBroken_9 : decode cX8_isBroken 9 = .ok (.bipush 8, 2) := by decide +kernel
theorem dX8_isBroken_11 : decode cX8_isBroken 11 = .ok (.idiv, 1) := by decide +kernel
theorem dX8_isBroken_12 : decode cX8_isBroken 12 = .ok (.bipush 8, 2) := by decide +kernel
theorem dX8_isBroken_14 : decode cX8_isBroken 14 = .ok (.irem, 1) := by decide +kernel
theorem dX8_isBroken_15 : decode cX8_isBroken 15 = .ok (.istore 4, 2) := by decide +kernel
theorem dX8_isBroken_17 : decode cX8_isBroken 17 = .ok (.iload_n 2, 1) := by decide +kernel
theorem dX8_isBroken_18 : decode cX8_isBroken 18 = .ok (.bipush 8, 2) := by decide +kernel
theorem dX8_isBroken_20 : decode cX8_isBroken 20 = .ok (.irem, 1) := by decide +kernel
theorem dX8_isBroken_21 : decode cX8_isBroken 21 = .ok (.istore 5, 2) := by decide +kernel
theorem dX8_isBroken_23 : decode cX8_isBroken 23 = .ok (.iload_n 1, 1) := by decide +kernel
theorem dX8_isBroken_24 : decode cX8_isBroken 24 = .ok (.iconst 3, 1) := by decide +kernel
theorem dX8_isBroken_25 : decode cX8_isBroken 25 = .ok (.if_icmp .ne 9, 3) := by decide +kernel
theorem dX8_isBroken_28 : decode cX8_isBroken 28 = .ok (.aload_n 0, 1) := by decide +kernel
theorem dX8_isBroken_29 : decode cX8_isBroken 29 = .ok (.iload_n 2, 1) := by decide +kernel
theorem dX8_isBroken_30 : decode cX8_isBroken 30 = .ok (.invokevirtual 51, 3) := by decide +kernel
theorem dX8_isBroken_33 : decode cX8_isBroken 33 = .ok (.ireturn, 1) := by decide +kernel
theorem dX8_isBroken_34 : decode cX8_isBroken 34 = .ok (.iload_n 1, 1) := by decide +kernel
theorem dX8_isBroken_35 : decode cX8_isBroken 35 = .ok (.iconst 1, 1) := by decide +kernel
theorem dX8_isBroken_36 : decode cX8_isBroken 36 = .ok (.if_icmp .ne 98, 3) := by decide +kernel
theorem dX8_isBroken_39 : decode cX8_isBroken 39 = .ok (.iload_n 2, 1) := by decide +kernel
theorem dX8_isBroken_40 : decode cX8_isBroken 40 = .ok (.sipush 512, 3) := by decide +kernel
theorem dX8_isBroken_43 : decode cX8_isBroken 43 = .ok (.idiv, 1) := by decide +kernel
theorem dX8_isBroken_44 : decode cX8_isBroken 44 = .ok (.istore 6, 2) := by decide +kernel
theorem dX8_isBroken_46 : decode cX8_isBroken 46 = .ok (.iload 6, 2) := by decide +kernel
theorem dX8_isBroken_48 : decode cX8_isBroken 48 = .ok (.iload_n 3, 1) := by decide +kernel
theorem dX8_isBroken_49 : decode cX8_isBroken 49 = .ok (.if_icmp .ge 83, 3) := by decide +kernel
theorem dX8_isBroken_52 : decode cX8_isBroken 52 = .ok (.iload_n 3, 1) := by decide +kernel
theorem dX8_isBroken_53 : decode cX8_isBroken 53 = .ok (.iload 4, 2) := by decide +kernel
theorem dX8_isBroken_55 : decode cX8_isBroken 55 = .ok (.if_icmp .ge 77, 3) := by decide +kernel
theorem dX8_isBroken_58 : decode cX8_isBroken 58 = .ok (.iload 4, 2) := by decide +kernel
theorem dX8_isBroken_60 : decode cX8_isBroken 60 = .ok (.iload 5, 2) := by decide +kernel
theorem dX8_isBroken_62 : decode cX8_isBroken 62 = .ok (.if_icmp .ge 70, 3) := by decide +kernel
theorem dX8_isBroken_65 : decode cX8_isBroken 65 = .ok (.iload 5, 2) := by decide +kernel
theorem dX8_isBroken_67 : decode cX8_isBroken 67 = .ok (.aload_n 0, 1) := by decide +kernel
theorem dX8_isBroken_68 : decode cX8_isBroken 68 = .ok (.getfield 7, 3) := by decide +kernel
theorem dX8_isBroken_71 : decode cX8_isBroken 71 = .ok (.if_icmp .ge 61, 3) := by decide +kernel
theorem dX8_isBroken_74 : decode cX8_isBroken 74 = .ok (.aload_n 0, 1) := by decide +kernel
theorem dX8_isBroken_75 : decode cX8_isBroken 75 = .ok (.iload 6, 2) := by decide +kernel
theorem dX8_isBroken_77 : decode cX8_isBroken 77 = .ok (.iload_n 3, 1) := by decide +kernel
theorem dX8_isBroken_78 : decode cX8_isBroken 78 = .ok (.invokevirtual 47, 3) := by decide +kernel
theorem dX8_isBroken_81 : decode cX8_isBroken 81 = .ok (.aload_n 0, 1) := by decide +kernel
theorem dX8_isBroken_82 : decode cX8_isBroken 82 = .ok (.iload 4, 2) := by decide +kernel
theorem dX8_isBroken_84 : decode cX8_isBroken 84 = .ok (.iload 5, 2) := by decide +kernel
theorem dX8_isBroken_86 : decode cX8_isBroken 86 = .ok (.invokevirtual 47, 3) := by decide +kernel
theorem dX8_isBroken_89 : decode cX8_isBroken 89 = .ok (.iadd, 1) := by decide +kernel
theorem dX8_isBroken_90 : decode cX8_isBroken 90 = .ok (.aload_n 0, 1) := by decide +kernel
theorem dX8_isBroken_91 : decode cX8_isBroken 91 = .ok (.iload 6, 2) := by decide +kernel
theorem dX8_isBroken_93 : decode cX8_isBroken 93 = .ok (.iload 4, 2) := by decide +kernel
theorem dX8_isBroken_95 : decode cX8_isBroken 95 = .ok (.invokevirtual 47, 3) := by decide +kernel
theorem dX8_isBroken_98 : decode cX8_isBroken 98 = .ok (.aload_n 0, 1) := by decide +kernel
theorem dX8_isBroken_99 : decode cX8_isBroken 99 = .ok (.iload_n 3, 1) := by decide +kernel
theorem dX8_isBroken_100 : decode cX8_isBroken 100 = .ok (.iload 5, 2) := by decide +kernel
theorem dX8_isBroken_102 : decode cX8_isBroken 102 = .ok (.invokevirtual 47, 3) := by decide +kernel
theorem dX8_isBroken_105 : decode cX8_isBroken 105 = .ok (.iadd, 1) := by decide +kernel
theorem dX8_isBroken_106 : decode cX8_isBroken 106 = .ok (.aload_n 0, 1) := by decide +kernel
theorem dX8_isBroken_107 : decode cX8_isBroken 107 = .ok (.iload 6, 2) := by decide +kernel
theorem dX8_isBroken_109 : decode cX8_isBroken 109 = .ok (.iload 5, 2) := by decide +kernel
theorem dX8_isBroken_111 : decode cX8_isBroken 111 = .ok (.invokevirtual 47, 3) := by decide +kernel
theorem dX8_isBroken_114 : decode cX8_isBroken 114 = .ok (.aload_n 0, 1) := by decide +kernel
theorem dX8_isBroken_115 : decode cX8_isBroken 115 = .ok (.iload_n 3, 1) := by decide +kernel
theorem dX8_isBroken_116 : decode cX8_isBroken 116 = .ok (.iload 4, 2) := by decide +kernel
theorem dX8_isBroken_118 : decode cX8_isBroken 118 = .ok (.invokevirtual 47, 3) := by decide +kernel
theorem dX8_isBroken_121 : decode cX8_isBroken 121 = .ok (.iadd, 1) := by decide +kernel
theorem dX8_isBroken_122 : decode cX8_isBroken 122 = .ok (.invokestatic 54, 3) := by decide +kernel
theorem dX8_isBroken_125 : decode cX8_isBroken 125 = .ok (.ifCond .ne 7, 3) := by decide +kernel
theorem dX8_isBroken_128 : decode cX8_isBroken 128 = .ok (.iconst 1, 1) := by decide +kernel
theorem dX8_isBroken_129 : decode cX8_isBroken 129 = .ok (.goto 4, 3) := by decide +kernel
theorem dX8_isBroken_132 : decode cX8_isBroken 132 = .ok (.iconst 0, 1) := by decide +kernel
theorem dX8_isBroken_133 : decode cX8_isBroken 133 = .ok (.ireturn, 1) := by decide +kernel
theorem dX8_isBroken_134 : decode cX8_isBroken 134 = .ok (.iload_n 3, 1) := by decide +kernel
theorem dX8_isBroken_135 : decode cX8_isBroken 135 = .ok (.aload_n 0, 1) := by decide +kernel
theorem dX8_isBroken_136 : decode cX8_isBroken 136 = .ok (.getfield 7, 3) := by decide +kernel
theorem dX8_isBroken_139 : decode cX8_isBroken 139 = .ok (.if_icmp .ge 21, 3) := by decide +kernel
theorem dX8_isBroken_142 : decode cX8_isBroken 142 = .ok (.iload 4, 2) := by decide +kernel
theorem dX8_isBroken_144 : decode cX8_isBroken 144 = .ok (.aload_n 0, 1) := by decide +kernel
theorem dX8_isBroken_145 : decode cX8_isBroken 145 = .ok (.getfield 7, 3) := by decide +kernel
theorem dX8_isBroken_148 : decode cX8_isBroken 148 = .ok (.if_icmp .ge 12, 3) := by decide +kernel
theorem dX8_isBroken_151 : decode cX8_isBroken 151 = .ok (.iload 5, 2) := by decide +kernel
theorem dX8_isBroken_153 : decode cX8_isBroken 153 = .ok (.aload_n 0, 1) := by decide +kernel
theorem dX8_isBroken_154 : decode cX8_isBroken 154 = .ok (.getfield 7, 3) := by decide +kernel
theorem dX8_isBroken_157 : decode cX8_isBroken 157 = .ok (.if_icmp .lt 5, 3) := by decide +kernel
theorem dX8_isBroken_160 : decode cX8_isBroken 160 = .ok (.iconst 0, 1) := by decide +kernel
theorem dX8_isBroken_161 : decode cX8_isBroken 161 = .ok (.ireturn, 1) := by decide +kernel
theorem dX8_isBroken_162 : decode cX8_isBroken 162 = .ok (.iload_n 1, 1) := by decide +kernel
theorem dX8_isBroken_163 : decode cX8_isBroken 163 = .ok (.ifCond .ne 54, 3) := by decide +kernel
theorem dX8_isBroken_166 : decode cX8_isBroken 166 = .ok (.iload_n 3, 1) := by decide +kernel
theorem dX8_isBroken_167 : decode cX8_isBroken 167 = .ok (.iload 5, 2) := by decide +kernel
theorem dX8_isBroken_169 : decode cX8_isBroken 169 = .ok (.if_icmp .ge 46, 3) := by decide +kernel
theorem dX8_isBroken_172 : decode cX8_isBroken 172 = .ok (.iload 4, 2) := by decide +kernel
theorem dX8_isBroken_174 : decode cX8_isBroken 174 = .ok (.iload_n 3, 1) := by decide +kernel
theorem dX8_isBroken_175 : decode cX8_isBroken 175 = .ok (.if_icmp .eq 40, 3) := by decide +kernel
theorem dX8_isBroken_178 : decode cX8_isBroken 178 = .ok (.iload 4, 2) := by decide +kernel
theorem dX8_isBroken_180 : decode cX8_isBroken 180 = .ok (.iload 5, 2) := by decide +kernel
theorem dX8_isBroken_182 : decode cX8_isBroken 182 = .ok (.if_icmp .eq 33, 3) := by decide +kernel
theorem dX8_isBroken_185 : decode cX8_isBroken 185 = .ok (.aload_n 0, 1) := by decide +kernel
theorem dX8_isBroken_186 : decode cX8_isBroken 186 = .ok (.iload_n 3, 1) := by decide +kernel
theorem dX8_isBroken_187 : decode cX8_isBroken 187 = .ok (.iload 5, 2) := by decide +kernel
theorem dX8_isBroken_189 : decode cX8_isBroken 189 = .ok (.invokevirtual 47, 3) := by decide +kernel
theorem dX8_isBroken_192 : decode cX8_isBroken 192 = .ok (.aload_n 0, 1) := by decide +kernel
theorem dX8_isBroken_193 : decode cX8_isBroken 193 = .ok (.iload_n 3, 1) := by decide +kernel
theorem dX8_isBroken_194 : decode cX8_isBroken 194 = .ok (.iload 4, 2) := by decide +kernel
theorem dX8_isBroken_196 : decode cX8_isBroken 196 = .ok (.invokevirtual 47, 3) := by decide +kernel
theorem dX8_isBroken_199 : decode cX8_isBroken 199 = .ok (.aload_n 0, 1) := by decide +kernel
theorem dX8_isBroken_200 : decode cX8_isBroken 200 = .ok (.iload 4, 2) := by decide +kernel
theorem dX8_isBroken_202 : decode cX8_isBroken 202 = .ok (.iload 5, 2) := by decide +kernel
theorem dX8_isBroken_204 : decode cX8_isBroken 204 = .ok (.invokevirtual 47, 3) := by decide +kernel
theorem dX8_isBroken_207 : decode cX8_isBroken 207 = .ok (.iadd, 1) := by decide +kernel
theorem dX8_isBroken_208 : decode cX8_isBroken 208 = .ok (.if_icmp .le 7, 3) := by decide +kernel
theorem dX8_isBroken_211 : decode cX8_isBroken 211 = .ok (.iconst 1, 1) := by decide +kernel
theorem dX8_isBroken_212 : decode cX8_isBroken 212 = .ok (.goto 4, 3) := by decide +kernel
theorem dX8_isBroken_215 : decode cX8_isBroken 215 = .ok (.iconst 0, 1) := by decide +kernel
theorem dX8_isBroken_216 : decode cX8_isBroken 216 = .ok (.ireturn, 1) := by decide +kernel
theorem dX8_isBroken_217 : decode cX8_isBroken 217 = .ok (.iload_n 3, 1) := by decide +kernel
theorem dX8_isBroken_218 : decode cX8_isBroken 218 = .ok (.iload 4, 2) := by decide +kernel
theorem dX8_isBroken_220 : decode cX8_isBroken 220 = .ok (.if_icmp .ge 42, 3) := by decide +kernel
theorem dX8_isBroken_223 : decode cX8_isBroken 223 = .ok (.iload 4, 2) := by decide +kernel
theorem dX8_isBroken_225 : decode cX8_isBroken 225 = .ok (.iload 5, 2) := by decide +kernel
theorem dX8_isBroken_227 : decode cX8_isBroken 227 = .ok (.if_icmp .ge 35, 3) := by decide +kernel
theorem dX8_isBroken_230 : decode cX8_isBroken 230 = .ok (.aload_n 0, 1) := by decide +kernel
theorem dX8_isBroken_231 : decode cX8_isBroken 231 = .ok (.iload_n 3, 1) := by decide +kernel
theorem dX8_isBroken_232 : decode cX8_isBroken 232 = .ok (.iload 4, 2) := by decide +kernel
theorem dX8_isBroken_234 : decode cX8_isBroken 234 = .ok (.invokevirtual 47, 3) := by decide +kernel
theorem dX8_isBroken_237 : decode cX8_isBroken 237 = .ok (.aload_n 0, 1) := by decide +kernel
theorem dX8_isBroken_238 : decode cX8_isBroken 238 = .ok (.iload_n 3, 1) := by decide +kernel
theorem dX8_isBroken_239 : decode cX8_isBroken 239 = .ok (.iload 5, 2) := by decide +kernel
theorem dX8_isBroken_241 : decode cX8_isBroken 241 = .ok (.invokevirtual 47, 3) := by decide +kernel
theorem dX8_isBroken_244 : decode cX8_isBroken 244 = .ok (.aload_n 0, 1) := by decide +kernel
theorem dX8_isBroken_245 : decode cX8_isBroken 245 = .ok (.iload 4, 2) := by decide +kernel
theorem dX8_isBroken_247 : decode cX8_isBroken 247 = .ok (.iload 5, 2) := by decide +kernel
theorem dX8_isBroken_249 : decode cX8_isBroken 249 = .ok (.invokevirtual 47, 3) := by decide +kernel
theorem dX8_isBroken_252 : decode cX8_isBroken 252 = .ok (.invokestatic 54, 3) := by decide +kernel
theorem dX8_isBroken_255 : decode cX8_isBroken 255 = .ok (.ifCond .ne 7, 3) := by decide +kernel
theorem dX8_isBroken_258 : decode cX8_isBroken 258 = .ok (.iconst 1, 1) := by decide +kernel
theorem dX8_isBroken_259 : decode cX8_isBroken 259 = .ok (.goto 4, 3) := by decide +kernel
theorem dX8_isBroken_262 : decode cX8_isBroken 262 = .ok (.iconst 0, 1) := by decide +kernel
theorem dX8_isBroken_263 : decode cX8_isBroken 263 = .ok (.ireturn, 1) := by decide +kernel
theorem dX8_isAbove_0 : decode cX8_isAbove 0 = .ok (.iconst 0, 1) := by decide +kernel
theorem dX8_isAbove_1 : decode cX8_isAbove 1 = .ok (.istore_n 2, 1) := by decide +kernel
theorem dX8_isAbove_2 : decode cX8_isAbove 2 = .ok (.iconst 0, 1) := by decide +kernel
theorem dX8_isAbove_3 : decode cX8_isAbove 3 = .ok (.istore_n 3, 1) := by decide +kernel
theorem dX8_isAbove_4 : decode cX8_isAbove 4 = .ok (.iload_n 1, 1) := by decide +kernel
theorem dX8_isAbove_5 : decode cX8_isAbove 5 = .ok (.istore 4, 2) := by decide +kernel
theorem dX8_isAbove_7 : decode cX8_isAbove 7 = .ok (.aload_n 0, 1) := by decide +kernel
theorem dX8_isAbove_8 : decode cX8_isAbove 8 = .ok (.getfield 7, 3) := by decide +kernel
theorem dX8_isAbove_11 : decode cX8_isAbove 11 = .ok (.iconst 1, 1) := by decide +kernel
theorem dX8_isAbove_12 : decode cX8_isAbove 12 = .ok (.isub, 1) := by decide +kernel
theorem dX8_isAbove_13 : decode cX8_isAbove 13 = .ok (.istore 5, 2) := by decide +kernel
theorem dX8_isAbove_15 : decode cX8_isAbove 15 = .ok (.iload 5, 2) := by decide +kernel
theorem dX8_isAbove_17 : decode cX8_isAbove 17 = .ok (.ifCond .lt 76, 3) := by decide +kernel
theorem dX8_isAbove_20 : decode cX8_isAbove 20 = .ok (.iload 4, 2) := by decide +kernel
theorem dX8_isAbove_22 : decode cX8_isAbove 22 = .ok (.iconst 5, 1) := by decide +kernel
theorem dX8_isAbove_23 : decode cX8_isAbove 23 = .ok (.irem, 1) := by decide +kernel
theorem dX8_isAbove_24 : decode cX8_isAbove 24 = .ok (.iconst 2, 1) := by decide +kernel
theorem dX8_isAbove_25 : decode cX8_isAbove 25 = .ok (.isub, 1) := by decide +kernel
theorem dX8_isAbove_26 : decode cX8_isAbove 26 = .ok (.istore 6, 2) := by decide +kernel
theorem dX8_isAbove_28 : decode cX8_isAbove 28 = .ok (.iload 4, 2) := by decide +kernel
theorem dX8_isAbove_30 : decode cX8_isAbove 30 = .ok (.iconst 5, 1) := by decide +kernel
theorem dX8_isAbove_31 : decode cX8_isAbove 31 = .ok (.idiv, 1) := by decide +kernel
theorem dX8_isAbove_32 : decode cX8_isAbove 32 = .ok (.istore 4, 2) := by decide +kernel
theorem dX8_isAbove_34 : decode cX8_isAbove 34 = .ok (.iload_n 2, 1) := by decide +kernel
theorem dX8_isAbove_35 : decode cX8_isAbove 35 = .ok (.iload 6, 2) := by decide +kernel
theorem dX8_isAbove_37 : decode cX8_isAbove 37 = .ok (.iadd, 1) := by decide +kernel
theorem dX8_isAbove_38 : decode cX8_isAbove 38 = .ok (.istore_n 2, 1) := by decide +kernel
theorem dX8_isAbove_39 : decode cX8_isAbove 39 = .ok (.iload 4, 2) := by decide +kernel
theorem dX8_isAbove_41 : decode cX8_isAbove 41 = .ok (.istore 7, 2) := by decide +kernel
theorem dX8_isAbove_43 : decode cX8_isAbove 43 = .ok (.iload 5, 2) := by decide +kernel
theorem dX8_isAbove_45 : decode cX8_isAbove 45 = .ok (.iconst 1, 1) := by decide +kernel
theorem dX8_isAbove_46 : decode cX8_isAbove 46 = .ok (.isub, 1) := by decide +kernel
theorem dX8_isAbove_47 : decode cX8_isAbove 47 = .ok (.istore 8, 2) := by decide +kernel
theorem dX8_isAbove_49 : decode cX8_isAbove 49 = .ok (.iload 8, 2) := by decide +kernel
theorem dX8_isAbove_51 : decode cX8_isAbove 51 = .ok (.ifCond .lt 36, 3) := by decide +kernel
theorem dX8_isAbove_54 : decode cX8_isAbove 54 = .ok (.iload_n 3, 1) := by decide +kernel
theorem dX8_isAbove_55 : decode cX8_isAbove 55 = .ok (.iload 6, 2) := by decide +kernel
theorem dX8_isAbove_57 : decode cX8_isAbove 57 = .ok (.iload 7, 2) := by decide +kernel
theorem dX8_isAbove_59 : decode cX8_isAbove 59 = .ok (.iconst 5, 1) := by decide +kernel
theorem dX8_isAbove_60 : decode cX8_isAbove 60 = .ok (.irem, 1) := by decide +kernel
theorem dX8_isAbove_61 : decode cX8_isAbove 61 = .ok (.iconst 2, 1) := by decide +kernel
theorem dX8_isAbove_62 : decode cX8_isAbove 62 = .ok (.isub, 1) := by decide +kernel
theorem dX8_isAbove_63 : decode cX8_isAbove 63 = .ok (.imul, 1) := by decide +kernel
theorem dX8_isAbove_64 : decode cX8_isAbove 64 = .ok (.aload_n 0, 1) := by decide +kernel
theorem dX8_isAbove_65 : decode cX8_isAbove 65 = .ok (.iload 8, 2) := by decide +kernel
theorem dX8_isAbove_67 : decode cX8_isAbove 67 = .ok (.iload 5, 2) := by decide +kernel
theorem dX8_isAbove_69 : decode cX8_isAbove 69 = .ok (.invokevirtual 47, 3) := by decide +kernel
theorem dX8_isAbove_72 : decode cX8_isAbove 72 = .ok (.imul, 1) := by decide +kernel
theorem dX8_isAbove_73 : decode cX8_isAbove 73 = .ok (.iadd, 1) := by decide +kernel
theorem dX8_isAbove_74 : decode cX8_isAbove 74 = .ok (.istore_n 3, 1) := by decide +kernel
theorem dX8_isAbove_75 : decode cX8_isAbove 75 = .ok (.iload 7, 2) := by decide +kernel
theorem dX8_isAbove_77 : decode cX8_isAbove 77 = .ok (.iconst 5, 1) := by decide +kernel
theorem dX8_isAbove_78 : decode cX8_isAbove 78 = .ok (.idiv, 1) := by decide +kernel
theorem dX8_isAbove_79 : decode cX8_isAbove 79 = .ok (.istore 7, 2) := by decide +kernel
theorem dX8_isAbove_81 : decode cX8_isAbove 81 = .ok (.iinc 8 (-1), 3) := by decide +kernel
theorem dX8_isAbove_84 : decode cX8_isAbove 84 = .ok (.goto (-35), 3) := by decide +kernel
theorem dX8_isAbove_87 : decode cX8_isAbove 87 = .ok (.iinc 5 (-1), 3) := by decide +kernel
theorem dX8_isAbove_90 : decode cX8_isAbove 90 = .ok (.goto (-75), 3) := by decide +kernel
theorem dX8_isAbove_93 : decode cX8_isAbove 93 = .ok (.iload_n 2, 1) := by decide +kernel
theorem dX8_isAbove_94 : decode cX8_isAbove 94 = .ok (.iconst 1, 1) := by decide +kernel
theorem dX8_isAbove_95 : decode cX8_isAbove 95 = .ok (.if_icmp .ne 11, 3) := by decide +kernel
theorem dX8_isAbove_98 : decode cX8_isAbove 98 = .ok (.iload_n 3, 1) := by decide +kernel
theorem dX8_isAbove_99 : decode cX8_isAbove 99 = .ok (.ifCond .le 7, 3) := by decide +kernel
theorem dX8_isAbove_102 : decode cX8_isAbove 102 = .ok (.iconst 1, 1) := by decide +kernel
theorem dX8_isAbove_103 : decode cX8_isAbove 103 = .ok (.goto 4, 3) := by decide +kernel
theorem dX8_isAbove_106 : decode cX8_isAbove 106 = .ok (.iconst 0, 1) := by decide +kernel
theorem dX8_isAbove_107 : decode cX8_isAbove 107 = .ok (.ireturn, 1) := by decide +kernel
theorem dX8_cases_0 : decode cX8_cases 0 = .ok (.iconst 1, 1) := by decide +kernel
theorem dX8_cases_1 : decode cX8_cases 1 = .ok (.istore_n 2, 1) := by decide +kernel
theorem dX8_cases_2 : decode cX8_cases 2 = .ok (.iconst 0, 1) := by decide +kernel
theorem dX8_cases_3 : decode cX8_cases 3 = .ok (.istore_n 3, 1) := by decide +kernel
theorem dX8_cases_4 : decode cX8_cases 4 = .ok (.iload_n 3, 1) := by decide +kernel
theorem dX8_cases_5 : decode cX8_cases 5 = .ok (.aload_n 0, 1) := by decide +kernel
theorem dX8_cases_6 : decode cX8_cases 6 = .ok (.getfield 7, 3) := by decide +kernel
theorem dX8_cases_9 : decode cX8_cases 9 = .ok (.if_icmp .ge 13, 3) := by decide +kernel
theorem dX8_cases_12 : decode cX8_cases 12 = .ok (.iload_n 2, 1) := by decide +kernel
theorem dX8_cases_13 : decode cX8_cases 13 = .ok (.iconst 5, 1) := by decide +kernel
theorem dX8_cases_14 : decode cX8_cases 14 = .ok (.imul, 1) := by decide +kernel
theorem dX8_cases_15 : decode cX8_cases 15 = .ok (.istore_n 2, 1) := by decide +kernel
theorem dX8_cases_16 : decode cX8_cases 16 = .ok (.iinc 3 1, 3) := by decide +kernel
theorem dX8_cases_19 : decode cX8_cases 19 = .ok (.goto (-15), 3) := by decide +kernel
theorem dX8_cases_22 : decode cX8_cases 22 = .ok (.iload_n 1, 1) := by decide +kernel
theorem dX8_cases_23 : decode cX8_cases 23 = .ok (.iconst 3, 1) := by decide +kernel
theorem dX8_cases_24 : decode cX8_cases 24 = .ok (.if_icmp .ne 7, 3) := by decide +kernel
theorem dX8_cases_27 : decode cX8_cases 27 = .ok (.iload_n 2, 1) := by decide +kernel
theorem dX8_cases_28 : decode cX8_cases 28 = .ok (.goto 17, 3) := by decide +kernel
theorem dX8_cases_31 : decode cX8_cases 31 = .ok (.iload_n 1, 1) := by decide +kernel
theorem dX8_cases_32 : decode cX8_cases 32 = .ok (.iconst 1, 1) := by decide +kernel
theorem dX8_cases_33 : decode cX8_cases 33 = .ok (.if_icmp .ne 9, 3) := by decide +kernel
theorem dX8_cases_36 : decode cX8_cases 36 = .ok (.sipush 4096, 3) := by decide +kernel
theorem dX8_cases_39 : decode cX8_cases 39 = .ok (.goto 6, 3) := by decide +kernel
theorem dX8_cases_42 : decode cX8_cases 42 = .ok (.sipush 512, 3) := by decide +kernel
theorem dX8_cases_45 : decode cX8_cases 45 = .ok (.ireturn, 1) := by decide +kernel
theorem dX8_law_0 : decode cX8_law 0 = .ok (.iload_n 1, 1) := by decide +kernel
theorem dX8_law_1 : decode cX8_law 1 = .ok (.iconst 0, 1) := by decide +kernel
theorem dX8_law_2 : decode cX8_law 2 = .ok (.iconst 3, 1) := by decide +kernel
theorem dX8_law_3 : decode cX8_law 3 = .ok (.invokestatic 39, 3) := by decide +kernel
theorem dX8_law_6 : decode cX8_law 6 = .ok (.ifCond .ne 5, 3) := by decide +kernel
theorem dX8_law_9 : decode cX8_law 9 = .ok (.iconst (-1), 1) := by decide +kernel
theorem dX8_law_10 : decode cX8_law 10 = .ok (.ireturn, 1) := by decide +kernel
theorem dX8_law_11 : decode cX8_law 11 = .ok (.iconst 0, 1) := by decide +kernel
theorem dX8_law_12 : decode cX8_law 12 = .ok (.istore_n 2, 1) := by decide +kernel
theorem dX8_law_13 : decode cX8_law 13 = .ok (.iload_n 2, 1) := by decide +kernel
theorem dX8_law_14 : decode cX8_law 14 = .ok (.aload_n 0, 1) := by decide +kernel
theorem dX8_law_15 : decode cX8_law 15 = .ok (.iload_n 1, 1) := by decide +kernel
theorem dX8_law_16 : decode cX8_law 16 = .ok (.invokevirtual 57, 3) := by decide +kernel
theorem dX8_law_19 : decode cX8_law 19 = .ok (.if_icmp .ge 20, 3) := by decide +kernel
theorem dX8_law_22 : decode cX8_law 22 = .ok (.aload_n 0, 1) := by decide +kernel
theorem dX8_law_23 : decode cX8_law 23 = .ok (.iload_n 1, 1) := by decide +kernel
theorem dX8_law_24 : decode cX8_law 24 = .ok (.iload_n 2, 1) := by decide +kernel
theorem dX8_law_25 : decode cX8_law 25 = .ok (.invokevirtual 61, 3) := by decide +kernel
theorem dX8_law_28 : decode cX8_law 28 = .ok (.ifCond .eq 5, 3) := by decide +kernel
theorem dX8_law_31 : decode cX8_law 31 = .ok (.iload_n 2, 1) := by decide +kernel
theorem dX8_law_32 : decode cX8_law 32 = .ok (.ireturn, 1) := by decide +kernel
theorem dX8_law_33 : decode cX8_law 33 = .ok (.iinc 2 1, 3) := by decide +kernel
theorem dX8_law_36 : decode cX8_law 36 = .ok (.goto (-23), 3) := by decide +kernel
theorem dX8_law_39 : decode cX8_law 39 = .ok (.bipush (-4), 2) := by decide +kernel
theorem dX8_law_41 : decode cX8_law 41 = .ok (.ireturn, 1) := by decide +kernel
theorem dX8_breaks_0 : decode cX8_breaks 0 = .ok (.iload_n 1, 1) := by decide +kernel
theorem dX8_breaks_1 : decode cX8_breaks 1 = .ok (.iconst 0, 1) := by decide +kernel
theorem dX8_breaks_2 : decode cX8_breaks 2 = .ok (.iconst 3, 1) := by decide +kernel
theorem dX8_breaks_3 : decode cX8_breaks 3 = .ok (.invokestatic 39, 3) := by decide +kernel
theorem dX8_breaks_6 : decode cX8_breaks 6 = .ok (.ifCond .ne 5, 3) := by decide +kernel
theorem dX8_breaks_9 : decode cX8_breaks 9 = .ok (.iconst (-1), 1) := by decide +kernel
theorem dX8_breaks_10 : decode cX8_breaks 10 = .ok (.ireturn, 1) := by decide +kernel
theorem dX8_breaks_11 : decode cX8_breaks 11 = .ok (.iconst 0, 1) := by decide +kernel
theorem dX8_breaks_12 : decode cX8_breaks 12 = .ok (.istore_n 2, 1) := by decide +kernel
theorem dX8_breaks_13 : decode cX8_breaks 13 = .ok (.iconst 0, 1) := by decide +kernel
theorem dX8_breaks_14 : decode cX8_breaks 14 = .ok (.istore_n 3, 1) := by decide +kernel
theorem dX8_breaks_15 : decode cX8_breaks 15 = .ok (.iload_n 3, 1) := by decide +kernel
theorem dX8_breaks_16 : decode cX8_breaks 16 = .ok (.aload_n 0, 1) := by decide +kernel
theorem dX8_breaks_17 : decode cX8_breaks 17 = .ok (.iload_n 1, 1) := by decide +kernel
theorem dX8_breaks_18 : decode cX8_breaks 18 = .ok (.invokevirtual 57, 3) := by decide +kernel
theorem dX8_breaks_21 : decode cX8_breaks 21 = .ok (.if_icmp .ge 26, 3) := by decide +kernel
theorem dX8_breaks_24 : decode cX8_breaks 24 = .ok (.iload_n 2, 1) := by decide +kernel
theorem dX8_breaks_25 : decode cX8_breaks 25 = .ok (.aload_n 0, 1) := by decide +kernel
theorem dX8_breaks_26 : decode cX8_breaks 26 = .ok (.iload_n 1, 1) := by decide +kernel
theorem dX8_breaks_27 : decode cX8_breaks 27 = .ok (.iload_n 3, 1) := by decide +kernel
theorem dX8_breaks_28 : decode cX8_breaks 28 = .ok (.invokevirtual 61, 3) := by decide +kernel
theorem dX8_breaks_31 : decode cX8_breaks 31 = .ok (.ifCond .eq 7, 3) := by decide +kernel
theorem dX8_breaks_34 : decode cX8_breaks 34 = .ok (.iconst 1, 1) := by decide +kernel
theorem dX8_breaks_35 : decode cX8_breaks 35 = .ok (.goto 4, 3) := by decide +kernel
theorem dX8_breaks_38 : decode cX8_breaks 38 = .ok (.iconst 0, 1) := by decide +kernel
theorem dX8_breaks_39 : decode cX8_breaks 39 = .ok (.iadd, 1) := by decide +kernel
theorem dX8_breaks_40 : decode cX8_breaks 40 = .ok (.istore_n 2, 1) := by decide +kernel
theorem dX8_breaks_41 : decode cX8_breaks 41 = .ok (.iinc 3 1, 3) := by decide +kernel
theorem dX8_breaks_44 : decode cX8_breaks 44 = .ok (.goto (-29), 3) := by decide +kernel
theorem dX8_breaks_47 : decode cX8_breaks 47 = .ok (.iload_n 2, 1) := by decide +kernel
theorem dX8_breaks_48 : decode cX8_breaks 48 = .ok (.ireturn, 1) := by decide +kernel
theorem dX8_worth_0 : decode cX8_worth 0 = .ok (.iconst 0, 1) := by decide +kernel
theorem dX8_worth_1 : decode cX8_worth 1 = .ok (.istore_n 2, 1) := by decide +kernel
theorem dX8_worth_2 : decode cX8_worth 2 = .ok (.iconst 1, 1) := by decide +kernel
theorem dX8_worth_3 : decode cX8_worth 3 = .ok (.istore_n 3, 1) := by decide +kernel
theorem dX8_worth_4 : decode cX8_worth 4 = .ok (.iload_n 3, 1) := by decide +kernel
theorem dX8_worth_5 : decode cX8_worth 5 = .ok (.aload_n 0, 1) := by decide +kernel
theorem dX8_worth_6 : decode cX8_worth 6 = .ok (.getfield 7, 3) := by decide +kernel
theorem dX8_worth_9 : decode cX8_worth 9 = .ok (.if_icmp .ge 30, 3) := by decide +kernel
theorem dX8_worth_12 : decode cX8_worth 12 = .ok (.iload_n 1, 1) := by decide +kernel
theorem dX8_worth_13 : decode cX8_worth 13 = .ok (.iload_n 3, 1) := by decide +kernel
theorem dX8_worth_14 : decode cX8_worth 14 = .ok (.iconst 1, 1) := by decide +kernel
theorem dX8_worth_15 : decode cX8_worth 15 = .ok (.isub, 1) := by decide +kernel
theorem dX8_worth_16 : decode cX8_worth 16 = .ok (.ishr, 1) := by decide +kernel
theorem dX8_worth_17 : decode cX8_worth 17 = .ok (.iconst 1, 1) := by decide +kernel
theorem dX8_worth_18 : decode cX8_worth 18 = .ok (.iand, 1) := by decide +kernel
theorem dX8_worth_19 : decode cX8_worth 19 = .ok (.iconst 1, 1) := by decide +kernel
theorem dX8_worth_20 : decode cX8_worth 20 = .ok (.if_icmp .ne 13, 3) := by decide +kernel
theorem dX8_worth_23 : decode cX8_worth 23 = .ok (.aload_n 0, 1) := by decide +kernel
theorem dX8_worth_24 : decode cX8_worth 24 = .ok (.getfield 26, 3) := by decide +kernel
theorem dX8_worth_27 : decode cX8_worth 27 = .ok (.iload_n 2, 1) := by decide +kernel
theorem dX8_worth_28 : decode cX8_worth 28 = .ok (.iload_n 3, 1) := by decide +kernel
theorem dX8_worth_29 : decode cX8_worth 29 = .ok (.iastore, 1) := by decide +kernel
theorem dX8_worth_30 : decode cX8_worth 30 = .ok (.iinc 2 1, 3) := by decide +kernel
theorem dX8_worth_33 : decode cX8_worth 33 = .ok (.iinc 3 1, 3) := by decide +kernel
theorem dX8_worth_36 : decode cX8_worth 36 = .ok (.goto (-32), 3) := by decide +kernel
theorem dX8_worth_39 : decode cX8_worth 39 = .ok (.aload_n 0, 1) := by decide +kernel
theorem dX8_worth_40 : decode cX8_worth 40 = .ok (.getfield 29, 3) := by decide +kernel
theorem dX8_worth_43 : decode cX8_worth 43 = .ok (.iconst 0, 1) := by decide +kernel
theorem dX8_worth_44 : decode cX8_worth 44 = .ok (.lconst 1, 1) := by decide +kernel
theorem dX8_worth_45 : decode cX8_worth 45 = .ok (.lastore, 1) := by decide +kernel
theorem dX8_worth_46 : decode cX8_worth 46 = .ok (.iconst 1, 1) := by decide +kernel
theorem dX8_worth_47 : decode cX8_worth 47 = .ok (.istore_n 3, 1) := by decide +kernel
theorem dX8_worth_48 : decode cX8_worth 48 = .ok (.iload_n 3, 1) := by decide +kernel
theorem dX8_worth_49 : decode cX8_worth 49 = .ok (.iconst 1, 1) := by decide +kernel
theorem dX8_worth_50 : decode cX8_worth 50 = .ok (.iload_n 2, 1) := by decide +kernel
theorem dX8_worth_51 : decode cX8_worth 51 = .ok (.ishl, 1) := by decide +kernel
theorem dX8_worth_52 : decode cX8_worth 52 = .ok (.if_icmp .ge 157, 3) := by decide +kernel
theorem dX8_worth_55 : decode cX8_worth 55 = .ok (.aload_n 0, 1) := by decide +kernel
theorem dX8_worth_56 : decode cX8_worth 56 = .ok (.getfield 26, 3) := by decide +kernel
theorem dX8_worth_59 : decode cX8_worth 59 = .ok (.iload_n 3, 1) := by decide +kernel
theorem dX8_worth_60 : decode cX8_worth 60 = .ok (.invokestatic 65, 3) := by decide +kernel
theorem dX8_worth_63 : decode cX8_worth 63 = .ok (.iconst 1, 1) := by decide +kernel
theorem dX8_worth_64 : decode cX8_worth 64 = .ok (.isub, 1) := by decide +kernel
theorem dX8_worth_65 : decode cX8_worth 65 = .ok (.iaload, 1) := by decide +kernel
theorem dX8_worth_66 : decode cX8_worth 66 = .ok (.istore 4, 2) := by decide +kernel
theorem dX8_worth_68 : decode cX8_worth 68 = .ok (.lconst 0, 1) := by decide +kernel
theorem dX8_worth_69 : decode cX8_worth 69 = .ok (.lstore 5, 2) := by decide +kernel
theorem dX8_worth_71 : decode cX8_worth 71 = .ok (.lconst 1, 1) := by decide +kernel
theorem dX8_worth_72 : decode cX8_worth 72 = .ok (.lstore 7, 2) := by decide +kernel
theorem dX8_worth_74 : decode cX8_worth 74 = .ok (.iload_n 2, 1) := by decide +kernel
theorem dX8_worth_75 : decode cX8_worth 75 = .ok (.iconst 1, 1) := by decide +kernel
theorem dX8_worth_76 : decode cX8_worth 76 = .ok (.isub, 1) := by decide +kernel
theorem dX8_worth_77 : decode cX8_worth 77 = .ok (.istore 9, 2) := by decide +kernel
theorem dX8_worth_79 : decode cX8_worth 79 = .ok (.iload 9, 2) := by decide +kernel
theorem dX8_worth_81 : decode cX8_worth 81 = .ok (.ifCond .lt 114, 3) := by decide +kernel
theorem dX8_worth_84 : decode cX8_worth 84 = .ok (.iload_n 3, 1) := by decide +kernel
theorem dX8_worth_85 : decode cX8_worth 85 = .ok (.iload 9, 2) := by decide +kernel
theorem dX8_worth_87 : decode cX8_worth 87 = .ok (.ishr, 1) := by decide +kernel
theorem dX8_worth_88 : decode cX8_worth 88 = .ok (.iconst 1, 1) := by decide +kernel
theorem dX8_worth_89 : decode cX8_worth 89 = .ok (.iand, 1) := by decide +kernel
theorem dX8_worth_90 : decode cX8_worth 90 = .ok (.iconst 1, 1) := by decide +kernel
theorem dX8_worth_91 : decode cX8_worth 91 = .ok (.if_icmp .ne 98, 3) := by decide +kernel
theorem dX8_worth_94 : decode cX8_worth 94 = .ok (.aload_n 0, 1) := by decide +kernel
theorem dX8_worth_95 : decode cX8_worth 95 = .ok (.getfield 26, 3) := by decide +kernel
theorem dX8_worth_98 : decode cX8_worth 98 = .ok (.iload 9, 2) := by decide +kernel
theorem dX8_worth_100 : decode cX8_worth 100 = .ok (.iaload, 1) := by decide +kernel
theorem dX8_worth_101 : decode cX8_worth 101 = .ok (.istore 10, 2) := by decide +kernel
theorem dX8_worth_103 : decode cX8_worth 103 = .ok (.aload_n 0, 1) := by decide +kernel
theorem dX8_worth_104 : decode cX8_worth 104 = .ok (.iconst 0, 1) := by decide +kernel
theorem dX8_worth_105 : decode cX8_worth 105 = .ok (.iload 4, 2) := by decide +kernel
theorem dX8_worth_107 : decode cX8_worth 107 = .ok (.invokevirtual 47, 3) := by decide +kernel
theorem dX8_worth_110 : decode cX8_worth 110 = .ok (.i2l, 1) := by decide +kernel
theorem dX8_worth_111 : decode cX8_worth 111 = .ok (.aload_n 0, 1) := by decide +kernel
theorem dX8_worth_112 : decode cX8_worth 112 = .ok (.iconst 0, 1) := by decide +kernel
theorem dX8_worth_113 : decode cX8_worth 113 = .ok (.iload 4, 2) := by decide +kernel
theorem dX8_worth_115 : decode cX8_worth 115 = .ok (.invokevirtual 47, 3) := by decide +kernel
theorem dX8_worth_118 : decode cX8_worth 118 = .ok (.i2l, 1) := by decide +kernel
theorem dX8_worth_119 : decode cX8_worth 119 = .ok (.lmul, 1) := by decide +kernel
theorem dX8_worth_120 : decode cX8_worth 120 = .ok (.aload_n 0, 1) := by decide +kernel
theorem dX8_worth_121 : decode cX8_worth 121 = .ok (.iconst 0, 1) := by decide +kernel
theorem dX8_worth_122 : decode cX8_worth 122 = .ok (.iload 10, 2) := by decide +kernel
theorem dX8_worth_124 : decode cX8_worth 124 = .ok (.invokevirtual 47, 3) := by decide +kernel
theorem dX8_worth_127 : decode cX8_worth 127 = .ok (.i2l, 1) := by decide +kernel
theorem dX8_worth_128 : decode cX8_worth 128 = .ok (.aload_n 0, 1) := by decide +kernel
theorem dX8_worth_129 : decode cX8_worth 129 = .ok (.iconst 0, 1) := by decide +kernel
theorem dX8_worth_130 : decode cX8_worth 130 = .ok (.iload 10, 2) := by decide +kernel
theorem dX8_worth_132 : decode cX8_worth 132 = .ok (.invokevirtual 47, 3) := by decide +kernel
theorem dX8_worth_135 : decode cX8_worth 135 = .ok (.i2l, 1) := by decide +kernel
theorem dX8_worth_136 : decode cX8_worth 136 = .ok (.lmul, 1) := by decide +kernel
theorem dX8_worth_137 : decode cX8_worth 137 = .ok (.ladd, 1) := by decide +kernel
theorem dX8_worth_138 : decode cX8_worth 138 = .ok (.aload_n 0, 1) := by decide +kernel
theorem dX8_worth_139 : decode cX8_worth 139 = .ok (.iload 4, 2) := by decide +kernel
theorem dX8_worth_141 : decode cX8_worth 141 = .ok (.iload 10, 2) := by decide +kernel
theorem dX8_worth_143 : decode cX8_worth 143 = .ok (.invokevirtual 47, 3) := by decide +kernel
theorem dX8_worth_146 : decode cX8_worth 146 = .ok (.i2l, 1) := by decide +kernel
theorem dX8_worth_147 : decode cX8_worth 147 = .ok (.aload_n 0, 1) := by decide +kernel
theorem dX8_worth_148 : decode cX8_worth 148 = .ok (.iload 4, 2) := by decide +kernel
theorem dX8_worth_150 : decode cX8_worth 150 = .ok (.iload 10, 2) := by decide +kernel
theorem dX8_worth_152 : decode cX8_worth 152 = .ok (.invokevirtual 47, 3) := by decide +kernel
theorem dX8_worth_155 : decode cX8_worth 155 = .ok (.i2l, 1) := by decide +kernel
theorem dX8_worth_156 : decode cX8_worth 156 = .ok (.lmul, 1) := by decide +kernel
theorem dX8_worth_157 : decode cX8_worth 157 = .ok (.lsub, 1) := by decide +kernel
theorem dX8_worth_158 : decode cX8_worth 158 = .ok (.lstore 11, 2) := by decide +kernel
theorem dX8_worth_160 : decode cX8_worth 160 = .ok (.lload 5, 2) := by decide +kernel
theorem dX8_worth_162 : decode cX8_worth 162 = .ok (.lload 7, 2) := by decide +kernel
theorem dX8_worth_164 : decode cX8_worth 164 = .ok (.lload 11, 2) := by decide +kernel
theorem dX8_worth_166 : decode cX8_worth 166 = .ok (.lmul, 1) := by decide +kernel
theorem dX8_worth_167 : decode cX8_worth 167 = .ok (.aload_n 0, 1) := by decide +kernel
theorem dX8_worth_168 : decode cX8_worth 168 = .ok (.getfield 29, 3) := by decide +kernel
theorem dX8_worth_171 : decode cX8_worth 171 = .ok (.iload_n 3, 1) := by decide +kernel
theorem dX8_worth_172 : decode cX8_worth 172 = .ok (.iconst 1, 1) := by decide +kernel
theorem dX8_worth_173 : decode cX8_worth 173 = .ok (.iload 9, 2) := by decide +kernel
theorem dX8_worth_175 : decode cX8_worth 175 = .ok (.ishl, 1) := by decide +kernel
theorem dX8_worth_176 : decode cX8_worth 176 = .ok (.iconst (-1), 1) := by decide +kernel
theorem dX8_worth_177 : decode cX8_worth 177 = .ok (.ixor, 1) := by decide +kernel
theorem dX8_worth_178 : decode cX8_worth 178 = .ok (.iand, 1) := by decide +kernel
theorem dX8_worth_179 : decode cX8_worth 179 = .ok (.laload, 1) := by decide +kernel
theorem dX8_worth_180 : decode cX8_worth 180 = .ok (.lmul, 1) := by decide +kernel
theorem dX8_worth_181 : decode cX8_worth 181 = .ok (.ladd, 1) := by decide +kernel
theorem dX8_worth_182 : decode cX8_worth 182 = .ok (.lstore 5, 2) := by decide +kernel
theorem dX8_worth_184 : decode cX8_worth 184 = .ok (.lload 7, 2) := by decide +kernel
theorem dX8_worth_186 : decode cX8_worth 186 = .ok (.lneg, 1) := by decide +kernel
theorem dX8_worth_187 : decode cX8_worth 187 = .ok (.lstore 7, 2) := by decide +kernel
theorem dX8_worth_189 : decode cX8_worth 189 = .ok (.iinc 9 (-1), 3) := by decide +kernel
theorem dX8_worth_192 : decode cX8_worth 192 = .ok (.goto (-113), 3) := by decide +kernel
theorem dX8_worth_195 : decode cX8_worth 195 = .ok (.aload_n 0, 1) := by decide +kernel
theorem dX8_worth_196 : decode cX8_worth 196 = .ok (.getfield 29, 3) := by decide +kernel
theorem dX8_worth_199 : decode cX8_worth 199 = .ok (.iload_n 3, 1) := by decide +kernel
theorem dX8_worth_200 : decode cX8_worth 200 = .ok (.lload 5, 2) := by decide +kernel
theorem dX8_worth_202 : decode cX8_worth 202 = .ok (.lastore, 1) := by decide +kernel
theorem dX8_worth_203 : decode cX8_worth 203 = .ok (.iinc 3 1, 3) := by decide +kernel
theorem dX8_worth_206 : decode cX8_worth 206 = .ok (.goto (-158), 3) := by decide +kernel
theorem dX8_worth_209 : decode cX8_worth 209 = .ok (.aload_n 0, 1) := by decide +kernel
theorem dX8_worth_210 : decode cX8_worth 210 = .ok (.getfield 29, 3) := by decide +kernel
theorem dX8_worth_213 : decode cX8_worth 213 = .ok (.iconst 1, 1) := by decide +kernel
theorem dX8_worth_214 : decode cX8_worth 214 = .ok (.iload_n 2, 1) := by decide +kernel
theorem dX8_worth_215 : decode cX8_worth 215 = .ok (.ishl, 1) := by decide +kernel
theorem dX8_worth_216 : decode cX8_worth 216 = .ok (.iconst 1, 1) := by decide +kernel
theorem dX8_worth_217 : decode cX8_worth 217 = .ok (.isub, 1) := by decide +kernel
theorem dX8_worth_218 : decode cX8_worth 218 = .ok (.laload, 1) := by decide +kernel
theorem dX8_worth_219 : decode cX8_worth 219 = .ok (.lreturn, 1) := by decide +kernel
theorem dX8_bits_0 : decode cX8_bits 0 = .ok (.iconst 0, 1) := by decide +kernel
theorem dX8_bits_1 : decode cX8_bits 1 = .ok (.istore_n 1, 1) := by decide +kernel
theorem dX8_bits_2 : decode cX8_bits 2 = .ok (.iconst 0, 1) := by decide +kernel
theorem dX8_bits_3 : decode cX8_bits 3 = .ok (.istore_n 2, 1) := by decide +kernel
theorem dX8_bits_4 : decode cX8_bits 4 = .ok (.iload_n 2, 1) := by decide +kernel
theorem dX8_bits_5 : decode cX8_bits 5 = .ok (.bipush 10, 2) := by decide +kernel
theorem dX8_bits_7 : decode cX8_bits 7 = .ok (.if_icmp .ge 17, 3) := by decide +kernel
theorem dX8_bits_10 : decode cX8_bits 10 = .ok (.iload_n 1, 1) := by decide +kernel
theorem dX8_bits_11 : decode cX8_bits 11 = .ok (.iload_n 0, 1) := by decide +kernel
theorem dX8_bits_12 : decode cX8_bits 12 = .ok (.iload_n 2, 1) := by decide +kernel
theorem dX8_bits_13 : decode cX8_bits 13 = .ok (.ishr, 1) := by decide +kernel
theorem dX8_bits_14 : decode cX8_bits 14 = .ok (.iconst 1, 1) := by decide +kernel
theorem dX8_bits_15 : decode cX8_bits 15 = .ok (.iand, 1) := by decide +kernel
theorem dX8_bits_16 : decode cX8_bits 16 = .ok (.iadd, 1) := by decide +kernel
theorem dX8_bits_17 : decode cX8_bits 17 = .ok (.istore_n 1, 1) := by decide +kernel
theorem dX8_bits_18 : decode cX8_bits 18 = .ok (.iinc 2 1, 3) := by decide +kernel
theorem dX8_bits_21 : decode cX8_bits 21 = .ok (.goto (-17), 3) := by decide +kernel
theorem dX8_bits_24 : decode cX8_bits 24 = .ok (.iload_n 1, 1) := by decide +kernel
theorem dX8_bits_25 : decode cX8_bits 25 = .ok (.ireturn, 1) := by decide +kernel
theorem dX8_flat_0 : decode cX8_flat 0 = .ok (.iconst 1, 1) := by decide +kernel
theorem dX8_flat_1 : decode cX8_flat 1 = .ok (.istore_n 1, 1) := by decide +kernel
theorem dX8_flat_2 : decode cX8_flat 2 = .ok (.iload_n 1, 1) := by decide +kernel
theorem dX8_flat_3 : decode cX8_flat 3 = .ok (.iconst 1, 1) := by decide +kernel
theorem dX8_flat_4 : decode cX8_flat 4 = .ok (.aload_n 0, 1) := by decide +kernel
theorem dX8_flat_5 : decode cX8_flat 5 = .ok (.getfield 7, 3) := by decide +kernel
theorem dX8_flat_8 : decode cX8_flat 8 = .ok (.iconst 1, 1) := by decide +kernel
theorem dX8_flat_9 : decode cX8_flat 9 = .ok (.isub, 1) := by decide +kernel
theorem dX8_flat_10 : decode cX8_flat 10 = .ok (.ishl, 1) := by decide +kernel
theorem dX8_flat_11 : decode cX8_flat 11 = .ok (.if_icmp .ge 21, 3) := by decide +kernel
theorem dX8_flat_14 : decode cX8_flat 14 = .ok (.aload_n 0, 1) := by decide +kernel
theorem dX8_flat_15 : decode cX8_flat 15 = .ok (.iload_n 1, 1) := by decide +kernel
theorem dX8_flat_16 : decode cX8_flat 16 = .ok (.invokevirtual 68, 3) := by decide +kernel
theorem dX8_flat_19 : decode cX8_flat 19 = .ok (.lconst 0, 1) := by decide +kernel
theorem dX8_flat_20 : decode cX8_flat 20 = .ok (.lcmp, 1) := by decide +kernel
theorem dX8_flat_21 : decode cX8_flat 21 = .ok (.ifCond .ge 5, 3) := by decide +kernel
theorem dX8_flat_24 : decode cX8_flat 24 = .ok (.iconst 0, 1) := by decide +kernel
theorem dX8_flat_25 : decode cX8_flat 25 = .ok (.ireturn, 1) := by decide +kernel
theorem dX8_flat_26 : decode cX8_flat 26 = .ok (.iinc 1 1, 3) := by decide +kernel
theorem dX8_flat_29 : decode cX8_flat 29 = .ok (.goto (-27), 3) := by decide +kernel
theorem dX8_flat_32 : decode cX8_flat 32 = .ok (.iconst 1, 1) := by decide +kernel
theorem dX8_flat_33 : decode cX8_flat 33 = .ok (.ireturn, 1) := by decide +kernel
theorem dX8_ways_0 : decode cX8_ways 0 = .ok (.iconst 0, 1) := by decide +kernel
theorem dX8_ways_1 : decode cX8_ways 1 = .ok (.istore_n 1, 1) := by decide +kernel
theorem dX8_ways_2 : decode cX8_ways 2 = .ok (.iconst 1, 1) := by decide +kernel
theorem dX8_ways_3 : decode cX8_ways 3 = .ok (.istore_n 2, 1) := by decide +kernel
theorem dX8_ways_4 : decode cX8_ways 4 = .ok (.iload_n 2, 1) := by decide +kernel
theorem dX8_ways_5 : decode cX8_ways 5 = .ok (.iconst 1, 1) := by decide +kernel
theorem dX8_ways_6 : decode cX8_ways 6 = .ok (.aload_n 0, 1) := by decide +kernel
theorem dX8_ways_7 : decode cX8_ways 7 = .ok (.getfield 7, 3) := by decide +kernel
theorem dX8_ways_10 : decode cX8_ways 10 = .ok (.iconst 1, 1) := by decide +kernel
theorem dX8_ways_11 : decode cX8_ways 11 = .ok (.isub, 1) := by decide +kernel
theorem dX8_ways_12 : decode cX8_ways 12 = .ok (.ishl, 1) := by decide +kernel
theorem dX8_ways_13 : decode cX8_ways 13 = .ok (.if_icmp .ge 36, 3) := by decide +kernel
theorem dX8_ways_16 : decode cX8_ways 16 = .ok (.iload_n 2, 1) := by decide +kernel
theorem dX8_ways_17 : decode cX8_ways 17 = .ok (.invokestatic 65, 3) := by decide +kernel
theorem dX8_ways_20 : decode cX8_ways 20 = .ok (.iload_n 1, 1) := by decide +kernel
theorem dX8_ways_21 : decode cX8_ways 21 = .ok (.if_icmp .le 20, 3) := by decide +kernel
theorem dX8_ways_24 : decode cX8_ways 24 = .ok (.aload_n 0, 1) := by decide +kernel
theorem dX8_ways_25 : decode cX8_ways 25 = .ok (.iload_n 2, 1) := by decide +kernel
theorem dX8_ways_26 : decode cX8_ways 26 = .ok (.invokevirtual 68, 3) := by decide +kernel
theorem dX8_ways_29 : decode cX8_ways 29 = .ok (.lconst 0, 1) := by decide +kernel
theorem dX8_ways_30 : decode cX8_ways 30 = .ok (.lcmp, 1) := by decide +kernel
theorem dX8_ways_31 : decode cX8_ways 31 = .ok (.ifCond .eq 10, 3) := by decide +kernel
theorem dX8_ways_34 : decode cX8_ways 34 = .ok (.iload_n 2, 1) := by decide +kernel
theorem dX8_ways_35 : decode cX8_ways 35 = .ok (.invokestatic 65, 3) := by decide +kernel
theorem dX8_ways_38 : decode cX8_ways 38 = .ok (.goto 4, 3) := by decide +kernel
theorem dX8_ways_41 : decode cX8_ways 41 = .ok (.iload_n 1, 1) := by decide +kernel
theorem dX8_ways_42 : decode cX8_ways 42 = .ok (.istore_n 1, 1) := by decide +kernel
theorem dX8_ways_43 : decode cX8_ways 43 = .ok (.iinc 2 1, 3) := by decide +kernel
theorem dX8_ways_46 : decode cX8_ways 46 = .ok (.goto (-42), 3) := by decide +kernel
theorem dX8_ways_49 : decode cX8_ways 49 = .ok (.iload_n 1, 1) := by decide +kernel
theorem dX8_ways_50 : decode cX8_ways 50 = .ok (.ireturn, 1) := by decide +kernel
theorem dX8_bulk_0 : decode cX8_bulk 0 = .ok (.iload_n 1, 1) := by decide +kernel
theorem dX8_bulk_1 : decode cX8_bulk 1 = .ok (.iconst 2, 1) := by decide +kernel
theorem dX8_bulk_2 : decode cX8_bulk 2 = .ok (.aload_n 0, 1) := by decide +kernel
theorem dX8_bulk_3 : decode cX8_bulk 3 = .ok (.getfield 7, 3) := by decide +kernel
theorem dX8_bulk_6 : decode cX8_bulk 6 = .ok (.invokestatic 39, 3) := by decide +kernel
theorem dX8_bulk_9 : decode cX8_bulk 9 = .ok (.ifCond .eq 17, 3) := by decide +kernel
theorem dX8_bulk_12 : decode cX8_bulk 12 = .ok (.aload_n 0, 1) := by decide +kernel
theorem dX8_bulk_13 : decode cX8_bulk 13 = .ok (.iconst 1, 1) := by decide +kernel
theorem dX8_bulk_14 : decode cX8_bulk 14 = .ok (.iload_n 1, 1) := by decide +kernel
theorem dX8_bulk_15 : decode cX8_bulk 15 = .ok (.iconst 1, 1) := by decide +kernel
theorem dX8_bulk_16 : decode cX8_bulk 16 = .ok (.isub, 1) := by decide +kernel
theorem dX8_bulk_17 : decode cX8_bulk 17 = .ok (.ishl, 1) := by decide +kernel
theorem dX8_bulk_18 : decode cX8_bulk 18 = .ok (.iconst 1, 1) := by decide +kernel
theorem dX8_bulk_19 : decode cX8_bulk 19 = .ok (.isub, 1) := by decide +kernel
theorem dX8_bulk_20 : decode cX8_bulk 20 = .ok (.invokevirtual 68, 3) := by decide +kernel
theorem dX8_bulk_23 : decode cX8_bulk 23 = .ok (.goto 6, 3) := by decide +kernel
theorem dX8_bulk_26 : decode cX8_bulk 26 = .ok (.ldc2_w 72, 3) := by decide +kernel
theorem dX8_bulk_29 : decode cX8_bulk 29 = .ok (.lreturn, 1) := by decide +kernel
theorem dX8_isCut_0 : decode cX8_isCut 0 = .ok (.iload_n 1, 1) := by decide +kernel
theorem dX8_isCut_1 : decode cX8_isCut 1 = .ok (.iconst 2, 1) := by decide +kernel
theorem dX8_isCut_2 : decode cX8_isCut 2 = .ok (.iconst 1, 1) := by decide +kernel
theorem dX8_isCut_3 : decode cX8_isCut 3 = .ok (.aload_n 0, 1) := by decide +kernel
theorem dX8_isCut_4 : decode cX8_isCut 4 = .ok (.getfield 7, 3) := by decide +kernel
theorem dX8_isCut_7 : decode cX8_isCut 7 = .ok (.ishl, 1) := by decide +kernel
theorem dX8_isCut_8 : decode cX8_isCut 8 = .ok (.iconst 1, 1) := by decide +kernel
theorem dX8_isCut_9 : decode cX8_isCut 9 = .ok (.isub, 1) := by decide +kernel
theorem dX8_isCut_10 : decode cX8_isCut 10 = .ok (.invokestatic 39, 3) := by decide +kernel
theorem dX8_isCut_13 : decode cX8_isCut 13 = .ok (.ifCond .eq 13, 3) := by decide +kernel
theorem dX8_isCut_16 : decode cX8_isCut 16 = .ok (.iload_n 1, 1) := by decide +kernel
theorem dX8_isCut_17 : decode cX8_isCut 17 = .ok (.iconst 2, 1) := by decide +kernel
theorem dX8_isCut_18 : decode cX8_isCut 18 = .ok (.irem, 1) := by decide +kernel
theorem dX8_isCut_19 : decode cX8_isCut 19 = .ok (.ifCond .ne 7, 3) := by decide +kernel
theorem dX8_isCut_22 : decode cX8_isCut 22 = .ok (.iconst 1, 1) := by decide +kernel
theorem dX8_isCut_23 : decode cX8_isCut 23 = .ok (.goto 4, 3) := by decide +kernel
theorem dX8_isCut_26 : decode cX8_isCut 26 = .ok (.iconst 0, 1) := by decide +kernel
theorem dX8_isCut_27 : decode cX8_isCut 27 = .ok (.ireturn, 1) := by decide +kernel
theorem dX8_parts_0 : decode cX8_parts 0 = .ok (.iload_n 0, 1) := by decide +kernel
theorem dX8_parts_1 : decode cX8_parts 1 = .ok (.iload_n 1, 1) := by decide +kernel
theorem dX8_parts_2 : decode cX8_parts 2 = .ok (.ishr, 1) := by decide +kernel
theorem dX8_parts_3 : decode cX8_parts 3 = .ok (.iconst 1, 1) := by decide +kernel
theorem dX8_parts_4 : decode cX8_parts 4 = .ok (.iand, 1) := by decide +kernel
theorem dX8_parts_5 : decode cX8_parts 5 = .ok (.iload_n 0, 1) := by decide +kernel
theorem dX8_parts_6 : decode cX8_parts 6 = .ok (.iload_n 2, 1) := by decide +kernel
theorem dX8_parts_7 : decode cX8_parts 7 = .ok (.ishr, 1) := by decide +kernel
theorem dX8_parts_8 : decode cX8_parts 8 = .ok (.iconst 1, 1) := by decide +kernel
theorem dX8_parts_9 : decode cX8_parts 9 = .ok (.iand, 1) := by decide +kernel
theorem dX8_parts_10 : decode cX8_parts 10 = .ok (.if_icmp .eq 7, 3) := by decide +kernel
theorem dX8_parts_13 : decode cX8_parts 13 = .ok (.iconst 1, 1) := by decide +kernel
theorem dX8_parts_14 : decode cX8_parts 14 = .ok (.goto 4, 3) := by decide +kernel
theorem dX8_parts_17 : decode cX8_parts 17 = .ok (.iconst 0, 1) := by decide +kernel
theorem dX8_parts_18 : decode cX8_parts 18 = .ok (.ireturn, 1) := by decide +kernel
theorem dX8_add_0 : decode cX8_add 0 = .ok (.aload_n 0, 1) := by decide +kernel
theorem dX8_add_1 : decode cX8_add 1 = .ok (.iload_n 1, 1) := by decide +kernel
theorem dX8_add_2 : decode cX8_add 2 = .ok (.invokevirtual 74, 3) := by decide +kernel
theorem dX8_add_5 : decode cX8_add 5 = .ok (.ifCond .eq 14, 3) := by decide +kernel
theorem dX8_add_8 : decode cX8_add 8 = .ok (.iload_n 2, 1) := by decide +kernel
theorem dX8_add_9 : decode cX8_add 9 = .ok (.bipush (-30), 2) := by decide +kernel
theorem dX8_add_11 : decode cX8_add 11 = .ok (.bipush 30, 2) := by decide +kernel
theorem dX8_add_13 : decode cX8_add 13 = .ok (.invokestatic 39, 3) := by decide +kernel
theorem dX8_add_16 : decode cX8_add 16 = .ok (.ifCond .ne 5, 3) := by decide +kernel
theorem dX8_add_19 : decode cX8_add 19 = .ok (.iconst (-1), 1) := by decide +kernel
theorem dX8_add_20 : decode cX8_add 20 = .ok (.ireturn, 1) := by decide +kernel
theorem dX8_add_21 : decode cX8_add 21 = .ok (.iconst 0, 1) := by decide +kernel
theorem dX8_add_22 : decode cX8_add 22 = .ok (.istore_n 3, 1) := by decide +kernel
theorem dX8_add_23 : decode cX8_add 23 = .ok (.iload_n 3, 1) := by decide +kernel
theorem dX8_add_24 : decode cX8_add 24 = .ok (.aload_n 0, 1) := by decide +kernel
theorem dX8_add_25 : decode cX8_add 25 = .ok (.getfield 7, 3) := by decide +kernel
theorem dX8_add_28 : decode cX8_add 28 = .ok (.if_icmp .ge 58, 3) := by decide +kernel
theorem dX8_add_31 : decode cX8_add 31 = .ok (.iconst 0, 1) := by decide +kernel
theorem dX8_add_32 : decode cX8_add 32 = .ok (.istore 4, 2) := by decide +kernel
theorem dX8_add_34 : decode cX8_add 34 = .ok (.iload 4, 2) := by decide +kernel
theorem dX8_add_36 : decode cX8_add 36 = .ok (.aload_n 0, 1) := by decide +kernel
theorem dX8_add_37 : decode cX8_add 37 = .ok (.getfield 7, 3) := by decide +kernel
theorem dX8_add_40 : decode cX8_add 40 = .ok (.if_icmp .ge 40, 3) := by decide +kernel
theorem dX8_add_43 : decode cX8_add 43 = .ok (.iload_n 1, 1) := by decide +kernel
theorem dX8_add_44 : decode cX8_add 44 = .ok (.iload_n 3, 1) := by decide +kernel
theorem dX8_add_45 : decode cX8_add 45 = .ok (.iload 4, 2) := by decide +kernel
theorem dX8_add_47 : decode cX8_add 47 = .ok (.invokestatic 77, 3) := by decide +kernel
theorem dX8_add_50 : decode cX8_add 50 = .ok (.ifCond .eq 24, 3) := by decide +kernel
theorem dX8_add_53 : decode cX8_add 53 = .ok (.aload_n 0, 1) := by decide +kernel
theorem dX8_add_54 : decode cX8_add 54 = .ok (.iload_n 3, 1) := by decide +kernel
theorem dX8_add_55 : decode cX8_add 55 = .ok (.iload 4, 2) := by decide +kernel
theorem dX8_add_57 : decode cX8_add 57 = .ok (.invokevirtual 47, 3) := by decide +kernel
theorem dX8_add_60 : decode cX8_add 60 = .ok (.iload_n 2, 1) := by decide +kernel
theorem dX8_add_61 : decode cX8_add 61 = .ok (.iadd, 1) := by decide +kernel
theorem dX8_add_62 : decode cX8_add 62 = .ok (.iconst 0, 1) := by decide +kernel
theorem dX8_add_63 : decode cX8_add 63 = .ok (.bipush 30, 2) := by decide +kernel
theorem dX8_add_65 : decode cX8_add 65 = .ok (.invokestatic 39, 3) := by decide +kernel
theorem dX8_add_68 : decode cX8_add 68 = .ok (.ifCond .ne 6, 3) := by decide +kernel
theorem dX8_add_71 : decode cX8_add 71 = .ok (.bipush (-2), 2) := by decide +kernel
theorem dX8_add_73 : decode cX8_add 73 = .ok (.ireturn, 1) := by decide +kernel
theorem dX8_add_74 : decode cX8_add 74 = .ok (.iinc 4 1, 3) := by decide +kernel
theorem dX8_add_77 : decode cX8_add 77 = .ok (.goto (-43), 3) := by decide +kernel
theorem dX8_add_80 : decode cX8_add 80 = .ok (.iinc 3 1, 3) := by decide +kernel
theorem dX8_add_83 : decode cX8_add 83 = .ok (.goto (-60), 3) := by decide +kernel
theorem dX8_add_86 : decode cX8_add 86 = .ok (.iconst 0, 1) := by decide +kernel
theorem dX8_add_87 : decode cX8_add 87 = .ok (.istore_n 3, 1) := by decide +kernel
theorem dX8_add_88 : decode cX8_add 88 = .ok (.iload_n 3, 1) := by decide +kernel
theorem dX8_add_89 : decode cX8_add 89 = .ok (.aload_n 0, 1) := by decide +kernel
theorem dX8_add_90 : decode cX8_add 90 = .ok (.getfield 7, 3) := by decide +kernel
theorem dX8_add_93 : decode cX8_add 93 = .ok (.if_icmp .ge 57, 3) := by decide +kernel
theorem dX8_add_96 : decode cX8_add 96 = .ok (.iconst 0, 1) := by decide +kernel
theorem dX8_add_97 : decode cX8_add 97 = .ok (.istore 4, 2) := by decide +kernel
theorem dX8_add_99 : decode cX8_add 99 = .ok (.iload 4, 2) := by decide +kernel
theorem dX8_add_101 : decode cX8_add 101 = .ok (.aload_n 0, 1) := by decide +kernel
theorem dX8_add_102 : decode cX8_add 102 = .ok (.getfield 7, 3) := by decide +kernel
theorem dX8_add_105 : decode cX8_add 105 = .ok (.if_icmp .ge 39, 3) := by decide +kernel
theorem dX8_add_108 : decode cX8_add 108 = .ok (.aload_n 0, 1) := by decide +kernel
theorem dX8_add_109 : decode cX8_add 109 = .ok (.getfield 13, 3) := by decide +kernel
theorem dX8_add_112 : decode cX8_add 112 = .ok (.bipush 6, 2) := by decide +kernel
theorem dX8_add_114 : decode cX8_add 114 = .ok (.iload_n 3, 1) := by decide +kernel
theorem dX8_add_115 : decode cX8_add 115 = .ok (.imul, 1) := by decide +kernel
theorem dX8_add_116 : decode cX8_add 116 = .ok (.iload 4, 2) := by decide +kernel
theorem dX8_add_118 : decode cX8_add 118 = .ok (.iadd, 1) := by decide +kernel
theorem dX8_add_119 : decode cX8_add 119 = .ok (.dup2, 1) := by decide +kernel
theorem dX8_add_120 : decode cX8_add 120 = .ok (.iaload, 1) := by decide +kernel
theorem dX8_add_121 : decode cX8_add 121 = .ok (.iload_n 1, 1) := by decide +kernel
theorem dX8_add_122 : decode cX8_add 122 = .ok (.iload_n 3, 1) := by decide +kernel
theorem dX8_add_123 : decode cX8_add 123 = .ok (.iload 4, 2) := by decide +kernel
theorem dX8_add_125 : decode cX8_add 125 = .ok (.invokestatic 77, 3) := by decide +kernel
theorem dX8_add_128 : decode cX8_add 128 = .ok (.ifCond .eq 7, 3) := by decide +kernel
theorem dX8_add_131 : decode cX8_add 131 = .ok (.iload_n 2, 1) := by decide +kernel
theorem dX8_add_132 : decode cX8_add 132 = .ok (.goto 4, 3) := by decide +kernel
theorem dX8_add_135 : decode cX8_add 135 = .ok (.iconst 0, 1) := by decide +kernel
theorem dX8_add_136 : decode cX8_add 136 = .ok (.iadd, 1) := by decide +kernel
theorem dX8_add_137 : decode cX8_add 137 = .ok (.iastore, 1) := by decide +kernel
theorem dX8_add_138 : decode cX8_add 138 = .ok (.iinc 4 1, 3) := by decide +kernel
theorem dX8_add_141 : decode cX8_add 141 = .ok (.goto (-42), 3) := by decide +kernel
theorem dX8_add_144 : decode cX8_add 144 = .ok (.iinc 3 1, 3) := by decide +kernel
theorem dX8_add_147 : decode cX8_add 147 = .ok (.goto (-59), 3) := by decide +kernel
theorem dX8_add_150 : decode cX8_add 150 = .ok (.iconst 0, 1) := by decide +kernel
theorem dX8_add_151 : decode cX8_add 151 = .ok (.ireturn, 1) := by decide +kernel
theorem dX8_bears_0 : decode cX8_bears 0 = .ok (.sipush 9999, 3) := by decide +kernel
theorem dX8_bears_3 : decode cX8_bears 3 = .ok (.istore_n 2, 1) := by decide +kernel
theorem dX8_bears_4 : decode cX8_bears 4 = .ok (.iconst 0, 1) := by decide +kernel
theorem dX8_bears_5 : decode cX8_bears 5 = .ok (.istore_n 3, 1) := by decide +kernel
theorem dX8_bears_6 : decode cX8_bears 6 = .ok (.iload_n 3, 1) := by decide +kernel
theorem dX8_bears_7 : decode cX8_bears 7 = .ok (.aload_n 0, 1) := by decide +kernel
theorem dX8_bears_8 : decode cX8_bears 8 = .ok (.getfield 7, 3) := by decide +kernel
theorem dX8_bears_11 : decode cX8_bears 11 = .ok (.if_icmp .ge 157, 3) := by decide +kernel
theorem dX8_bears_14 : decode cX8_bears 14 = .ok (.iconst 0, 1) := by decide +kernel
theorem dX8_bears_15 : decode cX8_bears 15 = .ok (.istore 4, 2) := by decide +kernel
theorem dX8_bears_17 : decode cX8_bears 17 = .ok (.iload 4, 2) := by decide +kernel
theorem dX8_bears_19 : decode cX8_bears 19 = .ok (.aload_n 0, 1) := by decide +kernel
theorem dX8_bears_20 : decode cX8_bears 20 = .ok (.getfield 7, 3) := by decide +kernel
theorem dX8_bears_23 : decode cX8_bears 23 = .ok (.if_icmp .ge 139, 3) := by decide +kernel
theorem dX8_bears_26 : decode cX8_bears 26 = .ok (.aload_n 0, 1) := by decide +kernel
theorem dX8_bears_27 : decode cX8_bears 27 = .ok (.getfield 17, 3) := by decide +kernel
theorem dX8_bears_30 : decode cX8_bears 30 = .ok (.bipush 6, 2) := by decide +kernel
theorem dX8_bears_32 : decode cX8_bears 32 = .ok (.iload_n 3, 1) := by decide +kernel
theorem dX8_bears_33 : decode cX8_bears 33 = .ok (.imul, 1) := by decide +kernel
theorem dX8_bears_34 : decode cX8_bears 34 = .ok (.iload 4, 2) := by decide +kernel
theorem dX8_bears_36 : decode cX8_bears 36 = .ok (.iadd, 1) := by decide +kernel
theorem dX8_bears_37 : decode cX8_bears 37 = .ok (.iaload, 1) := by decide +kernel
theorem dX8_bears_38 : decode cX8_bears 38 = .ok (.istore 5, 2) := by decide +kernel
theorem dX8_bears_40 : decode cX8_bears 40 = .ok (.iload_n 1, 1) := by decide +kernel
theorem dX8_bears_41 : decode cX8_bears 41 = .ok (.iload_n 3, 1) := by decide +kernel
theorem dX8_bears_42 : decode cX8_bears 42 = .ok (.iload 4, 2) := by decide +kernel
theorem dX8_bears_44 : decode cX8_bears 44 = .ok (.invokestatic 77, 3) := by decide +kernel
theorem dX8_bears_47 : decode cX8_bears 47 = .ok (.ifCond .eq 14, 3) := by decide +kernel
theorem dX8_bears_50 : decode cX8_bears 50 = .ok (.iload 5, 2) := by decide +kernel
theorem dX8_bears_52 : decode cX8_bears 52 = .ok (.iload_n 2, 1) := by decide +kernel
theorem dX8_bears_53 : decode cX8_bears 53 = .ok (.if_icmp .ge 8, 3) := by decide +kernel
theorem dX8_bears_56 : decode cX8_bears 56 = .ok (.iload 5, 2) := by decide +kernel
theorem dX8_bears_58 : decode cX8_bears 58 = .ok (.goto 4, 3) := by decide +kernel
theorem dX8_bears_61 : decode cX8_bears 61 = .ok (.iload_n 2, 1) := by decide +kernel
theorem dX8_bears_62 : decode cX8_bears 62 = .ok (.istore_n 2, 1) := by decide +kernel
theorem dX8_bears_63 : decode cX8_bears 63 = .ok (.iconst 0, 1) := by decide +kernel
theorem dX8_bears_64 : decode cX8_bears 64 = .ok (.istore 6, 2) := by decide +kernel
theorem dX8_bears_66 : decode cX8_bears 66 = .ok (.iload 6, 2) := by decide +kernel
theorem dX8_bears_68 : decode cX8_bears 68 = .ok (.aload_n 0, 1) := by decide +kernel
theorem dX8_bears_69 : decode cX8_bears 69 = .ok (.getfield 7, 3) := by decide +kernel
theorem dX8_bears_72 : decode cX8_bears 72 = .ok (.if_icmp .ge 84, 3) := by decide +kernel
theorem dX8_bears_75 : decode cX8_bears 75 = .ok (.aload_n 0, 1) := by decide +kernel
theorem dX8_bears_76 : decode cX8_bears 76 = .ok (.getfield 17, 3) := by decide +kernel
theorem dX8_bears_79 : decode cX8_bears 79 = .ok (.bipush 6, 2) := by decide +kernel
theorem dX8_bears_81 : decode cX8_bears 81 = .ok (.iload_n 3, 1) := by decide +kernel
theorem dX8_bears_82 : decode cX8_bears 82 = .ok (.imul, 1) := by decide +kernel
theorem dX8_bears_83 : decode cX8_bears 83 = .ok (.iload 6, 2) := by decide +kernel
theorem dX8_bears_85 : decode cX8_bears 85 = .ok (.iadd, 1) := by decide +kernel
theorem dX8_bears_86 : decode cX8_bears 86 = .ok (.iaload, 1) := by decide +kernel
theorem dX8_bears_87 : decode cX8_bears 87 = .ok (.aload_n 0, 1) := by decide +kernel
theorem dX8_bears_88 : decode cX8_bears 88 = .ok (.getfield 17, 3) := by decide +kernel
theorem dX8_bears_91 : decode cX8_bears 91 = .ok (.bipush 6, 2) := by decide +kernel
theorem dX8_bears_93 : decode cX8_bears 93 = .ok (.iload 6, 2) := by decide +kernel
theorem dX8_bears_95 : decode cX8_bears 95 = .ok (.imul, 1) := by decide +kernel
theorem dX8_bears_96 : decode cX8_bears 96 = .ok (.iload 4, 2) := by decide +kernel
theorem dX8_bears_98 : decode cX8_bears 98 = .ok (.iadd, 1) := by decide +kernel
theorem dX8_bears_99 : decode cX8_bears 99 = .ok (.iaload, 1) := by decide +kernel
theorem dX8_bears_100 : decode cX8_bears 100 = .ok (.iadd, 1) := by decide +kernel
theorem dX8_bears_101 : decode cX8_bears 101 = .ok (.iload 5, 2) := by decide +kernel
theorem dX8_bears_103 : decode cX8_bears 103 = .ok (.isub, 1) := by decide +kernel
theorem dX8_bears_104 : decode cX8_bears 104 = .ok (.istore 7, 2) := by decide +kernel
theorem dX8_bears_106 : decode cX8_bears 106 = .ok (.iload 7, 2) := by decide +kernel
theorem dX8_bears_108 : decode cX8_bears 108 = .ok (.ifCond .ge 5, 3) := by decide +kernel
theorem dX8_bears_111 : decode cX8_bears 111 = .ok (.iconst 0, 1) := by decide +kernel
theorem dX8_bears_112 : decode cX8_bears 112 = .ok (.ireturn, 1) := by decide +kernel
theorem dX8_bears_113 : decode cX8_bears 113 = .ok (.iload_n 1, 1) := by decide +kernel
theorem dX8_bears_114 : decode cX8_bears 114 = .ok (.iload_n 3, 1) := by decide +kernel
theorem dX8_bears_115 : decode cX8_bears 115 = .ok (.iload 4, 2) := by decide +kernel
theorem dX8_bears_117 : decode cX8_bears 117 = .ok (.invokestatic 77, 3) := by decide +kernel
theorem dX8_bears_120 : decode cX8_bears 120 = .ok (.ifCond .ne 28, 3) := by decide +kernel
theorem dX8_bears_123 : decode cX8_bears 123 = .ok (.iload_n 1, 1) := by decide +kernel
theorem dX8_bears_124 : decode cX8_bears 124 = .ok (.iload_n 3, 1) := by decide +kernel
theorem dX8_bears_125 : decode cX8_bears 125 = .ok (.iload 6, 2) := by decide +kernel
theorem dX8_bears_127 : decode cX8_bears 127 = .ok (.invokestatic 77, 3) := by decide +kernel
theorem dX8_bears_130 : decode cX8_bears 130 = .ok (.ifCond .eq 18, 3) := by decide +kernel
theorem dX8_bears_133 : decode cX8_bears 133 = .ok (.iload 7, 2) := by decide +kernel
theorem dX8_bears_135 : decode cX8_bears 135 = .ok (.iconst 2, 1) := by decide +kernel
theorem dX8_bears_136 : decode cX8_bears 136 = .ok (.idiv, 1) := by decide +kernel
theorem dX8_bears_137 : decode cX8_bears 137 = .ok (.iload_n 2, 1) := by decide +kernel
theorem dX8_bears_138 : decode cX8_bears 138 = .ok (.if_icmp .ge 10, 3) := by decide +kernel
theorem dX8_bears_141 : decode cX8_bears 141 = .ok (.iload 7, 2) := by decide +kernel
theorem dX8_bears_143 : decode cX8_bears 143 = .ok (.iconst 2, 1) := by decide +kernel
theorem dX8_bears_144 : decode cX8_bears 144 = .ok (.idiv, 1) := by decide +kernel
theorem dX8_bears_145 : decode cX8_bears 145 = .ok (.goto 4, 3) := by decide +kernel
theorem dX8_bears_148 : decode cX8_bears 148 = .ok (.iload_n 2, 1) := by decide +kernel
theorem dX8_bears_149 : decode cX8_bears 149 = .ok (.istore_n 2, 1) := by decide +kernel
theorem dX8_bears_150 : decode cX8_bears 150 = .ok (.iinc 6 1, 3) := by decide +kernel
theorem dX8_bears_153 : decode cX8_bears 153 = .ok (.goto (-87), 3) := by decide +kernel
theorem dX8_bears_156 : decode cX8_bears 156 = .ok (.iinc 4 1, 3) := by decide +kernel
theorem dX8_bears_159 : decode cX8_bears 159 = .ok (.goto (-142), 3) := by decide +kernel
theorem dX8_bears_162 : decode cX8_bears 162 = .ok (.iinc 3 1, 3) := by decide +kernel
theorem dX8_bears_165 : decode cX8_bears 165 = .ok (.goto (-159), 3) := by decide +kernel
theorem dX8_bears_168 : decode cX8_bears 168 = .ok (.iload_n 2, 1) := by decide +kernel
theorem dX8_bears_169 : decode cX8_bears 169 = .ok (.ireturn, 1) := by decide +kernel
theorem dX8_peelAll_0 : decode cX8_peelAll 0 = .ok (.iconst 0, 1) := by decide +kernel
theorem dX8_peelAll_1 : decode cX8_peelAll 1 = .ok (.istore_n 1, 1) := by decide +kernel
theorem dX8_peelAll_2 : decode cX8_peelAll 2 = .ok (.iload_n 1, 1) := by decide +kernel
theorem dX8_peelAll_3 : decode cX8_peelAll 3 = .ok (.bipush 36, 2) := by decide +kernel
theorem dX8_peelAll_5 : decode cX8_peelAll 5 = .ok (.if_icmp .ge 23, 3) := by decide +kernel
theorem dX8_peelAll_8 : decode cX8_peelAll 8 = .ok (.aload_n 0, 1) := by decide +kernel
theorem dX8_peelAll_9 : decode cX8_peelAll 9 = .ok (.getfield 17, 3) := by decide +kernel
theorem dX8_peelAll_12 : decode cX8_peelAll 12 = .ok (.iload_n 1, 1) := by decide +kernel
theorem dX8_peelAll_13 : decode cX8_peelAll 13 = .ok (.iconst 2, 1) := by decide +kernel
theorem dX8_peelAll_14 : decode cX8_peelAll 14 = .ok (.aload_n 0, 1) := by decide +kernel
theorem dX8_peelAll_15 : decode cX8_peelAll 15 = .ok (.getfield 13, 3) := by decide +kernel
theorem dX8_peelAll_18 : decode cX8_peelAll 18 = .ok (.iload_n 1, 1) := by decide +kernel
theorem dX8_peelAll_19 : decode cX8_peelAll 19 = .ok (.iaload, 1) := by decide +kernel
theorem dX8_peelAll_20 : decode cX8_peelAll 20 = .ok (.imul, 1) := by decide +kernel
theorem dX8_peelAll_21 : decode cX8_peelAll 21 = .ok (.iastore, 1) := by decide +kernel
theorem dX8_peelAll_22 : decode cX8_peelAll 22 = .ok (.iinc 1 1, 3) := by decide +kernel
theorem dX8_peelAll_25 : decode cX8_peelAll 25 = .ok (.goto (-23), 3) := by decide +kernel
theorem dX8_peelAll_28 : decode cX8_peelAll 28 = .ok (.iconst 2, 1) := by decide +kernel
theorem dX8_peelAll_29 : decode cX8_peelAll 29 = .ok (.istore_n 1, 1) := by decide +kernel
theorem dX8_peelAll_30 : decode cX8_peelAll 30 = .ok (.iload_n 1, 1) := by decide +kernel
theorem dX8_peelAll_31 : decode cX8_peelAll 31 = .ok (.iconst 1, 1) := by decide +kernel
theorem dX8_peelAll_32 : decode cX8_peelAll 32 = .ok (.aload_n 0, 1) := by decide +kernel
theorem dX8_peelAll_33 : decode cX8_peelAll 33 = .ok (.getfield 7, 3) := by decide +kernel
theorem dX8_peelAll_36 : decode cX8_peelAll 36 = .ok (.ishl, 1) := by decide +kernel
theorem dX8_peelAll_37 : decode cX8_peelAll 37 = .ok (.if_icmp .ge 86, 3) := by decide +kernel
theorem dX8_peelAll_40 : decode cX8_peelAll 40 = .ok (.aload_n 0, 1) := by decide +kernel
theorem dX8_peelAll_41 : decode cX8_peelAll 41 = .ok (.iload_n 1, 1) := by decide +kernel
theorem dX8_peelAll_42 : decode cX8_peelAll 42 = .ok (.invokevirtual 80, 3) := by decide +kernel
theorem dX8_peelAll_45 : decode cX8_peelAll 45 = .ok (.istore_n 2, 1) := by decide +kernel
theorem dX8_peelAll_46 : decode cX8_peelAll 46 = .ok (.aload_n 0, 1) := by decide +kernel
theorem dX8_peelAll_47 : decode cX8_peelAll 47 = .ok (.getfield 20, 3) := by decide +kernel
theorem dX8_peelAll_50 : decode cX8_peelAll 50 = .ok (.iload_n 1, 1) := by decide +kernel
theorem dX8_peelAll_51 : decode cX8_peelAll 51 = .ok (.iload_n 2, 1) := by decide +kernel
theorem dX8_peelAll_52 : decode cX8_peelAll 52 = .ok (.iastore, 1) := by decide +kernel
theorem dX8_peelAll_53 : decode cX8_peelAll 53 = .ok (.iconst 0, 1) := by decide +kernel
theorem dX8_peelAll_54 : decode cX8_peelAll 54 = .ok (.istore_n 3, 1) := by decide +kernel
theorem dX8_peelAll_55 : decode cX8_peelAll 55 = .ok (.iload_n 3, 1) := by decide +kernel
theorem dX8_peelAll_56 : decode cX8_peelAll 56 = .ok (.aload_n 0, 1) := by decide +kernel
theorem dX8_peelAll_57 : decode cX8_peelAll 57 = .ok (.getfield 7, 3) := by decide +kernel
theorem dX8_peelAll_60 : decode cX8_peelAll 60 = .ok (.if_icmp .ge 57, 3) := by decide +kernel
theorem dX8_peelAll_63 : decode cX8_peelAll 63 = .ok (.iconst 0, 1) := by decide +kernel
theorem dX8_peelAll_64 : decode cX8_peelAll 64 = .ok (.istore 4, 2) := by decide +kernel
theorem dX8_peelAll_66 : decode cX8_peelAll 66 = .ok (.iload 4, 2) := by decide +kernel
theorem dX8_peelAll_68 : decode cX8_peelAll 68 = .ok (.aload_n 0, 1) := by decide +kernel
theorem dX8_peelAll_69 : decode cX8_peelAll 69 = .ok (.getfield 7, 3) := by decide +kernel
theorem dX8_peelAll_72 : decode cX8_peelAll 72 = .ok (.if_icmp .ge 39, 3) := by decide +kernel
theorem dX8_peelAll_75 : decode cX8_peelAll 75 = .ok (.aload_n 0, 1) := by decide +kernel
theorem dX8_peelAll_76 : decode cX8_peelAll 76 = .ok (.getfield 17, 3) := by decide +kernel
theorem dX8_peelAll_79 : decode cX8_peelAll 79 = .ok (.bipush 6, 2) := by decide +kernel
theorem dX8_peelAll_81 : decode cX8_peelAll 81 = .ok (.iload_n 3, 1) := by decide +kernel
theorem dX8_peelAll_82 : decode cX8_peelAll 82 = .ok (.imul, 1) := by decide +kernel
theorem dX8_peelAll_83 : decode cX8_peelAll 83 = .ok (.iload 4, 2) := by decide +kernel
theorem dX8_peelAll_85 : decode cX8_peelAll 85 = .ok (.iadd, 1) := by decide +kernel
theorem dX8_peelAll_86 : decode cX8_peelAll 86 = .ok (.dup2, 1) := by decide +kernel
theorem dX8_peelAll_87 : decode cX8_peelAll 87 = .ok (.iaload, 1) := by decide +kernel
theorem dX8_peelAll_88 : decode cX8_peelAll 88 = .ok (.iload_n 1, 1) := by decide +kernel
theorem dX8_peelAll_89 : decode cX8_peelAll 89 = .ok (.iload_n 3, 1) := by decide +kernel
theorem dX8_peelAll_90 : decode cX8_peelAll 90 = .ok (.iload 4, 2) := by decide +kernel
theorem dX8_peelAll_92 : decode cX8_peelAll 92 = .ok (.invokestatic 77, 3) := by decide +kernel
theorem dX8_peelAll_95 : decode cX8_peelAll 95 = .ok (.ifCond .eq 7, 3) := by decide +kernel
theorem dX8_peelAll_98 : decode cX8_peelAll 98 = .ok (.iload_n 2, 1) := by decide +kernel
theorem dX8_peelAll_99 : decode cX8_peelAll 99 = .ok (.goto 4, 3) := by decide +kernel
theorem dX8_peelAll_102 : decode cX8_peelAll 102 = .ok (.iconst 0, 1) := by decide +kernel
theorem dX8_peelAll_103 : decode cX8_peelAll 103 = .ok (.isub, 1) := by decide +kernel
theorem dX8_peelAll_104 : decode cX8_peelAll 104 = .ok (.iastore, 1) := by decide +kernel
theorem dX8_peelAll_105 : decode cX8_peelAll 105 = .ok (.iinc 4 1, 3) := by decide +kernel
theorem dX8_peelAll_108 : decode cX8_peelAll 108 = .ok (.goto (-42), 3) := by decide +kernel
theorem dX8_peelAll_111 : decode cX8_peelAll 111 = .ok (.iinc 3 1, 3) := by decide +kernel
theorem dX8_peelAll_114 : decode cX8_peelAll 114 = .ok (.goto (-59), 3) := by decide +kernel
theorem dX8_peelAll_117 : decode cX8_peelAll 117 = .ok (.iinc 1 2, 3) := by decide +kernel
theorem dX8_peelAll_120 : decode cX8_peelAll 120 = .ok (.goto (-90), 3) := by decide +kernel
theorem dX8_peelAll_123 : decode cX8_peelAll 123 = .ok (.return_, 1) := by decide +kernel
theorem dX8_peel_0 : decode cX8_peel 0 = .ok (.aload_n 0, 1) := by decide +kernel
theorem dX8_peel_1 : decode cX8_peel 1 = .ok (.iload_n 1, 1) := by decide +kernel
theorem dX8_peel_2 : decode cX8_peel 2 = .ok (.invokevirtual 74, 3) := by decide +kernel
theorem dX8_peel_5 : decode cX8_peel 5 = .ok (.ifCond .ne 5, 3) := by decide +kernel
theorem dX8_peel_8 : decode cX8_peel 8 = .ok (.iconst (-1), 1) := by decide +kernel
theorem dX8_peel_9 : decode cX8_peel 9 = .ok (.ireturn, 1) := by decide +kernel
theorem dX8_peel_10 : decode cX8_peel 10 = .ok (.aload_n 0, 1) := by decide +kernel
theorem dX8_peel_11 : decode cX8_peel 11 = .ok (.invokevirtual 83, 3) := by decide +kernel
theorem dX8_peel_14 : decode cX8_peel 14 = .ok (.aload_n 0, 1) := by decide +kernel
theorem dX8_peel_15 : decode cX8_peel 15 = .ok (.getfield 20, 3) := by decide +kernel
theorem dX8_peel_18 : decode cX8_peel 18 = .ok (.iload_n 1, 1) := by decide +kernel
theorem dX8_peel_19 : decode cX8_peel 19 = .ok (.iaload, 1) := by decide +kernel
theorem dX8_peel_20 : decode cX8_peel 20 = .ok (.ireturn, 1) := by decide +kernel
theorem dX8_left_0 : decode cX8_left 0 = .ok (.aload_n 0, 1) := by decide +kernel
theorem dX8_left_1 : decode cX8_left 1 = .ok (.iload_n 1, 1) := by decide +kernel
theorem dX8_left_2 : decode cX8_left 2 = .ok (.invokevirtual 43, 3) := by decide +kernel
theorem dX8_left_5 : decode cX8_left 5 = .ok (.ifCond .eq 11, 3) := by decide +kernel
theorem dX8_left_8 : decode cX8_left 8 = .ok (.aload_n 0, 1) := by decide +kernel
theorem dX8_left_9 : decode cX8_left 9 = .ok (.iload_n 2, 1) := by decide +kernel
theorem dX8_left_10 : decode cX8_left 10 = .ok (.invokevirtual 43, 3) := by decide +kernel
theorem dX8_left_13 : decode cX8_left 13 = .ok (.ifCond .ne 5, 3) := by decide +kernel
theorem dX8_left_16 : decode cX8_left 16 = .ok (.iconst (-1), 1) := by decide +kernel
theorem dX8_left_17 : decode cX8_left 17 = .ok (.ireturn, 1) := by decide +kernel
theorem dX8_left_18 : decode cX8_left 18 = .ok (.aload_n 0, 1) := by decide +kernel
theorem dX8_left_19 : decode cX8_left 19 = .ok (.invokevirtual 83, 3) := by decide +kernel
theorem dX8_left_22 : decode cX8_left 22 = .ok (.aload_n 0, 1) := by decide +kernel
theorem dX8_left_23 : decode cX8_left 23 = .ok (.getfield 17, 3) := by decide +kernel
theorem dX8_left_26 : decode cX8_left 26 = .ok (.bipush 6, 2) := by decide +kernel
theorem dX8_left_28 : decode cX8_left 28 = .ok (.iload_n 1, 1) := by decide +kernel
theorem dX8_left_29 : decode cX8_left 29 = .ok (.imul, 1) := by decide +kernel
theorem dX8_left_30 : decode cX8_left 30 = .ok (.iload_n 2, 1) := by decide +kernel
theorem dX8_left_31 : decode cX8_left 31 = .ok (.iadd, 1) := by decide +kernel
theorem dX8_left_32 : decode cX8_left 32 = .ok (.iaload, 1) := by decide +kernel
theorem dX8_left_33 : decode cX8_left 33 = .ok (.ireturn, 1) := by decide +kernel
theorem dX8_isOrder_0 : decode cX8_isOrder 0 = .ok (.iconst 0, 1) := by decide +kernel
theorem dX8_isOrder_1 : decode cX8_isOrder 1 = .ok (.istore_n 2, 1) := by decide +kernel
theorem dX8_isOrder_2 : decode cX8_isOrder 2 = .ok (.iconst 0, 1) := by decide +kernel
theorem dX8_isOrder_3 : decode cX8_isOrder 3 = .ok (.istore_n 3, 1) := by decide +kernel
theorem dX8_isOrder_4 : decode cX8_isOrder 4 = .ok (.iload_n 3, 1) := by decide +kernel
theorem dX8_isOrder_5 : decode cX8_isOrder 5 = .ok (.aload_n 0, 1) := by decide +kernel
theorem dX8_isOrder_6 : decode cX8_isOrder 6 = .ok (.getfield 7, 3) := by decide +kernel
theorem dX8_isOrder_9 : decode cX8_isOrder 9 = .ok (.if_icmp .ge 22, 3) := by decide +kernel
theorem dX8_isOrder_12 : decode cX8_isOrder 12 = .ok (.iload_n 2, 1) := by decide +kernel
theorem dX8_isOrder_13 : decode cX8_isOrder 13 = .ok (.iconst 1, 1) := by decide +kernel
theorem dX8_isOrder_14 : decode cX8_isOrder 14 = .ok (.iload_n 1, 1) := by decide +kernel
theorem dX8_isOrder_15 : decode cX8_isOrder 15 = .ok (.iconst 3, 1) := by decide +kernel
theorem dX8_isOrder_16 : decode cX8_isOrder 16 = .ok (.iload_n 3, 1) := by decide +kernel
theorem dX8_isOrder_17 : decode cX8_isOrder 17 = .ok (.imul, 1) := by decide +kernel
theorem dX8_isOrder_18 : decode cX8_isOrder 18 = .ok (.ishr, 1) := by decide +kernel
theorem dX8_isOrder_19 : decode cX8_isOrder 19 = .ok (.bipush 7, 2) := by decide +kernel
theorem dX8_isOrder_21 : decode cX8_isOrder 21 = .ok (.iand, 1) := by decide +kernel
theorem dX8_isOrder_22 : decode cX8_isOrder 22 = .ok (.ishl, 1) := by decide +kernel
theorem dX8_isOrder_23 : decode cX8_isOrder 23 = .ok (.ior, 1) := by decide +kernel
theorem dX8_isOrder_24 : decode cX8_isOrder 24 = .ok (.istore_n 2, 1) := by decide +kernel
theorem dX8_isOrder_25 : decode cX8_isOrder 25 = .ok (.iinc 3 1, 3) := by decide +kernel
theorem dX8_isOrder_28 : decode cX8_isOrder 28 = .ok (.goto (-24), 3) := by decide +kernel
theorem dX8_isOrder_31 : decode cX8_isOrder 31 = .ok (.iload_n 1, 1) := by decide +kernel
theorem dX8_isOrder_32 : decode cX8_isOrder 32 = .ok (.ifCond .lt 30, 3) := by decide +kernel
theorem dX8_isOrder_35 : decode cX8_isOrder 35 = .ok (.iload_n 1, 1) := by decide +kernel
theorem dX8_isOrder_36 : decode cX8_isOrder 36 = .ok (.iconst 3, 1) := by decide +kernel
theorem dX8_isOrder_37 : decode cX8_isOrder 37 = .ok (.aload_n 0, 1) := by decide +kernel
theorem dX8_isOrder_38 : decode cX8_isOrder 38 = .ok (.getfield 7, 3) := by decide +kernel
theorem dX8_isOrder_41 : decode cX8_isOrder 41 = .ok (.imul, 1) := by decide +kernel
theorem dX8_isOrder_42 : decode cX8_isOrder 42 = .ok (.ishr, 1) := by decide +kernel
theorem dX8_isOrder_43 : decode cX8_isOrder 43 = .ok (.ifCond .ne 19, 3) := by decide +kernel
theorem dX8_isOrder_46 : decode cX8_isOrder 46 = .ok (.iload_n 2, 1) := by decide +kernel
theorem dX8_isOrder_47 : decode cX8_isOrder 47 = .ok (.iconst 1, 1) := by decide +kernel
theorem dX8_isOrder_48 : decode cX8_isOrder 48 = .ok (.aload_n 0, 1) := by decide +kernel
theorem dX8_isOrder_49 : decode cX8_isOrder 49 = .ok (.getfield 7, 3) := by decide +kernel
theorem dX8_isOrder_52 : decode cX8_isOrder 52 = .ok (.ishl, 1) := by decide +kernel
theorem dX8_isOrder_53 : decode cX8_isOrder 53 = .ok (.iconst 1, 1) := by decide +kernel
theorem dX8_isOrder_54 : decode cX8_isOrder 54 = .ok (.isub, 1) := by decide +kernel
theorem dX8_isOrder_55 : decode cX8_isOrder 55 = .ok (.if_icmp .ne 7, 3) := by decide +kernel
theorem dX8_isOrder_58 : decode cX8_isOrder 58 = .ok (.iconst 1, 1) := by decide +kernel
theorem dX8_isOrder_59 : decode cX8_isOrder 59 = .ok (.goto 4, 3) := by decide +kernel
theorem dX8_isOrder_62 : decode cX8_isOrder 62 = .ok (.iconst 0, 1) := by decide +kernel
theorem dX8_isOrder_63 : decode cX8_isOrder 63 = .ok (.ireturn, 1) := by decide +kernel
theorem dX8_lays_0 : decode cX8_lays 0 = .ok (.iconst 0, 1) := by decide +kernel
theorem dX8_lays_1 : decode cX8_lays 1 = .ok (.istore_n 2, 1) := by decide +kernel
theorem dX8_lays_2 : decode cX8_lays 2 = .ok (.iload_n 2, 1) := by decide +kernel
theorem dX8_lays_3 : decode cX8_lays 3 = .ok (.aload_n 0, 1) := by decide +kernel
theorem dX8_lays_4 : decode cX8_lays 4 = .ok (.getfield 7, 3) := by decide +kernel
theorem dX8_lays_7 : decode cX8_lays 7 = .ok (.if_icmp .ge 96, 3) := by decide +kernel
theorem dX8_lays_10 : decode cX8_lays 10 = .ok (.iload_n 1, 1) := by decide +kernel
theorem dX8_lays_11 : decode cX8_lays 11 = .ok (.iconst 3, 1) := by decide +kernel
theorem dX8_lays_12 : decode cX8_lays 12 = .ok (.iload_n 2, 1) := by decide +kernel
theorem dX8_lays_13 : decode cX8_lays 13 = .ok (.imul, 1) := by decide +kernel
theorem dX8_lays_14 : decode cX8_lays 14 = .ok (.ishr, 1) := by decide +kernel
theorem dX8_lays_15 : decode cX8_lays 15 = .ok (.bipush 7, 2) := by decide +kernel
theorem dX8_lays_17 : decode cX8_lays 17 = .ok (.iand, 1) := by decide +kernel
theorem dX8_lays_18 : decode cX8_lays 18 = .ok (.istore_n 3, 1) := by decide +kernel
theorem dX8_lays_19 : decode cX8_lays 19 = .ok (.aload_n 0, 1) := by decide +kernel
theorem dX8_lays_20 : decode cX8_lays 20 = .ok (.getfield 33, 3) := by decide +kernel
theorem dX8_lays_23 : decode cX8_lays 23 = .ok (.iload_n 3, 1) := by decide +kernel
theorem dX8_lays_24 : decode cX8_lays 24 = .ok (.iconst 0, 1) := by decide +kernel
theorem dX8_lays_25 : decode cX8_lays 25 = .ok (.iastore, 1) := by decide +kernel
theorem dX8_lays_26 : decode cX8_lays 26 = .ok (.iconst 0, 1) := by decide +kernel
theorem dX8_lays_27 : decode cX8_lays 27 = .ok (.istore 4, 2) := by decide +kernel
theorem dX8_lays_29 : decode cX8_lays 29 = .ok (.iload 4, 2) := by decide +kernel
theorem dX8_lays_31 : decode cX8_lays 31 = .ok (.iload_n 2, 1) := by decide +kernel
theorem dX8_lays_32 : decode cX8_lays 32 = .ok (.if_icmp .ge 65, 3) := by decide +kernel
theorem dX8_lays_35 : decode cX8_lays 35 = .ok (.iload_n 1, 1) := by decide +kernel
theorem dX8_lays_36 : decode cX8_lays 36 = .ok (.iconst 3, 1) := by decide +kernel
theorem dX8_lays_37 : decode cX8_lays 37 = .ok (.iload 4, 2) := by decide +kernel
theorem dX8_lays_39 : decode cX8_lays 39 = .ok (.imul, 1) := by decide +kernel
theorem dX8_lays_40 : decode cX8_lays 40 = .ok (.ishr, 1) := by decide +kernel
theorem dX8_lays_41 : decode cX8_lays 41 = .ok (.bipush 7, 2) := by decide +kernel
theorem dX8_lays_43 : decode cX8_lays 43 = .ok (.iand, 1) := by decide +kernel
theorem dX8_lays_44 : decode cX8_lays 44 = .ok (.istore 5, 2) := by decide +kernel
theorem dX8_lays_46 : decode cX8_lays 46 = .ok (.aload_n 0, 1) := by decide +kernel
theorem dX8_lays_47 : decode cX8_lays 47 = .ok (.getfield 33, 3) := by decide +kernel
theorem dX8_lays_50 : decode cX8_lays 50 = .ok (.iload 5, 2) := by decide +kernel
theorem dX8_lays_52 : decode cX8_lays 52 = .ok (.iaload, 1) := by decide +kernel
theorem dX8_lays_53 : decode cX8_lays 53 = .ok (.aload_n 0, 1) := by decide +kernel
theorem dX8_lays_54 : decode cX8_lays 54 = .ok (.iload 5, 2) := by decide +kernel
theorem dX8_lays_56 : decode cX8_lays 56 = .ok (.iload_n 3, 1) := by decide +kernel
theorem dX8_lays_57 : decode cX8_lays 57 = .ok (.invokevirtual 47, 3) := by decide +kernel
theorem dX8_lays_60 : decode cX8_lays 60 = .ok (.iadd, 1) := by decide +kernel
theorem dX8_lays_61 : decode cX8_lays 61 = .ok (.istore 6, 2) := by decide +kernel
theorem dX8_lays_63 : decode cX8_lays 63 = .ok (.aload_n 0, 1) := by decide +kernel
theorem dX8_lays_64 : decode cX8_lays 64 = .ok (.getfield 33, 3) := by decide +kernel
theorem dX8_lays_67 : decode cX8_lays 67 = .ok (.iload_n 3, 1) := by decide +kernel
theorem dX8_lays_68 : decode cX8_lays 68 = .ok (.iload 6, 2) := by decide +kernel
theorem dX8_lays_70 : decode cX8_lays 70 = .ok (.aload_n 0, 1) := by decide +kernel
theorem dX8_lays_71 : decode cX8_lays 71 = .ok (.getfield 33, 3) := by decide +kernel
theorem dX8_lays_74 : decode cX8_lays 74 = .ok (.iload_n 3, 1) := by decide +kernel
theorem dX8_lays_75 : decode cX8_lays 75 = .ok (.iaload, 1) := by decide +kernel
theorem dX8_lays_76 : decode cX8_lays 76 = .ok (.if_icmp .le 8, 3) := by decide +kernel
theorem dX8_lays_79 : decode cX8_lays 79 = .ok (.iload 6, 2) := by decide +kernel
theorem dX8_lays_81 : decode cX8_lays 81 = .ok (.goto 9, 3) := by decide +kernel
theorem dX8_lays_84 : decode cX8_lays 84 = .ok (.aload_n 0, 1) := by decide +kernel
theorem dX8_lays_85 : decode cX8_lays 85 = .ok (.getfield 33, 3) := by decide +kernel
theorem dX8_lays_88 : decode cX8_lays 88 = .ok (.iload_n 3, 1) := by decide +kernel
theorem dX8_lays_89 : decode cX8_lays 89 = .ok (.iaload, 1) := by decide +kernel
theorem dX8_lays_90 : decode cX8_lays 90 = .ok (.iastore, 1) := by decide +kernel
