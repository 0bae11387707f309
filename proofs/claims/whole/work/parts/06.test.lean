theorem dX6_holdStatement_0 : decode cX6_holdStatement 0 = .ok (.aload_n 0, 1) := by decide +kernel
theorem dX6_holdStatement_1 : decode cX6_holdStatement 1 = .ok (.getfield 18, 3) := by decide +kernel
theorem dX6_holdStatement_4 : decode cX6_holdStatement 4 = .ok (.getfield 160, 3) := by decide +kernel
theorem dX6_holdStatement_7 : decode cX6_holdStatement 7 = .ok (.invokevirtual 105, 3) := by decide +kernel
theorem dX6_holdStatement_10 : decode cX6_holdStatement 10 = .ok (.ifCond .ne 16, 3) := by decide +kernel
theorem dX6_holdStatement_13 : decode cX6_holdStatement 13 = .ok (.aload_n 0, 1) := by decide +kernel
theorem dX6_holdStatement_14 : decode cX6_holdStatement 14 = .ok (.getfield 18, 3) := by decide +kernel
theorem dX6_holdStatement_17 : decode cX6_holdStatement 17 = .ok (.getfield 134, 3) := by decide +kernel
theorem dX6_holdStatement_20 : decode cX6_holdStatement 20 = .ok (.getfield 137, 3) := by decide +kernel
theorem dX6_holdStatement_23 : decode cX6_holdStatement 23 = .ok (.ifCond .ne 9, 3) := by decide +kernel
theorem dX6_holdStatement_26 : decode cX6_holdStatement 26 = .ok (.aload_n 0, 1) := by decide +kernel
theorem dX6_holdStatement_27 : decode cX6_holdStatement 27 = .ok (.iconst 4, 1) := by decide +kernel
theorem dX6_holdStatement_28 : decode cX6_holdStatement 28 = .ok (.invokevirtual 71, 3) := by decide +kernel
theorem dX6_holdStatement_31 : decode cX6_holdStatement 31 = .ok (.ireturn, 1) := by decide +kernel
theorem dX6_holdStatement_32 : decode cX6_holdStatement 32 = .ok (.aload_n 0, 1) := by decide +kernel
theorem dX6_holdStatement_33 : decode cX6_holdStatement 33 = .ok (.invokevirtual 26, 3) := by decide +kernel
theorem dX6_holdStatement_36 : decode cX6_holdStatement 36 = .ok (.aload_n 0, 1) := by decide +kernel
theorem dX6_holdStatement_37 : decode cX6_holdStatement 37 = .ok (.aload_n 0, 1) := by decide +kernel
theorem dX6_holdStatement_38 : decode cX6_holdStatement 38 = .ok (.getfield 18, 3) := by decide +kernel
theorem dX6_holdStatement_41 : decode cX6_holdStatement 41 = .ok (.getfield 160, 3) := by decide +kernel
theorem dX6_holdStatement_44 : decode cX6_holdStatement 44 = .ok (.aload_n 0, 1) := by decide +kernel
theorem dX6_holdStatement_45 : decode cX6_holdStatement 45 = .ok (.getfield 18, 3) := by decide +kernel
theorem dX6_holdStatement_48 : decode cX6_holdStatement 48 = .ok (.getfield 160, 3) := by decide +kernel
theorem dX6_holdStatement_51 : decode cX6_holdStatement 51 = .ok (.invokevirtual 110, 3) := by decide +kernel
theorem dX6_holdStatement_54 : decode cX6_holdStatement 54 = .ok (.lstore_n 1, 1) := by decide +kernel
theorem dX6_holdStatement_55 : decode cX6_holdStatement 55 = .ok (.lload_n 1, 1) := by decide +kernel
theorem dX6_holdStatement_56 : decode cX6_holdStatement 56 = .ok (.lconst 0, 1) := by decide +kernel
theorem dX6_holdStatement_57 : decode cX6_holdStatement 57 = .ok (.lcmp, 1) := by decide +kernel
theorem dX6_holdStatement_58 : decode cX6_holdStatement 58 = .ok (.ifCond .eq 13, 3) := by decide +kernel
theorem dX6_holdStatement_61 : decode cX6_holdStatement 61 = .ok (.aload_n 0, 1) := by decide +kernel
theorem dX6_holdStatement_62 : decode cX6_holdStatement 62 = .ok (.getstatic 53, 3) := by decide +kernel
theorem dX6_holdStatement_65 : decode cX6_holdStatement 65 = .ok (.invokevirtual 78, 3) := by decide +kernel
theorem dX6_holdStatement_68 : decode cX6_holdStatement 68 = .ok (.ifCond .ne 5, 3) := by decide +kernel
theorem dX6_holdStatement_71 : decode cX6_holdStatement 71 = .ok (.iconst 0, 1) := by decide +kernel
theorem dX6_holdStatement_72 : decode cX6_holdStatement 72 = .ok (.ireturn, 1) := by decide +kernel
theorem dX6_holdStatement_73 : decode cX6_holdStatement 73 = .ok (.aload_n 0, 1) := by decide +kernel
theorem dX6_holdStatement_74 : decode cX6_holdStatement 74 = .ok (.aload_n 0, 1) := by decide +kernel
theorem dX6_holdStatement_75 : decode cX6_holdStatement 75 = .ok (.getfield 18, 3) := by decide +kernel
theorem dX6_holdStatement_78 : decode cX6_holdStatement 78 = .ok (.getfield 134, 3) := by decide +kernel
theorem dX6_holdStatement_81 : decode cX6_holdStatement 81 = .ok (.invokevirtual 126, 3) := by decide +kernel
theorem dX6_holdStatement_84 : decode cX6_holdStatement 84 = .ok (.istore_n 3, 1) := by decide +kernel
theorem dX6_holdStatement_85 : decode cX6_holdStatement 85 = .ok (.iload_n 3, 1) := by decide +kernel
theorem dX6_holdStatement_86 : decode cX6_holdStatement 86 = .ok (.iconst (-1), 1) := by decide +kernel
theorem dX6_holdStatement_87 : decode cX6_holdStatement 87 = .ok (.if_icmp .ne 5, 3) := by decide +kernel
theorem dX6_holdStatement_90 : decode cX6_holdStatement 90 = .ok (.iconst 0, 1) := by decide +kernel
theorem dX6_holdStatement_91 : decode cX6_holdStatement 91 = .ok (.ireturn, 1) := by decide +kernel
theorem dX6_holdStatement_92 : decode cX6_holdStatement 92 = .ok (.iconst 0, 1) := by decide +kernel
theorem dX6_holdStatement_93 : decode cX6_holdStatement 93 = .ok (.istore 4, 2) := by decide +kernel
theorem dX6_holdStatement_95 : decode cX6_holdStatement 95 = .ok (.ldc 163, 2) := by decide +kernel
theorem dX6_holdStatement_97 : decode cX6_holdStatement 97 = .ok (.istore 5, 2) := by decide +kernel
theorem dX6_holdStatement_99 : decode cX6_holdStatement 99 = .ok (.aload_n 0, 1) := by decide +kernel
theorem dX6_holdStatement_100 : decode cX6_holdStatement 100 = .ok (.getfield 41, 3) := by decide +kernel
theorem dX6_holdStatement_103 : decode cX6_holdStatement 103 = .ok (.getstatic 164, 3) := by decide +kernel
theorem dX6_holdStatement_106 : decode cX6_holdStatement 106 = .ok (.if_acmp .ne 54, 3) := by decide +kernel
theorem dX6_holdStatement_109 : decode cX6_holdStatement 109 = .ok (.aload_n 0, 1) := by decide +kernel
theorem dX6_holdStatement_110 : decode cX6_holdStatement 110 = .ok (.invokevirtual 26, 3) := by decide +kernel
theorem dX6_holdStatement_113 : decode cX6_holdStatement 113 = .ok (.aload_n 0, 1) := by decide +kernel
theorem dX6_holdStatement_114 : decode cX6_holdStatement 114 = .ok (.iconst 0, 1) := by decide +kernel
theorem dX6_holdStatement_115 : decode cX6_holdStatement 115 = .ok (.sipush 9999, 3) := by decide +kernel
theorem dX6_holdStatement_118 : decode cX6_holdStatement 118 = .ok (.invokevirtual 85, 3) := by decide +kernel
theorem dX6_holdStatement_121 : decode cX6_holdStatement 121 = .ok (.istore 4, 2) := by decide +kernel
theorem dX6_holdStatement_123 : decode cX6_holdStatement 123 = .ok (.iload 4, 2) := by decide +kernel
theorem dX6_holdStatement_125 : decode cX6_holdStatement 125 = .ok (.iconst (-1), 1) := by decide +kernel
theorem dX6_holdStatement_126 : decode cX6_holdStatement 126 = .ok (.if_icmp .eq 13, 3) := by decide +kernel
theorem dX6_holdStatement_129 : decode cX6_holdStatement 129 = .ok (.aload_n 0, 1) := by decide +kernel
theorem dX6_holdStatement_130 : decode cX6_holdStatement 130 = .ok (.getstatic 167, 3) := by decide +kernel
theorem dX6_holdStatement_133 : decode cX6_holdStatement 133 = .ok (.invokevirtual 78, 3) := by decide +kernel
theorem dX6_holdStatement_136 : decode cX6_holdStatement 136 = .ok (.ifCond .ne 5, 3) := by decide +kernel
theorem dX6_holdStatement_139 : decode cX6_holdStatement 139 = .ok (.iconst 0, 1) := by decide +kernel
theorem dX6_holdStatement_140 : decode cX6_holdStatement 140 = .ok (.ireturn, 1) := by decide +kernel
theorem dX6_holdStatement_141 : decode cX6_holdStatement 141 = .ok (.aload_n 0, 1) := by decide +kernel
theorem dX6_holdStatement_142 : decode cX6_holdStatement 142 = .ok (.iload 4, 2) := by decide +kernel
theorem dX6_holdStatement_144 : decode cX6_holdStatement 144 = .ok (.sipush 9999, 3) := by decide +kernel
theorem dX6_holdStatement_147 : decode cX6_holdStatement 147 = .ok (.invokevirtual 85, 3) := by decide +kernel
theorem dX6_holdStatement_150 : decode cX6_holdStatement 150 = .ok (.istore 5, 2) := by decide +kernel
theorem dX6_holdStatement_152 : decode cX6_holdStatement 152 = .ok (.iload 5, 2) := by decide +kernel
theorem dX6_holdStatement_154 : decode cX6_holdStatement 154 = .ok (.iconst (-1), 1) := by decide +kernel
theorem dX6_holdStatement_155 : decode cX6_holdStatement 155 = .ok (.if_icmp .ne 5, 3) := by decide +kernel
theorem dX6_holdStatement_158 : decode cX6_holdStatement 158 = .ok (.iconst 0, 1) := by decide +kernel
theorem dX6_holdStatement_159 : decode cX6_holdStatement 159 = .ok (.ireturn, 1) := by decide +kernel
theorem dX6_holdStatement_160 : decode cX6_holdStatement 160 = .ok (.lconst 0, 1) := by decide +kernel
theorem dX6_holdStatement_161 : decode cX6_holdStatement 161 = .ok (.lstore 6, 2) := by decide +kernel
theorem dX6_holdStatement_163 : decode cX6_holdStatement 163 = .ok (.aload_n 0, 1) := by decide +kernel
theorem dX6_holdStatement_164 : decode cX6_holdStatement 164 = .ok (.getfield 41, 3) := by decide +kernel
theorem dX6_holdStatement_167 : decode cX6_holdStatement 167 = .ok (.getstatic 170, 3) := by decide +kernel
theorem dX6_holdStatement_170 : decode cX6_holdStatement 170 = .ok (.if_acmp .ne 22, 3) := by decide +kernel
theorem dX6_holdStatement_173 : decode cX6_holdStatement 173 = .ok (.aload_n 0, 1) := by decide +kernel
theorem dX6_holdStatement_174 : decode cX6_holdStatement 174 = .ok (.invokevirtual 26, 3) := by decide +kernel
theorem dX6_holdStatement_177 : decode cX6_holdStatement 177 = .ok (.aload_n 0, 1) := by decide +kernel
theorem dX6_holdStatement_178 : decode cX6_holdStatement 178 = .ok (.invokevirtual 173, 3) := by decide +kernel
theorem dX6_holdStatement_181 : decode cX6_holdStatement 181 = .ok (.lstore 6, 2) := by decide +kernel
theorem dX6_holdStatement_183 : decode cX6_holdStatement 183 = .ok (.lload 6, 2) := by decide +kernel
theorem dX6_holdStatement_185 : decode cX6_holdStatement 185 = .ok (.lconst 0, 1) := by decide +kernel
theorem dX6_holdStatement_186 : decode cX6_holdStatement 186 = .ok (.lcmp, 1) := by decide +kernel
theorem dX6_holdStatement_187 : decode cX6_holdStatement 187 = .ok (.ifCond .ne 5, 3) := by decide +kernel
theorem dX6_holdStatement_190 : decode cX6_holdStatement 190 = .ok (.iconst 0, 1) := by decide +kernel
theorem dX6_holdStatement_191 : decode cX6_holdStatement 191 = .ok (.ireturn, 1) := by decide +kernel
theorem dX6_holdStatement_192 : decode cX6_holdStatement 192 = .ok (.aload_n 0, 1) := by decide +kernel
theorem dX6_holdStatement_193 : decode cX6_holdStatement 193 = .ok (.bipush 59, 2) := by decide +kernel
theorem dX6_holdStatement_195 : decode cX6_holdStatement 195 = .ok (.invokevirtual 98, 3) := by decide +kernel
theorem dX6_holdStatement_198 : decode cX6_holdStatement 198 = .ok (.ifCond .ne 5, 3) := by decide +kernel
theorem dX6_holdStatement_201 : decode cX6_holdStatement 201 = .ok (.iconst 0, 1) := by decide +kernel
theorem dX6_holdStatement_202 : decode cX6_holdStatement 202 = .ok (.ireturn, 1) := by decide +kernel
theorem dX6_holdStatement_203 : decode cX6_holdStatement 203 = .ok (.aload_n 0, 1) := by decide +kernel
theorem dX6_holdStatement_204 : decode cX6_holdStatement 204 = .ok (.getfield 18, 3) := by decide +kernel
theorem dX6_holdStatement_207 : decode cX6_holdStatement 207 = .ok (.lload_n 1, 1) := by decide +kernel
theorem dX6_holdStatement_208 : decode cX6_holdStatement 208 = .ok (.iload_n 3, 1) := by decide +kernel
theorem dX6_holdStatement_209 : decode cX6_holdStatement 209 = .ok (.iload 4, 2) := by decide +kernel
theorem dX6_holdStatement_211 : decode cX6_holdStatement 211 = .ok (.iload 5, 2) := by decide +kernel
theorem dX6_holdStatement_213 : decode cX6_holdStatement 213 = .ok (.lload 6, 2) := by decide +kernel
theorem dX6_holdStatement_215 : decode cX6_holdStatement 215 = .ok (.invokevirtual 177, 3) := by decide +kernel
theorem dX6_holdStatement_218 : decode cX6_holdStatement 218 = .ok (.iconst 1, 1) := by decide +kernel
theorem dX6_holdStatement_219 : decode cX6_holdStatement 219 = .ok (.ireturn, 1) := by decide +kernel
theorem dX6_fail_0 : decode cX6_fail 0 = .ok (.aload_n 0, 1) := by decide +kernel
theorem dX6_fail_1 : decode cX6_fail 1 = .ok (.iload_n 1, 1) := by decide +kernel
theorem dX6_fail_2 : decode cX6_fail 2 = .ok (.putfield 181, 3) := by decide +kernel
theorem dX6_fail_5 : decode cX6_fail 5 = .ok (.aload_n 0, 1) := by decide +kernel
theorem dX6_fail_6 : decode cX6_fail 6 = .ok (.aload_n 0, 1) := by decide +kernel
theorem dX6_fail_7 : decode cX6_fail 7 = .ok (.getfield 184, 3) := by decide +kernel
theorem dX6_fail_10 : decode cX6_fail 10 = .ok (.putfield 22, 3) := by decide +kernel
theorem dX6_fail_13 : decode cX6_fail 13 = .ok (.iconst 0, 1) := by decide +kernel
theorem dX6_fail_14 : decode cX6_fail 14 = .ok (.ireturn, 1) := by decide +kernel
theorem dX6_take_0 : decode cX6_take 0 = .ok (.aload_n 0, 1) := by decide +kernel
theorem dX6_take_1 : decode cX6_take 1 = .ok (.getfield 41, 3) := by decide +kernel
theorem dX6_take_4 : decode cX6_take 4 = .ok (.aload_n 1, 1) := by decide +kernel
theorem dX6_take_5 : decode cX6_take 5 = .ok (.if_acmp .eq 9, 3) := by decide +kernel
theorem dX6_take_8 : decode cX6_take 8 = .ok (.aload_n 0, 1) := by decide +kernel
theorem dX6_take_9 : decode cX6_take 9 = .ok (.iconst 1, 1) := by decide +kernel
theorem dX6_take_10 : decode cX6_take 10 = .ok (.invokevirtual 71, 3) := by decide +kernel
theorem dX6_take_13 : decode cX6_take 13 = .ok (.ireturn, 1) := by decide +kernel
theorem dX6_take_14 : decode cX6_take 14 = .ok (.aload_n 0, 1) := by decide +kernel
theorem dX6_take_15 : decode cX6_take 15 = .ok (.invokevirtual 26, 3) := by decide +kernel
theorem dX6_take_18 : decode cX6_take 18 = .ok (.iconst 1, 1) := by decide +kernel
theorem dX6_take_19 : decode cX6_take 19 = .ok (.ireturn, 1) := by decide +kernel
theorem dX6_isSymbol_0 : decode cX6_isSymbol 0 = .ok (.aload_n 0, 1) := by decide +kernel
theorem dX6_isSymbol_1 : decode cX6_isSymbol 1 = .ok (.getfield 38, 3) := by decide +kernel
theorem dX6_isSymbol_4 : decode cX6_isSymbol 4 = .ok (.iconst 3, 1) := by decide +kernel
theorem dX6_isSymbol_5 : decode cX6_isSymbol 5 = .ok (.if_icmp .ne 15, 3) := by decide +kernel
theorem dX6_isSymbol_8 : decode cX6_isSymbol 8 = .ok (.aload_n 0, 1) := by decide +kernel
theorem dX6_isSymbol_9 : decode cX6_isSymbol 9 = .ok (.getfield 187, 3) := by decide +kernel
theorem dX6_isSymbol_12 : decode cX6_isSymbol 12 = .ok (.iload_n 1, 1) := by decide +kernel
theorem dX6_isSymbol_13 : decode cX6_isSymbol 13 = .ok (.if_icmp .ne 7, 3) := by decide +kernel
theorem dX6_isSymbol_16 : decode cX6_isSymbol 16 = .ok (.iconst 1, 1) := by decide +kernel
theorem dX6_isSymbol_17 : decode cX6_isSymbol 17 = .ok (.goto 4, 3) := by decide +kernel
theorem dX6_isSymbol_20 : decode cX6_isSymbol 20 = .ok (.iconst 0, 1) := by decide +kernel
theorem dX6_isSymbol_21 : decode cX6_isSymbol 21 = .ok (.ireturn, 1) := by decide +kernel
theorem dX6_takeSymbol_0 : decode cX6_takeSymbol 0 = .ok (.aload_n 0, 1) := by decide +kernel
theorem dX6_takeSymbol_1 : decode cX6_takeSymbol 1 = .ok (.iload_n 1, 1) := by decide +kernel
theorem dX6_takeSymbol_2 : decode cX6_takeSymbol 2 = .ok (.invokevirtual 153, 3) := by decide +kernel
theorem dX6_takeSymbol_5 : decode cX6_takeSymbol 5 = .ok (.ifCond .ne 9, 3) := by decide +kernel
theorem dX6_takeSymbol_8 : decode cX6_takeSymbol 8 = .ok (.aload_n 0, 1) := by decide +kernel
theorem dX6_takeSymbol_9 : decode cX6_takeSymbol 9 = .ok (.iconst 1, 1) := by decide +kernel
theorem dX6_takeSymbol_10 : decode cX6_takeSymbol 10 = .ok (.invokevirtual 71, 3) := by decide +kernel
theorem dX6_takeSymbol_13 : decode cX6_takeSymbol 13 = .ok (.ireturn, 1) := by decide +kernel
theorem dX6_takeSymbol_14 : decode cX6_takeSymbol 14 = .ok (.aload_n 0, 1) := by decide +kernel
theorem dX6_takeSymbol_15 : decode cX6_takeSymbol 15 = .ok (.invokevirtual 26, 3) := by decide +kernel
theorem dX6_takeSymbol_18 : decode cX6_takeSymbol 18 = .ok (.iconst 1, 1) := by decide +kernel
theorem dX6_takeSymbol_19 : decode cX6_takeSymbol 19 = .ok (.ireturn, 1) := by decide +kernel
theorem dX6_takeNumber_0 : decode cX6_takeNumber 0 = .ok (.aload_n 0, 1) := by decide +kernel
theorem dX6_takeNumber_1 : decode cX6_takeNumber 1 = .ok (.getfield 38, 3) := by decide +kernel
theorem dX6_takeNumber_4 : decode cX6_takeNumber 4 = .ok (.iconst 2, 1) := by decide +kernel
theorem dX6_takeNumber_5 : decode cX6_takeNumber 5 = .ok (.if_icmp .ne 19, 3) := by decide +kernel
theorem dX6_takeNumber_8 : decode cX6_takeNumber 8 = .ok (.aload_n 0, 1) := by decide +kernel
theorem dX6_takeNumber_9 : decode cX6_takeNumber 9 = .ok (.getfield 187, 3) := by decide +kernel
theorem dX6_takeNumber_12 : decode cX6_takeNumber 12 = .ok (.iload_n 1, 1) := by decide +kernel
theorem dX6_takeNumber_13 : decode cX6_takeNumber 13 = .ok (.if_icmp .lt 11, 3) := by decide +kernel
theorem dX6_takeNumber_16 : decode cX6_takeNumber 16 = .ok (.aload_n 0, 1) := by decide +kernel
theorem dX6_takeNumber_17 : decode cX6_takeNumber 17 = .ok (.getfield 187, 3) := by decide +kernel
theorem dX6_takeNumber_20 : decode cX6_takeNumber 20 = .ok (.iload_n 2, 1) := by decide +kernel
theorem dX6_takeNumber_21 : decode cX6_takeNumber 21 = .ok (.if_icmp .le 23, 3) := by decide +kernel
theorem dX6_takeNumber_24 : decode cX6_takeNumber 24 = .ok (.aload_n 0, 1) := by decide +kernel
theorem dX6_takeNumber_25 : decode cX6_takeNumber 25 = .ok (.aload_n 0, 1) := by decide +kernel
theorem dX6_takeNumber_26 : decode cX6_takeNumber 26 = .ok (.getfield 38, 3) := by decide +kernel
theorem dX6_takeNumber_29 : decode cX6_takeNumber 29 = .ok (.iconst 2, 1) := by decide +kernel
theorem dX6_takeNumber_30 : decode cX6_takeNumber 30 = .ok (.if_icmp .ne 7, 3) := by decide +kernel
theorem dX6_takeNumber_33 : decode cX6_takeNumber 33 = .ok (.iconst 2, 1) := by decide +kernel
theorem dX6_takeNumber_34 : decode cX6_takeNumber 34 = .ok (.goto 4, 3) := by decide +kernel
theorem dX6_takeNumber_37 : decode cX6_takeNumber 37 = .ok (.iconst 1, 1) := by decide +kernel
theorem dX6_takeNumber_38 : decode cX6_takeNumber 38 = .ok (.invokevirtual 71, 3) := by decide +kernel
theorem dX6_takeNumber_41 : decode cX6_takeNumber 41 = .ok (.pop, 1) := by decide +kernel
theorem dX6_takeNumber_42 : decode cX6_takeNumber 42 = .ok (.iconst (-1), 1) := by decide +kernel
theorem dX6_takeNumber_43 : decode cX6_takeNumber 43 = .ok (.ireturn, 1) := by decide +kernel
theorem dX6_takeNumber_44 : decode cX6_takeNumber 44 = .ok (.aload_n 0, 1) := by decide +kernel
theorem dX6_takeNumber_45 : decode cX6_takeNumber 45 = .ok (.getfield 187, 3) := by decide +kernel
theorem dX6_takeNumber_48 : decode cX6_takeNumber 48 = .ok (.istore_n 3, 1) := by decide +kernel
theorem dX6_takeNumber_49 : decode cX6_takeNumber 49 = .ok (.aload_n 0, 1) := by decide +kernel
theorem dX6_takeNumber_50 : decode cX6_takeNumber 50 = .ok (.invokevirtual 26, 3) := by decide +kernel
theorem dX6_takeNumber_53 : decode cX6_takeNumber 53 = .ok (.iload_n 3, 1) := by decide +kernel
theorem dX6_takeNumber_54 : decode cX6_takeNumber 54 = .ok (.ireturn, 1) := by decide +kernel
theorem dX6_isName_0 : decode cX6_isName 0 = .ok (.aload_n 0, 1) := by decide +kernel
theorem dX6_isName_1 : decode cX6_isName 1 = .ok (.getfield 38, 3) := by decide +kernel
theorem dX6_isName_4 : decode cX6_isName 4 = .ok (.iconst 1, 1) := by decide +kernel
theorem dX6_isName_5 : decode cX6_isName 5 = .ok (.if_icmp .ne 34, 3) := by decide +kernel
theorem dX6_isName_8 : decode cX6_isName 8 = .ok (.aload_n 0, 1) := by decide +kernel
theorem dX6_isName_9 : decode cX6_isName 9 = .ok (.getfield 41, 3) := by decide +kernel
theorem dX6_isName_12 : decode cX6_isName 12 = .ok (.ifnonnull 27, 3) := by decide +kernel
theorem dX6_isName_15 : decode cX6_isName 15 = .ok (.aload_n 0, 1) := by decide +kernel
theorem dX6_isName_16 : decode cX6_isName 16 = .ok (.getfield 190, 3) := by decide +kernel
theorem dX6_isName_19 : decode cX6_isName 19 = .ok (.lconst 0, 1) := by decide +kernel
theorem dX6_isName_20 : decode cX6_isName 20 = .ok (.lcmp, 1) := by decide +kernel
