/-! DECODE ROWS -/
theorem prd_X_factor_94 : decode prb_X_factor 94 = .ok (.invokevirtual 242, 3) := by decide +kernel
theorem prd_X_factor_97 : decode prb_X_factor 97 = .ok (.aload_n 0, 1) := by decide +kernel
theorem prd_X_factor_98 : decode prb_X_factor 98 = .ok (.bipush 93, 2) := by decide +kernel
theorem prd_X_factor_100 : decode prb_X_factor 100 = .ok (.invokevirtual 232, 3) := by decide +kernel
theorem prd_X_factor_103 : decode prb_X_factor 103 = .ok (.iload 5, 2) := by decide +kernel
theorem prd_X_factor_105 : decode prb_X_factor 105 = .ok (.ireturn, 1) := by decide +kernel
theorem prd_X_factor_83 : decode prb_X_factor 83 = .ok (.iconst (-1), 1) := by decide +kernel
theorem prd_X_factor_84 : decode prb_X_factor 84 = .ok (.goto 10, 3) := by decide +kernel
theorem prd_X_factor_46 : decode prb_X_factor 46 = .ok (.iload 4, 2) := by decide +kernel
theorem prd_X_factor_48 : decode prb_X_factor 48 = .ok (.ireturn, 1) := by decide +kernel
theorem prd_X_factor_10 : decode prb_X_factor 10 = .ok (.aload_n 0, 1) := by decide +kernel
theorem prd_X_factor_11 : decode prb_X_factor 11 = .ok (.iconst 0, 1) := by decide +kernel
theorem prd_X_factor_12 : decode prb_X_factor 12 = .ok (.invokevirtual 249, 3) := by decide +kernel
theorem prd_X_factor_15 : decode prb_X_factor 15 = .ok (.ireturn, 1) := by decide +kernel
theorem prd_X_cond_0 : decode prb_X_cond 0 = .ok (.aload_n 0, 1) := by decide +kernel
theorem prd_X_cond_1 : decode prb_X_cond 1 = .ok (.iload_n 1, 1) := by decide +kernel
theorem prd_X_cond_2 : decode prb_X_cond 2 = .ok (.invokevirtual 236, 3) := by decide +kernel
theorem prd_X_cond_5 : decode prb_X_cond 5 = .ok (.aload_n 0, 1) := by decide +kernel
theorem prd_X_cond_6 : decode prb_X_cond 6 = .ok (.getfield 211, 3) := by decide +kernel
theorem prd_X_cond_9 : decode prb_X_cond 9 = .ok (.ifCond .eq 7, 3) := by decide +kernel
theorem prd_X_cond_16 : decode prb_X_cond 16 = .ok (.aload_n 0, 1) := by decide +kernel
theorem prd_X_cond_17 : decode prb_X_cond 17 = .ok (.iload_n 1, 1) := by decide +kernel
theorem prd_X_cond_18 : decode prb_X_cond 18 = .ok (.bipush 24, 2) := by decide +kernel
theorem prd_X_cond_20 : decode prb_X_cond 20 = .ok (.invokevirtual 259, 3) := by decide +kernel
theorem prd_X_cond_23 : decode prb_X_cond 23 = .ok (.ireturn, 1) := by decide +kernel
theorem prd_X_cond_12 : decode prb_X_cond 12 = .ok (.iconst (-1), 1) := by decide +kernel
theorem prd_X_cond_13 : decode prb_X_cond 13 = .ok (.goto 10, 3) := by decide +kernel
theorem prd_X_test_0 : decode prb_X_test 0 = .ok (.aload_n 0, 1) := by decide +kernel
theorem prd_X_test_1 : decode prb_X_test 1 = .ok (.invokevirtual 218, 3) := by decide +kernel
theorem prd_X_test_4 : decode prb_X_test 4 = .ok (.bipush 33, 2) := by decide +kernel
theorem prd_X_test_6 : decode prb_X_test 6 = .ok (.if_icmp .ne 58, 3) := by decide +kernel
theorem prd_X_test_64 : decode prb_X_test 64 = .ok (.aload_n 0, 1) := by decide +kernel
theorem prd_X_test_65 : decode prb_X_test 65 = .ok (.invokevirtual 218, 3) := by decide +kernel
theorem prd_X_test_68 : decode prb_X_test 68 = .ok (.bipush 91, 2) := by decide +kernel
theorem prd_X_test_70 : decode prb_X_test 70 = .ok (.if_icmp .ne 36, 3) := by decide +kernel
theorem prd_X_test_106 : decode prb_X_test 106 = .ok (.aload_n 0, 1) := by decide +kernel
theorem prd_X_test_107 : decode prb_X_test 107 = .ok (.iload_n 1, 1) := by decide +kernel
theorem prd_X_test_108 : decode prb_X_test 108 = .ok (.iconst 1, 1) := by decide +kernel
theorem prd_X_test_109 : decode prb_X_test 109 = .ok (.iadd, 1) := by decide +kernel
theorem prd_X_test_110 : decode prb_X_test 110 = .ok (.invokevirtual 256, 3) := by decide +kernel
theorem prd_X_test_113 : decode prb_X_test 113 = .ok (.istore_n 2, 1) := by decide +kernel
theorem prd_X_test_114 : decode prb_X_test 114 = .ok (.aload_n 0, 1) := by decide +kernel
theorem prd_X_test_115 : decode prb_X_test 115 = .ok (.invokevirtual 218, 3) := by decide +kernel
theorem prd_X_test_118 : decode prb_X_test 118 = .ok (.istore_n 3, 1) := by decide +kernel
theorem prd_X_test_119 : decode prb_X_test 119 = .ok (.iload_n 3, 1) := by decide +kernel
theorem prd_X_test_120 : decode prb_X_test 120 = .ok (.bipush 60, 2) := by decide +kernel
theorem prd_X_test_122 : decode prb_X_test 122 = .ok (.if_icmp .ne 8, 3) := by decide +kernel
theorem prd_X_test_130 : decode prb_X_test 130 = .ok (.iload_n 3, 1) := by decide +kernel
theorem prd_X_test_131 : decode prb_X_test 131 = .ok (.sipush 256, 3) := by decide +kernel
theorem prd_X_test_134 : decode prb_X_test 134 = .ok (.if_icmp .ne 8, 3) := by decide +kernel
theorem prd_X_test_142 : decode prb_X_test 142 = .ok (.iload_n 3, 1) := by decide +kernel
theorem prd_X_test_143 : decode prb_X_test 143 = .ok (.bipush 62, 2) := by decide +kernel
theorem prd_X_test_145 : decode prb_X_test 145 = .ok (.if_icmp .ne 8, 3) := by decide +kernel
theorem prd_X_test_153 : decode prb_X_test 153 = .ok (.iload_n 3, 1) := by decide +kernel
theorem prd_X_test_154 : decode prb_X_test 154 = .ok (.sipush 257, 3) := by decide +kernel
theorem prd_X_test_157 : decode prb_X_test 157 = .ok (.if_icmp .ne 8, 3) := by decide +kernel
theorem prd_X_test_165 : decode prb_X_test 165 = .ok (.iload_n 3, 1) := by decide +kernel
theorem prd_X_test_166 : decode prb_X_test 166 = .ok (.sipush 258, 3) := by decide +kernel
theorem prd_X_test_169 : decode prb_X_test 169 = .ok (.if_icmp .ne 8, 3) := by decide +kernel
theorem prd_X_test_177 : decode prb_X_test 177 = .ok (.iload_n 3, 1) := by decide +kernel
theorem prd_X_test_178 : decode prb_X_test 178 = .ok (.sipush 259, 3) := by decide +kernel
theorem prd_X_test_181 : decode prb_X_test 181 = .ok (.if_icmp .ne 8, 3) := by decide +kernel
theorem prd_X_test_189 : decode prb_X_test 189 = .ok (.iconst 0, 1) := by decide +kernel
theorem prd_X_test_190 : decode prb_X_test 190 = .ok (.istore 4, 2) := by decide +kernel
theorem prd_X_test_192 : decode prb_X_test 192 = .ok (.aload_n 0, 1) := by decide +kernel
theorem prd_X_test_193 : decode prb_X_test 193 = .ok (.iload 4, 2) := by decide +kernel
theorem prd_X_test_195 : decode prb_X_test 195 = .ok (.ifCond .le 7, 3) := by decide +kernel
theorem prd_X_test_202 : decode prb_X_test 202 = .ok (.iconst 0, 1) := by decide +kernel
theorem prd_X_test_203 : decode prb_X_test 203 = .ok (.invokevirtual 221, 3) := by decide +kernel
theorem prd_X_test_206 : decode prb_X_test 206 = .ok (.aload_n 0, 1) := by decide +kernel
theorem prd_X_test_207 : decode prb_X_test 207 = .ok (.getfield 211, 3) := by decide +kernel
theorem prd_X_test_210 : decode prb_X_test 210 = .ok (.ifCond .eq 5, 3) := by decide +kernel
theorem prd_X_test_215 : decode prb_X_test 215 = .ok (.aload_n 0, 1) := by decide +kernel
theorem prd_X_test_216 : decode prb_X_test 216 = .ok (.iload 4, 2) := by decide +kernel
theorem prd_X_test_218 : decode prb_X_test 218 = .ok (.aload_n 0, 1) := by decide +kernel
theorem prd_X_test_219 : decode prb_X_test 219 = .ok (.getfield 29, 3) := by decide +kernel
theorem prd_X_test_222 : decode prb_X_test 222 = .ok (.iload_n 2, 1) := by decide +kernel
theorem prd_X_test_223 : decode prb_X_test 223 = .ok (.iaload, 1) := by decide +kernel
theorem prd_X_test_224 : decode prb_X_test 224 = .ok (.iconst 0, 1) := by decide +kernel
theorem prd_X_test_225 : decode prb_X_test 225 = .ok (.invokevirtual 228, 3) := by decide +kernel
theorem prd_X_test_228 : decode prb_X_test 228 = .ok (.istore 5, 2) := by decide +kernel
theorem prd_X_test_230 : decode prb_X_test 230 = .ok (.aload_n 0, 1) := by decide +kernel
theorem prd_X_test_231 : decode prb_X_test 231 = .ok (.iload_n 3, 1) := by decide +kernel
theorem prd_X_test_232 : decode prb_X_test 232 = .ok (.invokevirtual 232, 3) := by decide +kernel
theorem prd_X_test_235 : decode prb_X_test 235 = .ok (.aload_n 0, 1) := by decide +kernel
theorem prd_X_test_236 : decode prb_X_test 236 = .ok (.iload 5, 2) := by decide +kernel
theorem prd_X_test_238 : decode prb_X_test 238 = .ok (.iload_n 2, 1) := by decide +kernel
theorem prd_X_test_239 : decode prb_X_test 239 = .ok (.invokevirtual 242, 3) := by decide +kernel
theorem prd_X_test_242 : decode prb_X_test 242 = .ok (.aload_n 0, 1) := by decide +kernel
theorem prd_X_test_243 : decode prb_X_test 243 = .ok (.iload 5, 2) := by decide +kernel
theorem prd_X_test_245 : decode prb_X_test 245 = .ok (.aload_n 0, 1) := by decide +kernel
theorem prd_X_test_246 : decode prb_X_test 246 = .ok (.iload_n 1, 1) := by decide +kernel
theorem prd_X_test_247 : decode prb_X_test 247 = .ok (.iconst 1, 1) := by decide +kernel
theorem prd_X_test_248 : decode prb_X_test 248 = .ok (.iadd, 1) := by decide +kernel
theorem prd_X_test_249 : decode prb_X_test 249 = .ok (.invokevirtual 256, 3) := by decide +kernel
theorem prd_X_test_252 : decode prb_X_test 252 = .ok (.invokevirtual 242, 3) := by decide +kernel
theorem prd_X_test_255 : decode prb_X_test 255 = .ok (.iload 5, 2) := by decide +kernel
theorem prd_X_test_257 : decode prb_X_test 257 = .ok (.ireturn, 1) := by decide +kernel
theorem prd_X_test_213 : decode prb_X_test 213 = .ok (.iconst (-1), 1) := by decide +kernel
theorem prd_X_test_214 : decode prb_X_test 214 = .ok (.ireturn, 1) := by decide +kernel
theorem prd_X_test_198 : decode prb_X_test 198 = .ok (.iconst 1, 1) := by decide +kernel
theorem prd_X_test_199 : decode prb_X_test 199 = .ok (.goto 4, 3) := by decide +kernel
theorem prd_X_test_184 : decode prb_X_test 184 = .ok (.bipush 32, 2) := by decide +kernel
theorem prd_X_test_186 : decode prb_X_test 186 = .ok (.goto 4, 3) := by decide +kernel
theorem prd_X_test_172 : decode prb_X_test 172 = .ok (.bipush 31, 2) := by decide +kernel
theorem prd_X_test_174 : decode prb_X_test 174 = .ok (.goto 16, 3) := by decide +kernel
theorem prd_X_test_160 : decode prb_X_test 160 = .ok (.bipush 30, 2) := by decide +kernel
theorem prd_X_test_162 : decode prb_X_test 162 = .ok (.goto 28, 3) := by decide +kernel
theorem prd_X_test_148 : decode prb_X_test 148 = .ok (.bipush 29, 2) := by decide +kernel
theorem prd_X_test_150 : decode prb_X_test 150 = .ok (.goto 40, 3) := by decide +kernel
theorem prd_X_test_137 : decode prb_X_test 137 = .ok (.bipush 28, 2) := by decide +kernel
theorem prd_X_test_139 : decode prb_X_test 139 = .ok (.goto 51, 3) := by decide +kernel
theorem prd_X_test_125 : decode prb_X_test 125 = .ok (.bipush 27, 2) := by decide +kernel
theorem prd_X_test_127 : decode prb_X_test 127 = .ok (.goto 63, 3) := by decide +kernel
theorem prd_X_test_73 : decode prb_X_test 73 = .ok (.aload_n 0, 1) := by decide +kernel
theorem prd_X_test_74 : decode prb_X_test 74 = .ok (.bipush 91, 2) := by decide +kernel
theorem prd_X_test_76 : decode prb_X_test 76 = .ok (.invokevirtual 232, 3) := by decide +kernel
theorem prd_X_test_79 : decode prb_X_test 79 = .ok (.aload_n 0, 1) := by decide +kernel
theorem prd_X_test_80 : decode prb_X_test 80 = .ok (.getfield 211, 3) := by decide +kernel
theorem prd_X_test_83 : decode prb_X_test 83 = .ok (.ifCond .eq 7, 3) := by decide +kernel
theorem prd_X_test_90 : decode prb_X_test 90 = .ok (.aload_n 0, 1) := by decide +kernel
theorem prd_X_test_91 : decode prb_X_test 91 = .ok (.iload_n 1, 1) := by decide +kernel
theorem prd_X_test_92 : decode prb_X_test 92 = .ok (.iconst 1, 1) := by decide +kernel
theorem prd_X_test_93 : decode prb_X_test 93 = .ok (.iadd, 1) := by decide +kernel
theorem prd_X_test_94 : decode prb_X_test 94 = .ok (.invokevirtual 265, 3) := by decide +kernel
theorem prd_X_test_97 : decode prb_X_test 97 = .ok (.istore_n 2, 1) := by decide +kernel
theorem prd_X_test_98 : decode prb_X_test 98 = .ok (.aload_n 0, 1) := by decide +kernel
theorem prd_X_test_99 : decode prb_X_test 99 = .ok (.bipush 93, 2) := by decide +kernel
theorem prd_X_test_101 : decode prb_X_test 101 = .ok (.invokevirtual 232, 3) := by decide +kernel
theorem prd_X_test_104 : decode prb_X_test 104 = .ok (.iload_n 2, 1) := by decide +kernel
theorem prd_X_test_105 : decode prb_X_test 105 = .ok (.ireturn, 1) := by decide +kernel
theorem prd_X_test_86 : decode prb_X_test 86 = .ok (.iconst (-1), 1) := by decide +kernel
theorem prd_X_test_87 : decode prb_X_test 87 = .ok (.goto 10, 3) := by decide +kernel
theorem prd_X_test_9 : decode prb_X_test 9 = .ok (.aload_n 0, 1) := by decide +kernel
theorem prd_X_test_10 : decode prb_X_test 10 = .ok (.bipush 26, 2) := by decide +kernel
theorem prd_X_test_12 : decode prb_X_test 12 = .ok (.aload_n 0, 1) := by decide +kernel
theorem prd_X_test_13 : decode prb_X_test 13 = .ok (.getfield 16, 3) := by decide +kernel
theorem prd_X_test_16 : decode prb_X_test 16 = .ok (.aload_n 0, 1) := by decide +kernel
theorem prd_X_test_17 : decode prb_X_test 17 = .ok (.getfield 215, 3) := by decide +kernel
theorem prd_X_test_20 : decode prb_X_test 20 = .ok (.iaload, 1) := by decide +kernel
theorem prd_X_test_21 : decode prb_X_test 21 = .ok (.iconst 0, 1) := by decide +kernel
theorem prd_X_test_22 : decode prb_X_test 22 = .ok (.invokevirtual 228, 3) := by decide +kernel
theorem prd_X_test_25 : decode prb_X_test 25 = .ok (.istore_n 2, 1) := by decide +kernel
theorem prd_X_test_26 : decode prb_X_test 26 = .ok (.aload_n 0, 1) := by decide +kernel
theorem prd_X_test_27 : decode prb_X_test 27 = .ok (.bipush 33, 2) := by decide +kernel
theorem prd_X_test_29 : decode prb_X_test 29 = .ok (.invokevirtual 232, 3) := by decide +kernel
theorem prd_X_test_32 : decode prb_X_test 32 = .ok (.aload_n 0, 1) := by decide +kernel
theorem prd_X_test_33 : decode prb_X_test 33 = .ok (.iload_n 1, 1) := by decide +kernel
theorem prd_X_test_34 : decode prb_X_test 34 = .ok (.iconst 1, 1) := by decide +kernel
theorem prd_X_test_35 : decode prb_X_test 35 = .ok (.iadd, 1) := by decide +kernel
theorem prd_X_test_36 : decode prb_X_test 36 = .ok (.invokevirtual 236, 3) := by decide +kernel
theorem prd_X_test_39 : decode prb_X_test 39 = .ok (.aload_n 0, 1) := by decide +kernel
theorem prd_X_test_40 : decode prb_X_test 40 = .ok (.iload_n 2, 1) := by decide +kernel
theorem prd_X_test_41 : decode prb_X_test 41 = .ok (.aload_n 0, 1) := by decide +kernel
theorem prd_X_test_42 : decode prb_X_test 42 = .ok (.getfield 211, 3) := by decide +kernel
theorem prd_X_test_45 : decode prb_X_test 45 = .ok (.ifCond .eq 7, 3) := by decide +kernel
theorem prd_X_test_52 : decode prb_X_test 52 = .ok (.aload_n 0, 1) := by decide +kernel
theorem prd_X_test_53 : decode prb_X_test 53 = .ok (.iload_n 1, 1) := by decide +kernel
theorem prd_X_test_54 : decode prb_X_test 54 = .ok (.iconst 1, 1) := by decide +kernel
theorem prd_X_test_55 : decode prb_X_test 55 = .ok (.iadd, 1) := by decide +kernel
theorem prd_X_test_56 : decode prb_X_test 56 = .ok (.invokevirtual 262, 3) := by decide +kernel
theorem prd_X_test_59 : decode prb_X_test 59 = .ok (.invokevirtual 242, 3) := by decide +kernel
theorem prd_X_test_62 : decode prb_X_test 62 = .ok (.iload_n 2, 1) := by decide +kernel
theorem prd_X_test_63 : decode prb_X_test 63 = .ok (.ireturn, 1) := by decide +kernel
theorem prd_X_test_48 : decode prb_X_test 48 = .ok (.iconst (-1), 1) := by decide +kernel
theorem prd_X_test_49 : decode prb_X_test 49 = .ok (.goto 10, 3) := by decide +kernel
theorem prd_X_tests_0 : decode prb_X_tests 0 = .ok (.iload_n 2, 1) := by decide +kernel
theorem prd_X_tests_1 : decode prb_X_tests 1 = .ok (.bipush 24, 2) := by decide +kernel
theorem prd_X_tests_3 : decode prb_X_tests 3 = .ok (.if_icmp .ne 9, 3) := by decide +kernel
theorem prd_X_tests_12 : decode prb_X_tests 12 = .ok (.sipush 260, 3) := by decide +kernel
theorem prd_X_tests_15 : decode prb_X_tests 15 = .ok (.istore_n 3, 1) := by decide +kernel
theorem prd_X_tests_16 : decode prb_X_tests 16 = .ok (.iload_n 2, 1) := by decide +kernel
theorem prd_X_tests_17 : decode prb_X_tests 17 = .ok (.bipush 24, 2) := by decide +kernel
theorem prd_X_tests_19 : decode prb_X_tests 19 = .ok (.if_icmp .ne 13, 3) := by decide +kernel
theorem prd_X_tests_32 : decode prb_X_tests 32 = .ok (.aload_n 0, 1) := by decide +kernel
theorem prd_X_tests_33 : decode prb_X_tests 33 = .ok (.iload_n 1, 1) := by decide +kernel
theorem prd_X_tests_34 : decode prb_X_tests 34 = .ok (.invokevirtual 262, 3) := by decide +kernel
theorem prd_X_tests_37 : decode prb_X_tests 37 = .ok (.istore 4, 2) := by decide +kernel
theorem prd_X_tests_39 : decode prb_X_tests 39 = .ok (.aload_n 0, 1) := by decide +kernel
theorem prd_X_tests_40 : decode prb_X_tests 40 = .ok (.invokevirtual 218, 3) := by decide +kernel
theorem prd_X_tests_43 : decode prb_X_tests 43 = .ok (.iload_n 3, 1) := by decide +kernel
theorem prd_X_tests_44 : decode prb_X_tests 44 = .ok (.if_icmp .eq 6, 3) := by decide +kernel
theorem prd_X_tests_50 : decode prb_X_tests 50 = .ok (.aload_n 0, 1) := by decide +kernel
theorem prd_X_tests_51 : decode prb_X_tests 51 = .ok (.iload_n 2, 1) := by decide +kernel
theorem prd_X_tests_52 : decode prb_X_tests 52 = .ok (.aload_n 0, 1) := by decide +kernel
theorem prd_X_tests_53 : decode prb_X_tests 53 = .ok (.getfield 29, 3) := by decide +kernel
theorem prd_X_tests_56 : decode prb_X_tests 56 = .ok (.iload 4, 2) := by decide +kernel
theorem prd_X_tests_58 : decode prb_X_tests 58 = .ok (.iaload, 1) := by decide +kernel
theorem prd_X_tests_59 : decode prb_X_tests 59 = .ok (.iconst 0, 1) := by decide +kernel
theorem prd_X_tests_60 : decode prb_X_tests 60 = .ok (.invokevirtual 228, 3) := by decide +kernel
theorem prd_X_tests_63 : decode prb_X_tests 63 = .ok (.istore 5, 2) := by decide +kernel
theorem prd_X_tests_65 : decode prb_X_tests 65 = .ok (.aload_n 0, 1) := by decide +kernel
theorem prd_X_tests_66 : decode prb_X_tests 66 = .ok (.iload 5, 2) := by decide +kernel
theorem prd_X_tests_68 : decode prb_X_tests 68 = .ok (.iload 4, 2) := by decide +kernel
theorem prd_X_tests_70 : decode prb_X_tests 70 = .ok (.invokevirtual 242, 3) := by decide +kernel
theorem prd_X_tests_47 : decode prb_X_tests 47 = .ok (.iload 4, 2) := by decide +kernel
theorem prd_X_tests_49 : decode prb_X_tests 49 = .ok (.ireturn, 1) := by decide +kernel
theorem prd_X_tests_22 : decode prb_X_tests 22 = .ok (.aload_n 0, 1) := by decide +kernel
theorem prd_X_tests_23 : decode prb_X_tests 23 = .ok (.iload_n 1, 1) := by decide +kernel
theorem prd_X_tests_24 : decode prb_X_tests 24 = .ok (.bipush 25, 2) := by decide +kernel
theorem prd_X_tests_26 : decode prb_X_tests 26 = .ok (.invokevirtual 259, 3) := by decide +kernel
theorem prd_X_tests_29 : decode prb_X_tests 29 = .ok (.goto 8, 3) := by decide +kernel
theorem prd_X_tests_6 : decode prb_X_tests 6 = .ok (.sipush 261, 3) := by decide +kernel
theorem prd_X_tests_9 : decode prb_X_tests 9 = .ok (.goto 6, 3) := by decide +kernel
theorem prd_X_tests_73 : decode prb_X_tests 73 = .ok (.aload_n 0, 1) := by decide +kernel
theorem prd_X_tests_74 : decode prb_X_tests 74 = .ok (.invokevirtual 218, 3) := by decide +kernel
theorem prd_X_tests_77 : decode prb_X_tests 77 = .ok (.iload_n 3, 1) := by decide +kernel
theorem prd_X_tests_78 : decode prb_X_tests 78 = .ok (.if_icmp .ne 49, 3) := by decide +kernel
theorem prd_X_tests_127 : decode prb_X_tests 127 = .ok (.iload 5, 2) := by decide +kernel
theorem prd_X_tests_129 : decode prb_X_tests 129 = .ok (.ireturn, 1) := by decide +kernel
theorem prd_X_tests_81 : decode prb_X_tests 81 = .ok (.aload_n 0, 1) := by decide +kernel
theorem prd_X_tests_82 : decode prb_X_tests 82 = .ok (.iload_n 3, 1) := by decide +kernel
theorem prd_X_tests_83 : decode prb_X_tests 83 = .ok (.invokevirtual 232, 3) := by decide +kernel
theorem prd_X_tests_86 : decode prb_X_tests 86 = .ok (.aload_n 0, 1) := by decide +kernel
theorem prd_X_tests_87 : decode prb_X_tests 87 = .ok (.iload 5, 2) := by decide +kernel
theorem prd_X_tests_89 : decode prb_X_tests 89 = .ok (.aload_n 0, 1) := by decide +kernel
theorem prd_X_tests_90 : decode prb_X_tests 90 = .ok (.getfield 211, 3) := by decide +kernel
theorem prd_X_tests_93 : decode prb_X_tests 93 = .ok (.ifCond .eq 7, 3) := by decide +kernel
theorem prd_X_tests_100 : decode prb_X_tests 100 = .ok (.iload_n 2, 1) := by decide +kernel
theorem prd_X_tests_101 : decode prb_X_tests 101 = .ok (.bipush 24, 2) := by decide +kernel
theorem prd_X_tests_103 : decode prb_X_tests 103 = .ok (.if_icmp .ne 13, 3) := by decide +kernel
theorem prd_X_tests_116 : decode prb_X_tests 116 = .ok (.aload_n 0, 1) := by decide +kernel
theorem prd_X_tests_117 : decode prb_X_tests 117 = .ok (.iload_n 1, 1) := by decide +kernel
theorem prd_X_tests_118 : decode prb_X_tests 118 = .ok (.invokevirtual 262, 3) := by decide +kernel
theorem prd_X_tests_121 : decode prb_X_tests 121 = .ok (.invokevirtual 242, 3) := by decide +kernel
theorem prd_X_tests_124 : decode prb_X_tests 124 = .ok (.goto (-51), 3) := by decide +kernel
theorem prd_X_tests_106 : decode prb_X_tests 106 = .ok (.aload_n 0, 1) := by decide +kernel
theorem prd_X_tests_107 : decode prb_X_tests 107 = .ok (.iload_n 1, 1) := by decide +kernel
theorem prd_X_tests_108 : decode prb_X_tests 108 = .ok (.bipush 25, 2) := by decide +kernel
theorem prd_X_tests_110 : decode prb_X_tests 110 = .ok (.invokevirtual 259, 3) := by decide +kernel
theorem prd_X_tests_113 : decode prb_X_tests 113 = .ok (.goto 8, 3) := by decide +kernel
theorem prd_X_tests_96 : decode prb_X_tests 96 = .ok (.iconst (-1), 1) := by decide +kernel
theorem prd_X_tests_97 : decode prb_X_tests 97 = .ok (.goto 24, 3) := by decide +kernel
theorem prd_X_sums_0 : decode prb_X_sums 0 = .ok (.aload_n 0, 1) := by decide +kernel
theorem prd_X_sums_1 : decode prb_X_sums 1 = .ok (.bipush 40, 2) := by decide +kernel
theorem prd_X_sums_3 : decode prb_X_sums 3 = .ok (.invokevirtual 232, 3) := by decide +kernel
theorem prd_X_sums_6 : decode prb_X_sums 6 = .ok (.aload_n 0, 1) := by decide +kernel
theorem prd_X_sums_7 : decode prb_X_sums 7 = .ok (.invokevirtual 218, 3) := by decide +kernel
theorem prd_X_sums_10 : decode prb_X_sums 10 = .ok (.bipush 41, 2) := by decide +kernel
theorem prd_X_sums_12 : decode prb_X_sums 12 = .ok (.if_icmp .eq 67, 3) := by decide +kernel
theorem prd_X_sums_79 : decode prb_X_sums 79 = .ok (.aload_n 0, 1) := by decide +kernel
theorem prd_X_sums_80 : decode prb_X_sums 80 = .ok (.bipush 41, 2) := by decide +kernel
theorem prd_X_sums_82 : decode prb_X_sums 82 = .ok (.invokevirtual 232, 3) := by decide +kernel
theorem prd_X_sums_85 : decode prb_X_sums 85 = .ok (.return_, 1) := by decide +kernel
theorem prd_X_sums_15 : decode prb_X_sums 15 = .ok (.aload_n 0, 1) := by decide +kernel
theorem prd_X_sums_16 : decode prb_X_sums 16 = .ok (.iload_n 1, 1) := by decide +kernel
theorem prd_X_sums_17 : decode prb_X_sums 17 = .ok (.aload_n 0, 1) := by decide +kernel
theorem prd_X_sums_18 : decode prb_X_sums 18 = .ok (.getfield 211, 3) := by decide +kernel
theorem prd_X_sums_21 : decode prb_X_sums 21 = .ok (.ifCond .eq 7, 3) := by decide +kernel
theorem prd_X_sums_28 : decode prb_X_sums 28 = .ok (.aload_n 0, 1) := by decide +kernel
theorem prd_X_sums_29 : decode prb_X_sums 29 = .ok (.iload_n 2, 1) := by decide +kernel
theorem prd_X_sums_30 : decode prb_X_sums 30 = .ok (.iconst 1, 1) := by decide +kernel
theorem prd_X_sums_31 : decode prb_X_sums 31 = .ok (.iadd, 1) := by decide +kernel
theorem prd_X_sums_32 : decode prb_X_sums 32 = .ok (.invokevirtual 256, 3) := by decide +kernel
theorem prd_X_sums_35 : decode prb_X_sums 35 = .ok (.invokevirtual 242, 3) := by decide +kernel
theorem prd_X_sums_24 : decode prb_X_sums 24 = .ok (.iconst (-1), 1) := by decide +kernel
theorem prd_X_sums_25 : decode prb_X_sums 25 = .ok (.goto 10, 3) := by decide +kernel
theorem prd_X_sums_38 : decode prb_X_sums 38 = .ok (.aload_n 0, 1) := by decide +kernel
theorem prd_X_sums_39 : decode prb_X_sums 39 = .ok (.invokevirtual 218, 3) := by decide +kernel
theorem prd_X_sums_42 : decode prb_X_sums 42 = .ok (.bipush 44, 2) := by decide +kernel
theorem prd_X_sums_44 : decode prb_X_sums 44 = .ok (.if_icmp .ne 35, 3) := by decide +kernel
theorem prd_X_sums_47 : decode prb_X_sums 47 = .ok (.aload_n 0, 1) := by decide +kernel
theorem prd_X_sums_48 : decode prb_X_sums 48 = .ok (.bipush 44, 2) := by decide +kernel
theorem prd_X_sums_50 : decode prb_X_sums 50 = .ok (.invokevirtual 232, 3) := by decide +kernel
theorem prd_X_sums_53 : decode prb_X_sums 53 = .ok (.aload_n 0, 1) := by decide +kernel
theorem prd_X_sums_54 : decode prb_X_sums 54 = .ok (.iload_n 1, 1) := by decide +kernel
theorem prd_X_sums_55 : decode prb_X_sums 55 = .ok (.aload_n 0, 1) := by decide +kernel
theorem prd_X_sums_56 : decode prb_X_sums 56 = .ok (.getfield 211, 3) := by decide +kernel
theorem prd_X_sums_59 : decode prb_X_sums 59 = .ok (.ifCond .eq 7, 3) := by decide +kernel
theorem prd_X_sums_66 : decode prb_X_sums 66 = .ok (.aload_n 0, 1) := by decide +kernel
theorem prd_X_sums_67 : decode prb_X_sums 67 = .ok (.iload_n 2, 1) := by decide +kernel
theorem prd_X_sums_68 : decode prb_X_sums 68 = .ok (.iconst 1, 1) := by decide +kernel
theorem prd_X_sums_69 : decode prb_X_sums 69 = .ok (.iadd, 1) := by decide +kernel
theorem prd_X_sums_70 : decode prb_X_sums 70 = .ok (.invokevirtual 256, 3) := by decide +kernel
theorem prd_X_sums_73 : decode prb_X_sums 73 = .ok (.invokevirtual 242, 3) := by decide +kernel
theorem prd_X_sums_76 : decode prb_X_sums 76 = .ok (.goto (-38), 3) := by decide +kernel
theorem prd_X_sums_62 : decode prb_X_sums 62 = .ok (.iconst (-1), 1) := by decide +kernel
theorem prd_X_sums_63 : decode prb_X_sums 63 = .ok (.goto 10, 3) := by decide +kernel
theorem prd_X_named_0 : decode prb_X_named 0 = .ok (.aload_n 0, 1) := by decide +kernel
theorem prd_X_named_1 : decode prb_X_named 1 = .ok (.invokevirtual 253, 3) := by decide +kernel
theorem prd_X_named_4 : decode prb_X_named 4 = .ok (.istore_n 3, 1) := by decide +kernel
theorem prd_X_named_5 : decode prb_X_named 5 = .ok (.aload_n 0, 1) := by decide +kernel
theorem prd_X_named_6 : decode prb_X_named 6 = .ok (.invokevirtual 218, 3) := by decide +kernel
theorem prd_X_named_9 : decode prb_X_named 9 = .ok (.bipush 40, 2) := by decide +kernel
theorem prd_X_named_11 : decode prb_X_named 11 = .ok (.if_icmp .ne 44, 3) := by decide +kernel
theorem prd_X_named_55 : decode prb_X_named 55 = .ok (.aload_n 0, 1) := by decide +kernel
theorem prd_X_named_56 : decode prb_X_named 56 = .ok (.invokevirtual 218, 3) := by decide +kernel
theorem prd_X_named_59 : decode prb_X_named 59 = .ok (.bipush 91, 2) := by decide +kernel
theorem prd_X_named_61 : decode prb_X_named 61 = .ok (.if_icmp .ne 89, 3) := by decide +kernel
theorem prd_X_named_150 : decode prb_X_named 150 = .ok (.aload_n 0, 1) := by decide +kernel
theorem prd_X_named_151 : decode prb_X_named 151 = .ok (.bipush 61, 2) := by decide +kernel
theorem prd_X_named_153 : decode prb_X_named 153 = .ok (.invokevirtual 232, 3) := by decide +kernel
theorem prd_X_named_156 : decode prb_X_named 156 = .ok (.aload_n 0, 1) := by decide +kernel
theorem prd_X_named_157 : decode prb_X_named 157 = .ok (.invokevirtual 218, 3) := by decide +kernel
theorem prd_X_named_160 : decode prb_X_named 160 = .ok (.iconst 2, 1) := by decide +kernel
theorem prd_X_named_161 : decode prb_X_named 161 = .ok (.if_icmp .ne 56, 3) := by decide +kernel
theorem prd_X_named_164 : decode prb_X_named 164 = .ok (.aload_n 0, 1) := by decide +kernel
theorem prd_X_named_165 : decode prb_X_named 165 = .ok (.getfield 13, 3) := by decide +kernel
theorem prd_X_named_168 : decode prb_X_named 168 = .ok (.aload_n 0, 1) := by decide +kernel
theorem prd_X_named_169 : decode prb_X_named 169 = .ok (.getfield 215, 3) := by decide +kernel
theorem prd_X_named_172 : decode prb_X_named 172 = .ok (.iconst 1, 1) := by decide +kernel
theorem prd_X_named_173 : decode prb_X_named 173 = .ok (.iadd, 1) := by decide +kernel
theorem prd_X_named_174 : decode prb_X_named 174 = .ok (.iaload, 1) := by decide +kernel
theorem prd_X_named_175 : decode prb_X_named 175 = .ok (.bipush 40, 2) := by decide +kernel
theorem prd_X_named_177 : decode prb_X_named 177 = .ok (.if_icmp .ne 40, 3) := by decide +kernel
theorem prd_X_named_180 : decode prb_X_named 180 = .ok (.aload_n 0, 1) := by decide +kernel
theorem prd_X_named_181 : decode prb_X_named 181 = .ok (.bipush 7, 2) := by decide +kernel
theorem prd_X_named_183 : decode prb_X_named 183 = .ok (.iload_n 1, 1) := by decide +kernel
theorem prd_X_named_184 : decode prb_X_named 184 = .ok (.iconst 0, 1) := by decide +kernel
theorem prd_X_named_185 : decode prb_X_named 185 = .ok (.invokevirtual 228, 3) := by decide +kernel
theorem prd_X_named_188 : decode prb_X_named 188 = .ok (.istore 4, 2) := by decide +kernel
theorem prd_X_named_190 : decode prb_X_named 190 = .ok (.aload_n 0, 1) := by decide +kernel
theorem prd_X_named_191 : decode prb_X_named 191 = .ok (.iload 4, 2) := by decide +kernel
theorem prd_X_named_193 : decode prb_X_named 193 = .ok (.iload_n 3, 1) := by decide +kernel
theorem prd_X_named_194 : decode prb_X_named 194 = .ok (.invokevirtual 242, 3) := by decide +kernel
theorem prd_X_named_197 : decode prb_X_named 197 = .ok (.aload_n 0, 1) := by decide +kernel
theorem prd_X_named_198 : decode prb_X_named 198 = .ok (.iload 4, 2) := by decide +kernel
theorem prd_X_named_200 : decode prb_X_named 200 = .ok (.aload_n 0, 1) := by decide +kernel
theorem prd_X_named_201 : decode prb_X_named 201 = .ok (.invokevirtual 253, 3) := by decide +kernel
theorem prd_X_named_204 : decode prb_X_named 204 = .ok (.invokevirtual 242, 3) := by decide +kernel
theorem prd_X_named_207 : decode prb_X_named 207 = .ok (.aload_n 0, 1) := by decide +kernel
theorem prd_X_named_208 : decode prb_X_named 208 = .ok (.iload 4, 2) := by decide +kernel
theorem prd_X_named_210 : decode prb_X_named 210 = .ok (.iload_n 2, 1) := by decide +kernel
theorem prd_X_named_211 : decode prb_X_named 211 = .ok (.invokevirtual 277, 3) := by decide +kernel
theorem prd_X_named_214 : decode prb_X_named 214 = .ok (.iload 4, 2) := by decide +kernel
theorem prd_X_named_216 : decode prb_X_named 216 = .ok (.ireturn, 1) := by decide +kernel
theorem prd_X_named_64 : decode prb_X_named 64 = .ok (.aload_n 0, 1) := by decide +kernel
theorem prd_X_named_65 : decode prb_X_named 65 = .ok (.bipush 6, 2) := by decide +kernel
theorem prd_X_named_67 : decode prb_X_named 67 = .ok (.iload_n 1, 1) := by decide +kernel
theorem prd_X_named_68 : decode prb_X_named 68 = .ok (.iconst 0, 1) := by decide +kernel
theorem prd_X_named_69 : decode prb_X_named 69 = .ok (.invokevirtual 228, 3) := by decide +kernel
theorem prd_X_named_72 : decode prb_X_named 72 = .ok (.istore 4, 2) := by decide +kernel
theorem prd_X_named_74 : decode prb_X_named 74 = .ok (.aload_n 0, 1) := by decide +kernel
theorem prd_X_named_75 : decode prb_X_named 75 = .ok (.iload 4, 2) := by decide +kernel
theorem prd_X_named_77 : decode prb_X_named 77 = .ok (.iload_n 3, 1) := by decide +kernel
theorem prd_X_named_78 : decode prb_X_named 78 = .ok (.invokevirtual 242, 3) := by decide +kernel
theorem prd_X_named_81 : decode prb_X_named 81 = .ok (.aload_n 0, 1) := by decide +kernel
theorem prd_X_named_82 : decode prb_X_named 82 = .ok (.bipush 91, 2) := by decide +kernel
theorem prd_X_named_84 : decode prb_X_named 84 = .ok (.invokevirtual 232, 3) := by decide +kernel
theorem prd_X_named_87 : decode prb_X_named 87 = .ok (.aload_n 0, 1) := by decide +kernel
theorem prd_X_named_88 : decode prb_X_named 88 = .ok (.iload 4, 2) := by decide +kernel
theorem prd_X_named_90 : decode prb_X_named 90 = .ok (.aload_n 0, 1) := by decide +kernel
theorem prd_X_named_91 : decode prb_X_named 91 = .ok (.getfield 211, 3) := by decide +kernel
theorem prd_X_named_94 : decode prb_X_named 94 = .ok (.ifCond .eq 7, 3) := by decide +kernel
theorem prd_X_named_101 : decode prb_X_named 101 = .ok (.aload_n 0, 1) := by decide +kernel
theorem prd_X_named_102 : decode prb_X_named 102 = .ok (.iload_n 2, 1) := by decide +kernel
theorem prd_X_named_103 : decode prb_X_named 103 = .ok (.iconst 1, 1) := by decide +kernel
theorem prd_X_named_104 : decode prb_X_named 104 = .ok (.iadd, 1) := by decide +kernel
theorem prd_X_named_105 : decode prb_X_named 105 = .ok (.invokevirtual 256, 3) := by decide +kernel
theorem prd_X_named_108 : decode prb_X_named 108 = .ok (.invokevirtual 242, 3) := by decide +kernel
theorem prd_X_named_111 : decode prb_X_named 111 = .ok (.aload_n 0, 1) := by decide +kernel
theorem prd_X_named_112 : decode prb_X_named 112 = .ok (.bipush 93, 2) := by decide +kernel
theorem prd_X_named_114 : decode prb_X_named 114 = .ok (.invokevirtual 232, 3) := by decide +kernel
theorem prd_X_named_117 : decode prb_X_named 117 = .ok (.aload_n 0, 1) := by decide +kernel
theorem prd_X_named_118 : decode prb_X_named 118 = .ok (.bipush 61, 2) := by decide +kernel
theorem prd_X_named_120 : decode prb_X_named 120 = .ok (.invokevirtual 232, 3) := by decide +kernel
theorem prd_X_named_123 : decode prb_X_named 123 = .ok (.aload_n 0, 1) := by decide +kernel
theorem prd_X_named_124 : decode prb_X_named 124 = .ok (.iload 4, 2) := by decide +kernel
theorem prd_X_named_126 : decode prb_X_named 126 = .ok (.aload_n 0, 1) := by decide +kernel
theorem prd_X_named_127 : decode prb_X_named 127 = .ok (.getfield 211, 3) := by decide +kernel
theorem prd_X_named_130 : decode prb_X_named 130 = .ok (.ifCond .eq 7, 3) := by decide +kernel
theorem prd_X_named_137 : decode prb_X_named 137 = .ok (.aload_n 0, 1) := by decide +kernel
theorem prd_X_named_138 : decode prb_X_named 138 = .ok (.iload_n 2, 1) := by decide +kernel
theorem prd_X_named_139 : decode prb_X_named 139 = .ok (.iconst 1, 1) := by decide +kernel
theorem prd_X_named_140 : decode prb_X_named 140 = .ok (.iadd, 1) := by decide +kernel
theorem prd_X_named_141 : decode prb_X_named 141 = .ok (.invokevirtual 256, 3) := by decide +kernel
theorem prd_X_named_144 : decode prb_X_named 144 = .ok (.invokevirtual 242, 3) := by decide +kernel
theorem prd_X_named_147 : decode prb_X_named 147 = .ok (.iload 4, 2) := by decide +kernel
theorem prd_X_named_149 : decode prb_X_named 149 = .ok (.ireturn, 1) := by decide +kernel
theorem prd_X_named_133 : decode prb_X_named 133 = .ok (.iconst (-1), 1) := by decide +kernel
theorem prd_X_named_134 : decode prb_X_named 134 = .ok (.goto 10, 3) := by decide +kernel
theorem prd_X_named_97 : decode prb_X_named 97 = .ok (.iconst (-1), 1) := by decide +kernel
theorem prd_X_named_98 : decode prb_X_named 98 = .ok (.goto 10, 3) := by decide +kernel
theorem prd_X_named_14 : decode prb_X_named 14 = .ok (.aload_n 0, 1) := by decide +kernel
theorem prd_X_named_15 : decode prb_X_named 15 = .ok (.bipush 7, 2) := by decide +kernel
theorem prd_X_named_17 : decode prb_X_named 17 = .ok (.iload_n 1, 1) := by decide +kernel
theorem prd_X_named_18 : decode prb_X_named 18 = .ok (.iconst 0, 1) := by decide +kernel
theorem prd_X_named_19 : decode prb_X_named 19 = .ok (.invokevirtual 228, 3) := by decide +kernel
theorem prd_X_named_22 : decode prb_X_named 22 = .ok (.istore 4, 2) := by decide +kernel
theorem prd_X_named_24 : decode prb_X_named 24 = .ok (.aload_n 0, 1) := by decide +kernel
theorem prd_X_named_25 : decode prb_X_named 25 = .ok (.iload 4, 2) := by decide +kernel
theorem prd_X_named_27 : decode prb_X_named 27 = .ok (.aload_n 0, 1) := by decide +kernel
theorem prd_X_named_28 : decode prb_X_named 28 = .ok (.bipush 33, 2) := by decide +kernel
theorem prd_X_named_30 : decode prb_X_named 30 = .ok (.iload_n 1, 1) := by decide +kernel
theorem prd_X_named_31 : decode prb_X_named 31 = .ok (.iconst 0, 1) := by decide +kernel
theorem prd_X_named_32 : decode prb_X_named 32 = .ok (.invokevirtual 228, 3) := by decide +kernel
theorem prd_X_named_35 : decode prb_X_named 35 = .ok (.invokevirtual 242, 3) := by decide +kernel
theorem prd_X_named_38 : decode prb_X_named 38 = .ok (.aload_n 0, 1) := by decide +kernel
theorem prd_X_named_39 : decode prb_X_named 39 = .ok (.iload 4, 2) := by decide +kernel
theorem prd_X_named_41 : decode prb_X_named 41 = .ok (.iload_n 3, 1) := by decide +kernel
theorem prd_X_named_42 : decode prb_X_named 42 = .ok (.invokevirtual 242, 3) := by decide +kernel
theorem prd_X_named_45 : decode prb_X_named 45 = .ok (.aload_n 0, 1) := by decide +kernel
theorem prd_X_named_46 : decode prb_X_named 46 = .ok (.iload 4, 2) := by decide +kernel
theorem prd_X_named_48 : decode prb_X_named 48 = .ok (.iload_n 2, 1) := by decide +kernel
theorem prd_X_named_49 : decode prb_X_named 49 = .ok (.invokevirtual 277, 3) := by decide +kernel
theorem prd_X_named_52 : decode prb_X_named 52 = .ok (.iload 4, 2) := by decide +kernel
theorem prd_X_named_54 : decode prb_X_named 54 = .ok (.ireturn, 1) := by decide +kernel
theorem prd_X_named_217 : decode prb_X_named 217 = .ok (.aload_n 0, 1) := by decide +kernel
theorem prd_X_named_218 : decode prb_X_named 218 = .ok (.iconst 5, 1) := by decide +kernel
theorem prd_X_named_219 : decode prb_X_named 219 = .ok (.iload_n 1, 1) := by decide +kernel
theorem prd_X_named_220 : decode prb_X_named 220 = .ok (.iconst 0, 1) := by decide +kernel
theorem prd_X_named_221 : decode prb_X_named 221 = .ok (.invokevirtual 228, 3) := by decide +kernel
theorem prd_X_named_224 : decode prb_X_named 224 = .ok (.istore 4, 2) := by decide +kernel
theorem prd_X_named_226 : decode prb_X_named 226 = .ok (.aload_n 0, 1) := by decide +kernel
theorem prd_X_named_227 : decode prb_X_named 227 = .ok (.iload 4, 2) := by decide +kernel
theorem prd_X_named_229 : decode prb_X_named 229 = .ok (.iload_n 3, 1) := by decide +kernel
theorem prd_X_named_230 : decode prb_X_named 230 = .ok (.invokevirtual 242, 3) := by decide +kernel
theorem prd_X_named_233 : decode prb_X_named 233 = .ok (.aload_n 0, 1) := by decide +kernel
theorem prd_X_named_234 : decode prb_X_named 234 = .ok (.iload 4, 2) := by decide +kernel
theorem prd_X_named_236 : decode prb_X_named 236 = .ok (.aload_n 0, 1) := by decide +kernel
theorem prd_X_named_237 : decode prb_X_named 237 = .ok (.getfield 211, 3) := by decide +kernel
theorem prd_X_named_240 : decode prb_X_named 240 = .ok (.ifCond .eq 7, 3) := by decide +kernel
theorem prd_X_named_247 : decode prb_X_named 247 = .ok (.aload_n 0, 1) := by decide +kernel
theorem prd_X_named_248 : decode prb_X_named 248 = .ok (.iload_n 2, 1) := by decide +kernel
theorem prd_X_named_249 : decode prb_X_named 249 = .ok (.iconst 1, 1) := by decide +kernel
theorem prd_X_named_250 : decode prb_X_named 250 = .ok (.iadd, 1) := by decide +kernel
theorem prd_X_named_251 : decode prb_X_named 251 = .ok (.invokevirtual 256, 3) := by decide +kernel
theorem prd_X_named_254 : decode prb_X_named 254 = .ok (.invokevirtual 242, 3) := by decide +kernel
theorem prd_X_named_257 : decode prb_X_named 257 = .ok (.iload 4, 2) := by decide +kernel
theorem prd_X_named_259 : decode prb_X_named 259 = .ok (.ireturn, 1) := by decide +kernel
theorem prd_X_named_243 : decode prb_X_named 243 = .ok (.iconst (-1), 1) := by decide +kernel
theorem prd_X_named_244 : decode prb_X_named 244 = .ok (.goto 10, 3) := by decide +kernel
theorem prd_X_block1_0 : decode prb_X_block1 0 = .ok (.aload_n 0, 1) := by decide +kernel
theorem prd_X_block1_1 : decode prb_X_block1 1 = .ok (.iload_n 1, 1) := by decide +kernel
theorem prd_X_block1_2 : decode prb_X_block1 2 = .ok (.invokevirtual 236, 3) := by decide +kernel
theorem prd_X_block1_5 : decode prb_X_block1 5 = .ok (.aload_n 0, 1) := by decide +kernel
theorem prd_X_block1_6 : decode prb_X_block1 6 = .ok (.iconst 2, 1) := by decide +kernel
theorem prd_X_block1_7 : decode prb_X_block1 7 = .ok (.aload_n 0, 1) := by decide +kernel
theorem prd_X_block1_8 : decode prb_X_block1 8 = .ok (.getfield 16, 3) := by decide +kernel
theorem prd_X_block1_11 : decode prb_X_block1 11 = .ok (.aload_n 0, 1) := by decide +kernel
theorem prd_X_block1_12 : decode prb_X_block1 12 = .ok (.getfield 215, 3) := by decide +kernel
theorem prd_X_block1_15 : decode prb_X_block1 15 = .ok (.iaload, 1) := by decide +kernel
theorem prd_X_block1_16 : decode prb_X_block1 16 = .ok (.iconst 0, 1) := by decide +kernel
theorem prd_X_block1_17 : decode prb_X_block1 17 = .ok (.invokevirtual 228, 3) := by decide +kernel
theorem prd_X_block1_20 : decode prb_X_block1 20 = .ok (.istore_n 2, 1) := by decide +kernel
theorem prd_X_block1_21 : decode prb_X_block1 21 = .ok (.aload_n 0, 1) := by decide +kernel
theorem prd_X_block1_22 : decode prb_X_block1 22 = .ok (.bipush 123, 2) := by decide +kernel
theorem prd_X_block1_24 : decode prb_X_block1 24 = .ok (.invokevirtual 232, 3) := by decide +kernel
theorem prd_X_block1_27 : decode prb_X_block1 27 = .ok (.aload_n 0, 1) := by decide +kernel
theorem prd_X_block1_28 : decode prb_X_block1 28 = .ok (.getfield 211, 3) := by decide +kernel
theorem prd_X_block1_31 : decode prb_X_block1 31 = .ok (.ifCond .ne 25, 3) := by decide +kernel
theorem prd_X_block1_56 : decode prb_X_block1 56 = .ok (.aload_n 0, 1) := by decide +kernel
theorem prd_X_block1_57 : decode prb_X_block1 57 = .ok (.bipush 125, 2) := by decide +kernel
theorem prd_X_block1_59 : decode prb_X_block1 59 = .ok (.invokevirtual 232, 3) := by decide +kernel
theorem prd_X_block1_62 : decode prb_X_block1 62 = .ok (.iload_n 2, 1) := by decide +kernel
theorem prd_X_block1_63 : decode prb_X_block1 63 = .ok (.ireturn, 1) := by decide +kernel
theorem prd_X_block1_34 : decode prb_X_block1 34 = .ok (.aload_n 0, 1) := by decide +kernel
theorem prd_X_block1_35 : decode prb_X_block1 35 = .ok (.invokevirtual 218, 3) := by decide +kernel
theorem prd_X_block1_38 : decode prb_X_block1 38 = .ok (.bipush 125, 2) := by decide +kernel
theorem prd_X_block1_40 : decode prb_X_block1 40 = .ok (.if_icmp .eq 16, 3) := by decide +kernel
theorem prd_X_block1_43 : decode prb_X_block1 43 = .ok (.aload_n 0, 1) := by decide +kernel
theorem prd_X_block1_44 : decode prb_X_block1 44 = .ok (.iload_n 2, 1) := by decide +kernel
theorem prd_X_block1_45 : decode prb_X_block1 45 = .ok (.aload_n 0, 1) := by decide +kernel
theorem prd_X_block1_46 : decode prb_X_block1 46 = .ok (.iload_n 1, 1) := by decide +kernel
theorem prd_X_block1_47 : decode prb_X_block1 47 = .ok (.invokevirtual 268, 3) := by decide +kernel
theorem prd_X_block1_50 : decode prb_X_block1 50 = .ok (.invokevirtual 242, 3) := by decide +kernel
theorem prd_X_block1_53 : decode prb_X_block1 53 = .ok (.goto (-26), 3) := by decide +kernel
theorem prd_X_statement1_0 : decode prb_X_statement1 0 = .ok (.aload_n 0, 1) := by decide +kernel
theorem prd_X_statement1_1 : decode prb_X_statement1 1 = .ok (.getfield 16, 3) := by decide +kernel
theorem prd_X_statement1_4 : decode prb_X_statement1 4 = .ok (.aload_n 0, 1) := by decide +kernel
theorem prd_X_statement1_5 : decode prb_X_statement1 5 = .ok (.getfield 215, 3) := by decide +kernel
theorem prd_X_statement1_8 : decode prb_X_statement1 8 = .ok (.iaload, 1) := by decide +kernel
theorem prd_X_statement1_9 : decode prb_X_statement1 9 = .ok (.istore_n 2, 1) := by decide +kernel
theorem prd_X_statement1_10 : decode prb_X_statement1 10 = .ok (.aload_n 0, 1) := by decide +kernel
theorem prd_X_statement1_11 : decode prb_X_statement1 11 = .ok (.invokevirtual 218, 3) := by decide +kernel
theorem prd_X_statement1_14 : decode prb_X_statement1 14 = .ok (.istore_n 3, 1) := by decide +kernel
theorem prd_X_statement1_15 : decode prb_X_statement1 15 = .ok (.iconst (-1), 1) := by decide +kernel
theorem prd_X_statement1_16 : decode prb_X_statement1 16 = .ok (.istore 4, 2) := by decide +kernel
theorem prd_X_statement1_18 : decode prb_X_statement1 18 = .ok (.iload_n 3, 1) := by decide +kernel
theorem prd_X_statement1_19 : decode prb_X_statement1 19 = .ok (.sipush 301, 3) := by decide +kernel
theorem prd_X_statement1_22 : decode prb_X_statement1 22 = .ok (.if_icmp .ne 129, 3) := by decide +kernel
theorem prd_X_statement1_151 : decode prb_X_statement1 151 = .ok (.iload_n 3, 1) := by decide +kernel
theorem prd_X_statement1_152 : decode prb_X_statement1 152 = .ok (.iconst 2, 1) := by decide +kernel
theorem prd_X_statement1_153 : decode prb_X_statement1 153 = .ok (.if_icmp .ne 20, 3) := by decide +kernel
theorem prd_X_statement1_173 : decode prb_X_statement1 173 = .ok (.iload_n 3, 1) := by decide +kernel
theorem prd_X_statement1_174 : decode prb_X_statement1 174 = .ok (.sipush 302, 3) := by decide +kernel
theorem prd_X_statement1_177 : decode prb_X_statement1 177 = .ok (.if_icmp .eq 10, 3) := by decide +kernel
theorem prd_X_statement1_180 : decode prb_X_statement1 180 = .ok (.iload_n 3, 1) := by decide +kernel
theorem prd_X_statement1_181 : decode prb_X_statement1 181 = .ok (.sipush 304, 3) := by decide +kernel
theorem prd_X_statement1_184 : decode prb_X_statement1 184 = .ok (.if_icmp .ne 141, 3) := by decide +kernel
theorem prd_X_statement1_325 : decode prb_X_statement1 325 = .ok (.iload_n 3, 1) := by decide +kernel
theorem prd_X_statement1_326 : decode prb_X_statement1 326 = .ok (.sipush 305, 3) := by decide +kernel
theorem prd_X_statement1_329 : decode prb_X_statement1 329 = .ok (.if_icmp .ne 65, 3) := by decide +kernel
theorem prd_X_statement1_394 : decode prb_X_statement1 394 = .ok (.aload_n 0, 1) := by decide +kernel
theorem prd_X_statement1_395 : decode prb_X_statement1 395 = .ok (.sipush 306, 3) := by decide +kernel
theorem prd_X_statement1_398 : decode prb_X_statement1 398 = .ok (.invokevirtual 232, 3) := by decide +kernel
theorem prd_X_statement1_401 : decode prb_X_statement1 401 = .ok (.aload_n 0, 1) := by decide +kernel
theorem prd_X_statement1_402 : decode prb_X_statement1 402 = .ok (.bipush 11, 2) := by decide +kernel
theorem prd_X_statement1_404 : decode prb_X_statement1 404 = .ok (.iload_n 2, 1) := by decide +kernel
theorem prd_X_statement1_405 : decode prb_X_statement1 405 = .ok (.iconst 0, 1) := by decide +kernel
theorem prd_X_statement1_406 : decode prb_X_statement1 406 = .ok (.invokevirtual 228, 3) := by decide +kernel
theorem prd_X_statement1_409 : decode prb_X_statement1 409 = .ok (.istore 4, 2) := by decide +kernel
theorem prd_X_statement1_411 : decode prb_X_statement1 411 = .ok (.aload_n 0, 1) := by decide +kernel
theorem prd_X_statement1_412 : decode prb_X_statement1 412 = .ok (.iload 4, 2) := by decide +kernel
theorem prd_X_statement1_414 : decode prb_X_statement1 414 = .ok (.aload_n 0, 1) := by decide +kernel
theorem prd_X_statement1_415 : decode prb_X_statement1 415 = .ok (.getfield 211, 3) := by decide +kernel
theorem prd_X_statement1_418 : decode prb_X_statement1 418 = .ok (.ifCond .eq 7, 3) := by decide +kernel
theorem prd_X_statement1_425 : decode prb_X_statement1 425 = .ok (.aload_n 0, 1) := by decide +kernel
theorem prd_X_statement1_426 : decode prb_X_statement1 426 = .ok (.iload_n 1, 1) := by decide +kernel
theorem prd_X_statement1_427 : decode prb_X_statement1 427 = .ok (.iconst 1, 1) := by decide +kernel
theorem prd_X_statement1_428 : decode prb_X_statement1 428 = .ok (.iadd, 1) := by decide +kernel
theorem prd_X_statement1_429 : decode prb_X_statement1 429 = .ok (.invokevirtual 256, 3) := by decide +kernel
theorem prd_X_statement1_432 : decode prb_X_statement1 432 = .ok (.invokevirtual 242, 3) := by decide +kernel
theorem prd_X_statement1_435 : decode prb_X_statement1 435 = .ok (.aload_n 0, 1) := by decide +kernel
theorem prd_X_statement1_436 : decode prb_X_statement1 436 = .ok (.bipush 59, 2) := by decide +kernel
theorem prd_X_statement1_438 : decode prb_X_statement1 438 = .ok (.invokevirtual 232, 3) := by decide +kernel
theorem prd_X_statement1_441 : decode prb_X_statement1 441 = .ok (.iload 4, 2) := by decide +kernel
theorem prd_X_statement1_443 : decode prb_X_statement1 443 = .ok (.ireturn, 1) := by decide +kernel
theorem prd_X_statement1_421 : decode prb_X_statement1 421 = .ok (.iconst (-1), 1) := by decide +kernel
theorem prd_X_statement1_422 : decode prb_X_statement1 422 = .ok (.goto 10, 3) := by decide +kernel
theorem prd_X_statement1_332 : decode prb_X_statement1 332 = .ok (.aload_n 0, 1) := by decide +kernel
theorem prd_X_statement1_333 : decode prb_X_statement1 333 = .ok (.bipush 10, 2) := by decide +kernel
theorem prd_X_statement1_335 : decode prb_X_statement1 335 = .ok (.iload_n 2, 1) := by decide +kernel
theorem prd_X_statement1_336 : decode prb_X_statement1 336 = .ok (.iconst 0, 1) := by decide +kernel
theorem prd_X_statement1_337 : decode prb_X_statement1 337 = .ok (.invokevirtual 228, 3) := by decide +kernel
theorem prd_X_statement1_340 : decode prb_X_statement1 340 = .ok (.istore 4, 2) := by decide +kernel
theorem prd_X_statement1_342 : decode prb_X_statement1 342 = .ok (.aload_n 0, 1) := by decide +kernel
theorem prd_X_statement1_343 : decode prb_X_statement1 343 = .ok (.sipush 305, 3) := by decide +kernel
theorem prd_X_statement1_346 : decode prb_X_statement1 346 = .ok (.invokevirtual 232, 3) := by decide +kernel
theorem prd_X_statement1_349 : decode prb_X_statement1 349 = .ok (.aload_n 0, 1) := by decide +kernel
theorem prd_X_statement1_350 : decode prb_X_statement1 350 = .ok (.bipush 40, 2) := by decide +kernel
theorem prd_X_statement1_352 : decode prb_X_statement1 352 = .ok (.invokevirtual 232, 3) := by decide +kernel
theorem prd_X_statement1_355 : decode prb_X_statement1 355 = .ok (.aload_n 0, 1) := by decide +kernel
theorem prd_X_statement1_356 : decode prb_X_statement1 356 = .ok (.iload 4, 2) := by decide +kernel
theorem prd_X_statement1_358 : decode prb_X_statement1 358 = .ok (.aload_n 0, 1) := by decide +kernel
theorem prd_X_statement1_359 : decode prb_X_statement1 359 = .ok (.getfield 211, 3) := by decide +kernel
theorem prd_X_statement1_362 : decode prb_X_statement1 362 = .ok (.ifCond .eq 7, 3) := by decide +kernel
theorem prd_X_statement1_369 : decode prb_X_statement1 369 = .ok (.aload_n 0, 1) := by decide +kernel
theorem prd_X_statement1_370 : decode prb_X_statement1 370 = .ok (.iload_n 1, 1) := by decide +kernel
theorem prd_X_statement1_371 : decode prb_X_statement1 371 = .ok (.iconst 1, 1) := by decide +kernel
theorem prd_X_statement1_372 : decode prb_X_statement1 372 = .ok (.iadd, 1) := by decide +kernel
theorem prd_X_statement1_373 : decode prb_X_statement1 373 = .ok (.invokevirtual 265, 3) := by decide +kernel
theorem prd_X_statement1_376 : decode prb_X_statement1 376 = .ok (.invokevirtual 242, 3) := by decide +kernel
theorem prd_X_statement1_379 : decode prb_X_statement1 379 = .ok (.aload_n 0, 1) := by decide +kernel
theorem prd_X_statement1_380 : decode prb_X_statement1 380 = .ok (.bipush 41, 2) := by decide +kernel
theorem prd_X_statement1_382 : decode prb_X_statement1 382 = .ok (.invokevirtual 232, 3) := by decide +kernel
theorem prd_X_statement1_385 : decode prb_X_statement1 385 = .ok (.aload_n 0, 1) := by decide +kernel
theorem prd_X_statement1_386 : decode prb_X_statement1 386 = .ok (.bipush 59, 2) := by decide +kernel
theorem prd_X_statement1_388 : decode prb_X_statement1 388 = .ok (.invokevirtual 232, 3) := by decide +kernel
theorem prd_X_statement1_391 : decode prb_X_statement1 391 = .ok (.goto 50, 3) := by decide +kernel
theorem prd_X_statement1_365 : decode prb_X_statement1 365 = .ok (.iconst (-1), 1) := by decide +kernel
theorem prd_X_statement1_366 : decode prb_X_statement1 366 = .ok (.goto 10, 3) := by decide +kernel
theorem prd_X_statement1_156 : decode prb_X_statement1 156 = .ok (.aload_n 0, 1) := by decide +kernel
theorem prd_X_statement1_157 : decode prb_X_statement1 157 = .ok (.iload_n 2, 1) := by decide +kernel
theorem prd_X_statement1_158 : decode prb_X_statement1 158 = .ok (.iload_n 1, 1) := by decide +kernel
theorem prd_X_statement1_159 : decode prb_X_statement1 159 = .ok (.invokevirtual 271, 3) := by decide +kernel
theorem prd_X_statement1_162 : decode prb_X_statement1 162 = .ok (.istore 4, 2) := by decide +kernel
theorem prd_X_statement1_164 : decode prb_X_statement1 164 = .ok (.aload_n 0, 1) := by decide +kernel
theorem prd_X_statement1_165 : decode prb_X_statement1 165 = .ok (.bipush 59, 2) := by decide +kernel
theorem prd_X_statement1_167 : decode prb_X_statement1 167 = .ok (.invokevirtual 232, 3) := by decide +kernel
theorem prd_X_statement1_170 : decode prb_X_statement1 170 = .ok (.goto 271, 3) := by decide +kernel
theorem prd_X_statement1_25 : decode prb_X_statement1 25 = .ok (.aload_n 0, 1) := by decide +kernel
theorem prd_X_statement1_26 : decode prb_X_statement1 26 = .ok (.sipush 301, 3) := by decide +kernel
theorem prd_X_statement1_29 : decode prb_X_statement1 29 = .ok (.invokevirtual 232, 3) := by decide +kernel
theorem prd_X_statement1_32 : decode prb_X_statement1 32 = .ok (.aload_n 0, 1) := by decide +kernel
theorem prd_X_statement1_33 : decode prb_X_statement1 33 = .ok (.invokevirtual 253, 3) := by decide +kernel
theorem prd_X_statement1_36 : decode prb_X_statement1 36 = .ok (.istore 5, 2) := by decide +kernel
theorem prd_X_statement1_38 : decode prb_X_statement1 38 = .ok (.aload_n 0, 1) := by decide +kernel
theorem prd_X_statement1_39 : decode prb_X_statement1 39 = .ok (.aload_n 0, 1) := by decide +kernel
theorem prd_X_statement1_40 : decode prb_X_statement1 40 = .ok (.invokevirtual 218, 3) := by decide +kernel
theorem prd_X_statement1_43 : decode prb_X_statement1 43 = .ok (.bipush 91, 2) := by decide +kernel
theorem prd_X_statement1_45 : decode prb_X_statement1 45 = .ok (.if_icmp .ne 7, 3) := by decide +kernel
theorem prd_X_statement1_52 : decode prb_X_statement1 52 = .ok (.iconst 3, 1) := by decide +kernel
theorem prd_X_statement1_53 : decode prb_X_statement1 53 = .ok (.iload_n 2, 1) := by decide +kernel
theorem prd_X_statement1_54 : decode prb_X_statement1 54 = .ok (.iconst 0, 1) := by decide +kernel
theorem prd_X_statement1_55 : decode prb_X_statement1 55 = .ok (.invokevirtual 228, 3) := by decide +kernel
theorem prd_X_statement1_58 : decode prb_X_statement1 58 = .ok (.istore 4, 2) := by decide +kernel
theorem prd_X_statement1_60 : decode prb_X_statement1 60 = .ok (.aload_n 0, 1) := by decide +kernel
theorem prd_X_statement1_61 : decode prb_X_statement1 61 = .ok (.iload 4, 2) := by decide +kernel
theorem prd_X_statement1_63 : decode prb_X_statement1 63 = .ok (.iload 5, 2) := by decide +kernel
theorem prd_X_statement1_65 : decode prb_X_statement1 65 = .ok (.invokevirtual 242, 3) := by decide +kernel
theorem prd_X_statement1_68 : decode prb_X_statement1 68 = .ok (.aload_n 0, 1) := by decide +kernel
theorem prd_X_statement1_69 : decode prb_X_statement1 69 = .ok (.invokevirtual 218, 3) := by decide +kernel
theorem prd_X_statement1_72 : decode prb_X_statement1 72 = .ok (.bipush 91, 2) := by decide +kernel
theorem prd_X_statement1_74 : decode prb_X_statement1 74 = .ok (.if_icmp .ne 29, 3) := by decide +kernel
theorem prd_X_statement1_103 : decode prb_X_statement1 103 = .ok (.aload_n 0, 1) := by decide +kernel
theorem prd_X_statement1_104 : decode prb_X_statement1 104 = .ok (.invokevirtual 218, 3) := by decide +kernel
theorem prd_X_statement1_107 : decode prb_X_statement1 107 = .ok (.bipush 61, 2) := by decide +kernel
theorem prd_X_statement1_109 : decode prb_X_statement1 109 = .ok (.if_icmp .ne 33, 3) := by decide +kernel
theorem prd_X_statement1_142 : decode prb_X_statement1 142 = .ok (.aload_n 0, 1) := by decide +kernel
theorem prd_X_statement1_143 : decode prb_X_statement1 143 = .ok (.bipush 59, 2) := by decide +kernel
theorem prd_X_statement1_145 : decode prb_X_statement1 145 = .ok (.invokevirtual 232, 3) := by decide +kernel
theorem prd_X_statement1_148 : decode prb_X_statement1 148 = .ok (.goto 293, 3) := by decide +kernel
theorem prd_X_statement1_112 : decode prb_X_statement1 112 = .ok (.aload_n 0, 1) := by decide +kernel
theorem prd_X_statement1_113 : decode prb_X_statement1 113 = .ok (.bipush 61, 2) := by decide +kernel
theorem prd_X_statement1_115 : decode prb_X_statement1 115 = .ok (.invokevirtual 232, 3) := by decide +kernel
theorem prd_X_statement1_118 : decode prb_X_statement1 118 = .ok (.aload_n 0, 1) := by decide +kernel
theorem prd_X_statement1_119 : decode prb_X_statement1 119 = .ok (.iload 4, 2) := by decide +kernel
theorem prd_X_statement1_121 : decode prb_X_statement1 121 = .ok (.aload_n 0, 1) := by decide +kernel
theorem prd_X_statement1_122 : decode prb_X_statement1 122 = .ok (.getfield 211, 3) := by decide +kernel
theorem prd_X_statement1_125 : decode prb_X_statement1 125 = .ok (.ifCond .eq 7, 3) := by decide +kernel
theorem prd_X_statement1_132 : decode prb_X_statement1 132 = .ok (.aload_n 0, 1) := by decide +kernel
theorem prd_X_statement1_133 : decode prb_X_statement1 133 = .ok (.iload_n 1, 1) := by decide +kernel
theorem prd_X_statement1_134 : decode prb_X_statement1 134 = .ok (.iconst 1, 1) := by decide +kernel
theorem prd_X_statement1_135 : decode prb_X_statement1 135 = .ok (.iadd, 1) := by decide +kernel
theorem prd_X_statement1_136 : decode prb_X_statement1 136 = .ok (.invokevirtual 256, 3) := by decide +kernel
theorem prd_X_statement1_139 : decode prb_X_statement1 139 = .ok (.invokevirtual 242, 3) := by decide +kernel
theorem prd_X_statement1_128 : decode prb_X_statement1 128 = .ok (.iconst (-1), 1) := by decide +kernel
theorem prd_X_statement1_129 : decode prb_X_statement1 129 = .ok (.goto 10, 3) := by decide +kernel
theorem prd_X_statement1_77 : decode prb_X_statement1 77 = .ok (.aload_n 0, 1) := by decide +kernel
theorem prd_X_statement1_78 : decode prb_X_statement1 78 = .ok (.bipush 91, 2) := by decide +kernel
theorem prd_X_statement1_80 : decode prb_X_statement1 80 = .ok (.invokevirtual 232, 3) := by decide +kernel
theorem prd_X_statement1_83 : decode prb_X_statement1 83 = .ok (.aload_n 0, 1) := by decide +kernel
theorem prd_X_statement1_84 : decode prb_X_statement1 84 = .ok (.iload 4, 2) := by decide +kernel
theorem prd_X_statement1_86 : decode prb_X_statement1 86 = .ok (.aload_n 0, 1) := by decide +kernel
theorem prd_X_statement1_87 : decode prb_X_statement1 87 = .ok (.iconst 0, 1) := by decide +kernel
theorem prd_X_statement1_88 : decode prb_X_statement1 88 = .ok (.invokevirtual 249, 3) := by decide +kernel
theorem prd_X_statement1_91 : decode prb_X_statement1 91 = .ok (.invokevirtual 242, 3) := by decide +kernel
theorem prd_X_statement1_94 : decode prb_X_statement1 94 = .ok (.aload_n 0, 1) := by decide +kernel
theorem prd_X_statement1_95 : decode prb_X_statement1 95 = .ok (.bipush 93, 2) := by decide +kernel
theorem prd_X_statement1_97 : decode prb_X_statement1 97 = .ok (.invokevirtual 232, 3) := by decide +kernel
theorem prd_X_statement1_100 : decode prb_X_statement1 100 = .ok (.goto 42, 3) := by decide +kernel
theorem prd_X_statement1_48 : decode prb_X_statement1 48 = .ok (.iconst 4, 1) := by decide +kernel
theorem prd_X_statement1_49 : decode prb_X_statement1 49 = .ok (.goto 4, 3) := by decide +kernel
theorem prd_X_statement1_187 : decode prb_X_statement1 187 = .ok (.aload_n 0, 1) := by decide +kernel
theorem prd_X_statement1_188 : decode prb_X_statement1 188 = .ok (.iload_n 3, 1) := by decide +kernel
theorem prd_X_statement1_189 : decode prb_X_statement1 189 = .ok (.sipush 302, 3) := by decide +kernel
theorem prd_X_statement1_192 : decode prb_X_statement1 192 = .ok (.if_icmp .ne 8, 3) := by decide +kernel
theorem prd_X_statement1_200 : decode prb_X_statement1 200 = .ok (.bipush 9, 2) := by decide +kernel
theorem prd_X_statement1_202 : decode prb_X_statement1 202 = .ok (.iload_n 2, 1) := by decide +kernel
theorem prd_X_statement1_203 : decode prb_X_statement1 203 = .ok (.iconst 0, 1) := by decide +kernel
theorem prd_X_statement1_204 : decode prb_X_statement1 204 = .ok (.invokevirtual 228, 3) := by decide +kernel
theorem prd_X_statement1_207 : decode prb_X_statement1 207 = .ok (.istore 4, 2) := by decide +kernel
theorem prd_X_statement1_209 : decode prb_X_statement1 209 = .ok (.aload_n 0, 1) := by decide +kernel
theorem prd_X_statement1_210 : decode prb_X_statement1 210 = .ok (.iload_n 3, 1) := by decide +kernel
theorem prd_X_statement1_211 : decode prb_X_statement1 211 = .ok (.invokevirtual 232, 3) := by decide +kernel
theorem prd_X_statement1_214 : decode prb_X_statement1 214 = .ok (.aload_n 0, 1) := by decide +kernel
theorem prd_X_statement1_215 : decode prb_X_statement1 215 = .ok (.bipush 40, 2) := by decide +kernel
theorem prd_X_statement1_217 : decode prb_X_statement1 217 = .ok (.invokevirtual 232, 3) := by decide +kernel
theorem prd_X_statement1_220 : decode prb_X_statement1 220 = .ok (.aload_n 0, 1) := by decide +kernel
theorem prd_X_statement1_221 : decode prb_X_statement1 221 = .ok (.iload 4, 2) := by decide +kernel
theorem prd_X_statement1_223 : decode prb_X_statement1 223 = .ok (.aload_n 0, 1) := by decide +kernel
theorem prd_X_statement1_224 : decode prb_X_statement1 224 = .ok (.getfield 211, 3) := by decide +kernel
theorem prd_X_statement1_227 : decode prb_X_statement1 227 = .ok (.ifCond .eq 7, 3) := by decide +kernel
theorem prd_X_statement1_234 : decode prb_X_statement1 234 = .ok (.aload_n 0, 1) := by decide +kernel
theorem prd_X_statement1_235 : decode prb_X_statement1 235 = .ok (.iload_n 1, 1) := by decide +kernel
theorem prd_X_statement1_236 : decode prb_X_statement1 236 = .ok (.iconst 1, 1) := by decide +kernel
theorem prd_X_statement1_237 : decode prb_X_statement1 237 = .ok (.iadd, 1) := by decide +kernel
theorem prd_X_statement1_238 : decode prb_X_statement1 238 = .ok (.invokevirtual 265, 3) := by decide +kernel
theorem prd_X_statement1_241 : decode prb_X_statement1 241 = .ok (.invokevirtual 242, 3) := by decide +kernel
theorem prd_X_statement1_244 : decode prb_X_statement1 244 = .ok (.aload_n 0, 1) := by decide +kernel
theorem prd_X_statement1_245 : decode prb_X_statement1 245 = .ok (.bipush 41, 2) := by decide +kernel
theorem prd_X_statement1_247 : decode prb_X_statement1 247 = .ok (.invokevirtual 232, 3) := by decide +kernel
theorem prd_X_statement1_250 : decode prb_X_statement1 250 = .ok (.aload_n 0, 1) := by decide +kernel
theorem prd_X_statement1_251 : decode prb_X_statement1 251 = .ok (.iload 4, 2) := by decide +kernel
theorem prd_X_statement1_253 : decode prb_X_statement1 253 = .ok (.aload_n 0, 1) := by decide +kernel
theorem prd_X_statement1_254 : decode prb_X_statement1 254 = .ok (.getfield 211, 3) := by decide +kernel
theorem prd_X_statement1_257 : decode prb_X_statement1 257 = .ok (.ifCond .eq 7, 3) := by decide +kernel
theorem prd_X_statement1_264 : decode prb_X_statement1 264 = .ok (.aload_n 0, 1) := by decide +kernel
theorem prd_X_statement1_265 : decode prb_X_statement1 265 = .ok (.iload_n 1, 1) := by decide +kernel
theorem prd_X_statement1_266 : decode prb_X_statement1 266 = .ok (.iconst 1, 1) := by decide +kernel
theorem prd_X_statement1_267 : decode prb_X_statement1 267 = .ok (.iadd, 1) := by decide +kernel
theorem prd_X_statement1_268 : decode prb_X_statement1 268 = .ok (.invokevirtual 274, 3) := by decide +kernel
theorem prd_X_statement1_271 : decode prb_X_statement1 271 = .ok (.invokevirtual 242, 3) := by decide +kernel
theorem prd_X_statement1_274 : decode prb_X_statement1 274 = .ok (.iload_n 3, 1) := by decide +kernel
theorem prd_X_statement1_275 : decode prb_X_statement1 275 = .ok (.sipush 302, 3) := by decide +kernel
theorem prd_X_statement1_278 : decode prb_X_statement1 278 = .ok (.if_icmp .ne 163, 3) := by decide +kernel
theorem prd_X_statement1_281 : decode prb_X_statement1 281 = .ok (.aload_n 0, 1) := by decide +kernel
theorem prd_X_statement1_282 : decode prb_X_statement1 282 = .ok (.invokevirtual 218, 3) := by decide +kernel
theorem prd_X_statement1_285 : decode prb_X_statement1 285 = .ok (.sipush 303, 3) := by decide +kernel
theorem prd_X_statement1_288 : decode prb_X_statement1 288 = .ok (.if_icmp .ne 153, 3) := by decide +kernel
theorem prd_X_statement1_291 : decode prb_X_statement1 291 = .ok (.aload_n 0, 1) := by decide +kernel
theorem prd_X_statement1_292 : decode prb_X_statement1 292 = .ok (.sipush 303, 3) := by decide +kernel
theorem prd_X_statement1_295 : decode prb_X_statement1 295 = .ok (.invokevirtual 232, 3) := by decide +kernel
theorem prd_X_statement1_298 : decode prb_X_statement1 298 = .ok (.aload_n 0, 1) := by decide +kernel
theorem prd_X_statement1_299 : decode prb_X_statement1 299 = .ok (.iload 4, 2) := by decide +kernel
theorem prd_X_statement1_301 : decode prb_X_statement1 301 = .ok (.aload_n 0, 1) := by decide +kernel
theorem prd_X_statement1_302 : decode prb_X_statement1 302 = .ok (.getfield 211, 3) := by decide +kernel
theorem prd_X_statement1_305 : decode prb_X_statement1 305 = .ok (.ifCond .eq 7, 3) := by decide +kernel
theorem prd_X_statement1_312 : decode prb_X_statement1 312 = .ok (.aload_n 0, 1) := by decide +kernel
theorem prd_X_statement1_313 : decode prb_X_statement1 313 = .ok (.iload_n 1, 1) := by decide +kernel
theorem prd_X_statement1_314 : decode prb_X_statement1 314 = .ok (.iconst 1, 1) := by decide +kernel
theorem prd_X_statement1_315 : decode prb_X_statement1 315 = .ok (.iadd, 1) := by decide +kernel
theorem prd_X_statement1_316 : decode prb_X_statement1 316 = .ok (.invokevirtual 274, 3) := by decide +kernel
theorem prd_X_statement1_319 : decode prb_X_statement1 319 = .ok (.invokevirtual 242, 3) := by decide +kernel
theorem prd_X_statement1_322 : decode prb_X_statement1 322 = .ok (.goto 119, 3) := by decide +kernel
theorem prd_X_statement1_308 : decode prb_X_statement1 308 = .ok (.iconst (-1), 1) := by decide +kernel
theorem prd_X_statement1_309 : decode prb_X_statement1 309 = .ok (.goto 10, 3) := by decide +kernel
theorem prd_X_statement1_260 : decode prb_X_statement1 260 = .ok (.iconst (-1), 1) := by decide +kernel
theorem prd_X_statement1_261 : decode prb_X_statement1 261 = .ok (.goto 10, 3) := by decide +kernel
theorem prd_X_statement1_230 : decode prb_X_statement1 230 = .ok (.iconst (-1), 1) := by decide +kernel
theorem prd_X_statement1_231 : decode prb_X_statement1 231 = .ok (.goto 10, 3) := by decide +kernel
theorem prd_X_statement1_195 : decode prb_X_statement1 195 = .ok (.bipush 8, 2) := by decide +kernel
theorem prd_X_statement1_197 : decode prb_X_statement1 197 = .ok (.goto 5, 3) := by decide +kernel
theorem prd_X_function_0 : decode prb_X_function 0 = .ok (.aload_n 0, 1) := by decide +kernel
theorem prd_X_function_1 : decode prb_X_function 1 = .ok (.iconst 1, 1) := by decide +kernel
theorem prd_X_function_2 : decode prb_X_function 2 = .ok (.aload_n 0, 1) := by decide +kernel
theorem prd_X_function_3 : decode prb_X_function 3 = .ok (.getfield 16, 3) := by decide +kernel
theorem prd_X_function_6 : decode prb_X_function 6 = .ok (.aload_n 0, 1) := by decide +kernel
theorem prd_X_function_7 : decode prb_X_function 7 = .ok (.getfield 215, 3) := by decide +kernel
theorem prd_X_function_10 : decode prb_X_function 10 = .ok (.iaload, 1) := by decide +kernel
theorem prd_X_function_11 : decode prb_X_function 11 = .ok (.iconst 0, 1) := by decide +kernel
theorem prd_X_function_12 : decode prb_X_function 12 = .ok (.invokevirtual 228, 3) := by decide +kernel
theorem prd_X_function_15 : decode prb_X_function 15 = .ok (.istore_n 1, 1) := by decide +kernel
theorem prd_X_function_16 : decode prb_X_function 16 = .ok (.aload_n 0, 1) := by decide +kernel
theorem prd_X_function_17 : decode prb_X_function 17 = .ok (.sipush 300, 3) := by decide +kernel
theorem prd_X_function_20 : decode prb_X_function 20 = .ok (.invokevirtual 232, 3) := by decide +kernel
theorem prd_X_function_23 : decode prb_X_function 23 = .ok (.aload_n 0, 1) := by decide +kernel
theorem prd_X_function_24 : decode prb_X_function 24 = .ok (.iload_n 1, 1) := by decide +kernel
theorem prd_X_function_25 : decode prb_X_function 25 = .ok (.aload_n 0, 1) := by decide +kernel
theorem prd_X_function_26 : decode prb_X_function 26 = .ok (.invokevirtual 253, 3) := by decide +kernel
theorem prd_X_function_29 : decode prb_X_function 29 = .ok (.invokevirtual 242, 3) := by decide +kernel
theorem prd_X_function_32 : decode prb_X_function 32 = .ok (.aload_n 0, 1) := by decide +kernel
theorem prd_X_function_33 : decode prb_X_function 33 = .ok (.bipush 40, 2) := by decide +kernel
theorem prd_X_function_35 : decode prb_X_function 35 = .ok (.invokevirtual 232, 3) := by decide +kernel
theorem prd_X_function_38 : decode prb_X_function 38 = .ok (.aload_n 0, 1) := by decide +kernel
theorem prd_X_function_39 : decode prb_X_function 39 = .ok (.invokevirtual 218, 3) := by decide +kernel
theorem prd_X_function_42 : decode prb_X_function 42 = .ok (.bipush 41, 2) := by decide +kernel
theorem prd_X_function_44 : decode prb_X_function 44 = .ok (.if_icmp .eq 39, 3) := by decide +kernel
theorem prd_X_function_47 : decode prb_X_function 47 = .ok (.aload_n 0, 1) := by decide +kernel
theorem prd_X_function_48 : decode prb_X_function 48 = .ok (.iload_n 1, 1) := by decide +kernel
theorem prd_X_function_49 : decode prb_X_function 49 = .ok (.aload_n 0, 1) := by decide +kernel
theorem prd_X_function_50 : decode prb_X_function 50 = .ok (.invokevirtual 253, 3) := by decide +kernel
theorem prd_X_function_53 : decode prb_X_function 53 = .ok (.invokevirtual 242, 3) := by decide +kernel
theorem prd_X_function_56 : decode prb_X_function 56 = .ok (.aload_n 0, 1) := by decide +kernel
theorem prd_X_function_57 : decode prb_X_function 57 = .ok (.invokevirtual 218, 3) := by decide +kernel
theorem prd_X_function_60 : decode prb_X_function 60 = .ok (.bipush 44, 2) := by decide +kernel
theorem prd_X_function_62 : decode prb_X_function 62 = .ok (.if_icmp .ne 21, 3) := by decide +kernel
theorem prd_X_function_65 : decode prb_X_function 65 = .ok (.aload_n 0, 1) := by decide +kernel
theorem prd_X_function_66 : decode prb_X_function 66 = .ok (.bipush 44, 2) := by decide +kernel
theorem prd_X_function_68 : decode prb_X_function 68 = .ok (.invokevirtual 232, 3) := by decide +kernel
theorem prd_X_function_71 : decode prb_X_function 71 = .ok (.aload_n 0, 1) := by decide +kernel
theorem prd_X_function_72 : decode prb_X_function 72 = .ok (.iload_n 1, 1) := by decide +kernel
theorem prd_X_function_73 : decode prb_X_function 73 = .ok (.aload_n 0, 1) := by decide +kernel
theorem prd_X_function_74 : decode prb_X_function 74 = .ok (.invokevirtual 253, 3) := by decide +kernel
theorem prd_X_function_77 : decode prb_X_function 77 = .ok (.invokevirtual 242, 3) := by decide +kernel
theorem prd_X_function_80 : decode prb_X_function 80 = .ok (.goto (-24), 3) := by decide +kernel
theorem prd_X_function_83 : decode prb_X_function 83 = .ok (.aload_n 0, 1) := by decide +kernel
theorem prd_X_function_84 : decode prb_X_function 84 = .ok (.bipush 41, 2) := by decide +kernel
theorem prd_X_function_86 : decode prb_X_function 86 = .ok (.invokevirtual 232, 3) := by decide +kernel
theorem prd_X_function_89 : decode prb_X_function 89 = .ok (.aload_n 0, 1) := by decide +kernel
theorem prd_X_function_90 : decode prb_X_function 90 = .ok (.iload_n 1, 1) := by decide +kernel
theorem prd_X_function_91 : decode prb_X_function 91 = .ok (.aload_n 0, 1) := by decide +kernel
theorem prd_X_function_92 : decode prb_X_function 92 = .ok (.getfield 211, 3) := by decide +kernel
theorem prd_X_function_95 : decode prb_X_function 95 = .ok (.ifCond .eq 7, 3) := by decide +kernel
theorem prd_X_function_102 : decode prb_X_function 102 = .ok (.aload_n 0, 1) := by decide +kernel
theorem prd_X_function_103 : decode prb_X_function 103 = .ok (.iconst 1, 1) := by decide +kernel
theorem prd_X_function_104 : decode prb_X_function 104 = .ok (.invokevirtual 274, 3) := by decide +kernel
theorem prd_X_function_107 : decode prb_X_function 107 = .ok (.invokevirtual 242, 3) := by decide +kernel
theorem prd_X_function_110 : decode prb_X_function 110 = .ok (.iload_n 1, 1) := by decide +kernel
theorem prd_X_function_111 : decode prb_X_function 111 = .ok (.ireturn, 1) := by decide +kernel
theorem prd_X_function_98 : decode prb_X_function 98 = .ok (.iconst (-1), 1) := by decide +kernel
theorem prd_X_function_99 : decode prb_X_function 99 = .ok (.goto 8, 3) := by decide +kernel
theorem prd_X_nameOf_0 : decode prb_X_nameOf 0 = .ok (.iconst 0, 1) := by decide +kernel
theorem prd_X_nameOf_1 : decode prb_X_nameOf 1 = .ok (.istore_n 2, 1) := by decide +kernel
theorem prd_X_nameOf_2 : decode prb_X_nameOf 2 = .ok (.iload_n 2, 1) := by decide +kernel
theorem prd_X_nameOf_3 : decode prb_X_nameOf 3 = .ok (.aload_n 0, 1) := by decide +kernel
theorem prd_X_nameOf_4 : decode prb_X_nameOf 4 = .ok (.getfield 279, 3) := by decide +kernel
theorem prd_X_nameOf_7 : decode prb_X_nameOf 7 = .ok (.if_icmp .ge 106, 3) := by decide +kernel
theorem prd_X_nameOf_113 : decode prb_X_nameOf 113 = .ok (.iconst 0, 1) := by decide +kernel
theorem prd_X_nameOf_114 : decode prb_X_nameOf 114 = .ok (.istore_n 2, 1) := by decide +kernel
theorem prd_X_nameOf_10 : decode prb_X_nameOf 10 = .ok (.aload_n 0, 1) := by decide +kernel
theorem prd_X_nameOf_11 : decode prb_X_nameOf 11 = .ok (.getfield 65, 3) := by decide +kernel
theorem prd_X_nameOf_14 : decode prb_X_nameOf 14 = .ok (.iload_n 2, 1) := by decide +kernel
theorem prd_X_nameOf_15 : decode prb_X_nameOf 15 = .ok (.iconst 1, 1) := by decide +kernel
theorem prd_X_nameOf_16 : decode prb_X_nameOf 16 = .ok (.iadd, 1) := by decide +kernel
theorem prd_X_nameOf_17 : decode prb_X_nameOf 17 = .ok (.iaload, 1) := by decide +kernel
theorem prd_X_nameOf_18 : decode prb_X_nameOf 18 = .ok (.aload_n 0, 1) := by decide +kernel
theorem prd_X_nameOf_19 : decode prb_X_nameOf 19 = .ok (.getfield 65, 3) := by decide +kernel
theorem prd_X_nameOf_22 : decode prb_X_nameOf 22 = .ok (.iload_n 2, 1) := by decide +kernel
theorem prd_X_nameOf_23 : decode prb_X_nameOf 23 = .ok (.iaload, 1) := by decide +kernel
theorem prd_X_nameOf_24 : decode prb_X_nameOf 24 = .ok (.isub, 1) := by decide +kernel
theorem prd_X_nameOf_25 : decode prb_X_nameOf 25 = .ok (.aload_n 0, 1) := by decide +kernel
theorem prd_X_nameOf_26 : decode prb_X_nameOf 26 = .ok (.getfield 19, 3) := by decide +kernel
theorem prd_X_nameOf_29 : decode prb_X_nameOf 29 = .ok (.iload_n 1, 1) := by decide +kernel
theorem prd_X_nameOf_30 : decode prb_X_nameOf 30 = .ok (.iaload, 1) := by decide +kernel
theorem prd_X_nameOf_31 : decode prb_X_nameOf 31 = .ok (.if_icmp .ne 7, 3) := by decide +kernel
theorem prd_X_nameOf_38 : decode prb_X_nameOf 38 = .ok (.iconst 0, 1) := by decide +kernel
theorem prd_X_nameOf_39 : decode prb_X_nameOf 39 = .ok (.istore_n 3, 1) := by decide +kernel
theorem prd_X_nameOf_40 : decode prb_X_nameOf 40 = .ok (.iconst 0, 1) := by decide +kernel
theorem prd_X_nameOf_41 : decode prb_X_nameOf 41 = .ok (.istore 4, 2) := by decide +kernel
theorem prd_X_nameOf_34 : decode prb_X_nameOf 34 = .ok (.iconst 1, 1) := by decide +kernel
theorem prd_X_nameOf_35 : decode prb_X_nameOf 35 = .ok (.goto 4, 3) := by decide +kernel
theorem prd_X_nameOf_43 : decode prb_X_nameOf 43 = .ok (.iload 4, 2) := by decide +kernel
theorem prd_X_nameOf_45 : decode prb_X_nameOf 45 = .ok (.aload_n 0, 1) := by decide +kernel
theorem prd_X_nameOf_46 : decode prb_X_nameOf 46 = .ok (.getfield 19, 3) := by decide +kernel
theorem prd_X_nameOf_49 : decode prb_X_nameOf 49 = .ok (.iload_n 1, 1) := by decide +kernel
theorem prd_X_nameOf_50 : decode prb_X_nameOf 50 = .ok (.iaload, 1) := by decide +kernel
theorem prd_X_nameOf_51 : decode prb_X_nameOf 51 = .ok (.if_icmp .ge 50, 3) := by decide +kernel
theorem prd_X_nameOf_101 : decode prb_X_nameOf 101 = .ok (.iload_n 3, 1) := by decide +kernel
theorem prd_X_nameOf_102 : decode prb_X_nameOf 102 = .ok (.ifCond .eq 5, 3) := by decide +kernel
theorem prd_X_nameOf_107 : decode prb_X_nameOf 107 = .ok (.iinc 2 1, 3) := by decide +kernel
theorem prd_X_nameOf_110 : decode prb_X_nameOf 110 = .ok (.goto (-108), 3) := by decide +kernel
theorem prd_X_nameOf_105 : decode prb_X_nameOf 105 = .ok (.iload_n 2, 1) := by decide +kernel
theorem prd_X_nameOf_106 : decode prb_X_nameOf 106 = .ok (.ireturn, 1) := by decide +kernel
theorem prd_X_nameOf_54 : decode prb_X_nameOf 54 = .ok (.iload_n 3, 1) := by decide +kernel
theorem prd_X_nameOf_55 : decode prb_X_nameOf 55 = .ok (.ifCond .eq 46, 3) := by decide +kernel
theorem prd_X_nameOf_58 : decode prb_X_nameOf 58 = .ok (.aload_n 0, 1) := by decide +kernel
theorem prd_X_nameOf_59 : decode prb_X_nameOf 59 = .ok (.getfield 62, 3) := by decide +kernel
theorem prd_X_nameOf_62 : decode prb_X_nameOf 62 = .ok (.aload_n 0, 1) := by decide +kernel
theorem prd_X_nameOf_63 : decode prb_X_nameOf 63 = .ok (.getfield 65, 3) := by decide +kernel
theorem prd_X_nameOf_66 : decode prb_X_nameOf 66 = .ok (.iload_n 2, 1) := by decide +kernel
theorem prd_X_nameOf_67 : decode prb_X_nameOf 67 = .ok (.iaload, 1) := by decide +kernel
theorem prd_X_nameOf_68 : decode prb_X_nameOf 68 = .ok (.iload 4, 2) := by decide +kernel
theorem prd_X_nameOf_70 : decode prb_X_nameOf 70 = .ok (.iadd, 1) := by decide +kernel
theorem prd_X_nameOf_71 : decode prb_X_nameOf 71 = .ok (.iaload, 1) := by decide +kernel
theorem prd_X_nameOf_72 : decode prb_X_nameOf 72 = .ok (.aload_n 0, 1) := by decide +kernel
theorem prd_X_nameOf_73 : decode prb_X_nameOf 73 = .ok (.getfield 9, 3) := by decide +kernel
theorem prd_X_nameOf_76 : decode prb_X_nameOf 76 = .ok (.aload_n 0, 1) := by decide +kernel
theorem prd_X_nameOf_77 : decode prb_X_nameOf 77 = .ok (.getfield 16, 3) := by decide +kernel
theorem prd_X_nameOf_80 : decode prb_X_nameOf 80 = .ok (.iload_n 1, 1) := by decide +kernel
theorem prd_X_nameOf_81 : decode prb_X_nameOf 81 = .ok (.iaload, 1) := by decide +kernel
theorem prd_X_nameOf_82 : decode prb_X_nameOf 82 = .ok (.iload 4, 2) := by decide +kernel
theorem prd_X_nameOf_84 : decode prb_X_nameOf 84 = .ok (.iadd, 1) := by decide +kernel
theorem prd_X_nameOf_85 : decode prb_X_nameOf 85 = .ok (.iaload, 1) := by decide +kernel
theorem prd_X_nameOf_86 : decode prb_X_nameOf 86 = .ok (.if_icmp .ne 7, 3) := by decide +kernel
theorem prd_X_nameOf_93 : decode prb_X_nameOf 93 = .ok (.iconst 0, 1) := by decide +kernel
theorem prd_X_nameOf_94 : decode prb_X_nameOf 94 = .ok (.istore_n 3, 1) := by decide +kernel
theorem prd_X_nameOf_95 : decode prb_X_nameOf 95 = .ok (.iinc 4 1, 3) := by decide +kernel
theorem prd_X_nameOf_98 : decode prb_X_nameOf 98 = .ok (.goto (-55), 3) := by decide +kernel
theorem prd_X_nameOf_89 : decode prb_X_nameOf 89 = .ok (.iconst 1, 1) := by decide +kernel
theorem prd_X_nameOf_90 : decode prb_X_nameOf 90 = .ok (.goto 4, 3) := by decide +kernel
theorem prd_X_nameOf_115 : decode prb_X_nameOf 115 = .ok (.iload_n 2, 1) := by decide +kernel
theorem prd_X_nameOf_116 : decode prb_X_nameOf 116 = .ok (.aload_n 0, 1) := by decide +kernel
theorem prd_X_nameOf_117 : decode prb_X_nameOf 117 = .ok (.getfield 19, 3) := by decide +kernel
theorem prd_X_nameOf_120 : decode prb_X_nameOf 120 = .ok (.iload_n 1, 1) := by decide +kernel
theorem prd_X_nameOf_121 : decode prb_X_nameOf 121 = .ok (.iaload, 1) := by decide +kernel
theorem prd_X_nameOf_122 : decode prb_X_nameOf 122 = .ok (.if_icmp .ge 38, 3) := by decide +kernel
theorem prd_X_nameOf_160 : decode prb_X_nameOf 160 = .ok (.aload_n 0, 1) := by decide +kernel
theorem prd_X_nameOf_161 : decode prb_X_nameOf 161 = .ok (.dup, 1) := by decide +kernel
theorem prd_X_nameOf_162 : decode prb_X_nameOf 162 = .ok (.getfield 279, 3) := by decide +kernel
theorem prd_X_nameOf_165 : decode prb_X_nameOf 165 = .ok (.iconst 1, 1) := by decide +kernel
theorem prd_X_nameOf_166 : decode prb_X_nameOf 166 = .ok (.iadd, 1) := by decide +kernel
theorem prd_X_nameOf_167 : decode prb_X_nameOf 167 = .ok (.putfield 279, 3) := by decide +kernel
theorem prd_X_nameOf_170 : decode prb_X_nameOf 170 = .ok (.aload_n 0, 1) := by decide +kernel
theorem prd_X_nameOf_171 : decode prb_X_nameOf 171 = .ok (.getfield 65, 3) := by decide +kernel
theorem prd_X_nameOf_174 : decode prb_X_nameOf 174 = .ok (.aload_n 0, 1) := by decide +kernel
theorem prd_X_nameOf_175 : decode prb_X_nameOf 175 = .ok (.getfield 279, 3) := by decide +kernel
theorem prd_X_nameOf_178 : decode prb_X_nameOf 178 = .ok (.aload_n 0, 1) := by decide +kernel
theorem prd_X_nameOf_179 : decode prb_X_nameOf 179 = .ok (.getfield 65, 3) := by decide +kernel
theorem prd_X_nameOf_182 : decode prb_X_nameOf 182 = .ok (.aload_n 0, 1) := by decide +kernel
theorem prd_X_nameOf_183 : decode prb_X_nameOf 183 = .ok (.getfield 279, 3) := by decide +kernel
theorem prd_X_nameOf_186 : decode prb_X_nameOf 186 = .ok (.iconst 1, 1) := by decide +kernel
theorem prd_X_nameOf_187 : decode prb_X_nameOf 187 = .ok (.isub, 1) := by decide +kernel
theorem prd_X_nameOf_188 : decode prb_X_nameOf 188 = .ok (.iaload, 1) := by decide +kernel
theorem prd_X_nameOf_189 : decode prb_X_nameOf 189 = .ok (.aload_n 0, 1) := by decide +kernel
theorem prd_X_nameOf_190 : decode prb_X_nameOf 190 = .ok (.getfield 19, 3) := by decide +kernel
theorem prd_X_nameOf_193 : decode prb_X_nameOf 193 = .ok (.iload_n 1, 1) := by decide +kernel
theorem prd_X_nameOf_194 : decode prb_X_nameOf 194 = .ok (.iaload, 1) := by decide +kernel
theorem prd_X_nameOf_195 : decode prb_X_nameOf 195 = .ok (.iadd, 1) := by decide +kernel
theorem prd_X_nameOf_196 : decode prb_X_nameOf 196 = .ok (.iastore, 1) := by decide +kernel
theorem prd_X_nameOf_197 : decode prb_X_nameOf 197 = .ok (.aload_n 0, 1) := by decide +kernel
theorem prd_X_nameOf_198 : decode prb_X_nameOf 198 = .ok (.getfield 279, 3) := by decide +kernel
theorem prd_X_nameOf_201 : decode prb_X_nameOf 201 = .ok (.iconst 1, 1) := by decide +kernel
theorem prd_X_nameOf_202 : decode prb_X_nameOf 202 = .ok (.isub, 1) := by decide +kernel
theorem prd_X_nameOf_203 : decode prb_X_nameOf 203 = .ok (.ireturn, 1) := by decide +kernel
theorem prd_X_nameOf_125 : decode prb_X_nameOf 125 = .ok (.aload_n 0, 1) := by decide +kernel
theorem prd_X_nameOf_126 : decode prb_X_nameOf 126 = .ok (.getfield 62, 3) := by decide +kernel
theorem prd_X_nameOf_129 : decode prb_X_nameOf 129 = .ok (.aload_n 0, 1) := by decide +kernel
theorem prd_X_nameOf_130 : decode prb_X_nameOf 130 = .ok (.getfield 65, 3) := by decide +kernel
theorem prd_X_nameOf_133 : decode prb_X_nameOf 133 = .ok (.aload_n 0, 1) := by decide +kernel
theorem prd_X_nameOf_134 : decode prb_X_nameOf 134 = .ok (.getfield 279, 3) := by decide +kernel
theorem prd_X_nameOf_137 : decode prb_X_nameOf 137 = .ok (.iaload, 1) := by decide +kernel
theorem prd_X_nameOf_138 : decode prb_X_nameOf 138 = .ok (.iload_n 2, 1) := by decide +kernel
theorem prd_X_nameOf_139 : decode prb_X_nameOf 139 = .ok (.iadd, 1) := by decide +kernel
theorem prd_X_nameOf_140 : decode prb_X_nameOf 140 = .ok (.aload_n 0, 1) := by decide +kernel
theorem prd_X_nameOf_141 : decode prb_X_nameOf 141 = .ok (.getfield 9, 3) := by decide +kernel
theorem prd_X_nameOf_144 : decode prb_X_nameOf 144 = .ok (.aload_n 0, 1) := by decide +kernel
theorem prd_X_nameOf_145 : decode prb_X_nameOf 145 = .ok (.getfield 16, 3) := by decide +kernel
theorem prd_X_nameOf_148 : decode prb_X_nameOf 148 = .ok (.iload_n 1, 1) := by decide +kernel
theorem prd_X_nameOf_149 : decode prb_X_nameOf 149 = .ok (.iaload, 1) := by decide +kernel
theorem prd_X_nameOf_150 : decode prb_X_nameOf 150 = .ok (.iload_n 2, 1) := by decide +kernel
theorem prd_X_nameOf_151 : decode prb_X_nameOf 151 = .ok (.iadd, 1) := by decide +kernel
theorem prd_X_nameOf_152 : decode prb_X_nameOf 152 = .ok (.iaload, 1) := by decide +kernel
theorem prd_X_nameOf_153 : decode prb_X_nameOf 153 = .ok (.iastore, 1) := by decide +kernel
theorem prd_X_nameOf_154 : decode prb_X_nameOf 154 = .ok (.iinc 2 1, 3) := by decide +kernel
theorem prd_X_nameOf_157 : decode prb_X_nameOf 157 = .ok (.goto (-42), 3) := by decide +kernel
theorem prd_X_keep_0 : decode prb_X_keep 0 = .ok (.iconst 0, 1) := by decide +kernel
theorem prd_X_keep_1 : decode prb_X_keep 1 = .ok (.istore_n 2, 1) := by decide +kernel
theorem prd_X_keep_2 : decode prb_X_keep 2 = .ok (.iload_n 1, 1) := by decide +kernel
theorem prd_X_keep_3 : decode prb_X_keep 3 = .ok (.istore_n 3, 1) := by decide +kernel
theorem prd_X_keep_4 : decode prb_X_keep 4 = .ok (.iconst 0, 1) := by decide +kernel
theorem prd_X_keep_5 : decode prb_X_keep 5 = .ok (.istore 4, 2) := by decide +kernel
theorem prd_X_keep_7 : decode prb_X_keep 7 = .ok (.iload_n 3, 1) := by decide +kernel
theorem prd_X_keep_8 : decode prb_X_keep 8 = .ok (.iconst (-1), 1) := by decide +kernel
theorem prd_X_keep_9 : decode prb_X_keep 9 = .ok (.if_icmp .eq 149, 3) := by decide +kernel
theorem prd_X_keep_158 : decode prb_X_keep 158 = .ok (.return_, 1) := by decide +kernel
theorem prd_X_keep_12 : decode prb_X_keep 12 = .ok (.aload_n 0, 1) := by decide +kernel
theorem prd_X_keep_13 : decode prb_X_keep 13 = .ok (.aload_n 0, 1) := by decide +kernel
theorem prd_X_keep_14 : decode prb_X_keep 14 = .ok (.getfield 26, 3) := by decide +kernel
theorem prd_X_keep_17 : decode prb_X_keep 17 = .ok (.iload_n 3, 1) := by decide +kernel
theorem prd_X_keep_18 : decode prb_X_keep 18 = .ok (.iaload, 1) := by decide +kernel
theorem prd_X_keep_19 : decode prb_X_keep 19 = .ok (.aload_n 0, 1) := by decide +kernel
theorem prd_X_keep_20 : decode prb_X_keep 20 = .ok (.getfield 29, 3) := by decide +kernel
theorem prd_X_keep_23 : decode prb_X_keep 23 = .ok (.iload_n 3, 1) := by decide +kernel
theorem prd_X_keep_24 : decode prb_X_keep 24 = .ok (.iaload, 1) := by decide +kernel
theorem prd_X_keep_25 : decode prb_X_keep 25 = .ok (.aload_n 0, 1) := by decide +kernel
theorem prd_X_keep_26 : decode prb_X_keep 26 = .ok (.getfield 26, 3) := by decide +kernel
theorem prd_X_keep_29 : decode prb_X_keep 29 = .ok (.iload_n 3, 1) := by decide +kernel
theorem prd_X_keep_30 : decode prb_X_keep 30 = .ok (.iaload, 1) := by decide +kernel
theorem prd_X_keep_31 : decode prb_X_keep 31 = .ok (.bipush 13, 2) := by decide +kernel
theorem prd_X_keep_33 : decode prb_X_keep 33 = .ok (.if_icmp .ne 16, 3) := by decide +kernel
theorem prd_X_keep_49 : decode prb_X_keep 49 = .ok (.aload_n 0, 1) := by decide +kernel
theorem prd_X_keep_50 : decode prb_X_keep 50 = .ok (.getfield 32, 3) := by decide +kernel
theorem prd_X_keep_53 : decode prb_X_keep 53 = .ok (.iload_n 3, 1) := by decide +kernel
theorem prd_X_keep_54 : decode prb_X_keep 54 = .ok (.iaload, 1) := by decide +kernel
theorem prd_X_keep_55 : decode prb_X_keep 55 = .ok (.iload 4, 2) := by decide +kernel
theorem prd_X_keep_57 : decode prb_X_keep 57 = .ok (.invokevirtual 285, 3) := by decide +kernel
theorem prd_X_keep_60 : decode prb_X_keep 60 = .ok (.istore 5, 2) := by decide +kernel
theorem prd_X_keep_62 : decode prb_X_keep 62 = .ok (.aload_n 0, 1) := by decide +kernel
theorem prd_X_keep_63 : decode prb_X_keep 63 = .ok (.getfield 41, 3) := by decide +kernel
theorem prd_X_keep_66 : decode prb_X_keep 66 = .ok (.iload_n 3, 1) := by decide +kernel
theorem prd_X_keep_67 : decode prb_X_keep 67 = .ok (.iaload, 1) := by decide +kernel
theorem prd_X_keep_68 : decode prb_X_keep 68 = .ok (.iconst (-1), 1) := by decide +kernel
theorem prd_X_keep_69 : decode prb_X_keep 69 = .ok (.if_icmp .eq 33, 3) := by decide +kernel
theorem prd_X_keep_72 : decode prb_X_keep 72 = .ok (.iload_n 3, 1) := by decide +kernel
theorem prd_X_keep_73 : decode prb_X_keep 73 = .ok (.iload_n 1, 1) := by decide +kernel
theorem prd_X_keep_74 : decode prb_X_keep 74 = .ok (.if_icmp .eq 28, 3) := by decide +kernel
theorem prd_X_keep_77 : decode prb_X_keep 77 = .ok (.aload_n 0, 1) := by decide +kernel
theorem prd_X_keep_78 : decode prb_X_keep 78 = .ok (.getfield 44, 3) := by decide +kernel
theorem prd_X_keep_81 : decode prb_X_keep 81 = .ok (.iload_n 2, 1) := by decide +kernel
theorem prd_X_keep_82 : decode prb_X_keep 82 = .ok (.aload_n 0, 1) := by decide +kernel
theorem prd_X_keep_83 : decode prb_X_keep 83 = .ok (.getfield 41, 3) := by decide +kernel
theorem prd_X_keep_86 : decode prb_X_keep 86 = .ok (.iload_n 3, 1) := by decide +kernel
theorem prd_X_keep_87 : decode prb_X_keep 87 = .ok (.iaload, 1) := by decide +kernel
theorem prd_X_keep_88 : decode prb_X_keep 88 = .ok (.iastore, 1) := by decide +kernel
theorem prd_X_keep_89 : decode prb_X_keep 89 = .ok (.aload_n 0, 1) := by decide +kernel
theorem prd_X_keep_90 : decode prb_X_keep 90 = .ok (.getfield 44, 3) := by decide +kernel
theorem prd_X_keep_93 : decode prb_X_keep 93 = .ok (.iload_n 2, 1) := by decide +kernel
theorem prd_X_keep_94 : decode prb_X_keep 94 = .ok (.iconst 1, 1) := by decide +kernel
theorem prd_X_keep_95 : decode prb_X_keep 95 = .ok (.iadd, 1) := by decide +kernel
theorem prd_X_keep_96 : decode prb_X_keep 96 = .ok (.iload 4, 2) := by decide +kernel
theorem prd_X_keep_98 : decode prb_X_keep 98 = .ok (.iastore, 1) := by decide +kernel
theorem prd_X_keep_99 : decode prb_X_keep 99 = .ok (.iinc 2 2, 3) := by decide +kernel
theorem prd_X_keep_36 : decode prb_X_keep 36 = .ok (.aload_n 0, 1) := by decide +kernel
theorem prd_X_keep_37 : decode prb_X_keep 37 = .ok (.aload_n 0, 1) := by decide +kernel
theorem prd_X_keep_38 : decode prb_X_keep 38 = .ok (.getfield 32, 3) := by decide +kernel
theorem prd_X_keep_41 : decode prb_X_keep 41 = .ok (.iload_n 3, 1) := by decide +kernel
theorem prd_X_keep_42 : decode prb_X_keep 42 = .ok (.iaload, 1) := by decide +kernel
theorem prd_X_keep_43 : decode prb_X_keep 43 = .ok (.invokevirtual 282, 3) := by decide +kernel
theorem prd_X_keep_46 : decode prb_X_keep 46 = .ok (.goto 9, 3) := by decide +kernel
theorem prd_X_keep_102 : decode prb_X_keep 102 = .ok (.aload_n 0, 1) := by decide +kernel
theorem prd_X_keep_103 : decode prb_X_keep 103 = .ok (.getfield 35, 3) := by decide +kernel
theorem prd_X_keep_106 : decode prb_X_keep 106 = .ok (.iload_n 3, 1) := by decide +kernel
theorem prd_X_keep_107 : decode prb_X_keep 107 = .ok (.iaload, 1) := by decide +kernel
theorem prd_X_keep_108 : decode prb_X_keep 108 = .ok (.iconst (-1), 1) := by decide +kernel
theorem prd_X_keep_109 : decode prb_X_keep 109 = .ok (.if_icmp .eq 17, 3) := by decide +kernel
theorem prd_X_keep_126 : decode prb_X_keep 126 = .ok (.iload_n 2, 1) := by decide +kernel
theorem prd_X_keep_127 : decode prb_X_keep 127 = .ok (.ifCond .le 26, 3) := by decide +kernel
theorem prd_X_keep_153 : decode prb_X_keep 153 = .ok (.iconst (-1), 1) := by decide +kernel
theorem prd_X_keep_154 : decode prb_X_keep 154 = .ok (.istore_n 3, 1) := by decide +kernel
theorem prd_X_keep_155 : decode prb_X_keep 155 = .ok (.goto (-148), 3) := by decide +kernel
theorem prd_X_keep_130 : decode prb_X_keep 130 = .ok (.iinc 2 (-2), 3) := by decide +kernel
theorem prd_X_keep_133 : decode prb_X_keep 133 = .ok (.aload_n 0, 1) := by decide +kernel
theorem prd_X_keep_134 : decode prb_X_keep 134 = .ok (.getfield 44, 3) := by decide +kernel
theorem prd_X_keep_137 : decode prb_X_keep 137 = .ok (.iload_n 2, 1) := by decide +kernel
theorem prd_X_keep_138 : decode prb_X_keep 138 = .ok (.iaload, 1) := by decide +kernel
theorem prd_X_keep_139 : decode prb_X_keep 139 = .ok (.istore_n 3, 1) := by decide +kernel
theorem prd_X_keep_140 : decode prb_X_keep 140 = .ok (.aload_n 0, 1) := by decide +kernel
theorem prd_X_keep_141 : decode prb_X_keep 141 = .ok (.getfield 44, 3) := by decide +kernel
theorem prd_X_keep_144 : decode prb_X_keep 144 = .ok (.iload_n 2, 1) := by decide +kernel
theorem prd_X_keep_145 : decode prb_X_keep 145 = .ok (.iconst 1, 1) := by decide +kernel
theorem prd_X_keep_146 : decode prb_X_keep 146 = .ok (.iadd, 1) := by decide +kernel
theorem prd_X_keep_147 : decode prb_X_keep 147 = .ok (.iaload, 1) := by decide +kernel
theorem prd_X_keep_148 : decode prb_X_keep 148 = .ok (.istore 4, 2) := by decide +kernel
theorem prd_X_keep_150 : decode prb_X_keep 150 = .ok (.goto 5, 3) := by decide +kernel
theorem prd_X_keep_112 : decode prb_X_keep 112 = .ok (.aload_n 0, 1) := by decide +kernel
theorem prd_X_keep_113 : decode prb_X_keep 113 = .ok (.getfield 35, 3) := by decide +kernel
theorem prd_X_keep_116 : decode prb_X_keep 116 = .ok (.iload_n 3, 1) := by decide +kernel
theorem prd_X_keep_117 : decode prb_X_keep 117 = .ok (.iaload, 1) := by decide +kernel
theorem prd_X_keep_118 : decode prb_X_keep 118 = .ok (.istore_n 3, 1) := by decide +kernel
theorem prd_X_keep_119 : decode prb_X_keep 119 = .ok (.iload 5, 2) := by decide +kernel
theorem prd_X_keep_121 : decode prb_X_keep 121 = .ok (.istore 4, 2) := by decide +kernel
theorem prd_X_keep_123 : decode prb_X_keep 123 = .ok (.goto 32, 3) := by decide +kernel
theorem prd_X_behind_0 : decode prb_X_behind 0 = .ok (.iload_n 1, 1) := by decide +kernel
theorem prd_X_behind_1 : decode prb_X_behind 1 = .ok (.aload_n 0, 1) := by decide +kernel
theorem prd_X_behind_2 : decode prb_X_behind 2 = .ok (.getfield 59, 3) := by decide +kernel
theorem prd_X_behind_5 : decode prb_X_behind 5 = .ok (.iload_n 1, 1) := by decide +kernel
theorem prd_X_behind_6 : decode prb_X_behind 6 = .ok (.iaload, 1) := by decide +kernel
theorem prd_X_behind_7 : decode prb_X_behind 7 = .ok (.iadd, 1) := by decide +kernel
theorem prd_X_behind_8 : decode prb_X_behind 8 = .ok (.ireturn, 1) := by decide +kernel
theorem prd_X_wrong_0 : decode prb_X_wrong 0 = .ok (.aload_n 0, 1) := by decide +kernel
theorem prd_X_wrong_1 : decode prb_X_wrong 1 = .ok (.getfield 298, 3) := by decide +kernel
theorem prd_X_wrong_4 : decode prb_X_wrong 4 = .ok (.ifCond .ne 18, 3) := by decide +kernel
theorem prd_X_wrong_22 : decode prb_X_wrong 22 = .ok (.iconst 0, 1) := by decide +kernel
theorem prd_X_wrong_23 : decode prb_X_wrong 23 = .ok (.ireturn, 1) := by decide +kernel
theorem prd_X_wrong_7 : decode prb_X_wrong 7 = .ok (.aload_n 0, 1) := by decide +kernel
theorem prd_X_wrong_8 : decode prb_X_wrong 8 = .ok (.iload_n 1, 1) := by decide +kernel
theorem prd_X_wrong_9 : decode prb_X_wrong 9 = .ok (.putfield 298, 3) := by decide +kernel
theorem prd_X_wrong_12 : decode prb_X_wrong 12 = .ok (.aload_n 0, 1) := by decide +kernel
theorem prd_X_wrong_13 : decode prb_X_wrong 13 = .ok (.aload_n 0, 1) := by decide +kernel
theorem prd_X_wrong_14 : decode prb_X_wrong 14 = .ok (.getfield 50, 3) := by decide +kernel
theorem prd_X_wrong_17 : decode prb_X_wrong 17 = .ok (.iload_n 2, 1) := by decide +kernel
theorem prd_X_wrong_18 : decode prb_X_wrong 18 = .ok (.iaload, 1) := by decide +kernel
theorem prd_X_wrong_19 : decode prb_X_wrong 19 = .ok (.putfield 301, 3) := by decide +kernel
theorem prd_X_blockOf_0 : decode prb_X_blockOf 0 = .ok (.iload_n 1, 1) := by decide +kernel
theorem prd_X_blockOf_1 : decode prb_X_blockOf 1 = .ok (.iconst 1, 1) := by decide +kernel
theorem prd_X_blockOf_2 : decode prb_X_blockOf 2 = .ok (.iadd, 1) := by decide +kernel
theorem prd_X_blockOf_3 : decode prb_X_blockOf 3 = .ok (.istore_n 2, 1) := by decide +kernel
theorem prd_X_blockOf_4 : decode prb_X_blockOf 4 = .ok (.aload_n 0, 1) := by decide +kernel
theorem prd_X_blockOf_5 : decode prb_X_blockOf 5 = .ok (.getfield 47, 3) := by decide +kernel
theorem prd_X_blockOf_8 : decode prb_X_blockOf 8 = .ok (.iload_n 2, 1) := by decide +kernel
theorem prd_X_blockOf_9 : decode prb_X_blockOf 9 = .ok (.iaload, 1) := by decide +kernel
theorem prd_X_blockOf_10 : decode prb_X_blockOf 10 = .ok (.bipush 13, 2) := by decide +kernel
theorem prd_X_blockOf_12 : decode prb_X_blockOf 12 = .ok (.if_icmp .ne 9, 3) := by decide +kernel
theorem prd_X_blockOf_21 : decode prb_X_blockOf 21 = .ok (.iload_n 2, 1) := by decide +kernel
theorem prd_X_blockOf_22 : decode prb_X_blockOf 22 = .ok (.ireturn, 1) := by decide +kernel
theorem prd_X_blockOf_15 : decode prb_X_blockOf 15 = .ok (.iinc 2 1, 3) := by decide +kernel
theorem prd_X_blockOf_18 : decode prb_X_blockOf 18 = .ok (.goto (-14), 3) := by decide +kernel
theorem prd_X_isNew_0 : decode prb_X_isNew 0 = .ok (.aload_n 0, 1) := by decide +kernel
theorem prd_X_isNew_1 : decode prb_X_isNew 1 = .ok (.getfield 319, 3) := by decide +kernel
theorem prd_X_isNew_4 : decode prb_X_isNew 4 = .ok (.istore_n 3, 1) := by decide +kernel
theorem prd_X_isNew_5 : decode prb_X_isNew 5 = .ok (.iload_n 3, 1) := by decide +kernel
theorem prd_X_isNew_6 : decode prb_X_isNew 6 = .ok (.aload_n 0, 1) := by decide +kernel
theorem prd_X_isNew_7 : decode prb_X_isNew 7 = .ok (.getfield 316, 3) := by decide +kernel
theorem prd_X_isNew_10 : decode prb_X_isNew 10 = .ok (.if_icmp .ge 41, 3) := by decide +kernel
theorem prd_X_isNew_51 : decode prb_X_isNew 51 = .ok (.iconst 1, 1) := by decide +kernel
theorem prd_X_isNew_52 : decode prb_X_isNew 52 = .ok (.ireturn, 1) := by decide +kernel
theorem prd_X_isNew_13 : decode prb_X_isNew 13 = .ok (.aload_n 0, 1) := by decide +kernel
theorem prd_X_isNew_14 : decode prb_X_isNew 14 = .ok (.getfield 104, 3) := by decide +kernel
theorem prd_X_isNew_17 : decode prb_X_isNew 17 = .ok (.iload_n 3, 1) := by decide +kernel
theorem prd_X_isNew_18 : decode prb_X_isNew 18 = .ok (.iaload, 1) := by decide +kernel
theorem prd_X_isNew_19 : decode prb_X_isNew 19 = .ok (.iload_n 2, 1) := by decide +kernel
theorem prd_X_isNew_20 : decode prb_X_isNew 20 = .ok (.if_icmp .ne 25, 3) := by decide +kernel
theorem prd_X_isNew_45 : decode prb_X_isNew 45 = .ok (.iinc 3 1, 3) := by decide +kernel
theorem prd_X_isNew_48 : decode prb_X_isNew 48 = .ok (.goto (-43), 3) := by decide +kernel
theorem prd_X_isNew_23 : decode prb_X_isNew 23 = .ok (.aload_n 0, 1) := by decide +kernel
theorem prd_X_isNew_24 : decode prb_X_isNew 24 = .ok (.getfield 95, 3) := by decide +kernel
theorem prd_X_isNew_27 : decode prb_X_isNew 27 = .ok (.iload_n 3, 1) := by decide +kernel
theorem prd_X_isNew_28 : decode prb_X_isNew 28 = .ok (.iaload, 1) := by decide +kernel
theorem prd_X_isNew_29 : decode prb_X_isNew 29 = .ok (.aload_n 0, 1) := by decide +kernel
theorem prd_X_isNew_30 : decode prb_X_isNew 30 = .ok (.getfield 53, 3) := by decide +kernel
theorem prd_X_isNew_33 : decode prb_X_isNew 33 = .ok (.iload_n 1, 1) := by decide +kernel
theorem prd_X_isNew_34 : decode prb_X_isNew 34 = .ok (.iaload, 1) := by decide +kernel
theorem prd_X_isNew_35 : decode prb_X_isNew 35 = .ok (.if_icmp .ne 10, 3) := by decide +kernel
theorem prd_X_isNew_38 : decode prb_X_isNew 38 = .ok (.aload_n 0, 1) := by decide +kernel
theorem prd_X_isNew_39 : decode prb_X_isNew 39 = .ok (.iconst 2, 1) := by decide +kernel
theorem prd_X_isNew_40 : decode prb_X_isNew 40 = .ok (.iload_n 1, 1) := by decide +kernel
theorem prd_X_isNew_41 : decode prb_X_isNew 41 = .ok (.invokevirtual 325, 3) := by decide +kernel
theorem prd_X_isNew_44 : decode prb_X_isNew 44 = .ok (.ireturn, 1) := by decide +kernel
theorem prd_X_second_0 : decode prb_X_second 0 = .ok (.aload_n 0, 1) := by decide +kernel
theorem prd_X_second_1 : decode prb_X_second 1 = .ok (.iload_n 1, 1) := by decide +kernel
theorem prd_X_second_2 : decode prb_X_second 2 = .ok (.iconst 1, 1) := by decide +kernel
theorem prd_X_second_3 : decode prb_X_second 3 = .ok (.iadd, 1) := by decide +kernel
theorem prd_X_second_4 : decode prb_X_second 4 = .ok (.invokevirtual 307, 3) := by decide +kernel
theorem prd_X_second_7 : decode prb_X_second 7 = .ok (.ireturn, 1) := by decide +kernel
theorem prd_X_meantNow_0 : decode prb_X_meantNow 0 = .ok (.aload_n 0, 1) := by decide +kernel
theorem prd_X_meantNow_1 : decode prb_X_meantNow 1 = .ok (.getfield 316, 3) := by decide +kernel
theorem prd_X_meantNow_4 : decode prb_X_meantNow 4 = .ok (.iconst 1, 1) := by decide +kernel
theorem prd_X_meantNow_5 : decode prb_X_meantNow 5 = .ok (.isub, 1) := by decide +kernel
theorem prd_X_meantNow_6 : decode prb_X_meantNow 6 = .ok (.istore_n 2, 1) := by decide +kernel
theorem prd_X_meantNow_7 : decode prb_X_meantNow 7 = .ok (.iload_n 2, 1) := by decide +kernel
theorem prd_X_meantNow_8 : decode prb_X_meantNow 8 = .ok (.aload_n 0, 1) := by decide +kernel
theorem prd_X_meantNow_9 : decode prb_X_meantNow 9 = .ok (.getfield 319, 3) := by decide +kernel
theorem prd_X_meantNow_12 : decode prb_X_meantNow 12 = .ok (.if_icmp .lt 21, 3) := by decide +kernel
theorem prd_X_meantNow_33 : decode prb_X_meantNow 33 = .ok (.iconst (-1), 1) := by decide +kernel
theorem prd_X_meantNow_34 : decode prb_X_meantNow 34 = .ok (.ireturn, 1) := by decide +kernel
theorem prd_X_meantNow_15 : decode prb_X_meantNow 15 = .ok (.aload_n 0, 1) := by decide +kernel
theorem prd_X_meantNow_16 : decode prb_X_meantNow 16 = .ok (.getfield 95, 3) := by decide +kernel
theorem prd_X_meantNow_19 : decode prb_X_meantNow 19 = .ok (.iload_n 2, 1) := by decide +kernel
theorem prd_X_meantNow_20 : decode prb_X_meantNow 20 = .ok (.iaload, 1) := by decide +kernel
theorem prd_X_meantNow_21 : decode prb_X_meantNow 21 = .ok (.iload_n 1, 1) := by decide +kernel
theorem prd_X_meantNow_22 : decode prb_X_meantNow 22 = .ok (.if_icmp .ne 5, 3) := by decide +kernel
theorem prd_X_meantNow_27 : decode prb_X_meantNow 27 = .ok (.iinc 2 (-1), 3) := by decide +kernel
theorem prd_X_meantNow_30 : decode prb_X_meantNow 30 = .ok (.goto (-23), 3) := by decide +kernel
theorem prd_X_meantNow_25 : decode prb_X_meantNow 25 = .ok (.iload_n 2, 1) := by decide +kernel
theorem prd_X_meantNow_26 : decode prb_X_meantNow 26 = .ok (.ireturn, 1) := by decide +kernel
theorem prd_X_lookName_0 : decode prb_X_lookName 0 = .ok (.aload_n 0, 1) := by decide +kernel
theorem prd_X_lookName_1 : decode prb_X_lookName 1 = .ok (.aload_n 0, 1) := by decide +kernel
theorem prd_X_lookName_2 : decode prb_X_lookName 2 = .ok (.getfield 53, 3) := by decide +kernel
theorem prd_X_lookName_5 : decode prb_X_lookName 5 = .ok (.iload_n 1, 1) := by decide +kernel
theorem prd_X_lookName_6 : decode prb_X_lookName 6 = .ok (.iaload, 1) := by decide +kernel
theorem prd_X_lookName_7 : decode prb_X_lookName 7 = .ok (.invokevirtual 322, 3) := by decide +kernel
theorem prd_X_lookName_10 : decode prb_X_lookName 10 = .ok (.istore_n 3, 1) := by decide +kernel
theorem prd_X_lookName_11 : decode prb_X_lookName 11 = .ok (.iload_n 3, 1) := by decide +kernel
theorem prd_X_lookName_12 : decode prb_X_lookName 12 = .ok (.iconst (-1), 1) := by decide +kernel
theorem prd_X_lookName_13 : decode prb_X_lookName 13 = .ok (.if_icmp .ne 12, 3) := by decide +kernel
theorem prd_X_lookName_25 : decode prb_X_lookName 25 = .ok (.aload_n 0, 1) := by decide +kernel
theorem prd_X_lookName_26 : decode prb_X_lookName 26 = .ok (.getfield 101, 3) := by decide +kernel
theorem prd_X_lookName_29 : decode prb_X_lookName 29 = .ok (.iload_n 3, 1) := by decide +kernel
theorem prd_X_lookName_30 : decode prb_X_lookName 30 = .ok (.iaload, 1) := by decide +kernel
theorem prd_X_lookName_31 : decode prb_X_lookName 31 = .ok (.ifCond .le 7, 3) := by decide +kernel
theorem prd_X_lookName_38 : decode prb_X_lookName 38 = .ok (.iconst 0, 1) := by decide +kernel
theorem prd_X_lookName_39 : decode prb_X_lookName 39 = .ok (.iload_n 2, 1) := by decide +kernel
theorem prd_X_lookName_40 : decode prb_X_lookName 40 = .ok (.if_icmp .eq 12, 3) := by decide +kernel
theorem prd_X_lookName_52 : decode prb_X_lookName 52 = .ok (.iconst 1, 1) := by decide +kernel
theorem prd_X_lookName_53 : decode prb_X_lookName 53 = .ok (.goto 4, 3) := by decide +kernel
theorem prd_X_lookName_57 : decode prb_X_lookName 57 = .ok (.ireturn, 1) := by decide +kernel
theorem prd_X_lookName_43 : decode prb_X_lookName 43 = .ok (.aload_n 0, 1) := by decide +kernel
theorem prd_X_lookName_44 : decode prb_X_lookName 44 = .ok (.iconst 3, 1) := by decide +kernel
theorem prd_X_lookName_45 : decode prb_X_lookName 45 = .ok (.iload_n 1, 1) := by decide +kernel
theorem prd_X_lookName_46 : decode prb_X_lookName 46 = .ok (.invokevirtual 325, 3) := by decide +kernel
theorem prd_X_lookName_49 : decode prb_X_lookName 49 = .ok (.ifCond .eq 7, 3) := by decide +kernel
theorem prd_X_lookName_56 : decode prb_X_lookName 56 = .ok (.iconst 0, 1) := by decide +kernel
theorem prd_X_lookName_34 : decode prb_X_lookName 34 = .ok (.iconst 1, 1) := by decide +kernel
theorem prd_X_lookName_35 : decode prb_X_lookName 35 = .ok (.goto 4, 3) := by decide +kernel
theorem prd_X_lookName_16 : decode prb_X_lookName 16 = .ok (.aload_n 0, 1) := by decide +kernel
theorem prd_X_lookName_17 : decode prb_X_lookName 17 = .ok (.iconst 1, 1) := by decide +kernel
theorem prd_X_lookName_18 : decode prb_X_lookName 18 = .ok (.iload_n 1, 1) := by decide +kernel
theorem prd_X_lookName_19 : decode prb_X_lookName 19 = .ok (.invokevirtual 325, 3) := by decide +kernel
theorem prd_X_lookName_22 : decode prb_X_lookName 22 = .ok (.goto 35, 3) := by decide +kernel
theorem prd_X_lookAll_0 : decode prb_X_lookAll 0 = .ok (.iload_n 1, 1) := by decide +kernel
theorem prd_X_lookAll_1 : decode prb_X_lookAll 1 = .ok (.istore_n 2, 1) := by decide +kernel
theorem prd_X_lookAll_2 : decode prb_X_lookAll 2 = .ok (.iload_n 2, 1) := by decide +kernel
theorem prd_X_lookAll_3 : decode prb_X_lookAll 3 = .ok (.aload_n 0, 1) := by decide +kernel
theorem prd_X_lookAll_4 : decode prb_X_lookAll 4 = .ok (.iload_n 1, 1) := by decide +kernel
theorem prd_X_lookAll_5 : decode prb_X_lookAll 5 = .ok (.invokevirtual 307, 3) := by decide +kernel
theorem prd_X_lookAll_8 : decode prb_X_lookAll 8 = .ok (.if_icmp .ge 124, 3) := by decide +kernel
theorem prd_X_lookAll_132 : decode prb_X_lookAll 132 = .ok (.iconst 1, 1) := by decide +kernel
theorem prd_X_lookAll_133 : decode prb_X_lookAll 133 = .ok (.ireturn, 1) := by decide +kernel
theorem prd_X_lookAll_11 : decode prb_X_lookAll 11 = .ok (.aload_n 0, 1) := by decide +kernel
theorem prd_X_lookAll_12 : decode prb_X_lookAll 12 = .ok (.getfield 56, 3) := by decide +kernel
theorem prd_X_lookAll_15 : decode prb_X_lookAll 15 = .ok (.iload_n 2, 1) := by decide +kernel
theorem prd_X_lookAll_16 : decode prb_X_lookAll 16 = .ok (.iaload, 1) := by decide +kernel
theorem prd_X_lookAll_17 : decode prb_X_lookAll 17 = .ok (.ifCond .lt 35, 3) := by decide +kernel
theorem prd_X_lookAll_20 : decode prb_X_lookAll 20 = .ok (.aload_n 0, 1) := by decide +kernel
theorem prd_X_lookAll_21 : decode prb_X_lookAll 21 = .ok (.getfield 47, 3) := by decide +kernel
theorem prd_X_lookAll_24 : decode prb_X_lookAll 24 = .ok (.aload_n 0, 1) := by decide +kernel
theorem prd_X_lookAll_25 : decode prb_X_lookAll 25 = .ok (.getfield 56, 3) := by decide +kernel
theorem prd_X_lookAll_28 : decode prb_X_lookAll 28 = .ok (.iload_n 2, 1) := by decide +kernel
theorem prd_X_lookAll_29 : decode prb_X_lookAll 29 = .ok (.iaload, 1) := by decide +kernel
theorem prd_X_lookAll_30 : decode prb_X_lookAll 30 = .ok (.iaload, 1) := by decide +kernel
theorem prd_X_lookAll_31 : decode prb_X_lookAll 31 = .ok (.bipush 14, 2) := by decide +kernel
theorem prd_X_lookAll_33 : decode prb_X_lookAll 33 = .ok (.if_icmp .ne 19, 3) := by decide +kernel
theorem prd_X_lookAll_36 : decode prb_X_lookAll 36 = .ok (.aload_n 0, 1) := by decide +kernel
theorem prd_X_lookAll_37 : decode prb_X_lookAll 37 = .ok (.getfield 56, 3) := by decide +kernel
theorem prd_X_lookAll_40 : decode prb_X_lookAll 40 = .ok (.iload_n 2, 1) := by decide +kernel
theorem prd_X_lookAll_41 : decode prb_X_lookAll 41 = .ok (.iaload, 1) := by decide +kernel
theorem prd_X_lookAll_42 : decode prb_X_lookAll 42 = .ok (.iload_n 2, 1) := by decide +kernel
theorem prd_X_lookAll_43 : decode prb_X_lookAll 43 = .ok (.iconst 1, 1) := by decide +kernel
theorem prd_X_lookAll_44 : decode prb_X_lookAll 44 = .ok (.isub, 1) := by decide +kernel
theorem prd_X_lookAll_45 : decode prb_X_lookAll 45 = .ok (.if_icmp .ne 7, 3) := by decide +kernel
theorem prd_X_lookAll_48 : decode prb_X_lookAll 48 = .ok (.iconst 1, 1) := by decide +kernel
theorem prd_X_lookAll_49 : decode prb_X_lookAll 49 = .ok (.goto 4, 3) := by decide +kernel
theorem prd_X_lookAll_53 : decode prb_X_lookAll 53 = .ok (.istore_n 3, 1) := by decide +kernel
theorem prd_X_lookAll_54 : decode prb_X_lookAll 54 = .ok (.aload_n 0, 1) := by decide +kernel
