theorem dX10_init_0 : decode cX10_init 0 = .ok (.aload_n 0, 1) := by decide +kernel
theorem dX10_init_1 : decode cX10_init 1 = .ok (.invokespecial 3, 3) := by decide +kernel
theorem dX10_init_4 : decode cX10_init 4 = .ok (.aload_n 0, 1) := by decide +kernel
theorem dX10_init_5 : decode cX10_init 5 = .ok (.new 9, 3) := by decide +kernel
theorem dX10_init_8 : decode cX10_init 8 = .ok (.dup, 1) := by decide +kernel
theorem dX10_init_9 : decode cX10_init 9 = .ok (.invokespecial 11, 3) := by decide +kernel
theorem dX10_init_12 : decode cX10_init 12 = .ok (.putfield 12, 3) := by decide +kernel
theorem dX10_init_15 : decode cX10_init 15 = .ok (.aload_n 0, 1) := by decide +kernel
theorem dX10_init_16 : decode cX10_init 16 = .ok (.iconst 3, 1) := by decide +kernel
theorem dX10_init_17 : decode cX10_init 17 = .ok (.anewarray 18, 3) := by decide +kernel
theorem dX10_init_20 : decode cX10_init 20 = .ok (.putfield 20, 3) := by decide +kernel
theorem dX10_init_23 : decode cX10_init 23 = .ok (.aload_n 0, 1) := by decide +kernel
theorem dX10_init_24 : decode cX10_init 24 = .ok (.bipush 8, 2) := by decide +kernel
theorem dX10_init_26 : decode cX10_init 26 = .ok (.newarray .int, 2) := by decide +kernel
theorem dX10_init_28 : decode cX10_init 28 = .ok (.putfield 24, 3) := by decide +kernel
theorem dX10_init_31 : decode cX10_init 31 = .ok (.aload_n 0, 1) := by decide +kernel
theorem dX10_init_32 : decode cX10_init 32 = .ok (.bipush 40, 2) := by decide +kernel
theorem dX10_init_34 : decode cX10_init 34 = .ok (.anewarray 28, 3) := by decide +kernel
theorem dX10_init_37 : decode cX10_init 37 = .ok (.putfield 30, 3) := by decide +kernel
theorem dX10_init_40 : decode cX10_init 40 = .ok (.aload_n 0, 1) := by decide +kernel
theorem dX10_init_41 : decode cX10_init 41 = .ok (.bipush 48, 2) := by decide +kernel
theorem dX10_init_43 : decode cX10_init 43 = .ok (.newarray .int, 2) := by decide +kernel
theorem dX10_init_45 : decode cX10_init 45 = .ok (.putfield 34, 3) := by decide +kernel
theorem dX10_init_48 : decode cX10_init 48 = .ok (.aload_n 0, 1) := by decide +kernel
theorem dX10_init_49 : decode cX10_init 49 = .ok (.bipush 6, 2) := by decide +kernel
theorem dX10_init_51 : decode cX10_init 51 = .ok (.anewarray 37, 3) := by decide +kernel
theorem dX10_init_54 : decode cX10_init 54 = .ok (.putfield 39, 3) := by decide +kernel
theorem dX10_init_57 : decode cX10_init 57 = .ok (.aload_n 0, 1) := by decide +kernel
theorem dX10_init_58 : decode cX10_init 58 = .ok (.new 43, 3) := by decide +kernel
theorem dX10_init_61 : decode cX10_init 61 = .ok (.dup, 1) := by decide +kernel
theorem dX10_init_62 : decode cX10_init 62 = .ok (.aload_n 0, 1) := by decide +kernel
theorem dX10_init_63 : decode cX10_init 63 = .ok (.getfield 12, 3) := by decide +kernel
theorem dX10_init_66 : decode cX10_init 66 = .ok (.invokespecial 45, 3) := by decide +kernel
theorem dX10_init_69 : decode cX10_init 69 = .ok (.putfield 48, 3) := by decide +kernel
theorem dX10_init_72 : decode cX10_init 72 = .ok (.aload_n 0, 1) := by decide +kernel
theorem dX10_init_73 : decode cX10_init 73 = .ok (.new 52, 3) := by decide +kernel
theorem dX10_init_76 : decode cX10_init 76 = .ok (.dup, 1) := by decide +kernel
theorem dX10_init_77 : decode cX10_init 77 = .ok (.aload_n 0, 1) := by decide +kernel
theorem dX10_init_78 : decode cX10_init 78 = .ok (.getfield 12, 3) := by decide +kernel
theorem dX10_init_81 : decode cX10_init 81 = .ok (.invokespecial 54, 3) := by decide +kernel
theorem dX10_init_84 : decode cX10_init 84 = .ok (.putfield 55, 3) := by decide +kernel
theorem dX10_init_87 : decode cX10_init 87 = .ok (.aload_n 0, 1) := by decide +kernel
theorem dX10_init_88 : decode cX10_init 88 = .ok (.new 59, 3) := by decide +kernel
theorem dX10_init_91 : decode cX10_init 91 = .ok (.dup, 1) := by decide +kernel
theorem dX10_init_92 : decode cX10_init 92 = .ok (.invokespecial 61, 3) := by decide +kernel
theorem dX10_init_95 : decode cX10_init 95 = .ok (.putfield 62, 3) := by decide +kernel
theorem dX10_init_98 : decode cX10_init 98 = .ok (.aload_n 0, 1) := by decide +kernel
theorem dX10_init_99 : decode cX10_init 99 = .ok (.iconst 4, 1) := by decide +kernel
theorem dX10_init_100 : decode cX10_init 100 = .ok (.anewarray 66, 3) := by decide +kernel
theorem dX10_init_103 : decode cX10_init 103 = .ok (.putfield 68, 3) := by decide +kernel
theorem dX10_init_106 : decode cX10_init 106 = .ok (.aload_n 0, 1) := by decide +kernel
theorem dX10_init_107 : decode cX10_init 107 = .ok (.bipush 60, 2) := by decide +kernel
theorem dX10_init_109 : decode cX10_init 109 = .ok (.newarray .int, 2) := by decide +kernel
theorem dX10_init_111 : decode cX10_init 111 = .ok (.putfield 72, 3) := by decide +kernel
theorem dX10_init_114 : decode cX10_init 114 = .ok (.aload_n 0, 1) := by decide +kernel
theorem dX10_init_115 : decode cX10_init 115 = .ok (.new 37, 3) := by decide +kernel
theorem dX10_init_118 : decode cX10_init 118 = .ok (.dup, 1) := by decide +kernel
theorem dX10_init_119 : decode cX10_init 119 = .ok (.invokespecial 75, 3) := by decide +kernel
theorem dX10_init_122 : decode cX10_init 122 = .ok (.putfield 76, 3) := by decide +kernel
theorem dX10_init_125 : decode cX10_init 125 = .ok (.aload_n 0, 1) := by decide +kernel
theorem dX10_init_126 : decode cX10_init 126 = .ok (.new 37, 3) := by decide +kernel
theorem dX10_init_129 : decode cX10_init 129 = .ok (.dup, 1) := by decide +kernel
theorem dX10_init_130 : decode cX10_init 130 = .ok (.invokespecial 75, 3) := by decide +kernel
theorem dX10_init_133 : decode cX10_init 133 = .ok (.putfield 80, 3) := by decide +kernel
theorem dX10_init_136 : decode cX10_init 136 = .ok (.aload_n 0, 1) := by decide +kernel
theorem dX10_init_137 : decode cX10_init 137 = .ok (.new 37, 3) := by decide +kernel
theorem dX10_init_140 : decode cX10_init 140 = .ok (.dup, 1) := by decide +kernel
theorem dX10_init_141 : decode cX10_init 141 = .ok (.invokespecial 75, 3) := by decide +kernel
theorem dX10_init_144 : decode cX10_init 144 = .ok (.putfield 83, 3) := by decide +kernel
theorem dX10_init_147 : decode cX10_init 147 = .ok (.aload_n 0, 1) := by decide +kernel
theorem dX10_init_148 : decode cX10_init 148 = .ok (.bipush 8, 2) := by decide +kernel
theorem dX10_init_150 : decode cX10_init 150 = .ok (.newarray .int, 2) := by decide +kernel
theorem dX10_init_152 : decode cX10_init 152 = .ok (.putfield 86, 3) := by decide +kernel
theorem dX10_init_155 : decode cX10_init 155 = .ok (.aload_n 0, 1) := by decide +kernel
theorem dX10_init_156 : decode cX10_init 156 = .ok (.iconst 0, 1) := by decide +kernel
theorem dX10_init_157 : decode cX10_init 157 = .ok (.putfield 89, 3) := by decide +kernel
theorem dX10_init_160 : decode cX10_init 160 = .ok (.aload_n 0, 1) := by decide +kernel
theorem dX10_init_161 : decode cX10_init 161 = .ok (.iconst 0, 1) := by decide +kernel
theorem dX10_init_162 : decode cX10_init 162 = .ok (.putfield 93, 3) := by decide +kernel
theorem dX10_init_165 : decode cX10_init 165 = .ok (.aload_n 0, 1) := by decide +kernel
theorem dX10_init_166 : decode cX10_init 166 = .ok (.iconst 0, 1) := by decide +kernel
theorem dX10_init_167 : decode cX10_init 167 = .ok (.putfield 96, 3) := by decide +kernel
theorem dX10_init_170 : decode cX10_init 170 = .ok (.aload_n 0, 1) := by decide +kernel
theorem dX10_init_171 : decode cX10_init 171 = .ok (.iconst 0, 1) := by decide +kernel
theorem dX10_init_172 : decode cX10_init 172 = .ok (.putfield 99, 3) := by decide +kernel
theorem dX10_init_175 : decode cX10_init 175 = .ok (.aload_n 0, 1) := by decide +kernel
theorem dX10_init_176 : decode cX10_init 176 = .ok (.iconst 0, 1) := by decide +kernel
theorem dX10_init_177 : decode cX10_init 177 = .ok (.putfield 102, 3) := by decide +kernel
theorem dX10_init_180 : decode cX10_init 180 = .ok (.iconst 0, 1) := by decide +kernel
theorem dX10_init_181 : decode cX10_init 181 = .ok (.istore_n 1, 1) := by decide +kernel
theorem dX10_init_182 : decode cX10_init 182 = .ok (.iload_n 1, 1) := by decide +kernel
theorem dX10_init_183 : decode cX10_init 183 = .ok (.iconst 3, 1) := by decide +kernel
theorem dX10_init_184 : decode cX10_init 184 = .ok (.if_icmp .ge 22, 3) := by decide +kernel
theorem dX10_init_187 : decode cX10_init 187 = .ok (.aload_n 0, 1) := by decide +kernel
theorem dX10_init_188 : decode cX10_init 188 = .ok (.getfield 20, 3) := by decide +kernel
theorem dX10_init_191 : decode cX10_init 191 = .ok (.iload_n 1, 1) := by decide +kernel
theorem dX10_init_192 : decode cX10_init 192 = .ok (.new 18, 3) := by decide +kernel
theorem dX10_init_195 : decode cX10_init 195 = .ok (.dup, 1) := by decide +kernel
theorem dX10_init_196 : decode cX10_init 196 = .ok (.invokespecial 105, 3) := by decide +kernel
theorem dX10_init_199 : decode cX10_init 199 = .ok (.aastore, 1) := by decide +kernel
theorem dX10_init_200 : decode cX10_init 200 = .ok (.iinc 1 1, 3) := by decide +kernel
theorem dX10_init_203 : decode cX10_init 203 = .ok (.goto (-21), 3) := by decide +kernel
theorem dX10_init_206 : decode cX10_init 206 = .ok (.iconst 0, 1) := by decide +kernel
theorem dX10_init_207 : decode cX10_init 207 = .ok (.istore_n 1, 1) := by decide +kernel
theorem dX10_init_208 : decode cX10_init 208 = .ok (.iload_n 1, 1) := by decide +kernel
theorem dX10_init_209 : decode cX10_init 209 = .ok (.bipush 40, 2) := by decide +kernel
theorem dX10_init_211 : decode cX10_init 211 = .ok (.if_icmp .ge 22, 3) := by decide +kernel
theorem dX10_init_214 : decode cX10_init 214 = .ok (.aload_n 0, 1) := by decide +kernel
theorem dX10_init_215 : decode cX10_init 215 = .ok (.getfield 30, 3) := by decide +kernel
theorem dX10_init_218 : decode cX10_init 218 = .ok (.iload_n 1, 1) := by decide +kernel
theorem dX10_init_219 : decode cX10_init 219 = .ok (.new 28, 3) := by decide +kernel
theorem dX10_init_222 : decode cX10_init 222 = .ok (.dup, 1) := by decide +kernel
theorem dX10_init_223 : decode cX10_init 223 = .ok (.invokespecial 106, 3) := by decide +kernel
theorem dX10_init_226 : decode cX10_init 226 = .ok (.aastore, 1) := by decide +kernel
theorem dX10_init_227 : decode cX10_init 227 = .ok (.iinc 1 1, 3) := by decide +kernel
theorem dX10_init_230 : decode cX10_init 230 = .ok (.goto (-22), 3) := by decide +kernel
theorem dX10_init_233 : decode cX10_init 233 = .ok (.iconst 0, 1) := by decide +kernel
theorem dX10_init_234 : decode cX10_init 234 = .ok (.istore_n 1, 1) := by decide +kernel
theorem dX10_init_235 : decode cX10_init 235 = .ok (.iload_n 1, 1) := by decide +kernel
theorem dX10_init_236 : decode cX10_init 236 = .ok (.bipush 6, 2) := by decide +kernel
theorem dX10_init_238 : decode cX10_init 238 = .ok (.if_icmp .ge 22, 3) := by decide +kernel
theorem dX10_init_241 : decode cX10_init 241 = .ok (.aload_n 0, 1) := by decide +kernel
theorem dX10_init_242 : decode cX10_init 242 = .ok (.getfield 39, 3) := by decide +kernel
theorem dX10_init_245 : decode cX10_init 245 = .ok (.iload_n 1, 1) := by decide +kernel
theorem dX10_init_246 : decode cX10_init 246 = .ok (.new 37, 3) := by decide +kernel
theorem dX10_init_249 : decode cX10_init 249 = .ok (.dup, 1) := by decide +kernel
theorem dX10_init_250 : decode cX10_init 250 = .ok (.invokespecial 75, 3) := by decide +kernel
theorem dX10_init_253 : decode cX10_init 253 = .ok (.aastore, 1) := by decide +kernel
theorem dX10_init_254 : decode cX10_init 254 = .ok (.iinc 1 1, 3) := by decide +kernel
theorem dX10_init_257 : decode cX10_init 257 = .ok (.goto (-22), 3) := by decide +kernel
theorem dX10_init_260 : decode cX10_init 260 = .ok (.iconst 0, 1) := by decide +kernel
theorem dX10_init_261 : decode cX10_init 261 = .ok (.istore_n 1, 1) := by decide +kernel
theorem dX10_init_262 : decode cX10_init 262 = .ok (.iload_n 1, 1) := by decide +kernel
theorem dX10_init_263 : decode cX10_init 263 = .ok (.iconst 4, 1) := by decide +kernel
theorem dX10_init_264 : decode cX10_init 264 = .ok (.if_icmp .ge 22, 3) := by decide +kernel
theorem dX10_init_267 : decode cX10_init 267 = .ok (.aload_n 0, 1) := by decide +kernel
theorem dX10_init_268 : decode cX10_init 268 = .ok (.getfield 68, 3) := by decide +kernel
theorem dX10_init_271 : decode cX10_init 271 = .ok (.iload_n 1, 1) := by decide +kernel
theorem dX10_init_272 : decode cX10_init 272 = .ok (.new 66, 3) := by decide +kernel
theorem dX10_init_275 : decode cX10_init 275 = .ok (.dup, 1) := by decide +kernel
theorem dX10_init_276 : decode cX10_init 276 = .ok (.invokespecial 107, 3) := by decide +kernel
theorem dX10_init_279 : decode cX10_init 279 = .ok (.aastore, 1) := by decide +kernel
theorem dX10_init_280 : decode cX10_init 280 = .ok (.iinc 1 1, 3) := by decide +kernel
theorem dX10_init_283 : decode cX10_init 283 = .ok (.goto (-21), 3) := by decide +kernel
theorem dX10_init_286 : decode cX10_init 286 = .ok (.aload_n 0, 1) := by decide +kernel
theorem dX10_init_287 : decode cX10_init 287 = .ok (.getfield 34, 3) := by decide +kernel
theorem dX10_init_290 : decode cX10_init 290 = .ok (.bipush (-9), 2) := by decide +kernel
theorem dX10_init_292 : decode cX10_init 292 = .ok (.invokestatic 108, 3) := by decide +kernel
theorem dX10_init_295 : decode cX10_init 295 = .ok (.return_, 1) := by decide +kernel
theorem dX10_sound_0 : decode cX10_sound 0 = .ok (.iload_n 1, 1) := by decide +kernel
theorem dX10_sound_1 : decode cX10_sound 1 = .ok (.bipush 16, 2) := by decide +kernel
theorem dX10_sound_3 : decode cX10_sound 3 = .ok (.invokestatic 114, 3) := by decide +kernel
theorem dX10_sound_6 : decode cX10_sound 6 = .ok (.ifCond .ne 5, 3) := by decide +kernel
theorem dX10_sound_9 : decode cX10_sound 9 = .ok (.iconst (-1), 1) := by decide +kernel
theorem dX10_sound_10 : decode cX10_sound 10 = .ok (.ireturn, 1) := by decide +kernel
theorem dX10_sound_11 : decode cX10_sound 11 = .ok (.iload_n 2, 1) := by decide +kernel
theorem dX10_sound_12 : decode cX10_sound 12 = .ok (.bipush 6, 2) := by decide +kernel
theorem dX10_sound_14 : decode cX10_sound 14 = .ok (.invokestatic 118, 3) := by decide +kernel
theorem dX10_sound_17 : decode cX10_sound 17 = .ok (.ifCond .eq 18, 3) := by decide +kernel
theorem dX10_sound_20 : decode cX10_sound 20 = .ok (.iload_n 3, 1) := by decide +kernel
theorem dX10_sound_21 : decode cX10_sound 21 = .ok (.bipush 6, 2) := by decide +kernel
theorem dX10_sound_23 : decode cX10_sound 23 = .ok (.invokestatic 118, 3) := by decide +kernel
theorem dX10_sound_26 : decode cX10_sound 26 = .ok (.ifCond .eq 9, 3) := by decide +kernel
theorem dX10_sound_29 : decode cX10_sound 29 = .ok (.iload_n 2, 1) := by decide +kernel
theorem dX10_sound_30 : decode cX10_sound 30 = .ok (.iload_n 3, 1) := by decide +kernel
theorem dX10_sound_31 : decode cX10_sound 31 = .ok (.iand, 1) := by decide +kernel
theorem dX10_sound_32 : decode cX10_sound 32 = .ok (.ifCond .eq 6, 3) := by decide +kernel
theorem dX10_sound_35 : decode cX10_sound 35 = .ok (.bipush (-2), 2) := by decide +kernel
theorem dX10_sound_37 : decode cX10_sound 37 = .ok (.ireturn, 1) := by decide +kernel
theorem dX10_sound_38 : decode cX10_sound 38 = .ok (.aload_n 0, 1) := by decide +kernel
theorem dX10_sound_39 : decode cX10_sound 39 = .ok (.getfield 12, 3) := by decide +kernel
theorem dX10_sound_42 : decode cX10_sound 42 = .ok (.iload_n 1, 1) := by decide +kernel
theorem dX10_sound_43 : decode cX10_sound 43 = .ok (.iload_n 2, 1) := by decide +kernel
theorem dX10_sound_44 : decode cX10_sound 44 = .ok (.iload_n 3, 1) := by decide +kernel
theorem dX10_sound_45 : decode cX10_sound 45 = .ok (.invokevirtual 121, 3) := by decide +kernel
theorem dX10_sound_48 : decode cX10_sound 48 = .ok (.ifCond .eq 7, 3) := by decide +kernel
theorem dX10_sound_51 : decode cX10_sound 51 = .ok (.iconst 1, 1) := by decide +kernel
theorem dX10_sound_52 : decode cX10_sound 52 = .ok (.goto 4, 3) := by decide +kernel
theorem dX10_sound_55 : decode cX10_sound 55 = .ok (.iconst 0, 1) := by decide +kernel
theorem dX10_sound_56 : decode cX10_sound 56 = .ok (.ireturn, 1) := by decide +kernel
theorem dX10_feature_0 : decode cX10_feature 0 = .ok (.iload_n 1, 1) := by decide +kernel
theorem dX10_feature_1 : decode cX10_feature 1 = .ok (.bipush 16, 2) := by decide +kernel
theorem dX10_feature_3 : decode cX10_feature 3 = .ok (.invokestatic 114, 3) := by decide +kernel
theorem dX10_feature_6 : decode cX10_feature 6 = .ok (.ifCond .ne 5, 3) := by decide +kernel
theorem dX10_feature_9 : decode cX10_feature 9 = .ok (.iconst (-1), 1) := by decide +kernel
theorem dX10_feature_10 : decode cX10_feature 10 = .ok (.ireturn, 1) := by decide +kernel
theorem dX10_feature_11 : decode cX10_feature 11 = .ok (.iload_n 2, 1) := by decide +kernel
theorem dX10_feature_12 : decode cX10_feature 12 = .ok (.bipush 6, 2) := by decide +kernel
theorem dX10_feature_14 : decode cX10_feature 14 = .ok (.invokestatic 114, 3) := by decide +kernel
theorem dX10_feature_17 : decode cX10_feature 17 = .ok (.ifCond .ne 6, 3) := by decide +kernel
theorem dX10_feature_20 : decode cX10_feature 20 = .ok (.bipush (-2), 2) := by decide +kernel
theorem dX10_feature_22 : decode cX10_feature 22 = .ok (.ireturn, 1) := by decide +kernel
theorem dX10_feature_23 : decode cX10_feature 23 = .ok (.iload_n 2, 1) := by decide +kernel
theorem dX10_feature_24 : decode cX10_feature 24 = .ok (.aload_n 0, 1) := by decide +kernel
theorem dX10_feature_25 : decode cX10_feature 25 = .ok (.getfield 12, 3) := by decide +kernel
theorem dX10_feature_28 : decode cX10_feature 28 = .ok (.getfield 125, 3) := by decide +kernel
theorem dX10_feature_31 : decode cX10_feature 31 = .ok (.iload_n 1, 1) := by decide +kernel
theorem dX10_feature_32 : decode cX10_feature 32 = .ok (.iaload, 1) := by decide +kernel
theorem dX10_feature_33 : decode cX10_feature 33 = .ok (.invokestatic 128, 3) := by decide +kernel
theorem dX10_feature_36 : decode cX10_feature 36 = .ok (.ifCond .eq 5, 3) := by decide +kernel
theorem dX10_feature_39 : decode cX10_feature 39 = .ok (.iconst 1, 1) := by decide +kernel
theorem dX10_feature_40 : decode cX10_feature 40 = .ok (.ireturn, 1) := by decide +kernel
theorem dX10_feature_41 : decode cX10_feature 41 = .ok (.iload_n 2, 1) := by decide +kernel
theorem dX10_feature_42 : decode cX10_feature 42 = .ok (.aload_n 0, 1) := by decide +kernel
theorem dX10_feature_43 : decode cX10_feature 43 = .ok (.getfield 12, 3) := by decide +kernel
theorem dX10_feature_46 : decode cX10_feature 46 = .ok (.getfield 131, 3) := by decide +kernel
theorem dX10_feature_49 : decode cX10_feature 49 = .ok (.iload_n 1, 1) := by decide +kernel
theorem dX10_feature_50 : decode cX10_feature 50 = .ok (.iaload, 1) := by decide +kernel
theorem dX10_feature_51 : decode cX10_feature 51 = .ok (.invokestatic 128, 3) := by decide +kernel
theorem dX10_feature_54 : decode cX10_feature 54 = .ok (.ifCond .eq 7, 3) := by decide +kernel
theorem dX10_feature_57 : decode cX10_feature 57 = .ok (.iconst 0, 1) := by decide +kernel
theorem dX10_feature_58 : decode cX10_feature 58 = .ok (.goto 5, 3) := by decide +kernel
theorem dX10_feature_61 : decode cX10_feature 61 = .ok (.bipush (-9), 2) := by decide +kernel
theorem dX10_feature_63 : decode cX10_feature 63 = .ok (.ireturn, 1) := by decide +kernel
theorem dX10_differ_0 : decode cX10_differ 0 = .ok (.iload_n 1, 1) := by decide +kernel
theorem dX10_differ_1 : decode cX10_differ 1 = .ok (.bipush 16, 2) := by decide +kernel
theorem dX10_differ_3 : decode cX10_differ 3 = .ok (.invokestatic 114, 3) := by decide +kernel
theorem dX10_differ_6 : decode cX10_differ 6 = .ok (.ifCond .eq 12, 3) := by decide +kernel
theorem dX10_differ_9 : decode cX10_differ 9 = .ok (.iload_n 2, 1) := by decide +kernel
theorem dX10_differ_10 : decode cX10_differ 10 = .ok (.bipush 16, 2) := by decide +kernel
theorem dX10_differ_12 : decode cX10_differ 12 = .ok (.invokestatic 114, 3) := by decide +kernel
theorem dX10_differ_15 : decode cX10_differ 15 = .ok (.ifCond .ne 5, 3) := by decide +kernel
theorem dX10_differ_18 : decode cX10_differ 18 = .ok (.iconst (-1), 1) := by decide +kernel
theorem dX10_differ_19 : decode cX10_differ 19 = .ok (.ireturn, 1) := by decide +kernel
theorem dX10_differ_20 : decode cX10_differ 20 = .ok (.aload_n 0, 1) := by decide +kernel
theorem dX10_differ_21 : decode cX10_differ 21 = .ok (.getfield 12, 3) := by decide +kernel
theorem dX10_differ_24 : decode cX10_differ 24 = .ok (.iload_n 1, 1) := by decide +kernel
theorem dX10_differ_25 : decode cX10_differ 25 = .ok (.iload_n 2, 1) := by decide +kernel
theorem dX10_differ_26 : decode cX10_differ 26 = .ok (.invokevirtual 134, 3) := by decide +kernel
theorem dX10_differ_29 : decode cX10_differ 29 = .ok (.ireturn, 1) := by decide +kernel
theorem dX10_entry_0 : decode cX10_entry 0 = .ok (.aload_n 0, 1) := by decide +kernel
theorem dX10_entry_1 : decode cX10_entry 1 = .ok (.iconst 0, 1) := by decide +kernel
theorem dX10_entry_2 : decode cX10_entry 2 = .ok (.putfield 102, 3) := by decide +kernel
theorem dX10_entry_5 : decode cX10_entry 5 = .ok (.iload_n 1, 1) := by decide +kernel
theorem dX10_entry_6 : decode cX10_entry 6 = .ok (.iconst 3, 1) := by decide +kernel
theorem dX10_entry_7 : decode cX10_entry 7 = .ok (.invokestatic 114, 3) := by decide +kernel
theorem dX10_entry_10 : decode cX10_entry 10 = .ok (.ifCond .eq 20, 3) := by decide +kernel
theorem dX10_entry_13 : decode cX10_entry 13 = .ok (.iload_n 2, 1) := by decide +kernel
theorem dX10_entry_14 : decode cX10_entry 14 = .ok (.bipush 16, 2) := by decide +kernel
theorem dX10_entry_16 : decode cX10_entry 16 = .ok (.invokestatic 114, 3) := by decide +kernel
theorem dX10_entry_19 : decode cX10_entry 19 = .ok (.ifCond .eq 11, 3) := by decide +kernel
theorem dX10_entry_22 : decode cX10_entry 22 = .ok (.iload_n 3, 1) := by decide +kernel
theorem dX10_entry_23 : decode cX10_entry 23 = .ok (.iconst 4, 1) := by decide +kernel
theorem dX10_entry_24 : decode cX10_entry 24 = .ok (.invokestatic 114, 3) := by decide +kernel
theorem dX10_entry_27 : decode cX10_entry 27 = .ok (.ifCond .ne 5, 3) := by decide +kernel
theorem dX10_entry_30 : decode cX10_entry 30 = .ok (.iconst (-1), 1) := by decide +kernel
theorem dX10_entry_31 : decode cX10_entry 31 = .ok (.ireturn, 1) := by decide +kernel
theorem dX10_entry_32 : decode cX10_entry 32 = .ok (.iload 4, 2) := by decide +kernel
theorem dX10_entry_34 : decode cX10_entry 34 = .ok (.iconst 3, 1) := by decide +kernel
theorem dX10_entry_35 : decode cX10_entry 35 = .ok (.invokestatic 114, 3) := by decide +kernel
theorem dX10_entry_38 : decode cX10_entry 38 = .ok (.ifCond .ne 6, 3) := by decide +kernel
theorem dX10_entry_41 : decode cX10_entry 41 = .ok (.bipush (-2), 2) := by decide +kernel
theorem dX10_entry_43 : decode cX10_entry 43 = .ok (.ireturn, 1) := by decide +kernel
theorem dX10_entry_44 : decode cX10_entry 44 = .ok (.aload_n 0, 1) := by decide +kernel
theorem dX10_entry_45 : decode cX10_entry 45 = .ok (.iload_n 3, 1) := by decide +kernel
theorem dX10_entry_46 : decode cX10_entry 46 = .ok (.iload 4, 2) := by decide +kernel
theorem dX10_entry_48 : decode cX10_entry 48 = .ok (.iload 5, 2) := by decide +kernel
theorem dX10_entry_50 : decode cX10_entry 50 = .ok (.iload 6, 2) := by decide +kernel
theorem dX10_entry_52 : decode cX10_entry 52 = .ok (.invokevirtual 138, 3) := by decide +kernel
theorem dX10_entry_55 : decode cX10_entry 55 = .ok (.istore 7, 2) := by decide +kernel
theorem dX10_entry_57 : decode cX10_entry 57 = .ok (.iload 7, 2) := by decide +kernel
theorem dX10_entry_59 : decode cX10_entry 59 = .ok (.ifCond .eq 6, 3) := by decide +kernel
theorem dX10_entry_62 : decode cX10_entry 62 = .ok (.iload 7, 2) := by decide +kernel
theorem dX10_entry_64 : decode cX10_entry 64 = .ok (.ireturn, 1) := by decide +kernel
theorem dX10_entry_65 : decode cX10_entry 65 = .ok (.iload 6, 2) := by decide +kernel
theorem dX10_entry_67 : decode cX10_entry 67 = .ok (.iconst 1, 1) := by decide +kernel
theorem dX10_entry_68 : decode cX10_entry 68 = .ok (.iconst 3, 1) := by decide +kernel
theorem dX10_entry_69 : decode cX10_entry 69 = .ok (.invokestatic 142, 3) := by decide +kernel
theorem dX10_entry_72 : decode cX10_entry 72 = .ok (.ifCond .eq 15, 3) := by decide +kernel
theorem dX10_entry_75 : decode cX10_entry 75 = .ok (.aload_n 0, 1) := by decide +kernel
theorem dX10_entry_76 : decode cX10_entry 76 = .ok (.sipush 128, 3) := by decide +kernel
theorem dX10_entry_79 : decode cX10_entry 79 = .ok (.iload 6, 2) := by decide +kernel
theorem dX10_entry_81 : decode cX10_entry 81 = .ok (.invokevirtual 145, 3) := by decide +kernel
theorem dX10_entry_84 : decode cX10_entry 84 = .ok (.ifCond .ne 6, 3) := by decide +kernel
theorem dX10_entry_87 : decode cX10_entry 87 = .ok (.bipush (-2), 2) := by decide +kernel
theorem dX10_entry_89 : decode cX10_entry 89 = .ok (.ireturn, 1) := by decide +kernel
theorem dX10_entry_90 : decode cX10_entry 90 = .ok (.aload_n 0, 1) := by decide +kernel
theorem dX10_entry_91 : decode cX10_entry 91 = .ok (.getfield 20, 3) := by decide +kernel
theorem dX10_entry_94 : decode cX10_entry 94 = .ok (.iload_n 1, 1) := by decide +kernel
theorem dX10_entry_95 : decode cX10_entry 95 = .ok (.aaload, 1) := by decide +kernel
theorem dX10_entry_96 : decode cX10_entry 96 = .ok (.iload_n 2, 1) := by decide +kernel
theorem dX10_entry_97 : decode cX10_entry 97 = .ok (.aload_n 0, 1) := by decide +kernel
theorem dX10_entry_98 : decode cX10_entry 98 = .ok (.getfield 72, 3) := by decide +kernel
theorem dX10_entry_101 : decode cX10_entry 101 = .ok (.iload 6, 2) := by decide +kernel
theorem dX10_entry_103 : decode cX10_entry 103 = .ok (.invokevirtual 148, 3) := by decide +kernel
theorem dX10_entry_106 : decode cX10_entry 106 = .ok (.ireturn, 1) := by decide +kernel
theorem dX10_place_0 : decode cX10_place 0 = .ok (.aload_n 0, 1) := by decide +kernel
theorem dX10_place_1 : decode cX10_place 1 = .ok (.getfield 89, 3) := by decide +kernel
theorem dX10_place_4 : decode cX10_place 4 = .ok (.bipush 8, 2) := by decide +kernel
theorem dX10_place_6 : decode cX10_place 6 = .ok (.if_icmp .lt 6, 3) := by decide +kernel
theorem dX10_place_9 : decode cX10_place 9 = .ok (.bipush (-4), 2) := by decide +kernel
theorem dX10_place_11 : decode cX10_place 11 = .ok (.ireturn, 1) := by decide +kernel
theorem dX10_place_12 : decode cX10_place 12 = .ok (.aload_n 0, 1) := by decide +kernel
theorem dX10_place_13 : decode cX10_place 13 = .ok (.dup, 1) := by decide +kernel
theorem dX10_place_14 : decode cX10_place 14 = .ok (.getfield 89, 3) := by decide +kernel
theorem dX10_place_17 : decode cX10_place 17 = .ok (.iconst 1, 1) := by decide +kernel
theorem dX10_place_18 : decode cX10_place 18 = .ok (.iadd, 1) := by decide +kernel
theorem dX10_place_19 : decode cX10_place 19 = .ok (.putfield 89, 3) := by decide +kernel
theorem dX10_place_22 : decode cX10_place 22 = .ok (.aload_n 0, 1) := by decide +kernel
theorem dX10_place_23 : decode cX10_place 23 = .ok (.getfield 89, 3) := by decide +kernel
theorem dX10_place_26 : decode cX10_place 26 = .ok (.iconst 1, 1) := by decide +kernel
theorem dX10_place_27 : decode cX10_place 27 = .ok (.isub, 1) := by decide +kernel
theorem dX10_place_28 : decode cX10_place 28 = .ok (.ireturn, 1) := by decide +kernel
theorem dX10_near_0 : decode cX10_near 0 = .ok (.aload_n 0, 1) := by decide +kernel
theorem dX10_near_1 : decode cX10_near 1 = .ok (.iload_n 1, 1) := by decide +kernel
theorem dX10_near_2 : decode cX10_near 2 = .ok (.invokevirtual 152, 3) := by decide +kernel
theorem dX10_near_5 : decode cX10_near 5 = .ok (.ifCond .eq 11, 3) := by decide +kernel
theorem dX10_near_8 : decode cX10_near 8 = .ok (.aload_n 0, 1) := by decide +kernel
theorem dX10_near_9 : decode cX10_near 9 = .ok (.iload_n 2, 1) := by decide +kernel
theorem dX10_near_10 : decode cX10_near 10 = .ok (.invokevirtual 152, 3) := by decide +kernel
theorem dX10_near_13 : decode cX10_near 13 = .ok (.ifCond .ne 5, 3) := by decide +kernel
theorem dX10_near_16 : decode cX10_near 16 = .ok (.iconst (-1), 1) := by decide +kernel
theorem dX10_near_17 : decode cX10_near 17 = .ok (.ireturn, 1) := by decide +kernel
theorem dX10_near_18 : decode cX10_near 18 = .ok (.iload_n 1, 1) := by decide +kernel
theorem dX10_near_19 : decode cX10_near 19 = .ok (.iload_n 2, 1) := by decide +kernel
theorem dX10_near_20 : decode cX10_near 20 = .ok (.if_icmp .ne 6, 3) := by decide +kernel
theorem dX10_near_23 : decode cX10_near 23 = .ok (.bipush (-2), 2) := by decide +kernel
theorem dX10_near_25 : decode cX10_near 25 = .ok (.ireturn, 1) := by decide +kernel
theorem dX10_near_26 : decode cX10_near 26 = .ok (.iload_n 2, 1) := by decide +kernel
theorem dX10_near_27 : decode cX10_near 27 = .ok (.aload_n 0, 1) := by decide +kernel
theorem dX10_near_28 : decode cX10_near 28 = .ok (.getfield 24, 3) := by decide +kernel
theorem dX10_near_31 : decode cX10_near 31 = .ok (.iload_n 1, 1) := by decide +kernel
theorem dX10_near_32 : decode cX10_near 32 = .ok (.iaload, 1) := by decide +kernel
theorem dX10_near_33 : decode cX10_near 33 = .ok (.invokestatic 128, 3) := by decide +kernel
theorem dX10_near_36 : decode cX10_near 36 = .ok (.iload_n 3, 1) := by decide +kernel
theorem dX10_near_37 : decode cX10_near 37 = .ok (.if_icmp .ne 5, 3) := by decide +kernel
theorem dX10_near_40 : decode cX10_near 40 = .ok (.iconst 0, 1) := by decide +kernel
theorem dX10_near_41 : decode cX10_near 41 = .ok (.ireturn, 1) := by decide +kernel
theorem dX10_near_42 : decode cX10_near 42 = .ok (.aload_n 0, 1) := by decide +kernel
theorem dX10_near_43 : decode cX10_near 43 = .ok (.getfield 24, 3) := by decide +kernel
theorem dX10_near_46 : decode cX10_near 46 = .ok (.iload_n 1, 1) := by decide +kernel
theorem dX10_near_47 : decode cX10_near 47 = .ok (.dup2, 1) := by decide +kernel
theorem dX10_near_48 : decode cX10_near 48 = .ok (.iaload, 1) := by decide +kernel
theorem dX10_near_49 : decode cX10_near 49 = .ok (.iconst 1, 1) := by decide +kernel
theorem dX10_near_50 : decode cX10_near 50 = .ok (.iload_n 2, 1) := by decide +kernel
theorem dX10_near_51 : decode cX10_near 51 = .ok (.ishl, 1) := by decide +kernel
theorem dX10_near_52 : decode cX10_near 52 = .ok (.ixor, 1) := by decide +kernel
theorem dX10_near_53 : decode cX10_near 53 = .ok (.iastore, 1) := by decide +kernel
theorem dX10_near_54 : decode cX10_near 54 = .ok (.aload_n 0, 1) := by decide +kernel
theorem dX10_near_55 : decode cX10_near 55 = .ok (.getfield 24, 3) := by decide +kernel
theorem dX10_near_58 : decode cX10_near 58 = .ok (.iload_n 2, 1) := by decide +kernel
theorem dX10_near_59 : decode cX10_near 59 = .ok (.dup2, 1) := by decide +kernel
theorem dX10_near_60 : decode cX10_near 60 = .ok (.iaload, 1) := by decide +kernel
theorem dX10_near_61 : decode cX10_near 61 = .ok (.iconst 1, 1) := by decide +kernel
theorem dX10_near_62 : decode cX10_near 62 = .ok (.iload_n 1, 1) := by decide +kernel
theorem dX10_near_63 : decode cX10_near 63 = .ok (.ishl, 1) := by decide +kernel
theorem dX10_near_64 : decode cX10_near 64 = .ok (.ixor, 1) := by decide +kernel
theorem dX10_near_65 : decode cX10_near 65 = .ok (.iastore, 1) := by decide +kernel
theorem dX10_near_66 : decode cX10_near 66 = .ok (.iconst 1, 1) := by decide +kernel
theorem dX10_near_67 : decode cX10_near 67 = .ok (.ireturn, 1) := by decide +kernel
theorem dX10_form_0 : decode cX10_form 0 = .ok (.aload_n 0, 1) := by decide +kernel
theorem dX10_form_1 : decode cX10_form 1 = .ok (.iconst 0, 1) := by decide +kernel
theorem dX10_form_2 : decode cX10_form 2 = .ok (.putfield 102, 3) := by decide +kernel
theorem dX10_form_5 : decode cX10_form 5 = .ok (.aload_n 0, 1) := by decide +kernel
theorem dX10_form_6 : decode cX10_form 6 = .ok (.iload_n 2, 1) := by decide +kernel
theorem dX10_form_7 : decode cX10_form 7 = .ok (.invokevirtual 152, 3) := by decide +kernel
theorem dX10_form_10 : decode cX10_form 10 = .ok (.ifCond .eq 19, 3) := by decide +kernel
theorem dX10_form_13 : decode cX10_form 13 = .ok (.iload_n 3, 1) := by decide +kernel
theorem dX10_form_14 : decode cX10_form 14 = .ok (.invokestatic 156, 3) := by decide +kernel
theorem dX10_form_17 : decode cX10_form 17 = .ok (.ifCond .eq 12, 3) := by decide +kernel
theorem dX10_form_20 : decode cX10_form 20 = .ok (.iload 4, 2) := by decide +kernel
theorem dX10_form_22 : decode cX10_form 22 = .ok (.iconst 4, 1) := by decide +kernel
theorem dX10_form_23 : decode cX10_form 23 = .ok (.invokestatic 114, 3) := by decide +kernel
theorem dX10_form_26 : decode cX10_form 26 = .ok (.ifCond .ne 5, 3) := by decide +kernel
theorem dX10_form_29 : decode cX10_form 29 = .ok (.iconst (-1), 1) := by decide +kernel
theorem dX10_form_30 : decode cX10_form 30 = .ok (.ireturn, 1) := by decide +kernel
theorem dX10_form_31 : decode cX10_form 31 = .ok (.iload_n 1, 1) := by decide +kernel
theorem dX10_form_32 : decode cX10_form 32 = .ok (.iconst 0, 1) := by decide +kernel
theorem dX10_form_33 : decode cX10_form 33 = .ok (.iconst 2, 1) := by decide +kernel
theorem dX10_form_34 : decode cX10_form 34 = .ok (.invokestatic 142, 3) := by decide +kernel
theorem dX10_form_37 : decode cX10_form 37 = .ok (.ifCond .eq 12, 3) := by decide +kernel
theorem dX10_form_40 : decode cX10_form 40 = .ok (.iload 5, 2) := by decide +kernel
theorem dX10_form_42 : decode cX10_form 42 = .ok (.iconst 3, 1) := by decide +kernel
theorem dX10_form_43 : decode cX10_form 43 = .ok (.invokestatic 114, 3) := by decide +kernel
theorem dX10_form_46 : decode cX10_form 46 = .ok (.ifCond .ne 6, 3) := by decide +kernel
theorem dX10_form_49 : decode cX10_form 49 = .ok (.bipush (-2), 2) := by decide +kernel
theorem dX10_form_51 : decode cX10_form 51 = .ok (.ireturn, 1) := by decide +kernel
theorem dX10_form_52 : decode cX10_form 52 = .ok (.aload_n 0, 1) := by decide +kernel
theorem dX10_form_53 : decode cX10_form 53 = .ok (.iload 4, 2) := by decide +kernel
theorem dX10_form_55 : decode cX10_form 55 = .ok (.iload 5, 2) := by decide +kernel
theorem dX10_form_57 : decode cX10_form 57 = .ok (.iload 6, 2) := by decide +kernel
theorem dX10_form_59 : decode cX10_form 59 = .ok (.iload 7, 2) := by decide +kernel
theorem dX10_form_61 : decode cX10_form 61 = .ok (.invokevirtual 159, 3) := by decide +kernel
theorem dX10_form_64 : decode cX10_form 64 = .ok (.istore 8, 2) := by decide +kernel
theorem dX10_form_66 : decode cX10_form 66 = .ok (.iload 8, 2) := by decide +kernel
theorem dX10_form_68 : decode cX10_form 68 = .ok (.ifCond .eq 6, 3) := by decide +kernel
theorem dX10_form_71 : decode cX10_form 71 = .ok (.iload 8, 2) := by decide +kernel
theorem dX10_form_73 : decode cX10_form 73 = .ok (.ireturn, 1) := by decide +kernel
theorem dX10_form_74 : decode cX10_form 74 = .ok (.aload_n 0, 1) := by decide +kernel
theorem dX10_form_75 : decode cX10_form 75 = .ok (.getfield 76, 3) := by decide +kernel
theorem dX10_form_78 : decode cX10_form 78 = .ok (.aload_n 0, 1) := by decide +kernel
theorem dX10_form_79 : decode cX10_form 79 = .ok (.getfield 72, 3) := by decide +kernel
theorem dX10_form_82 : decode cX10_form 82 = .ok (.iload 7, 2) := by decide +kernel
theorem dX10_form_84 : decode cX10_form 84 = .ok (.invokevirtual 162, 3) := by decide +kernel
theorem dX10_form_87 : decode cX10_form 87 = .ok (.aload_n 0, 1) := by decide +kernel
theorem dX10_form_88 : decode cX10_form 88 = .ok (.iload_n 1, 1) := by decide +kernel
theorem dX10_form_89 : decode cX10_form 89 = .ok (.iload_n 2, 1) := by decide +kernel
theorem dX10_form_90 : decode cX10_form 90 = .ok (.iload_n 3, 1) := by decide +kernel
theorem dX10_form_91 : decode cX10_form 91 = .ok (.invokevirtual 165, 3) := by decide +kernel
theorem dX10_form_94 : decode cX10_form 94 = .ok (.ireturn, 1) := by decide +kernel
theorem dX10_read_0 : decode cX10_read 0 = .ok (.aload_n 0, 1) := by decide +kernel
theorem dX10_read_1 : decode cX10_read 1 = .ok (.iconst 0, 1) := by decide +kernel
theorem dX10_read_2 : decode cX10_read 2 = .ok (.putfield 102, 3) := by decide +kernel
theorem dX10_read_5 : decode cX10_read 5 = .ok (.iload_n 1, 1) := by decide +kernel
theorem dX10_read_6 : decode cX10_read 6 = .ok (.iconst 3, 1) := by decide +kernel
theorem dX10_read_7 : decode cX10_read 7 = .ok (.invokestatic 114, 3) := by decide +kernel
theorem dX10_read_10 : decode cX10_read 10 = .ok (.ifCond .eq 27, 3) := by decide +kernel
theorem dX10_read_13 : decode cX10_read 13 = .ok (.aload_n 0, 1) := by decide +kernel
theorem dX10_read_14 : decode cX10_read 14 = .ok (.iload_n 2, 1) := by decide +kernel
theorem dX10_read_15 : decode cX10_read 15 = .ok (.invokevirtual 152, 3) := by decide +kernel
theorem dX10_read_18 : decode cX10_read 18 = .ok (.ifCond .eq 19, 3) := by decide +kernel
theorem dX10_read_21 : decode cX10_read 21 = .ok (.iload_n 3, 1) := by decide +kernel
theorem dX10_read_22 : decode cX10_read 22 = .ok (.invokestatic 156, 3) := by decide +kernel
theorem dX10_read_25 : decode cX10_read 25 = .ok (.ifCond .eq 12, 3) := by decide +kernel
theorem dX10_read_28 : decode cX10_read 28 = .ok (.iload 4, 2) := by decide +kernel
theorem dX10_read_30 : decode cX10_read 30 = .ok (.iconst 4, 1) := by decide +kernel
theorem dX10_read_31 : decode cX10_read 31 = .ok (.invokestatic 114, 3) := by decide +kernel
theorem dX10_read_34 : decode cX10_read 34 = .ok (.ifCond .ne 5, 3) := by decide +kernel
theorem dX10_read_37 : decode cX10_read 37 = .ok (.iconst (-1), 1) := by decide +kernel
theorem dX10_read_38 : decode cX10_read 38 = .ok (.ireturn, 1) := by decide +kernel
theorem dX10_read_39 : decode cX10_read 39 = .ok (.iload 5, 2) := by decide +kernel
theorem dX10_read_41 : decode cX10_read 41 = .ok (.iconst 3, 1) := by decide +kernel
theorem dX10_read_42 : decode cX10_read 42 = .ok (.invokestatic 114, 3) := by decide +kernel
theorem dX10_read_45 : decode cX10_read 45 = .ok (.ifCond .ne 6, 3) := by decide +kernel
theorem dX10_read_48 : decode cX10_read 48 = .ok (.bipush (-2), 2) := by decide +kernel
theorem dX10_read_50 : decode cX10_read 50 = .ok (.ireturn, 1) := by decide +kernel
theorem dX10_read_51 : decode cX10_read 51 = .ok (.aload_n 0, 1) := by decide +kernel
theorem dX10_read_52 : decode cX10_read 52 = .ok (.iload 4, 2) := by decide +kernel
theorem dX10_read_54 : decode cX10_read 54 = .ok (.iload 5, 2) := by decide +kernel
theorem dX10_read_56 : decode cX10_read 56 = .ok (.iload 6, 2) := by decide +kernel
theorem dX10_read_58 : decode cX10_read 58 = .ok (.iload 7, 2) := by decide +kernel
theorem dX10_read_60 : decode cX10_read 60 = .ok (.invokevirtual 138, 3) := by decide +kernel
theorem dX10_read_63 : decode cX10_read 63 = .ok (.istore 8, 2) := by decide +kernel
theorem dX10_read_65 : decode cX10_read 65 = .ok (.iload 8, 2) := by decide +kernel
theorem dX10_read_67 : decode cX10_read 67 = .ok (.ifCond .eq 6, 3) := by decide +kernel
theorem dX10_read_70 : decode cX10_read 70 = .ok (.iload 8, 2) := by decide +kernel
theorem dX10_read_72 : decode cX10_read 72 = .ok (.ireturn, 1) := by decide +kernel
theorem dX10_read_73 : decode cX10_read 73 = .ok (.aload_n 0, 1) := by decide +kernel
theorem dX10_read_74 : decode cX10_read 74 = .ok (.getfield 20, 3) := by decide +kernel
theorem dX10_read_77 : decode cX10_read 77 = .ok (.iload_n 1, 1) := by decide +kernel
theorem dX10_read_78 : decode cX10_read 78 = .ok (.aaload, 1) := by decide +kernel
theorem dX10_read_79 : decode cX10_read 79 = .ok (.aload_n 0, 1) := by decide +kernel
theorem dX10_read_80 : decode cX10_read 80 = .ok (.getfield 76, 3) := by decide +kernel
theorem dX10_read_83 : decode cX10_read 83 = .ok (.aload_n 0, 1) := by decide +kernel
theorem dX10_read_84 : decode cX10_read 84 = .ok (.getfield 72, 3) := by decide +kernel
theorem dX10_read_87 : decode cX10_read 87 = .ok (.iload 7, 2) := by decide +kernel
theorem dX10_read_89 : decode cX10_read 89 = .ok (.invokevirtual 169, 3) := by decide +kernel
theorem dX10_read_92 : decode cX10_read 92 = .ok (.istore 9, 2) := by decide +kernel
theorem dX10_read_94 : decode cX10_read 94 = .ok (.iload 9, 2) := by decide +kernel
theorem dX10_read_96 : decode cX10_read 96 = .ok (.bipush (-9), 2) := by decide +kernel
theorem dX10_read_98 : decode cX10_read 98 = .ok (.if_icmp .eq 9, 3) := by decide +kernel
theorem dX10_read_101 : decode cX10_read 101 = .ok (.bipush (-100), 2) := by decide +kernel
theorem dX10_read_103 : decode cX10_read 103 = .ok (.iload 9, 2) := by decide +kernel
theorem dX10_read_105 : decode cX10_read 105 = .ok (.isub, 1) := by decide +kernel
theorem dX10_read_106 : decode cX10_read 106 = .ok (.ireturn, 1) := by decide +kernel
theorem dX10_read_107 : decode cX10_read 107 = .ok (.aload_n 0, 1) := by decide +kernel
theorem dX10_read_108 : decode cX10_read 108 = .ok (.iconst 0, 1) := by decide +kernel
theorem dX10_read_109 : decode cX10_read 109 = .ok (.iload_n 2, 1) := by decide +kernel
theorem dX10_read_110 : decode cX10_read 110 = .ok (.iload_n 3, 1) := by decide +kernel
theorem dX10_read_111 : decode cX10_read 111 = .ok (.invokevirtual 165, 3) := by decide +kernel
theorem dX10_read_114 : decode cX10_read 114 = .ok (.ireturn, 1) := by decide +kernel
theorem dX10_addForm_0 : decode cX10_addForm 0 = .ok (.aload_n 0, 1) := by decide +kernel
theorem dX10_addForm_1 : decode cX10_addForm 1 = .ok (.getfield 93, 3) := by decide +kernel
theorem dX10_addForm_4 : decode cX10_addForm 4 = .ok (.bipush 40, 2) := by decide +kernel
theorem dX10_addForm_6 : decode cX10_addForm 6 = .ok (.if_icmp .lt 6, 3) := by decide +kernel
theorem dX10_addForm_9 : decode cX10_addForm 9 = .ok (.bipush (-4), 2) := by decide +kernel
theorem dX10_addForm_11 : decode cX10_addForm 11 = .ok (.ireturn, 1) := by decide +kernel
theorem dX10_addForm_12 : decode cX10_addForm 12 = .ok (.aload_n 0, 1) := by decide +kernel
theorem dX10_addForm_13 : decode cX10_addForm 13 = .ok (.getfield 93, 3) := by decide +kernel
theorem dX10_addForm_16 : decode cX10_addForm 16 = .ok (.istore 4, 2) := by decide +kernel
theorem dX10_addForm_18 : decode cX10_addForm 18 = .ok (.aload_n 0, 1) := by decide +kernel
theorem dX10_addForm_19 : decode cX10_addForm 19 = .ok (.getfield 30, 3) := by decide +kernel
theorem dX10_addForm_22 : decode cX10_addForm 22 = .ok (.iload 4, 2) := by decide +kernel
theorem dX10_addForm_24 : decode cX10_addForm 24 = .ok (.aaload, 1) := by decide +kernel
theorem dX10_addForm_25 : decode cX10_addForm 25 = .ok (.iload_n 1, 1) := by decide +kernel
theorem dX10_addForm_26 : decode cX10_addForm 26 = .ok (.iload_n 2, 1) := by decide +kernel
theorem dX10_addForm_27 : decode cX10_addForm 27 = .ok (.iload_n 3, 1) := by decide +kernel
theorem dX10_addForm_28 : decode cX10_addForm 28 = .ok (.aload_n 0, 1) := by decide +kernel
theorem dX10_addForm_29 : decode cX10_addForm 29 = .ok (.getfield 76, 3) := by decide +kernel
theorem dX10_addForm_32 : decode cX10_addForm 32 = .ok (.invokevirtual 173, 3) := by decide +kernel
theorem dX10_addForm_35 : decode cX10_addForm 35 = .ok (.aload_n 0, 1) := by decide +kernel
theorem dX10_addForm_36 : decode cX10_addForm 36 = .ok (.getfield 34, 3) := by decide +kernel
theorem dX10_addForm_39 : decode cX10_addForm 39 = .ok (.iload_n 2, 1) := by decide +kernel
theorem dX10_addForm_40 : decode cX10_addForm 40 = .ok (.bipush 6, 2) := by decide +kernel
theorem dX10_addForm_42 : decode cX10_addForm 42 = .ok (.imul, 1) := by decide +kernel
theorem dX10_addForm_43 : decode cX10_addForm 43 = .ok (.iload_n 3, 1) := by decide +kernel
theorem dX10_addForm_44 : decode cX10_addForm 44 = .ok (.iadd, 1) := by decide +kernel
theorem dX10_addForm_45 : decode cX10_addForm 45 = .ok (.iload 4, 2) := by decide +kernel
theorem dX10_addForm_47 : decode cX10_addForm 47 = .ok (.iastore, 1) := by decide +kernel
theorem dX10_addForm_48 : decode cX10_addForm 48 = .ok (.aload_n 0, 1) := by decide +kernel
theorem dX10_addForm_49 : decode cX10_addForm 49 = .ok (.dup, 1) := by decide +kernel
theorem dX10_addForm_50 : decode cX10_addForm 50 = .ok (.getfield 93, 3) := by decide +kernel
theorem dX10_addForm_53 : decode cX10_addForm 53 = .ok (.iconst 1, 1) := by decide +kernel
theorem dX10_addForm_54 : decode cX10_addForm 54 = .ok (.iadd, 1) := by decide +kernel
theorem dX10_addForm_55 : decode cX10_addForm 55 = .ok (.putfield 93, 3) := by decide +kernel
theorem dX10_addForm_58 : decode cX10_addForm 58 = .ok (.iload 4, 2) := by decide +kernel
theorem dX10_addForm_60 : decode cX10_addForm 60 = .ok (.ireturn, 1) := by decide +kernel
theorem dX10_ofForm_0 : decode cX10_ofForm 0 = .ok (.aload_n 0, 1) := by decide +kernel
theorem dX10_ofForm_1 : decode cX10_ofForm 1 = .ok (.iload_n 1, 1) := by decide +kernel
theorem dX10_ofForm_2 : decode cX10_ofForm 2 = .ok (.invokevirtual 176, 3) := by decide +kernel
theorem dX10_ofForm_5 : decode cX10_ofForm 5 = .ok (.ifCond .ne 5, 3) := by decide +kernel
theorem dX10_ofForm_8 : decode cX10_ofForm 8 = .ok (.iconst (-1), 1) := by decide +kernel
theorem dX10_ofForm_9 : decode cX10_ofForm 9 = .ok (.ireturn, 1) := by decide +kernel
theorem dX10_ofForm_10 : decode cX10_ofForm 10 = .ok (.aload_n 0, 1) := by decide +kernel
theorem dX10_ofForm_11 : decode cX10_ofForm 11 = .ok (.getfield 30, 3) := by decide +kernel
theorem dX10_ofForm_14 : decode cX10_ofForm 14 = .ok (.iload_n 1, 1) := by decide +kernel
theorem dX10_ofForm_15 : decode cX10_ofForm 15 = .ok (.aaload, 1) := by decide +kernel
theorem dX10_ofForm_16 : decode cX10_ofForm 16 = .ok (.astore_n 3, 1) := by decide +kernel
theorem dX10_ofForm_17 : decode cX10_ofForm 17 = .ok (.iload_n 2, 1) := by decide +kernel
theorem dX10_ofForm_18 : decode cX10_ofForm 18 = .ok (.tableswitch 53 0 3 #[30, 35, 40, 45], 30) := by decide +kernel
theorem dX10_ofForm_48 : decode cX10_ofForm 48 = .ok (.aload_n 3, 1) := by decide +kernel
theorem dX10_ofForm_49 : decode cX10_ofForm 49 = .ok (.getfield 179, 3) := by decide +kernel
theorem dX10_ofForm_52 : decode cX10_ofForm 52 = .ok (.ireturn, 1) := by decide +kernel
theorem dX10_ofForm_53 : decode cX10_ofForm 53 = .ok (.aload_n 3, 1) := by decide +kernel
theorem dX10_ofForm_54 : decode cX10_ofForm 54 = .ok (.getfield 182, 3) := by decide +kernel
theorem dX10_ofForm_57 : decode cX10_ofForm 57 = .ok (.ireturn, 1) := by decide +kernel
theorem dX10_ofForm_58 : decode cX10_ofForm 58 = .ok (.aload_n 3, 1) := by decide +kernel
theorem dX10_ofForm_59 : decode cX10_ofForm 59 = .ok (.getfield 185, 3) := by decide +kernel
theorem dX10_ofForm_62 : decode cX10_ofForm 62 = .ok (.ireturn, 1) := by decide +kernel
theorem dX10_ofForm_63 : decode cX10_ofForm 63 = .ok (.aload_n 3, 1) := by decide +kernel
theorem dX10_ofForm_64 : decode cX10_ofForm 64 = .ok (.getfield 188, 3) := by decide +kernel
theorem dX10_ofForm_67 : decode cX10_ofForm 67 = .ok (.getfield 191, 3) := by decide +kernel
theorem dX10_ofForm_70 : decode cX10_ofForm 70 = .ok (.ireturn, 1) := by decide +kernel
theorem dX10_ofForm_71 : decode cX10_ofForm 71 = .ok (.iload_n 2, 1) := by decide +kernel
theorem dX10_ofForm_72 : decode cX10_ofForm 72 = .ok (.bipush 10, 2) := by decide +kernel
theorem dX10_ofForm_74 : decode cX10_ofForm 74 = .ok (.if_icmp .lt 31, 3) := by decide +kernel
theorem dX10_ofForm_77 : decode cX10_ofForm 77 = .ok (.iload_n 2, 1) := by decide +kernel
theorem dX10_ofForm_78 : decode cX10_ofForm 78 = .ok (.bipush 10, 2) := by decide +kernel
theorem dX10_ofForm_80 : decode cX10_ofForm 80 = .ok (.isub, 1) := by decide +kernel
theorem dX10_ofForm_81 : decode cX10_ofForm 81 = .ok (.aload_n 3, 1) := by decide +kernel
theorem dX10_ofForm_82 : decode cX10_ofForm 82 = .ok (.getfield 188, 3) := by decide +kernel
theorem dX10_ofForm_85 : decode cX10_ofForm 85 = .ok (.getfield 191, 3) := by decide +kernel
theorem dX10_ofForm_88 : decode cX10_ofForm 88 = .ok (.if_icmp .ge 17, 3) := by decide +kernel
theorem dX10_ofForm_91 : decode cX10_ofForm 91 = .ok (.aload_n 3, 1) := by decide +kernel
theorem dX10_ofForm_92 : decode cX10_ofForm 92 = .ok (.getfield 188, 3) := by decide +kernel
theorem dX10_ofForm_95 : decode cX10_ofForm 95 = .ok (.iload_n 2, 1) := by decide +kernel
theorem dX10_ofForm_96 : decode cX10_ofForm 96 = .ok (.bipush 10, 2) := by decide +kernel
theorem dX10_ofForm_98 : decode cX10_ofForm 98 = .ok (.isub, 1) := by decide +kernel
theorem dX10_ofForm_99 : decode cX10_ofForm 99 = .ok (.invokevirtual 194, 3) := by decide +kernel
theorem dX10_ofForm_102 : decode cX10_ofForm 102 = .ok (.goto 5, 3) := by decide +kernel
theorem dX10_ofForm_105 : decode cX10_ofForm 105 = .ok (.bipush (-2), 2) := by decide +kernel
theorem dX10_ofForm_107 : decode cX10_ofForm 107 = .ok (.ireturn, 1) := by decide +kernel
theorem dX10_said_0 : decode cX10_said 0 = .ok (.aload_n 0, 1) := by decide +kernel
theorem dX10_said_1 : decode cX10_said 1 = .ok (.iload_n 1, 1) := by decide +kernel
theorem dX10_said_2 : decode cX10_said 2 = .ok (.invokevirtual 152, 3) := by decide +kernel
theorem dX10_said_5 : decode cX10_said 5 = .ok (.ifCond .eq 10, 3) := by decide +kernel
theorem dX10_said_8 : decode cX10_said 8 = .ok (.iload_n 2, 1) := by decide +kernel
theorem dX10_said_9 : decode cX10_said 9 = .ok (.invokestatic 156, 3) := by decide +kernel
theorem dX10_said_12 : decode cX10_said 12 = .ok (.ifCond .ne 5, 3) := by decide +kernel
theorem dX10_said_15 : decode cX10_said 15 = .ok (.iconst (-1), 1) := by decide +kernel
theorem dX10_said_16 : decode cX10_said 16 = .ok (.ireturn, 1) := by decide +kernel
theorem dX10_said_17 : decode cX10_said 17 = .ok (.aload_n 0, 1) := by decide +kernel
theorem dX10_said_18 : decode cX10_said 18 = .ok (.getfield 34, 3) := by decide +kernel
theorem dX10_said_21 : decode cX10_said 21 = .ok (.iload_n 1, 1) := by decide +kernel
theorem dX10_said_22 : decode cX10_said 22 = .ok (.bipush 6, 2) := by decide +kernel
theorem dX10_said_24 : decode cX10_said 24 = .ok (.imul, 1) := by decide +kernel
theorem dX10_said_25 : decode cX10_said 25 = .ok (.iload_n 2, 1) := by decide +kernel
theorem dX10_said_26 : decode cX10_said 26 = .ok (.iadd, 1) := by decide +kernel
theorem dX10_said_27 : decode cX10_said 27 = .ok (.iaload, 1) := by decide +kernel
theorem dX10_said_28 : decode cX10_said 28 = .ok (.ireturn, 1) := by decide +kernel
theorem dX10_root_0 : decode cX10_root 0 = .ok (.aload_n 0, 1) := by decide +kernel
theorem dX10_root_1 : decode cX10_root 1 = .ok (.iconst 0, 1) := by decide +kernel
theorem dX10_root_2 : decode cX10_root 2 = .ok (.putfield 102, 3) := by decide +kernel
theorem dX10_root_5 : decode cX10_root 5 = .ok (.iload_n 1, 1) := by decide +kernel
theorem dX10_root_6 : decode cX10_root 6 = .ok (.invokestatic 156, 3) := by decide +kernel
theorem dX10_root_9 : decode cX10_root 9 = .ok (.ifCond .eq 11, 3) := by decide +kernel
theorem dX10_root_12 : decode cX10_root 12 = .ok (.iload_n 2, 1) := by decide +kernel
theorem dX10_root_13 : decode cX10_root 13 = .ok (.iconst 4, 1) := by decide +kernel
theorem dX10_root_14 : decode cX10_root 14 = .ok (.invokestatic 114, 3) := by decide +kernel
theorem dX10_root_17 : decode cX10_root 17 = .ok (.ifCond .ne 5, 3) := by decide +kernel
theorem dX10_root_20 : decode cX10_root 20 = .ok (.iconst (-1), 1) := by decide +kernel
theorem dX10_root_21 : decode cX10_root 21 = .ok (.ireturn, 1) := by decide +kernel
theorem dX10_root_22 : decode cX10_root 22 = .ok (.iload_n 3, 1) := by decide +kernel
theorem dX10_root_23 : decode cX10_root 23 = .ok (.iconst 3, 1) := by decide +kernel
theorem dX10_root_24 : decode cX10_root 24 = .ok (.invokestatic 114, 3) := by decide +kernel
theorem dX10_root_27 : decode cX10_root 27 = .ok (.ifCond .ne 6, 3) := by decide +kernel
theorem dX10_root_30 : decode cX10_root 30 = .ok (.bipush (-2), 2) := by decide +kernel
theorem dX10_root_32 : decode cX10_root 32 = .ok (.ireturn, 1) := by decide +kernel
theorem dX10_root_33 : decode cX10_root 33 = .ok (.aload_n 0, 1) := by decide +kernel
theorem dX10_root_34 : decode cX10_root 34 = .ok (.iload_n 2, 1) := by decide +kernel
theorem dX10_root_35 : decode cX10_root 35 = .ok (.iload_n 3, 1) := by decide +kernel
theorem dX10_root_36 : decode cX10_root 36 = .ok (.iload 4, 2) := by decide +kernel
theorem dX10_root_38 : decode cX10_root 38 = .ok (.iload 5, 2) := by decide +kernel
theorem dX10_root_40 : decode cX10_root 40 = .ok (.invokevirtual 159, 3) := by decide +kernel
theorem dX10_root_43 : decode cX10_root 43 = .ok (.istore 6, 2) := by decide +kernel
theorem dX10_root_45 : decode cX10_root 45 = .ok (.iload 6, 2) := by decide +kernel
theorem dX10_root_47 : decode cX10_root 47 = .ok (.ifCond .eq 6, 3) := by decide +kernel
theorem dX10_root_50 : decode cX10_root 50 = .ok (.iload 6, 2) := by decide +kernel
theorem dX10_root_52 : decode cX10_root 52 = .ok (.ireturn, 1) := by decide +kernel
theorem dX10_root_53 : decode cX10_root 53 = .ok (.aload_n 0, 1) := by decide +kernel
theorem dX10_root_54 : decode cX10_root 54 = .ok (.getfield 39, 3) := by decide +kernel
theorem dX10_root_57 : decode cX10_root 57 = .ok (.iload_n 1, 1) := by decide +kernel
theorem dX10_root_58 : decode cX10_root 58 = .ok (.aaload, 1) := by decide +kernel
theorem dX10_root_59 : decode cX10_root 59 = .ok (.aload_n 0, 1) := by decide +kernel
theorem dX10_root_60 : decode cX10_root 60 = .ok (.getfield 72, 3) := by decide +kernel
theorem dX10_root_63 : decode cX10_root 63 = .ok (.iload 5, 2) := by decide +kernel
theorem dX10_root_65 : decode cX10_root 65 = .ok (.invokevirtual 162, 3) := by decide +kernel
theorem dX10_root_68 : decode cX10_root 68 = .ok (.aload_n 0, 1) := by decide +kernel
theorem dX10_root_69 : decode cX10_root 69 = .ok (.dup, 1) := by decide +kernel
theorem dX10_root_70 : decode cX10_root 70 = .ok (.getfield 96, 3) := by decide +kernel
theorem dX10_root_73 : decode cX10_root 73 = .ok (.iconst 1, 1) := by decide +kernel
theorem dX10_root_74 : decode cX10_root 74 = .ok (.iload_n 1, 1) := by decide +kernel
theorem dX10_root_75 : decode cX10_root 75 = .ok (.ishl, 1) := by decide +kernel
theorem dX10_root_76 : decode cX10_root 76 = .ok (.ior, 1) := by decide +kernel
theorem dX10_root_77 : decode cX10_root 77 = .ok (.putfield 96, 3) := by decide +kernel
theorem dX10_root_80 : decode cX10_root 80 = .ok (.iload 5, 2) := by decide +kernel
theorem dX10_root_82 : decode cX10_root 82 = .ok (.ireturn, 1) := by decide +kernel
theorem dX10_ofRoot_0 : decode cX10_ofRoot 0 = .ok (.iload_n 1, 1) := by decide +kernel
theorem dX10_ofRoot_1 : decode cX10_ofRoot 1 = .ok (.invokestatic 156, 3) := by decide +kernel
theorem dX10_ofRoot_4 : decode cX10_ofRoot 4 = .ok (.ifCond .eq 13, 3) := by decide +kernel
theorem dX10_ofRoot_7 : decode cX10_ofRoot 7 = .ok (.iload_n 2, 1) := by decide +kernel
theorem dX10_ofRoot_8 : decode cX10_ofRoot 8 = .ok (.iconst (-1), 1) := by decide +kernel
theorem dX10_ofRoot_9 : decode cX10_ofRoot 9 = .ok (.bipush 7, 2) := by decide +kernel
theorem dX10_ofRoot_11 : decode cX10_ofRoot 11 = .ok (.invokestatic 142, 3) := by decide +kernel
theorem dX10_ofRoot_14 : decode cX10_ofRoot 14 = .ok (.ifCond .ne 5, 3) := by decide +kernel
theorem dX10_ofRoot_17 : decode cX10_ofRoot 17 = .ok (.iconst (-1), 1) := by decide +kernel
theorem dX10_ofRoot_18 : decode cX10_ofRoot 18 = .ok (.ireturn, 1) := by decide +kernel
theorem dX10_ofRoot_19 : decode cX10_ofRoot 19 = .ok (.iload_n 1, 1) := by decide +kernel
theorem dX10_ofRoot_20 : decode cX10_ofRoot 20 = .ok (.aload_n 0, 1) := by decide +kernel
theorem dX10_ofRoot_21 : decode cX10_ofRoot 21 = .ok (.getfield 96, 3) := by decide +kernel
theorem dX10_ofRoot_24 : decode cX10_ofRoot 24 = .ok (.invokestatic 128, 3) := by decide +kernel
theorem dX10_ofRoot_27 : decode cX10_ofRoot 27 = .ok (.ifCond .eq 16, 3) := by decide +kernel
theorem dX10_ofRoot_30 : decode cX10_ofRoot 30 = .ok (.aload_n 0, 1) := by decide +kernel
theorem dX10_ofRoot_31 : decode cX10_ofRoot 31 = .ok (.getfield 39, 3) := by decide +kernel
theorem dX10_ofRoot_34 : decode cX10_ofRoot 34 = .ok (.iload_n 1, 1) := by decide +kernel
theorem dX10_ofRoot_35 : decode cX10_ofRoot 35 = .ok (.aaload, 1) := by decide +kernel
theorem dX10_ofRoot_36 : decode cX10_ofRoot 36 = .ok (.iload_n 2, 1) := by decide +kernel
theorem dX10_ofRoot_37 : decode cX10_ofRoot 37 = .ok (.invokevirtual 198, 3) := by decide +kernel
theorem dX10_ofRoot_40 : decode cX10_ofRoot 40 = .ok (.goto 5, 3) := by decide +kernel
theorem dX10_ofRoot_43 : decode cX10_ofRoot 43 = .ok (.bipush (-9), 2) := by decide +kernel
theorem dX10_ofRoot_45 : decode cX10_ofRoot 45 = .ok (.ireturn, 1) := by decide +kernel
theorem dX10_law_0 : decode cX10_law 0 = .ok (.aload_n 0, 1) := by decide +kernel
theorem dX10_law_1 : decode cX10_law 1 = .ok (.iconst 0, 1) := by decide +kernel
theorem dX10_law_2 : decode cX10_law 2 = .ok (.putfield 102, 3) := by decide +kernel
theorem dX10_law_5 : decode cX10_law 5 = .ok (.iload_n 2, 1) := by decide +kernel
theorem dX10_law_6 : decode cX10_law 6 = .ok (.iconst 4, 1) := by decide +kernel
theorem dX10_law_7 : decode cX10_law 7 = .ok (.invokestatic 114, 3) := by decide +kernel
theorem dX10_law_10 : decode cX10_law 10 = .ok (.ifCond .ne 5, 3) := by decide +kernel
theorem dX10_law_13 : decode cX10_law 13 = .ok (.iconst (-1), 1) := by decide +kernel
theorem dX10_law_14 : decode cX10_law 14 = .ok (.ireturn, 1) := by decide +kernel
theorem dX10_law_15 : decode cX10_law 15 = .ok (.iload_n 1, 1) := by decide +kernel
theorem dX10_law_16 : decode cX10_law 16 = .ok (.aload_n 0, 1) := by decide +kernel
theorem dX10_law_17 : decode cX10_law 17 = .ok (.getfield 89, 3) := by decide +kernel
theorem dX10_law_20 : decode cX10_law 20 = .ok (.invokestatic 118, 3) := by decide +kernel
theorem dX10_law_23 : decode cX10_law 23 = .ok (.ifCond .eq 11, 3) := by decide +kernel
theorem dX10_law_26 : decode cX10_law 26 = .ok (.iload_n 3, 1) := by decide +kernel
theorem dX10_law_27 : decode cX10_law 27 = .ok (.iconst 3, 1) := by decide +kernel
theorem dX10_law_28 : decode cX10_law 28 = .ok (.invokestatic 114, 3) := by decide +kernel
theorem dX10_law_31 : decode cX10_law 31 = .ok (.ifCond .ne 6, 3) := by decide +kernel
theorem dX10_law_34 : decode cX10_law 34 = .ok (.bipush (-2), 2) := by decide +kernel
theorem dX10_law_36 : decode cX10_law 36 = .ok (.ireturn, 1) := by decide +kernel
theorem dX10_law_37 : decode cX10_law 37 = .ok (.aload_n 0, 1) := by decide +kernel
theorem dX10_law_38 : decode cX10_law 38 = .ok (.iload_n 2, 1) := by decide +kernel
theorem dX10_law_39 : decode cX10_law 39 = .ok (.iload_n 3, 1) := by decide +kernel
theorem dX10_law_40 : decode cX10_law 40 = .ok (.iload 4, 2) := by decide +kernel
theorem dX10_law_42 : decode cX10_law 42 = .ok (.iload 5, 2) := by decide +kernel
theorem dX10_law_44 : decode cX10_law 44 = .ok (.invokevirtual 138, 3) := by decide +kernel
theorem dX10_law_47 : decode cX10_law 47 = .ok (.istore 6, 2) := by decide +kernel
theorem dX10_law_49 : decode cX10_law 49 = .ok (.iload 6, 2) := by decide +kernel
theorem dX10_law_51 : decode cX10_law 51 = .ok (.ifCond .eq 6, 3) := by decide +kernel
theorem dX10_law_54 : decode cX10_law 54 = .ok (.iload 6, 2) := by decide +kernel
theorem dX10_law_56 : decode cX10_law 56 = .ok (.ireturn, 1) := by decide +kernel
theorem dX10_law_57 : decode cX10_law 57 = .ok (.aload_n 0, 1) := by decide +kernel
theorem dX10_law_58 : decode cX10_law 58 = .ok (.getfield 48, 3) := by decide +kernel
theorem dX10_law_61 : decode cX10_law 61 = .ok (.aload_n 0, 1) := by decide +kernel
theorem dX10_law_62 : decode cX10_law 62 = .ok (.getfield 72, 3) := by decide +kernel
theorem dX10_law_65 : decode cX10_law 65 = .ok (.iload 5, 2) := by decide +kernel
theorem dX10_law_67 : decode cX10_law 67 = .ok (.invokevirtual 201, 3) := by decide +kernel
theorem dX10_law_70 : decode cX10_law 70 = .ok (.istore 7, 2) := by decide +kernel
theorem dX10_law_72 : decode cX10_law 72 = .ok (.iload 7, 2) := by decide +kernel
theorem dX10_law_74 : decode cX10_law 74 = .ok (.bipush (-9), 2) := by decide +kernel
theorem dX10_law_76 : decode cX10_law 76 = .ok (.if_icmp .eq 9, 3) := by decide +kernel
theorem dX10_law_79 : decode cX10_law 79 = .ok (.bipush (-100), 2) := by decide +kernel
theorem dX10_law_81 : decode cX10_law 81 = .ok (.iload 7, 2) := by decide +kernel
theorem dX10_law_83 : decode cX10_law 83 = .ok (.isub, 1) := by decide +kernel
theorem dX10_law_84 : decode cX10_law 84 = .ok (.ireturn, 1) := by decide +kernel
theorem dX10_law_85 : decode cX10_law 85 = .ok (.aload_n 0, 1) := by decide +kernel
theorem dX10_law_86 : decode cX10_law 86 = .ok (.getfield 48, 3) := by decide +kernel
theorem dX10_law_89 : decode cX10_law 89 = .ok (.iload_n 1, 1) := by decide +kernel
theorem dX10_law_90 : decode cX10_law 90 = .ok (.invokevirtual 205, 3) := by decide +kernel
theorem dX10_law_93 : decode cX10_law 93 = .ok (.ireturn, 1) := by decide +kernel
theorem dX10_force_0 : decode cX10_force 0 = .ok (.aload_n 0, 1) := by decide +kernel
theorem dX10_force_1 : decode cX10_force 1 = .ok (.iload_n 1, 1) := by decide +kernel
theorem dX10_force_2 : decode cX10_force 2 = .ok (.invokevirtual 208, 3) := by decide +kernel
theorem dX10_force_5 : decode cX10_force 5 = .ok (.ifCond .ne 5, 3) := by decide +kernel
theorem dX10_force_8 : decode cX10_force 8 = .ok (.iconst (-1), 1) := by decide +kernel
theorem dX10_force_9 : decode cX10_force 9 = .ok (.ireturn, 1) := by decide +kernel
theorem dX10_force_10 : decode cX10_force 10 = .ok (.iload_n 2, 1) := by decide +kernel
theorem dX10_force_11 : decode cX10_force 11 = .ok (.aload_n 0, 1) := by decide +kernel
theorem dX10_force_12 : decode cX10_force 12 = .ok (.getfield 89, 3) := by decide +kernel
theorem dX10_force_15 : decode cX10_force 15 = .ok (.invokestatic 118, 3) := by decide +kernel
theorem dX10_force_18 : decode cX10_force 18 = .ok (.ifCond .ne 6, 3) := by decide +kernel
theorem dX10_force_21 : decode cX10_force 21 = .ok (.bipush (-2), 2) := by decide +kernel
theorem dX10_force_23 : decode cX10_force 23 = .ok (.ireturn, 1) := by decide +kernel
theorem dX10_force_24 : decode cX10_force 24 = .ok (.aload_n 0, 1) := by decide +kernel
theorem dX10_force_25 : decode cX10_force 25 = .ok (.getfield 48, 3) := by decide +kernel
theorem dX10_force_28 : decode cX10_force 28 = .ok (.getfield 211, 3) := by decide +kernel
theorem dX10_force_31 : decode cX10_force 31 = .ok (.iload_n 1, 1) := by decide +kernel
theorem dX10_force_32 : decode cX10_force 32 = .ok (.aaload, 1) := by decide +kernel
theorem dX10_force_33 : decode cX10_force 33 = .ok (.getfield 215, 3) := by decide +kernel
theorem dX10_force_36 : decode cX10_force 36 = .ok (.istore_n 3, 1) := by decide +kernel
theorem dX10_force_37 : decode cX10_force 37 = .ok (.aload_n 0, 1) := by decide +kernel
theorem dX10_force_38 : decode cX10_force 38 = .ok (.getfield 48, 3) := by decide +kernel
theorem dX10_force_41 : decode cX10_force 41 = .ok (.getfield 211, 3) := by decide +kernel
theorem dX10_force_44 : decode cX10_force 44 = .ok (.iload_n 1, 1) := by decide +kernel
theorem dX10_force_45 : decode cX10_force 45 = .ok (.aaload, 1) := by decide +kernel
theorem dX10_force_46 : decode cX10_force 46 = .ok (.iload_n 2, 1) := by decide +kernel
theorem dX10_force_47 : decode cX10_force 47 = .ok (.putfield 215, 3) := by decide +kernel
theorem dX10_force_50 : decode cX10_force 50 = .ok (.iload_n 3, 1) := by decide +kernel
theorem dX10_force_51 : decode cX10_force 51 = .ok (.ireturn, 1) := by decide +kernel
theorem dX10_derived_0 : decode cX10_derived 0 = .ok (.aload_n 0, 1) := by decide +kernel
theorem dX10_derived_1 : decode cX10_derived 1 = .ok (.iload_n 1, 1) := by decide +kernel
theorem dX10_derived_2 : decode cX10_derived 2 = .ok (.invokevirtual 152, 3) := by decide +kernel
theorem dX10_derived_5 : decode cX10_derived 5 = .ok (.ifCond .eq 21, 3) := by decide +kernel
theorem dX10_derived_8 : decode cX10_derived 8 = .ok (.iload_n 2, 1) := by decide +kernel
theorem dX10_derived_9 : decode cX10_derived 9 = .ok (.invokestatic 156, 3) := by decide +kernel
theorem dX10_derived_12 : decode cX10_derived 12 = .ok (.ifCond .eq 14, 3) := by decide +kernel
theorem dX10_derived_15 : decode cX10_derived 15 = .ok (.iload 4, 2) := by decide +kernel
theorem dX10_derived_17 : decode cX10_derived 17 = .ok (.iconst (-1), 1) := by decide +kernel
theorem dX10_derived_18 : decode cX10_derived 18 = .ok (.bipush 7, 2) := by decide +kernel
theorem dX10_derived_20 : decode cX10_derived 20 = .ok (.invokestatic 142, 3) := by decide +kernel
theorem dX10_derived_23 : decode cX10_derived 23 = .ok (.ifCond .ne 5, 3) := by decide +kernel
theorem dX10_derived_26 : decode cX10_derived 26 = .ok (.iconst (-1), 1) := by decide +kernel
theorem dX10_derived_27 : decode cX10_derived 27 = .ok (.ireturn, 1) := by decide +kernel
theorem dX10_derived_28 : decode cX10_derived 28 = .ok (.iload_n 3, 1) := by decide +kernel
theorem dX10_derived_29 : decode cX10_derived 29 = .ok (.iconst 0, 1) := by decide +kernel
theorem dX10_derived_30 : decode cX10_derived 30 = .ok (.bipush 8, 2) := by decide +kernel
theorem dX10_derived_32 : decode cX10_derived 32 = .ok (.invokestatic 142, 3) := by decide +kernel
theorem dX10_derived_35 : decode cX10_derived 35 = .ok (.ifCond .ne 6, 3) := by decide +kernel
theorem dX10_derived_38 : decode cX10_derived 38 = .ok (.bipush (-2), 2) := by decide +kernel
theorem dX10_derived_40 : decode cX10_derived 40 = .ok (.ireturn, 1) := by decide +kernel
theorem dX10_derived_41 : decode cX10_derived 41 = .ok (.iload_n 2, 1) := by decide +kernel
theorem dX10_derived_42 : decode cX10_derived 42 = .ok (.aload_n 0, 1) := by decide +kernel
theorem dX10_derived_43 : decode cX10_derived 43 = .ok (.getfield 96, 3) := by decide +kernel
theorem dX10_derived_46 : decode cX10_derived 46 = .ok (.invokestatic 128, 3) := by decide +kernel
theorem dX10_derived_49 : decode cX10_derived 49 = .ok (.ifCond .ne 6, 3) := by decide +kernel
theorem dX10_derived_52 : decode cX10_derived 52 = .ok (.bipush (-3), 2) := by decide +kernel
theorem dX10_derived_54 : decode cX10_derived 54 = .ok (.ireturn, 1) := by decide +kernel
theorem dX10_derived_55 : decode cX10_derived 55 = .ok (.aload_n 0, 1) := by decide +kernel
theorem dX10_derived_56 : decode cX10_derived 56 = .ok (.getfield 76, 3) := by decide +kernel
theorem dX10_derived_59 : decode cX10_derived 59 = .ok (.aload_n 0, 1) := by decide +kernel
theorem dX10_derived_60 : decode cX10_derived 60 = .ok (.getfield 39, 3) := by decide +kernel
theorem dX10_derived_63 : decode cX10_derived 63 = .ok (.iload_n 2, 1) := by decide +kernel
theorem dX10_derived_64 : decode cX10_derived 64 = .ok (.aaload, 1) := by decide +kernel
theorem dX10_derived_65 : decode cX10_derived 65 = .ok (.invokevirtual 220, 3) := by decide +kernel
theorem dX10_derived_68 : decode cX10_derived 68 = .ok (.aload_n 0, 1) := by decide +kernel
theorem dX10_derived_69 : decode cX10_derived 69 = .ok (.getfield 48, 3) := by decide +kernel
theorem dX10_derived_72 : decode cX10_derived 72 = .ok (.iload_n 1, 1) := by decide +kernel
theorem dX10_derived_73 : decode cX10_derived 73 = .ok (.aload_n 0, 1) := by decide +kernel
theorem dX10_derived_74 : decode cX10_derived 74 = .ok (.getfield 76, 3) := by decide +kernel
theorem dX10_derived_77 : decode cX10_derived 77 = .ok (.iload_n 3, 1) := by decide +kernel
theorem dX10_derived_78 : decode cX10_derived 78 = .ok (.invokevirtual 223, 3) := by decide +kernel
theorem dX10_derived_81 : decode cX10_derived 81 = .ok (.pop, 1) := by decide +kernel
theorem dX10_derived_82 : decode cX10_derived 82 = .ok (.aload_n 0, 1) := by decide +kernel
theorem dX10_derived_83 : decode cX10_derived 83 = .ok (.getfield 76, 3) := by decide +kernel
theorem dX10_derived_86 : decode cX10_derived 86 = .ok (.iload 4, 2) := by decide +kernel
theorem dX10_derived_88 : decode cX10_derived 88 = .ok (.invokevirtual 198, 3) := by decide +kernel
theorem dX10_derived_91 : decode cX10_derived 91 = .ok (.ireturn, 1) := by decide +kernel
theorem dX10_latest_0 : decode cX10_latest 0 = .ok (.aload_n 0, 1) := by decide +kernel
theorem dX10_latest_1 : decode cX10_latest 1 = .ok (.iload_n 1, 1) := by decide +kernel
theorem dX10_latest_2 : decode cX10_latest 2 = .ok (.invokevirtual 152, 3) := by decide +kernel
theorem dX10_latest_5 : decode cX10_latest 5 = .ok (.ifCond .eq 10, 3) := by decide +kernel
theorem dX10_latest_8 : decode cX10_latest 8 = .ok (.iload_n 2, 1) := by decide +kernel
theorem dX10_latest_9 : decode cX10_latest 9 = .ok (.invokestatic 156, 3) := by decide +kernel
theorem dX10_latest_12 : decode cX10_latest 12 = .ok (.ifCond .ne 5, 3) := by decide +kernel
theorem dX10_latest_15 : decode cX10_latest 15 = .ok (.iconst (-1), 1) := by decide +kernel
theorem dX10_latest_16 : decode cX10_latest 16 = .ok (.ireturn, 1) := by decide +kernel
theorem dX10_latest_17 : decode cX10_latest 17 = .ok (.iload_n 2, 1) := by decide +kernel
theorem dX10_latest_18 : decode cX10_latest 18 = .ok (.aload_n 0, 1) := by decide +kernel
theorem dX10_latest_19 : decode cX10_latest 19 = .ok (.getfield 96, 3) := by decide +kernel
theorem dX10_latest_22 : decode cX10_latest 22 = .ok (.invokestatic 128, 3) := by decide +kernel
theorem dX10_latest_25 : decode cX10_latest 25 = .ok (.ifCond .ne 6, 3) := by decide +kernel
theorem dX10_latest_28 : decode cX10_latest 28 = .ok (.bipush (-3), 2) := by decide +kernel
theorem dX10_latest_30 : decode cX10_latest 30 = .ok (.ireturn, 1) := by decide +kernel
theorem dX10_latest_31 : decode cX10_latest 31 = .ok (.aload_n 0, 1) := by decide +kernel
theorem dX10_latest_32 : decode cX10_latest 32 = .ok (.getfield 76, 3) := by decide +kernel
theorem dX10_latest_35 : decode cX10_latest 35 = .ok (.aload_n 0, 1) := by decide +kernel
theorem dX10_latest_36 : decode cX10_latest 36 = .ok (.getfield 39, 3) := by decide +kernel
theorem dX10_latest_39 : decode cX10_latest 39 = .ok (.iload_n 2, 1) := by decide +kernel
theorem dX10_latest_40 : decode cX10_latest 40 = .ok (.aaload, 1) := by decide +kernel
theorem dX10_latest_41 : decode cX10_latest 41 = .ok (.invokevirtual 220, 3) := by decide +kernel
theorem dX10_latest_44 : decode cX10_latest 44 = .ok (.aload_n 0, 1) := by decide +kernel
theorem dX10_latest_45 : decode cX10_latest 45 = .ok (.getfield 48, 3) := by decide +kernel
theorem dX10_latest_48 : decode cX10_latest 48 = .ok (.iload_n 1, 1) := by decide +kernel
theorem dX10_latest_49 : decode cX10_latest 49 = .ok (.aload_n 0, 1) := by decide +kernel
theorem dX10_latest_50 : decode cX10_latest 50 = .ok (.getfield 76, 3) := by decide +kernel
theorem dX10_latest_53 : decode cX10_latest 53 = .ok (.bipush 8, 2) := by decide +kernel
theorem dX10_latest_55 : decode cX10_latest 55 = .ok (.invokevirtual 223, 3) := by decide +kernel
theorem dX10_latest_58 : decode cX10_latest 58 = .ok (.ireturn, 1) := by decide +kernel
theorem dX10_gap_0 : decode cX10_gap 0 = .ok (.iload_n 1, 1) := by decide +kernel
theorem dX10_gap_1 : decode cX10_gap 1 = .ok (.iconst 1, 1) := by decide +kernel
theorem dX10_gap_2 : decode cX10_gap 2 = .ok (.bipush 20, 2) := by decide +kernel
theorem dX10_gap_4 : decode cX10_gap 4 = .ok (.invokestatic 142, 3) := by decide +kernel
theorem dX10_gap_7 : decode cX10_gap 7 = .ok (.ifCond .ne 6, 3) := by decide +kernel
theorem dX10_gap_10 : decode cX10_gap 10 = .ok (.bipush (-2), 2) := by decide +kernel
theorem dX10_gap_12 : decode cX10_gap 12 = .ok (.ireturn, 1) := by decide +kernel
theorem dX10_gap_13 : decode cX10_gap 13 = .ok (.aload_n 0, 1) := by decide +kernel
theorem dX10_gap_14 : decode cX10_gap 14 = .ok (.getfield 55, 3) := by decide +kernel
theorem dX10_gap_17 : decode cX10_gap 17 = .ok (.getfield 227, 3) := by decide +kernel
theorem dX10_gap_20 : decode cX10_gap 20 = .ok (.istore_n 2, 1) := by decide +kernel
theorem dX10_gap_21 : decode cX10_gap 21 = .ok (.aload_n 0, 1) := by decide +kernel
theorem dX10_gap_22 : decode cX10_gap 22 = .ok (.getfield 55, 3) := by decide +kernel
theorem dX10_gap_25 : decode cX10_gap 25 = .ok (.iload_n 1, 1) := by decide +kernel
theorem dX10_gap_26 : decode cX10_gap 26 = .ok (.putfield 227, 3) := by decide +kernel
theorem dX10_gap_29 : decode cX10_gap 29 = .ok (.iload_n 2, 1) := by decide +kernel
theorem dX10_gap_30 : decode cX10_gap 30 = .ok (.ireturn, 1) := by decide +kernel
theorem dX10_cost_0 : decode cX10_cost 0 = .ok (.aload_n 0, 1) := by decide +kernel
theorem dX10_cost_1 : decode cX10_cost 1 = .ok (.iload_n 1, 1) := by decide +kernel
theorem dX10_cost_2 : decode cX10_cost 2 = .ok (.invokevirtual 176, 3) := by decide +kernel
theorem dX10_cost_5 : decode cX10_cost 5 = .ok (.ifCond .eq 11, 3) := by decide +kernel
theorem dX10_cost_8 : decode cX10_cost 8 = .ok (.aload_n 0, 1) := by decide +kernel
theorem dX10_cost_9 : decode cX10_cost 9 = .ok (.iload_n 2, 1) := by decide +kernel
theorem dX10_cost_10 : decode cX10_cost 10 = .ok (.invokevirtual 176, 3) := by decide +kernel
theorem dX10_cost_13 : decode cX10_cost 13 = .ok (.ifCond .ne 5, 3) := by decide +kernel
theorem dX10_cost_16 : decode cX10_cost 16 = .ok (.iconst (-1), 1) := by decide +kernel
theorem dX10_cost_17 : decode cX10_cost 17 = .ok (.ireturn, 1) := by decide +kernel
theorem dX10_cost_18 : decode cX10_cost 18 = .ok (.aload_n 0, 1) := by decide +kernel
theorem dX10_cost_19 : decode cX10_cost 19 = .ok (.getfield 55, 3) := by decide +kernel
theorem dX10_cost_22 : decode cX10_cost 22 = .ok (.aload_n 0, 1) := by decide +kernel
theorem dX10_cost_23 : decode cX10_cost 23 = .ok (.getfield 30, 3) := by decide +kernel
theorem dX10_cost_26 : decode cX10_cost 26 = .ok (.iload_n 1, 1) := by decide +kernel
theorem dX10_cost_27 : decode cX10_cost 27 = .ok (.aaload, 1) := by decide +kernel
theorem dX10_cost_28 : decode cX10_cost 28 = .ok (.getfield 188, 3) := by decide +kernel
theorem dX10_cost_31 : decode cX10_cost 31 = .ok (.aload_n 0, 1) := by decide +kernel
theorem dX10_cost_32 : decode cX10_cost 32 = .ok (.getfield 30, 3) := by decide +kernel
theorem dX10_cost_35 : decode cX10_cost 35 = .ok (.iload_n 2, 1) := by decide +kernel
theorem dX10_cost_36 : decode cX10_cost 36 = .ok (.aaload, 1) := by decide +kernel
theorem dX10_cost_37 : decode cX10_cost 37 = .ok (.getfield 188, 3) := by decide +kernel
theorem dX10_cost_40 : decode cX10_cost 40 = .ok (.invokevirtual 230, 3) := by decide +kernel
theorem dX10_cost_43 : decode cX10_cost 43 = .ok (.ireturn, 1) := by decide +kernel
theorem dX10_align_0 : decode cX10_align 0 = .ok (.aload_n 0, 1) := by decide +kernel
theorem dX10_align_1 : decode cX10_align 1 = .ok (.iload_n 1, 1) := by decide +kernel
theorem dX10_align_2 : decode cX10_align 2 = .ok (.invokevirtual 176, 3) := by decide +kernel
theorem dX10_align_5 : decode cX10_align 5 = .ok (.ifCond .eq 21, 3) := by decide +kernel
theorem dX10_align_8 : decode cX10_align 8 = .ok (.aload_n 0, 1) := by decide +kernel
theorem dX10_align_9 : decode cX10_align 9 = .ok (.iload_n 2, 1) := by decide +kernel
theorem dX10_align_10 : decode cX10_align 10 = .ok (.invokevirtual 176, 3) := by decide +kernel
theorem dX10_align_13 : decode cX10_align 13 = .ok (.ifCond .eq 13, 3) := by decide +kernel
theorem dX10_align_16 : decode cX10_align 16 = .ok (.iload_n 3, 1) := by decide +kernel
theorem dX10_align_17 : decode cX10_align 17 = .ok (.iconst (-1), 1) := by decide +kernel
theorem dX10_align_18 : decode cX10_align 18 = .ok (.bipush 15, 2) := by decide +kernel
theorem dX10_align_20 : decode cX10_align 20 = .ok (.invokestatic 142, 3) := by decide +kernel
theorem dX10_align_23 : decode cX10_align 23 = .ok (.ifCond .ne 5, 3) := by decide +kernel
theorem dX10_align_26 : decode cX10_align 26 = .ok (.iconst (-1), 1) := by decide +kernel
theorem dX10_align_27 : decode cX10_align 27 = .ok (.ireturn, 1) := by decide +kernel
theorem dX10_align_28 : decode cX10_align 28 = .ok (.aload_n 0, 1) := by decide +kernel
theorem dX10_align_29 : decode cX10_align 29 = .ok (.getfield 55, 3) := by decide +kernel
theorem dX10_align_32 : decode cX10_align 32 = .ok (.aload_n 0, 1) := by decide +kernel
theorem dX10_align_33 : decode cX10_align 33 = .ok (.getfield 30, 3) := by decide +kernel
theorem dX10_align_36 : decode cX10_align 36 = .ok (.iload_n 1, 1) := by decide +kernel
theorem dX10_align_37 : decode cX10_align 37 = .ok (.aaload, 1) := by decide +kernel
theorem dX10_align_38 : decode cX10_align 38 = .ok (.getfield 188, 3) := by decide +kernel
theorem dX10_align_41 : decode cX10_align 41 = .ok (.aload_n 0, 1) := by decide +kernel
theorem dX10_align_42 : decode cX10_align 42 = .ok (.getfield 30, 3) := by decide +kernel
theorem dX10_align_45 : decode cX10_align 45 = .ok (.iload_n 2, 1) := by decide +kernel
theorem dX10_align_46 : decode cX10_align 46 = .ok (.aaload, 1) := by decide +kernel
theorem dX10_align_47 : decode cX10_align 47 = .ok (.getfield 188, 3) := by decide +kernel
theorem dX10_align_50 : decode cX10_align 50 = .ok (.iload_n 3, 1) := by decide +kernel
theorem dX10_align_51 : decode cX10_align 51 = .ok (.invokevirtual 234, 3) := by decide +kernel
theorem dX10_align_54 : decode cX10_align 54 = .ok (.ireturn, 1) := by decide +kernel
theorem dX10_sought_0 : decode cX10_sought 0 = .ok (.iload_n 1, 1) := by decide +kernel
theorem dX10_sought_1 : decode cX10_sought 1 = .ok (.invokestatic 156, 3) := by decide +kernel
theorem dX10_sought_4 : decode cX10_sought 4 = .ok (.ifCond .eq 13, 3) := by decide +kernel
theorem dX10_sought_7 : decode cX10_sought 7 = .ok (.iload_n 3, 1) := by decide +kernel
theorem dX10_sought_8 : decode cX10_sought 8 = .ok (.bipush (-2), 2) := by decide +kernel
theorem dX10_sought_10 : decode cX10_sought 10 = .ok (.iconst 2, 1) := by decide +kernel
theorem dX10_sought_11 : decode cX10_sought 11 = .ok (.invokestatic 142, 3) := by decide +kernel
theorem dX10_sought_14 : decode cX10_sought 14 = .ok (.ifCond .ne 5, 3) := by decide +kernel
theorem dX10_sought_17 : decode cX10_sought 17 = .ok (.iconst (-1), 1) := by decide +kernel
theorem dX10_sought_18 : decode cX10_sought 18 = .ok (.ireturn, 1) := by decide +kernel
theorem dX10_sought_19 : decode cX10_sought 19 = .ok (.iload_n 2, 1) := by decide +kernel
theorem dX10_sought_20 : decode cX10_sought 20 = .ok (.invokestatic 238, 3) := by decide +kernel
theorem dX10_sought_23 : decode cX10_sought 23 = .ok (.ifCond .ne 6, 3) := by decide +kernel
theorem dX10_sought_26 : decode cX10_sought 26 = .ok (.bipush (-2), 2) := by decide +kernel
theorem dX10_sought_28 : decode cX10_sought 28 = .ok (.ireturn, 1) := by decide +kernel
theorem dX10_sought_29 : decode cX10_sought 29 = .ok (.aload_n 0, 1) := by decide +kernel
theorem dX10_sought_30 : decode cX10_sought 30 = .ok (.iload_n 1, 1) := by decide +kernel
theorem dX10_sought_31 : decode cX10_sought 31 = .ok (.invokevirtual 241, 3) := by decide +kernel
theorem dX10_sought_34 : decode cX10_sought 34 = .ok (.ifCond .ne 6, 3) := by decide +kernel
theorem dX10_sought_37 : decode cX10_sought 37 = .ok (.bipush (-3), 2) := by decide +kernel
theorem dX10_sought_39 : decode cX10_sought 39 = .ok (.ireturn, 1) := by decide +kernel
theorem dX10_sought_40 : decode cX10_sought 40 = .ok (.aload_n 0, 1) := by decide +kernel
theorem dX10_sought_41 : decode cX10_sought 41 = .ok (.iload_n 1, 1) := by decide +kernel
theorem dX10_sought_42 : decode cX10_sought 42 = .ok (.iload_n 2, 1) := by decide +kernel
theorem dX10_sought_43 : decode cX10_sought 43 = .ok (.invokevirtual 244, 3) := by decide +kernel
theorem dX10_sought_46 : decode cX10_sought 46 = .ok (.istore 4, 2) := by decide +kernel
theorem dX10_sought_48 : decode cX10_sought 48 = .ok (.iload_n 3, 1) := by decide +kernel
theorem dX10_sought_49 : decode cX10_sought 49 = .ok (.bipush (-2), 2) := by decide +kernel
theorem dX10_sought_51 : decode cX10_sought 51 = .ok (.if_icmp .ne 8, 3) := by decide +kernel
theorem dX10_sought_54 : decode cX10_sought 54 = .ok (.iload 4, 2) := by decide +kernel
theorem dX10_sought_56 : decode cX10_sought 56 = .ok (.goto 11, 3) := by decide +kernel
theorem dX10_sought_59 : decode cX10_sought 59 = .ok (.aload_n 0, 1) := by decide +kernel
theorem dX10_sought_60 : decode cX10_sought 60 = .ok (.getfield 83, 3) := by decide +kernel
theorem dX10_sought_63 : decode cX10_sought 63 = .ok (.iload_n 3, 1) := by decide +kernel
theorem dX10_sought_64 : decode cX10_sought 64 = .ok (.invokevirtual 198, 3) := by decide +kernel
theorem dX10_sought_67 : decode cX10_sought 67 = .ok (.ireturn, 1) := by decide +kernel
theorem dX10_seekBest_0 : decode cX10_seekBest 0 = .ok (.aload_n 0, 1) := by decide +kernel
theorem dX10_seekBest_1 : decode cX10_seekBest 1 = .ok (.getfield 62, 3) := by decide +kernel
theorem dX10_seekBest_4 : decode cX10_seekBest 4 = .ok (.iload_n 2, 1) := by decide +kernel
theorem dX10_seekBest_5 : decode cX10_seekBest 5 = .ok (.invokevirtual 247, 3) := by decide +kernel
theorem dX10_seekBest_8 : decode cX10_seekBest 8 = .ok (.ldc 253, 2) := by decide +kernel
theorem dX10_seekBest_10 : decode cX10_seekBest 10 = .ok (.istore_n 3, 1) := by decide +kernel
theorem dX10_seekBest_11 : decode cX10_seekBest 11 = .ok (.iconst 0, 1) := by decide +kernel
theorem dX10_seekBest_12 : decode cX10_seekBest 12 = .ok (.istore 4, 2) := by decide +kernel
theorem dX10_seekBest_14 : decode cX10_seekBest 14 = .ok (.iload 4, 2) := by decide +kernel
theorem dX10_seekBest_16 : decode cX10_seekBest 16 = .ok (.aload_n 0, 1) := by decide +kernel
theorem dX10_seekBest_17 : decode cX10_seekBest 17 = .ok (.getfield 62, 3) := by decide +kernel
theorem dX10_seekBest_20 : decode cX10_seekBest 20 = .ok (.getfield 254, 3) := by decide +kernel
theorem dX10_seekBest_23 : decode cX10_seekBest 23 = .ok (.if_icmp .ge 50, 3) := by decide +kernel
theorem dX10_seekBest_26 : decode cX10_seekBest 26 = .ok (.aload_n 0, 1) := by decide +kernel
theorem dX10_seekBest_27 : decode cX10_seekBest 27 = .ok (.getfield 62, 3) := by decide +kernel
theorem dX10_seekBest_30 : decode cX10_seekBest 30 = .ok (.aload_n 0, 1) := by decide +kernel
theorem dX10_seekBest_31 : decode cX10_seekBest 31 = .ok (.getfield 80, 3) := by decide +kernel
theorem dX10_seekBest_34 : decode cX10_seekBest 34 = .ok (.iload 4, 2) := by decide +kernel
theorem dX10_seekBest_36 : decode cX10_seekBest 36 = .ok (.invokevirtual 257, 3) := by decide +kernel
theorem dX10_seekBest_39 : decode cX10_seekBest 39 = .ok (.aload_n 0, 1) := by decide +kernel
theorem dX10_seekBest_40 : decode cX10_seekBest 40 = .ok (.iload_n 1, 1) := by decide +kernel
theorem dX10_seekBest_41 : decode cX10_seekBest 41 = .ok (.iload_n 3, 1) := by decide +kernel
theorem dX10_seekBest_42 : decode cX10_seekBest 42 = .ok (.invokevirtual 261, 3) := by decide +kernel
theorem dX10_seekBest_45 : decode cX10_seekBest 45 = .ok (.istore 5, 2) := by decide +kernel
theorem dX10_seekBest_47 : decode cX10_seekBest 47 = .ok (.iload 5, 2) := by decide +kernel
theorem dX10_seekBest_49 : decode cX10_seekBest 49 = .ok (.iload_n 3, 1) := by decide +kernel
theorem dX10_seekBest_50 : decode cX10_seekBest 50 = .ok (.if_icmp .ge 17, 3) := by decide +kernel
theorem dX10_seekBest_53 : decode cX10_seekBest 53 = .ok (.iload 5, 2) := by decide +kernel
theorem dX10_seekBest_55 : decode cX10_seekBest 55 = .ok (.istore_n 3, 1) := by decide +kernel
theorem dX10_seekBest_56 : decode cX10_seekBest 56 = .ok (.aload_n 0, 1) := by decide +kernel
theorem dX10_seekBest_57 : decode cX10_seekBest 57 = .ok (.getfield 83, 3) := by decide +kernel
theorem dX10_seekBest_60 : decode cX10_seekBest 60 = .ok (.aload_n 0, 1) := by decide +kernel
theorem dX10_seekBest_61 : decode cX10_seekBest 61 = .ok (.getfield 80, 3) := by decide +kernel
theorem dX10_seekBest_64 : decode cX10_seekBest 64 = .ok (.invokevirtual 220, 3) := by decide +kernel
theorem dX10_seekBest_67 : decode cX10_seekBest 67 = .ok (.iinc 4 1, 3) := by decide +kernel
theorem dX10_seekBest_70 : decode cX10_seekBest 70 = .ok (.goto (-56), 3) := by decide +kernel
theorem dX10_seekBest_73 : decode cX10_seekBest 73 = .ok (.iload_n 3, 1) := by decide +kernel
theorem dX10_seekBest_74 : decode cX10_seekBest 74 = .ok (.ireturn, 1) := by decide +kernel
theorem dX10_costsOfTrial_0 : decode cX10_costsOfTrial 0 = .ok (.iconst 0, 1) := by decide +kernel
theorem dX10_costsOfTrial_1 : decode cX10_costsOfTrial 1 = .ok (.istore_n 3, 1) := by decide +kernel
theorem dX10_costsOfTrial_2 : decode cX10_costsOfTrial 2 = .ok (.iconst 0, 1) := by decide +kernel
theorem dX10_costsOfTrial_3 : decode cX10_costsOfTrial 3 = .ok (.istore 4, 2) := by decide +kernel
theorem dX10_costsOfTrial_5 : decode cX10_costsOfTrial 5 = .ok (.iload 4, 2) := by decide +kernel
theorem dX10_costsOfTrial_7 : decode cX10_costsOfTrial 7 = .ok (.aload_n 0, 1) := by decide +kernel
theorem dX10_costsOfTrial_8 : decode cX10_costsOfTrial 8 = .ok (.getfield 89, 3) := by decide +kernel
theorem dX10_costsOfTrial_11 : decode cX10_costsOfTrial 11 = .ok (.if_icmp .ge 91, 3) := by decide +kernel
theorem dX10_costsOfTrial_14 : decode cX10_costsOfTrial 14 = .ok (.iload_n 3, 1) := by decide +kernel
theorem dX10_costsOfTrial_15 : decode cX10_costsOfTrial 15 = .ok (.iload_n 2, 1) := by decide +kernel
theorem dX10_costsOfTrial_16 : decode cX10_costsOfTrial 16 = .ok (.if_icmp .ge 86, 3) := by decide +kernel
theorem dX10_costsOfTrial_19 : decode cX10_costsOfTrial 19 = .ok (.aload_n 0, 1) := by decide +kernel
theorem dX10_costsOfTrial_20 : decode cX10_costsOfTrial 20 = .ok (.getfield 34, 3) := by decide +kernel
theorem dX10_costsOfTrial_23 : decode cX10_costsOfTrial 23 = .ok (.iload 4, 2) := by decide +kernel
theorem dX10_costsOfTrial_25 : decode cX10_costsOfTrial 25 = .ok (.bipush 6, 2) := by decide +kernel
theorem dX10_costsOfTrial_27 : decode cX10_costsOfTrial 27 = .ok (.imul, 1) := by decide +kernel
theorem dX10_costsOfTrial_28 : decode cX10_costsOfTrial 28 = .ok (.iload_n 1, 1) := by decide +kernel
theorem dX10_costsOfTrial_29 : decode cX10_costsOfTrial 29 = .ok (.iadd, 1) := by decide +kernel
theorem dX10_costsOfTrial_30 : decode cX10_costsOfTrial 30 = .ok (.iaload, 1) := by decide +kernel
theorem dX10_costsOfTrial_31 : decode cX10_costsOfTrial 31 = .ok (.istore 5, 2) := by decide +kernel
theorem dX10_costsOfTrial_33 : decode cX10_costsOfTrial 33 = .ok (.aload_n 0, 1) := by decide +kernel
theorem dX10_costsOfTrial_34 : decode cX10_costsOfTrial 34 = .ok (.iload 5, 2) := by decide +kernel
theorem dX10_costsOfTrial_36 : decode cX10_costsOfTrial 36 = .ok (.invokevirtual 176, 3) := by decide +kernel
theorem dX10_costsOfTrial_39 : decode cX10_costsOfTrial 39 = .ok (.ifCond .ne 6, 3) := by decide +kernel
theorem dX10_costsOfTrial_42 : decode cX10_costsOfTrial 42 = .ok (.goto 54, 3) := by decide +kernel
theorem dX10_costsOfTrial_45 : decode cX10_costsOfTrial 45 = .ok (.aload_n 0, 1) := by decide +kernel
theorem dX10_costsOfTrial_46 : decode cX10_costsOfTrial 46 = .ok (.getfield 76, 3) := by decide +kernel
theorem dX10_costsOfTrial_49 : decode cX10_costsOfTrial 49 = .ok (.aload_n 0, 1) := by decide +kernel
theorem dX10_costsOfTrial_50 : decode cX10_costsOfTrial 50 = .ok (.getfield 80, 3) := by decide +kernel
theorem dX10_costsOfTrial_53 : decode cX10_costsOfTrial 53 = .ok (.invokevirtual 220, 3) := by decide +kernel
theorem dX10_costsOfTrial_56 : decode cX10_costsOfTrial 56 = .ok (.aload_n 0, 1) := by decide +kernel
theorem dX10_costsOfTrial_57 : decode cX10_costsOfTrial 57 = .ok (.getfield 48, 3) := by decide +kernel
theorem dX10_costsOfTrial_60 : decode cX10_costsOfTrial 60 = .ok (.iload 4, 2) := by decide +kernel
theorem dX10_costsOfTrial_62 : decode cX10_costsOfTrial 62 = .ok (.aload_n 0, 1) := by decide +kernel
theorem dX10_costsOfTrial_63 : decode cX10_costsOfTrial 63 = .ok (.getfield 76, 3) := by decide +kernel
theorem dX10_costsOfTrial_66 : decode cX10_costsOfTrial 66 = .ok (.bipush 8, 2) := by decide +kernel
theorem dX10_costsOfTrial_68 : decode cX10_costsOfTrial 68 = .ok (.invokevirtual 223, 3) := by decide +kernel
theorem dX10_costsOfTrial_71 : decode cX10_costsOfTrial 71 = .ok (.pop, 1) := by decide +kernel
theorem dX10_costsOfTrial_72 : decode cX10_costsOfTrial 72 = .ok (.iload_n 3, 1) := by decide +kernel
theorem dX10_costsOfTrial_73 : decode cX10_costsOfTrial 73 = .ok (.aload_n 0, 1) := by decide +kernel
theorem dX10_costsOfTrial_74 : decode cX10_costsOfTrial 74 = .ok (.getfield 55, 3) := by decide +kernel
theorem dX10_costsOfTrial_77 : decode cX10_costsOfTrial 77 = .ok (.aload_n 0, 1) := by decide +kernel
theorem dX10_costsOfTrial_78 : decode cX10_costsOfTrial 78 = .ok (.getfield 76, 3) := by decide +kernel
theorem dX10_costsOfTrial_81 : decode cX10_costsOfTrial 81 = .ok (.aload_n 0, 1) := by decide +kernel
theorem dX10_costsOfTrial_82 : decode cX10_costsOfTrial 82 = .ok (.getfield 30, 3) := by decide +kernel
theorem dX10_costsOfTrial_85 : decode cX10_costsOfTrial 85 = .ok (.iload 5, 2) := by decide +kernel
theorem dX10_costsOfTrial_87 : decode cX10_costsOfTrial 87 = .ok (.aaload, 1) := by decide +kernel
theorem dX10_costsOfTrial_88 : decode cX10_costsOfTrial 88 = .ok (.getfield 188, 3) := by decide +kernel
theorem dX10_costsOfTrial_91 : decode cX10_costsOfTrial 91 = .ok (.invokevirtual 230, 3) := by decide +kernel
theorem dX10_costsOfTrial_94 : decode cX10_costsOfTrial 94 = .ok (.iadd, 1) := by decide +kernel
theorem dX10_costsOfTrial_95 : decode cX10_costsOfTrial 95 = .ok (.istore_n 3, 1) := by decide +kernel
theorem dX10_costsOfTrial_96 : decode cX10_costsOfTrial 96 = .ok (.iinc 4 1, 3) := by decide +kernel
theorem dX10_costsOfTrial_99 : decode cX10_costsOfTrial 99 = .ok (.goto (-94), 3) := by decide +kernel
theorem dX10_costsOfTrial_102 : decode cX10_costsOfTrial 102 = .ok (.iload_n 3, 1) := by decide +kernel
theorem dX10_costsOfTrial_103 : decode cX10_costsOfTrial 103 = .ok (.ireturn, 1) := by decide +kernel
theorem dX10_regular_0 : decode cX10_regular 0 = .ok (.aload_n 0, 1) := by decide +kernel
theorem dX10_regular_1 : decode cX10_regular 1 = .ok (.iload_n 1, 1) := by decide +kernel
theorem dX10_regular_2 : decode cX10_regular 2 = .ok (.invokevirtual 176, 3) := by decide +kernel
theorem dX10_regular_5 : decode cX10_regular 5 = .ok (.ifCond .ne 5, 3) := by decide +kernel
theorem dX10_regular_8 : decode cX10_regular 8 = .ok (.iconst (-1), 1) := by decide +kernel
theorem dX10_regular_9 : decode cX10_regular 9 = .ok (.ireturn, 1) := by decide +kernel
theorem dX10_regular_10 : decode cX10_regular 10 = .ok (.aload_n 0, 1) := by decide +kernel
theorem dX10_regular_11 : decode cX10_regular 11 = .ok (.getfield 30, 3) := by decide +kernel
theorem dX10_regular_14 : decode cX10_regular 14 = .ok (.iload_n 1, 1) := by decide +kernel
theorem dX10_regular_15 : decode cX10_regular 15 = .ok (.aaload, 1) := by decide +kernel
theorem dX10_regular_16 : decode cX10_regular 16 = .ok (.astore_n 2, 1) := by decide +kernel
theorem dX10_regular_17 : decode cX10_regular 17 = .ok (.aload_n 2, 1) := by decide +kernel
theorem dX10_regular_18 : decode cX10_regular 18 = .ok (.getfield 185, 3) := by decide +kernel
theorem dX10_regular_21 : decode cX10_regular 21 = .ok (.aload_n 0, 1) := by decide +kernel
theorem dX10_regular_22 : decode cX10_regular 22 = .ok (.getfield 96, 3) := by decide +kernel
theorem dX10_regular_25 : decode cX10_regular 25 = .ok (.invokestatic 128, 3) := by decide +kernel
theorem dX10_regular_28 : decode cX10_regular 28 = .ok (.ifCond .ne 6, 3) := by decide +kernel
theorem dX10_regular_31 : decode cX10_regular 31 = .ok (.bipush (-3), 2) := by decide +kernel
theorem dX10_regular_33 : decode cX10_regular 33 = .ok (.ireturn, 1) := by decide +kernel
theorem dX10_regular_34 : decode cX10_regular 34 = .ok (.aload_n 0, 1) := by decide +kernel
theorem dX10_regular_35 : decode cX10_regular 35 = .ok (.getfield 76, 3) := by decide +kernel
theorem dX10_regular_38 : decode cX10_regular 38 = .ok (.aload_n 0, 1) := by decide +kernel
theorem dX10_regular_39 : decode cX10_regular 39 = .ok (.getfield 39, 3) := by decide +kernel
theorem dX10_regular_42 : decode cX10_regular 42 = .ok (.aload_n 2, 1) := by decide +kernel
theorem dX10_regular_43 : decode cX10_regular 43 = .ok (.getfield 185, 3) := by decide +kernel
theorem dX10_regular_46 : decode cX10_regular 46 = .ok (.aaload, 1) := by decide +kernel
theorem dX10_regular_47 : decode cX10_regular 47 = .ok (.invokevirtual 220, 3) := by decide +kernel
theorem dX10_regular_50 : decode cX10_regular 50 = .ok (.aload_n 0, 1) := by decide +kernel
theorem dX10_regular_51 : decode cX10_regular 51 = .ok (.getfield 48, 3) := by decide +kernel
theorem dX10_regular_54 : decode cX10_regular 54 = .ok (.aload_n 2, 1) := by decide +kernel
theorem dX10_regular_55 : decode cX10_regular 55 = .ok (.getfield 182, 3) := by decide +kernel
theorem dX10_regular_58 : decode cX10_regular 58 = .ok (.aload_n 0, 1) := by decide +kernel
theorem dX10_regular_59 : decode cX10_regular 59 = .ok (.getfield 76, 3) := by decide +kernel
theorem dX10_regular_62 : decode cX10_regular 62 = .ok (.bipush 8, 2) := by decide +kernel
theorem dX10_regular_64 : decode cX10_regular 64 = .ok (.invokevirtual 223, 3) := by decide +kernel
theorem dX10_regular_67 : decode cX10_regular 67 = .ok (.pop, 1) := by decide +kernel
theorem dX10_regular_68 : decode cX10_regular 68 = .ok (.aload_n 0, 1) := by decide +kernel
theorem dX10_regular_69 : decode cX10_regular 69 = .ok (.getfield 76, 3) := by decide +kernel
theorem dX10_regular_72 : decode cX10_regular 72 = .ok (.aload_n 2, 1) := by decide +kernel
theorem dX10_regular_73 : decode cX10_regular 73 = .ok (.getfield 188, 3) := by decide +kernel
theorem dX10_regular_76 : decode cX10_regular 76 = .ok (.invokevirtual 264, 3) := by decide +kernel
theorem dX10_regular_79 : decode cX10_regular 79 = .ok (.ifCond .eq 7, 3) := by decide +kernel
theorem dX10_regular_82 : decode cX10_regular 82 = .ok (.iconst 1, 1) := by decide +kernel
theorem dX10_regular_83 : decode cX10_regular 83 = .ok (.goto 4, 3) := by decide +kernel
theorem dX10_regular_86 : decode cX10_regular 86 = .ok (.iconst 0, 1) := by decide +kernel
theorem dX10_regular_87 : decode cX10_regular 87 = .ok (.ireturn, 1) := by decide +kernel
theorem dX10_ways_0 : decode cX10_ways 0 = .ok (.aload_n 0, 1) := by decide +kernel
theorem dX10_ways_1 : decode cX10_ways 1 = .ok (.iload_n 1, 1) := by decide +kernel
theorem dX10_ways_2 : decode cX10_ways 2 = .ok (.invokevirtual 176, 3) := by decide +kernel
theorem dX10_ways_5 : decode cX10_ways 5 = .ok (.ifCond .ne 5, 3) := by decide +kernel
theorem dX10_ways_8 : decode cX10_ways 8 = .ok (.iconst (-1), 1) := by decide +kernel
theorem dX10_ways_9 : decode cX10_ways 9 = .ok (.ireturn, 1) := by decide +kernel
theorem dX10_ways_10 : decode cX10_ways 10 = .ok (.iload_n 2, 1) := by decide +kernel
theorem dX10_ways_11 : decode cX10_ways 11 = .ok (.invokestatic 238, 3) := by decide +kernel
theorem dX10_ways_14 : decode cX10_ways 14 = .ok (.ifCond .ne 6, 3) := by decide +kernel
theorem dX10_ways_17 : decode cX10_ways 17 = .ok (.bipush (-2), 2) := by decide +kernel
theorem dX10_ways_19 : decode cX10_ways 19 = .ok (.ireturn, 1) := by decide +kernel
theorem dX10_ways_20 : decode cX10_ways 20 = .ok (.aload_n 0, 1) := by decide +kernel
theorem dX10_ways_21 : decode cX10_ways 21 = .ok (.getfield 62, 3) := by decide +kernel
theorem dX10_ways_24 : decode cX10_ways 24 = .ok (.iload_n 2, 1) := by decide +kernel
theorem dX10_ways_25 : decode cX10_ways 25 = .ok (.invokevirtual 247, 3) := by decide +kernel
theorem dX10_ways_28 : decode cX10_ways 28 = .ok (.iconst 0, 1) := by decide +kernel
theorem dX10_ways_29 : decode cX10_ways 29 = .ok (.istore_n 3, 1) := by decide +kernel
theorem dX10_ways_30 : decode cX10_ways 30 = .ok (.iconst 0, 1) := by decide +kernel
theorem dX10_ways_31 : decode cX10_ways 31 = .ok (.istore 4, 2) := by decide +kernel
theorem dX10_ways_33 : decode cX10_ways 33 = .ok (.iload 4, 2) := by decide +kernel
theorem dX10_ways_35 : decode cX10_ways 35 = .ok (.aload_n 0, 1) := by decide +kernel
theorem dX10_ways_36 : decode cX10_ways 36 = .ok (.getfield 62, 3) := by decide +kernel
theorem dX10_ways_39 : decode cX10_ways 39 = .ok (.getfield 254, 3) := by decide +kernel
theorem dX10_ways_42 : decode cX10_ways 42 = .ok (.if_icmp .ge 67, 3) := by decide +kernel
theorem dX10_ways_45 : decode cX10_ways 45 = .ok (.aload_n 0, 1) := by decide +kernel
theorem dX10_ways_46 : decode cX10_ways 46 = .ok (.getfield 62, 3) := by decide +kernel
theorem dX10_ways_49 : decode cX10_ways 49 = .ok (.aload_n 0, 1) := by decide +kernel
theorem dX10_ways_50 : decode cX10_ways 50 = .ok (.getfield 76, 3) := by decide +kernel
theorem dX10_ways_53 : decode cX10_ways 53 = .ok (.iload 4, 2) := by decide +kernel
theorem dX10_ways_55 : decode cX10_ways 55 = .ok (.invokevirtual 257, 3) := by decide +kernel
theorem dX10_ways_58 : decode cX10_ways 58 = .ok (.aload_n 0, 1) := by decide +kernel
theorem dX10_ways_59 : decode cX10_ways 59 = .ok (.getfield 48, 3) := by decide +kernel
theorem dX10_ways_62 : decode cX10_ways 62 = .ok (.aload_n 0, 1) := by decide +kernel
theorem dX10_ways_63 : decode cX10_ways 63 = .ok (.getfield 30, 3) := by decide +kernel
theorem dX10_ways_66 : decode cX10_ways 66 = .ok (.iload_n 1, 1) := by decide +kernel
theorem dX10_ways_67 : decode cX10_ways 67 = .ok (.aaload, 1) := by decide +kernel
theorem dX10_ways_68 : decode cX10_ways 68 = .ok (.getfield 182, 3) := by decide +kernel
theorem dX10_ways_71 : decode cX10_ways 71 = .ok (.aload_n 0, 1) := by decide +kernel
theorem dX10_ways_72 : decode cX10_ways 72 = .ok (.getfield 76, 3) := by decide +kernel
theorem dX10_ways_75 : decode cX10_ways 75 = .ok (.bipush 8, 2) := by decide +kernel
theorem dX10_ways_77 : decode cX10_ways 77 = .ok (.invokevirtual 223, 3) := by decide +kernel
theorem dX10_ways_80 : decode cX10_ways 80 = .ok (.pop, 1) := by decide +kernel
theorem dX10_ways_81 : decode cX10_ways 81 = .ok (.aload_n 0, 1) := by decide +kernel
theorem dX10_ways_82 : decode cX10_ways 82 = .ok (.getfield 76, 3) := by decide +kernel
theorem dX10_ways_85 : decode cX10_ways 85 = .ok (.aload_n 0, 1) := by decide +kernel
theorem dX10_ways_86 : decode cX10_ways 86 = .ok (.getfield 30, 3) := by decide +kernel
theorem dX10_ways_89 : decode cX10_ways 89 = .ok (.iload_n 1, 1) := by decide +kernel
theorem dX10_ways_90 : decode cX10_ways 90 = .ok (.aaload, 1) := by decide +kernel
theorem dX10_ways_91 : decode cX10_ways 91 = .ok (.getfield 188, 3) := by decide +kernel
theorem dX10_ways_94 : decode cX10_ways 94 = .ok (.invokevirtual 264, 3) := by decide +kernel
theorem dX10_ways_97 : decode cX10_ways 97 = .ok (.ifCond .eq 6, 3) := by decide +kernel
theorem dX10_ways_100 : decode cX10_ways 100 = .ok (.iinc 3 1, 3) := by decide +kernel
theorem dX10_ways_103 : decode cX10_ways 103 = .ok (.iinc 4 1, 3) := by decide +kernel
theorem dX10_ways_106 : decode cX10_ways 106 = .ok (.goto (-73), 3) := by decide +kernel
theorem dX10_ways_109 : decode cX10_ways 109 = .ok (.iload_n 3, 1) := by decide +kernel
theorem dX10_ways_110 : decode cX10_ways 110 = .ok (.ireturn, 1) := by decide +kernel
theorem dX10_order_0 : decode cX10_order 0 = .ok (.aload_n 0, 1) := by decide +kernel
theorem dX10_order_1 : decode cX10_order 1 = .ok (.iload_n 1, 1) := by decide +kernel
theorem dX10_order_2 : decode cX10_order 2 = .ok (.invokevirtual 152, 3) := by decide +kernel
theorem dX10_order_5 : decode cX10_order 5 = .ok (.ifCond .eq 13, 3) := by decide +kernel
theorem dX10_order_8 : decode cX10_order 8 = .ok (.iload_n 2, 1) := by decide +kernel
theorem dX10_order_9 : decode cX10_order 9 = .ok (.iconst (-1), 1) := by decide +kernel
theorem dX10_order_10 : decode cX10_order 10 = .ok (.bipush 7, 2) := by decide +kernel
theorem dX10_order_12 : decode cX10_order 12 = .ok (.invokestatic 142, 3) := by decide +kernel
theorem dX10_order_15 : decode cX10_order 15 = .ok (.ifCond .ne 5, 3) := by decide +kernel
theorem dX10_order_18 : decode cX10_order 18 = .ok (.iconst (-1), 1) := by decide +kernel
theorem dX10_order_19 : decode cX10_order 19 = .ok (.ireturn, 1) := by decide +kernel
theorem dX10_order_20 : decode cX10_order 20 = .ok (.aload_n 0, 1) := by decide +kernel
theorem dX10_order_21 : decode cX10_order 21 = .ok (.getfield 48, 3) := by decide +kernel
theorem dX10_order_24 : decode cX10_order 24 = .ok (.iload_n 1, 1) := by decide +kernel
theorem dX10_order_25 : decode cX10_order 25 = .ok (.aload_n 0, 1) := by decide +kernel
theorem dX10_order_26 : decode cX10_order 26 = .ok (.getfield 80, 3) := by decide +kernel
theorem dX10_order_29 : decode cX10_order 29 = .ok (.invokevirtual 268, 3) := by decide +kernel
theorem dX10_order_32 : decode cX10_order 32 = .ok (.aload_n 0, 1) := by decide +kernel
theorem dX10_order_33 : decode cX10_order 33 = .ok (.getfield 80, 3) := by decide +kernel
theorem dX10_order_36 : decode cX10_order 36 = .ok (.getfield 191, 3) := by decide +kernel
theorem dX10_order_39 : decode cX10_order 39 = .ok (.bipush 6, 2) := by decide +kernel
theorem dX10_order_41 : decode cX10_order 41 = .ok (.if_icmp .le 6, 3) := by decide +kernel
theorem dX10_order_44 : decode cX10_order 44 = .ok (.bipush (-3), 2) := by decide +kernel
theorem dX10_order_46 : decode cX10_order 46 = .ok (.ireturn, 1) := by decide +kernel
theorem dX10_order_47 : decode cX10_order 47 = .ok (.aload_n 0, 1) := by decide +kernel
theorem dX10_order_48 : decode cX10_order 48 = .ok (.iload_n 1, 1) := by decide +kernel
theorem dX10_order_49 : decode cX10_order 49 = .ok (.invokevirtual 272, 3) := by decide +kernel
theorem dX10_order_52 : decode cX10_order 52 = .ok (.istore_n 3, 1) := by decide +kernel
theorem dX10_order_53 : decode cX10_order 53 = .ok (.iload_n 2, 1) := by decide +kernel
theorem dX10_order_54 : decode cX10_order 54 = .ok (.iconst (-1), 1) := by decide +kernel
theorem dX10_order_55 : decode cX10_order 55 = .ok (.if_icmp .ne 7, 3) := by decide +kernel
theorem dX10_order_58 : decode cX10_order 58 = .ok (.iload_n 3, 1) := by decide +kernel
theorem dX10_order_59 : decode cX10_order 59 = .ok (.goto 11, 3) := by decide +kernel
theorem dX10_order_62 : decode cX10_order 62 = .ok (.aload_n 0, 1) := by decide +kernel
theorem dX10_order_63 : decode cX10_order 63 = .ok (.getfield 83, 3) := by decide +kernel
theorem dX10_order_66 : decode cX10_order 66 = .ok (.iload_n 2, 1) := by decide +kernel
theorem dX10_order_67 : decode cX10_order 67 = .ok (.invokevirtual 194, 3) := by decide +kernel
theorem dX10_order_70 : decode cX10_order 70 = .ok (.ireturn, 1) := by decide +kernel
theorem dX10_orderBest_0 : decode cX10_orderBest 0 = .ok (.iconst (-1), 1) := by decide +kernel
theorem dX10_orderBest_1 : decode cX10_orderBest 1 = .ok (.istore_n 2, 1) := by decide +kernel
theorem dX10_orderBest_2 : decode cX10_orderBest 2 = .ok (.iconst 1, 1) := by decide +kernel
theorem dX10_orderBest_3 : decode cX10_orderBest 3 = .ok (.istore_n 3, 1) := by decide +kernel
theorem dX10_orderBest_4 : decode cX10_orderBest 4 = .ok (.iconst 0, 1) := by decide +kernel
theorem dX10_orderBest_5 : decode cX10_orderBest 5 = .ok (.istore 4, 2) := by decide +kernel
theorem dX10_orderBest_7 : decode cX10_orderBest 7 = .ok (.iload 4, 2) := by decide +kernel
theorem dX10_orderBest_9 : decode cX10_orderBest 9 = .ok (.sipush 720, 3) := by decide +kernel
theorem dX10_orderBest_12 : decode cX10_orderBest 12 = .ok (.if_icmp .ge 48, 3) := by decide +kernel
theorem dX10_orderBest_15 : decode cX10_orderBest 15 = .ok (.iload_n 3, 1) := by decide +kernel
theorem dX10_orderBest_16 : decode cX10_orderBest 16 = .ok (.ifCond .eq 44, 3) := by decide +kernel
theorem dX10_orderBest_19 : decode cX10_orderBest 19 = .ok (.aload_n 0, 1) := by decide +kernel
theorem dX10_orderBest_20 : decode cX10_orderBest 20 = .ok (.iload_n 1, 1) := by decide +kernel
theorem dX10_orderBest_21 : decode cX10_orderBest 21 = .ok (.invokevirtual 275, 3) := by decide +kernel
theorem dX10_orderBest_24 : decode cX10_orderBest 24 = .ok (.istore 5, 2) := by decide +kernel
theorem dX10_orderBest_26 : decode cX10_orderBest 26 = .ok (.iload 5, 2) := by decide +kernel
theorem dX10_orderBest_28 : decode cX10_orderBest 28 = .ok (.iload_n 2, 1) := by decide +kernel
theorem dX10_orderBest_29 : decode cX10_orderBest 29 = .ok (.if_icmp .le 17, 3) := by decide +kernel
theorem dX10_orderBest_32 : decode cX10_orderBest 32 = .ok (.iload 5, 2) := by decide +kernel
theorem dX10_orderBest_34 : decode cX10_orderBest 34 = .ok (.istore_n 2, 1) := by decide +kernel
theorem dX10_orderBest_35 : decode cX10_orderBest 35 = .ok (.aload_n 0, 1) := by decide +kernel
theorem dX10_orderBest_36 : decode cX10_orderBest 36 = .ok (.getfield 83, 3) := by decide +kernel
theorem dX10_orderBest_39 : decode cX10_orderBest 39 = .ok (.aload_n 0, 1) := by decide +kernel
theorem dX10_orderBest_40 : decode cX10_orderBest 40 = .ok (.getfield 80, 3) := by decide +kernel
theorem dX10_orderBest_43 : decode cX10_orderBest 43 = .ok (.invokevirtual 220, 3) := by decide +kernel
theorem dX10_orderBest_46 : decode cX10_orderBest 46 = .ok (.aload_n 0, 1) := by decide +kernel
theorem dX10_orderBest_47 : decode cX10_orderBest 47 = .ok (.getfield 80, 3) := by decide +kernel
theorem dX10_orderBest_50 : decode cX10_orderBest 50 = .ok (.invokevirtual 278, 3) := by decide +kernel
theorem dX10_orderBest_53 : decode cX10_orderBest 53 = .ok (.istore_n 3, 1) := by decide +kernel
theorem dX10_orderBest_54 : decode cX10_orderBest 54 = .ok (.iinc 4 1, 3) := by decide +kernel
theorem dX10_orderBest_57 : decode cX10_orderBest 57 = .ok (.goto (-50), 3) := by decide +kernel
theorem dX10_orderBest_60 : decode cX10_orderBest 60 = .ok (.iload_n 2, 1) := by decide +kernel
theorem dX10_orderBest_61 : decode cX10_orderBest 61 = .ok (.ireturn, 1) := by decide +kernel
theorem dX10_regularByTrial_0 : decode cX10_regularByTrial 0 = .ok (.iconst 0, 1) := by decide +kernel
theorem dX10_regularByTrial_1 : decode cX10_regularByTrial 1 = .ok (.istore_n 2, 1) := by decide +kernel
theorem dX10_regularByTrial_2 : decode cX10_regularByTrial 2 = .ok (.iconst 0, 1) := by decide +kernel
theorem dX10_regularByTrial_3 : decode cX10_regularByTrial 3 = .ok (.istore_n 3, 1) := by decide +kernel
theorem dX10_regularByTrial_4 : decode cX10_regularByTrial 4 = .ok (.iload_n 3, 1) := by decide +kernel
theorem dX10_regularByTrial_5 : decode cX10_regularByTrial 5 = .ok (.bipush 6, 2) := by decide +kernel
theorem dX10_regularByTrial_7 : decode cX10_regularByTrial 7 = .ok (.if_icmp .ge 96, 3) := by decide +kernel
theorem dX10_regularByTrial_10 : decode cX10_regularByTrial 10 = .ok (.aload_n 0, 1) := by decide +kernel
theorem dX10_regularByTrial_11 : decode cX10_regularByTrial 11 = .ok (.getfield 34, 3) := by decide +kernel
theorem dX10_regularByTrial_14 : decode cX10_regularByTrial 14 = .ok (.iload_n 1, 1) := by decide +kernel
theorem dX10_regularByTrial_15 : decode cX10_regularByTrial 15 = .ok (.bipush 6, 2) := by decide +kernel
theorem dX10_regularByTrial_17 : decode cX10_regularByTrial 17 = .ok (.imul, 1) := by decide +kernel
theorem dX10_regularByTrial_18 : decode cX10_regularByTrial 18 = .ok (.iload_n 3, 1) := by decide +kernel
theorem dX10_regularByTrial_19 : decode cX10_regularByTrial 19 = .ok (.iadd, 1) := by decide +kernel
theorem dX10_regularByTrial_20 : decode cX10_regularByTrial 20 = .ok (.iaload, 1) := by decide +kernel
theorem dX10_regularByTrial_21 : decode cX10_regularByTrial 21 = .ok (.istore 4, 2) := by decide +kernel
theorem dX10_regularByTrial_23 : decode cX10_regularByTrial 23 = .ok (.aload_n 0, 1) := by decide +kernel
theorem dX10_regularByTrial_24 : decode cX10_regularByTrial 24 = .ok (.iload 4, 2) := by decide +kernel
theorem dX10_regularByTrial_26 : decode cX10_regularByTrial 26 = .ok (.invokevirtual 176, 3) := by decide +kernel
theorem dX10_regularByTrial_29 : decode cX10_regularByTrial 29 = .ok (.ifCond .eq 68, 3) := by decide +kernel
theorem dX10_regularByTrial_32 : decode cX10_regularByTrial 32 = .ok (.iload_n 3, 1) := by decide +kernel
theorem dX10_regularByTrial_33 : decode cX10_regularByTrial 33 = .ok (.aload_n 0, 1) := by decide +kernel
theorem dX10_regularByTrial_34 : decode cX10_regularByTrial 34 = .ok (.getfield 96, 3) := by decide +kernel
theorem dX10_regularByTrial_37 : decode cX10_regularByTrial 37 = .ok (.invokestatic 128, 3) := by decide +kernel
theorem dX10_regularByTrial_40 : decode cX10_regularByTrial 40 = .ok (.ifCond .ne 6, 3) := by decide +kernel
theorem dX10_regularByTrial_43 : decode cX10_regularByTrial 43 = .ok (.goto 54, 3) := by decide +kernel
theorem dX10_regularByTrial_46 : decode cX10_regularByTrial 46 = .ok (.aload_n 0, 1) := by decide +kernel
theorem dX10_regularByTrial_47 : decode cX10_regularByTrial 47 = .ok (.getfield 76, 3) := by decide +kernel
theorem dX10_regularByTrial_50 : decode cX10_regularByTrial 50 = .ok (.aload_n 0, 1) := by decide +kernel
theorem dX10_regularByTrial_51 : decode cX10_regularByTrial 51 = .ok (.getfield 39, 3) := by decide +kernel
theorem dX10_regularByTrial_54 : decode cX10_regularByTrial 54 = .ok (.iload_n 3, 1) := by decide +kernel
theorem dX10_regularByTrial_55 : decode cX10_regularByTrial 55 = .ok (.aaload, 1) := by decide +kernel
theorem dX10_regularByTrial_56 : decode cX10_regularByTrial 56 = .ok (.invokevirtual 220, 3) := by decide +kernel
theorem dX10_regularByTrial_59 : decode cX10_regularByTrial 59 = .ok (.aload_n 0, 1) := by decide +kernel
theorem dX10_regularByTrial_60 : decode cX10_regularByTrial 60 = .ok (.getfield 48, 3) := by decide +kernel
theorem dX10_regularByTrial_63 : decode cX10_regularByTrial 63 = .ok (.aload_n 0, 1) := by decide +kernel
theorem dX10_regularByTrial_64 : decode cX10_regularByTrial 64 = .ok (.getfield 80, 3) := by decide +kernel
theorem dX10_regularByTrial_67 : decode cX10_regularByTrial 67 = .ok (.aload_n 0, 1) := by decide +kernel
theorem dX10_regularByTrial_68 : decode cX10_regularByTrial 68 = .ok (.getfield 76, 3) := by decide +kernel
theorem dX10_regularByTrial_71 : decode cX10_regularByTrial 71 = .ok (.invokevirtual 282, 3) := by decide +kernel
theorem dX10_regularByTrial_74 : decode cX10_regularByTrial 74 = .ok (.aload_n 0, 1) := by decide +kernel
theorem dX10_regularByTrial_75 : decode cX10_regularByTrial 75 = .ok (.getfield 76, 3) := by decide +kernel
theorem dX10_regularByTrial_78 : decode cX10_regularByTrial 78 = .ok (.aload_n 0, 1) := by decide +kernel
theorem dX10_regularByTrial_79 : decode cX10_regularByTrial 79 = .ok (.getfield 30, 3) := by decide +kernel
theorem dX10_regularByTrial_82 : decode cX10_regularByTrial 82 = .ok (.iload 4, 2) := by decide +kernel
theorem dX10_regularByTrial_84 : decode cX10_regularByTrial 84 = .ok (.aaload, 1) := by decide +kernel
theorem dX10_regularByTrial_85 : decode cX10_regularByTrial 85 = .ok (.getfield 188, 3) := by decide +kernel
theorem dX10_regularByTrial_88 : decode cX10_regularByTrial 88 = .ok (.invokevirtual 264, 3) := by decide +kernel
theorem dX10_regularByTrial_91 : decode cX10_regularByTrial 91 = .ok (.ifCond .eq 6, 3) := by decide +kernel
theorem dX10_regularByTrial_94 : decode cX10_regularByTrial 94 = .ok (.iinc 2 1, 3) := by decide +kernel
theorem dX10_regularByTrial_97 : decode cX10_regularByTrial 97 = .ok (.iinc 3 1, 3) := by decide +kernel
theorem dX10_regularByTrial_100 : decode cX10_regularByTrial 100 = .ok (.goto (-96), 3) := by decide +kernel
theorem dX10_regularByTrial_103 : decode cX10_regularByTrial 103 = .ok (.iload_n 2, 1) := by decide +kernel
theorem dX10_regularByTrial_104 : decode cX10_regularByTrial 104 = .ok (.ireturn, 1) := by decide +kernel
theorem dX10_limit_0 : decode cX10_limit 0 = .ok (.iload_n 1, 1) := by decide +kernel
theorem dX10_limit_1 : decode cX10_limit 1 = .ok (.iconst 0, 1) := by decide +kernel
theorem dX10_limit_2 : decode cX10_limit 2 = .ok (.bipush 99, 2) := by decide +kernel
theorem dX10_limit_4 : decode cX10_limit 4 = .ok (.invokestatic 142, 3) := by decide +kernel
theorem dX10_limit_7 : decode cX10_limit 7 = .ok (.ifCond .ne 6, 3) := by decide +kernel
theorem dX10_limit_10 : decode cX10_limit 10 = .ok (.bipush (-2), 2) := by decide +kernel
theorem dX10_limit_12 : decode cX10_limit 12 = .ok (.ireturn, 1) := by decide +kernel
theorem dX10_limit_13 : decode cX10_limit 13 = .ok (.aload_n 0, 1) := by decide +kernel
theorem dX10_limit_14 : decode cX10_limit 14 = .ok (.getfield 55, 3) := by decide +kernel
theorem dX10_limit_17 : decode cX10_limit 17 = .ok (.getfield 286, 3) := by decide +kernel
theorem dX10_limit_20 : decode cX10_limit 20 = .ok (.istore_n 2, 1) := by decide +kernel
theorem dX10_limit_21 : decode cX10_limit 21 = .ok (.aload_n 0, 1) := by decide +kernel
theorem dX10_limit_22 : decode cX10_limit 22 = .ok (.getfield 55, 3) := by decide +kernel
theorem dX10_limit_25 : decode cX10_limit 25 = .ok (.iload_n 1, 1) := by decide +kernel
theorem dX10_limit_26 : decode cX10_limit 26 = .ok (.putfield 286, 3) := by decide +kernel
theorem dX10_limit_29 : decode cX10_limit 29 = .ok (.iload_n 2, 1) := by decide +kernel
theorem dX10_limit_30 : decode cX10_limit 30 = .ok (.ireturn, 1) := by decide +kernel
theorem dX10_group_0 : decode cX10_group 0 = .ok (.iload_n 1, 1) := by decide +kernel
theorem dX10_group_1 : decode cX10_group 1 = .ok (.invokestatic 156, 3) := by decide +kernel
theorem dX10_group_4 : decode cX10_group 4 = .ok (.ifCond .eq 16, 3) := by decide +kernel
theorem dX10_group_7 : decode cX10_group 7 = .ok (.iload_n 2, 1) := by decide +kernel
theorem dX10_group_8 : decode cX10_group 8 = .ok (.iconst (-1), 1) := by decide +kernel
theorem dX10_group_9 : decode cX10_group 9 = .ok (.if_icmp .eq 13, 3) := by decide +kernel
theorem dX10_group_12 : decode cX10_group 12 = .ok (.aload_n 0, 1) := by decide +kernel
theorem dX10_group_13 : decode cX10_group 13 = .ok (.iload_n 2, 1) := by decide +kernel
theorem dX10_group_14 : decode cX10_group 14 = .ok (.invokevirtual 152, 3) := by decide +kernel
theorem dX10_group_17 : decode cX10_group 17 = .ok (.ifCond .ne 5, 3) := by decide +kernel
theorem dX10_group_20 : decode cX10_group 20 = .ok (.iconst (-1), 1) := by decide +kernel
theorem dX10_group_21 : decode cX10_group 21 = .ok (.ireturn, 1) := by decide +kernel
theorem dX10_group_22 : decode cX10_group 22 = .ok (.iconst 0, 1) := by decide +kernel
theorem dX10_group_23 : decode cX10_group 23 = .ok (.istore_n 3, 1) := by decide +kernel
theorem dX10_group_24 : decode cX10_group 24 = .ok (.iload_n 3, 1) := by decide +kernel
theorem dX10_group_25 : decode cX10_group 25 = .ok (.bipush 8, 2) := by decide +kernel
theorem dX10_group_27 : decode cX10_group 27 = .ok (.if_icmp .ge 21, 3) := by decide +kernel
theorem dX10_group_30 : decode cX10_group 30 = .ok (.aload_n 0, 1) := by decide +kernel
theorem dX10_group_31 : decode cX10_group 31 = .ok (.getfield 86, 3) := by decide +kernel
theorem dX10_group_34 : decode cX10_group 34 = .ok (.iload_n 3, 1) := by decide +kernel
theorem dX10_group_35 : decode cX10_group 35 = .ok (.aload_n 0, 1) := by decide +kernel
theorem dX10_group_36 : decode cX10_group 36 = .ok (.iload_n 3, 1) := by decide +kernel
theorem dX10_group_37 : decode cX10_group 37 = .ok (.iload_n 1, 1) := by decide +kernel
theorem dX10_group_38 : decode cX10_group 38 = .ok (.invokevirtual 289, 3) := by decide +kernel
theorem dX10_group_41 : decode cX10_group 41 = .ok (.iastore, 1) := by decide +kernel
theorem dX10_group_42 : decode cX10_group 42 = .ok (.iinc 3 1, 3) := by decide +kernel
theorem dX10_group_45 : decode cX10_group 45 = .ok (.goto (-21), 3) := by decide +kernel
theorem dX10_group_48 : decode cX10_group 48 = .ok (.aload_n 0, 1) := by decide +kernel
theorem dX10_group_49 : decode cX10_group 49 = .ok (.iload_n 1, 1) := by decide +kernel
theorem dX10_group_50 : decode cX10_group 50 = .ok (.invokevirtual 241, 3) := by decide +kernel
theorem dX10_group_53 : decode cX10_group 53 = .ok (.aload_n 0, 1) := by decide +kernel
theorem dX10_group_54 : decode cX10_group 54 = .ok (.getfield 86, 3) := by decide +kernel
theorem dX10_group_57 : decode cX10_group 57 = .ok (.iload_n 2, 1) := by decide +kernel
theorem dX10_group_58 : decode cX10_group 58 = .ok (.invokestatic 292, 3) := by decide +kernel
theorem dX10_group_61 : decode cX10_group 61 = .ok (.ireturn, 1) := by decide +kernel
theorem dX10_saidPlaces_0 : decode cX10_saidPlaces 0 = .ok (.iconst 0, 1) := by decide +kernel
theorem dX10_saidPlaces_1 : decode cX10_saidPlaces 1 = .ok (.istore_n 2, 1) := by decide +kernel
theorem dX10_saidPlaces_2 : decode cX10_saidPlaces 2 = .ok (.iconst 0, 1) := by decide +kernel
theorem dX10_saidPlaces_3 : decode cX10_saidPlaces 3 = .ok (.istore_n 3, 1) := by decide +kernel
theorem dX10_saidPlaces_4 : decode cX10_saidPlaces 4 = .ok (.iload_n 3, 1) := by decide +kernel
theorem dX10_saidPlaces_5 : decode cX10_saidPlaces 5 = .ok (.aload_n 0, 1) := by decide +kernel
theorem dX10_saidPlaces_6 : decode cX10_saidPlaces 6 = .ok (.getfield 89, 3) := by decide +kernel
theorem dX10_saidPlaces_9 : decode cX10_saidPlaces 9 = .ok (.if_icmp .ge 33, 3) := by decide +kernel
theorem dX10_saidPlaces_12 : decode cX10_saidPlaces 12 = .ok (.aload_n 0, 1) := by decide +kernel
theorem dX10_saidPlaces_13 : decode cX10_saidPlaces 13 = .ok (.aload_n 0, 1) := by decide +kernel
theorem dX10_saidPlaces_14 : decode cX10_saidPlaces 14 = .ok (.getfield 34, 3) := by decide +kernel
theorem dX10_saidPlaces_17 : decode cX10_saidPlaces 17 = .ok (.iload_n 3, 1) := by decide +kernel
theorem dX10_saidPlaces_18 : decode cX10_saidPlaces 18 = .ok (.bipush 6, 2) := by decide +kernel
theorem dX10_saidPlaces_20 : decode cX10_saidPlaces 20 = .ok (.imul, 1) := by decide +kernel
theorem dX10_saidPlaces_21 : decode cX10_saidPlaces 21 = .ok (.iload_n 1, 1) := by decide +kernel
theorem dX10_saidPlaces_22 : decode cX10_saidPlaces 22 = .ok (.iadd, 1) := by decide +kernel
theorem dX10_saidPlaces_23 : decode cX10_saidPlaces 23 = .ok (.iaload, 1) := by decide +kernel
theorem dX10_saidPlaces_24 : decode cX10_saidPlaces 24 = .ok (.invokevirtual 176, 3) := by decide +kernel
theorem dX10_saidPlaces_27 : decode cX10_saidPlaces 27 = .ok (.ifCond .eq 9, 3) := by decide +kernel
theorem dX10_saidPlaces_30 : decode cX10_saidPlaces 30 = .ok (.iload_n 2, 1) := by decide +kernel
theorem dX10_saidPlaces_31 : decode cX10_saidPlaces 31 = .ok (.iconst 1, 1) := by decide +kernel
theorem dX10_saidPlaces_32 : decode cX10_saidPlaces 32 = .ok (.iload_n 3, 1) := by decide +kernel
theorem dX10_saidPlaces_33 : decode cX10_saidPlaces 33 = .ok (.ishl, 1) := by decide +kernel
theorem dX10_saidPlaces_34 : decode cX10_saidPlaces 34 = .ok (.ior, 1) := by decide +kernel
theorem dX10_saidPlaces_35 : decode cX10_saidPlaces 35 = .ok (.istore_n 2, 1) := by decide +kernel
theorem dX10_saidPlaces_36 : decode cX10_saidPlaces 36 = .ok (.iinc 3 1, 3) := by decide +kernel
theorem dX10_saidPlaces_39 : decode cX10_saidPlaces 39 = .ok (.goto (-35), 3) := by decide +kernel
theorem dX10_saidPlaces_42 : decode cX10_saidPlaces 42 = .ok (.iload_n 2, 1) := by decide +kernel
theorem dX10_saidPlaces_43 : decode cX10_saidPlaces 43 = .ok (.ireturn, 1) := by decide +kernel
theorem dX10_likePlaces_0 : decode cX10_likePlaces 0 = .ok (.iconst 0, 1) := by decide +kernel
theorem dX10_likePlaces_1 : decode cX10_likePlaces 1 = .ok (.istore_n 3, 1) := by decide +kernel
theorem dX10_likePlaces_2 : decode cX10_likePlaces 2 = .ok (.iconst 0, 1) := by decide +kernel
theorem dX10_likePlaces_3 : decode cX10_likePlaces 3 = .ok (.istore 4, 2) := by decide +kernel
theorem dX10_likePlaces_5 : decode cX10_likePlaces 5 = .ok (.iload 4, 2) := by decide +kernel
theorem dX10_likePlaces_7 : decode cX10_likePlaces 7 = .ok (.aload_n 0, 1) := by decide +kernel
theorem dX10_likePlaces_8 : decode cX10_likePlaces 8 = .ok (.getfield 89, 3) := by decide +kernel
theorem dX10_likePlaces_11 : decode cX10_likePlaces 11 = .ok (.if_icmp .ge 38, 3) := by decide +kernel
theorem dX10_likePlaces_14 : decode cX10_likePlaces 14 = .ok (.aload_n 0, 1) := by decide +kernel
theorem dX10_likePlaces_15 : decode cX10_likePlaces 15 = .ok (.iload_n 1, 1) := by decide +kernel
theorem dX10_likePlaces_16 : decode cX10_likePlaces 16 = .ok (.iload 4, 2) := by decide +kernel
theorem dX10_likePlaces_18 : decode cX10_likePlaces 18 = .ok (.iload_n 2, 1) := by decide +kernel
theorem dX10_likePlaces_19 : decode cX10_likePlaces 19 = .ok (.invokevirtual 295, 3) := by decide +kernel
theorem dX10_likePlaces_22 : decode cX10_likePlaces 22 = .ok (.iconst 0, 1) := by decide +kernel
theorem dX10_likePlaces_23 : decode cX10_likePlaces 23 = .ok (.aload_n 0, 1) := by decide +kernel
theorem dX10_likePlaces_24 : decode cX10_likePlaces 24 = .ok (.getfield 55, 3) := by decide +kernel
theorem dX10_likePlaces_27 : decode cX10_likePlaces 27 = .ok (.getfield 286, 3) := by decide +kernel
theorem dX10_likePlaces_30 : decode cX10_likePlaces 30 = .ok (.invokestatic 142, 3) := by decide +kernel
theorem dX10_likePlaces_33 : decode cX10_likePlaces 33 = .ok (.ifCond .eq 10, 3) := by decide +kernel
theorem dX10_likePlaces_36 : decode cX10_likePlaces 36 = .ok (.iload_n 3, 1) := by decide +kernel
theorem dX10_likePlaces_37 : decode cX10_likePlaces 37 = .ok (.iconst 1, 1) := by decide +kernel
theorem dX10_likePlaces_38 : decode cX10_likePlaces 38 = .ok (.iload 4, 2) := by decide +kernel
theorem dX10_likePlaces_40 : decode cX10_likePlaces 40 = .ok (.ishl, 1) := by decide +kernel
theorem dX10_likePlaces_41 : decode cX10_likePlaces 41 = .ok (.ior, 1) := by decide +kernel
theorem dX10_likePlaces_42 : decode cX10_likePlaces 42 = .ok (.istore_n 3, 1) := by decide +kernel
theorem dX10_likePlaces_43 : decode cX10_likePlaces 43 = .ok (.iinc 4 1, 3) := by decide +kernel
theorem dX10_likePlaces_46 : decode cX10_likePlaces 46 = .ok (.goto (-41), 3) := by decide +kernel
theorem dX10_likePlaces_49 : decode cX10_likePlaces 49 = .ok (.iload_n 3, 1) := by decide +kernel
theorem dX10_likePlaces_50 : decode cX10_likePlaces 50 = .ok (.ireturn, 1) := by decide +kernel
theorem dX10_costBetween_0 : decode cX10_costBetween 0 = .ok (.aload_n 0, 1) := by decide +kernel
theorem dX10_costBetween_1 : decode cX10_costBetween 1 = .ok (.getfield 34, 3) := by decide +kernel
theorem dX10_costBetween_4 : decode cX10_costBetween 4 = .ok (.iload_n 1, 1) := by decide +kernel
theorem dX10_costBetween_5 : decode cX10_costBetween 5 = .ok (.bipush 6, 2) := by decide +kernel
theorem dX10_costBetween_7 : decode cX10_costBetween 7 = .ok (.imul, 1) := by decide +kernel
theorem dX10_costBetween_8 : decode cX10_costBetween 8 = .ok (.iload_n 3, 1) := by decide +kernel
theorem dX10_costBetween_9 : decode cX10_costBetween 9 = .ok (.iadd, 1) := by decide +kernel
theorem dX10_costBetween_10 : decode cX10_costBetween 10 = .ok (.iaload, 1) := by decide +kernel
theorem dX10_costBetween_11 : decode cX10_costBetween 11 = .ok (.istore 4, 2) := by decide +kernel
theorem dX10_costBetween_13 : decode cX10_costBetween 13 = .ok (.aload_n 0, 1) := by decide +kernel
theorem dX10_costBetween_14 : decode cX10_costBetween 14 = .ok (.getfield 34, 3) := by decide +kernel
theorem dX10_costBetween_17 : decode cX10_costBetween 17 = .ok (.iload_n 2, 1) := by decide +kernel
theorem dX10_costBetween_18 : decode cX10_costBetween 18 = .ok (.bipush 6, 2) := by decide +kernel
theorem dX10_costBetween_20 : decode cX10_costBetween 20 = .ok (.imul, 1) := by decide +kernel
theorem dX10_costBetween_21 : decode cX10_costBetween 21 = .ok (.iload_n 3, 1) := by decide +kernel
theorem dX10_costBetween_22 : decode cX10_costBetween 22 = .ok (.iadd, 1) := by decide +kernel
theorem dX10_costBetween_23 : decode cX10_costBetween 23 = .ok (.iaload, 1) := by decide +kernel
theorem dX10_costBetween_24 : decode cX10_costBetween 24 = .ok (.istore 5, 2) := by decide +kernel
theorem dX10_costBetween_26 : decode cX10_costBetween 26 = .ok (.aload_n 0, 1) := by decide +kernel
theorem dX10_costBetween_27 : decode cX10_costBetween 27 = .ok (.iload 4, 2) := by decide +kernel
theorem dX10_costBetween_29 : decode cX10_costBetween 29 = .ok (.invokevirtual 176, 3) := by decide +kernel
theorem dX10_costBetween_32 : decode cX10_costBetween 32 = .ok (.ifCond .eq 42, 3) := by decide +kernel
theorem dX10_costBetween_35 : decode cX10_costBetween 35 = .ok (.aload_n 0, 1) := by decide +kernel
theorem dX10_costBetween_36 : decode cX10_costBetween 36 = .ok (.iload 5, 2) := by decide +kernel
theorem dX10_costBetween_38 : decode cX10_costBetween 38 = .ok (.invokevirtual 176, 3) := by decide +kernel
theorem dX10_costBetween_41 : decode cX10_costBetween 41 = .ok (.ifCond .eq 33, 3) := by decide +kernel
theorem dX10_costBetween_44 : decode cX10_costBetween 44 = .ok (.aload_n 0, 1) := by decide +kernel
theorem dX10_costBetween_45 : decode cX10_costBetween 45 = .ok (.getfield 55, 3) := by decide +kernel
theorem dX10_costBetween_48 : decode cX10_costBetween 48 = .ok (.aload_n 0, 1) := by decide +kernel
theorem dX10_costBetween_49 : decode cX10_costBetween 49 = .ok (.getfield 30, 3) := by decide +kernel
theorem dX10_costBetween_52 : decode cX10_costBetween 52 = .ok (.iload 4, 2) := by decide +kernel
theorem dX10_costBetween_54 : decode cX10_costBetween 54 = .ok (.aaload, 1) := by decide +kernel
theorem dX10_costBetween_55 : decode cX10_costBetween 55 = .ok (.getfield 188, 3) := by decide +kernel
theorem dX10_costBetween_58 : decode cX10_costBetween 58 = .ok (.aload_n 0, 1) := by decide +kernel
theorem dX10_costBetween_59 : decode cX10_costBetween 59 = .ok (.getfield 30, 3) := by decide +kernel
theorem dX10_costBetween_62 : decode cX10_costBetween 62 = .ok (.iload 5, 2) := by decide +kernel
theorem dX10_costBetween_64 : decode cX10_costBetween 64 = .ok (.aaload, 1) := by decide +kernel
theorem dX10_costBetween_65 : decode cX10_costBetween 65 = .ok (.getfield 188, 3) := by decide +kernel
theorem dX10_costBetween_68 : decode cX10_costBetween 68 = .ok (.invokevirtual 230, 3) := by decide +kernel
theorem dX10_costBetween_71 : decode cX10_costBetween 71 = .ok (.goto 5, 3) := by decide +kernel
theorem dX10_costBetween_74 : decode cX10_costBetween 74 = .ok (.bipush (-9), 2) := by decide +kernel
theorem dX10_costBetween_76 : decode cX10_costBetween 76 = .ok (.ireturn, 1) := by decide +kernel
theorem dX10_countOrLeast_0 : decode cX10_countOrLeast 0 = .ok (.iload_n 2, 1) := by decide +kernel
theorem dX10_countOrLeast_1 : decode cX10_countOrLeast 1 = .ok (.iconst (-1), 1) := by decide +kernel
theorem dX10_countOrLeast_2 : decode cX10_countOrLeast 2 = .ok (.if_icmp .eq 23, 3) := by decide +kernel
theorem dX10_countOrLeast_5 : decode cX10_countOrLeast 5 = .ok (.iload_n 2, 1) := by decide +kernel
theorem dX10_countOrLeast_6 : decode cX10_countOrLeast 6 = .ok (.iload_n 0, 1) := by decide +kernel
theorem dX10_countOrLeast_7 : decode cX10_countOrLeast 7 = .ok (.invokestatic 128, 3) := by decide +kernel
theorem dX10_countOrLeast_10 : decode cX10_countOrLeast 10 = .ok (.ifCond .eq 12, 3) := by decide +kernel
theorem dX10_countOrLeast_13 : decode cX10_countOrLeast 13 = .ok (.iload_n 0, 1) := by decide +kernel
theorem dX10_countOrLeast_14 : decode cX10_countOrLeast 14 = .ok (.aload_n 1, 1) := by decide +kernel
theorem dX10_countOrLeast_15 : decode cX10_countOrLeast 15 = .ok (.iload_n 2, 1) := by decide +kernel
theorem dX10_countOrLeast_16 : decode cX10_countOrLeast 16 = .ok (.invokestatic 298, 3) := by decide +kernel
theorem dX10_countOrLeast_19 : decode cX10_countOrLeast 19 = .ok (.goto 5, 3) := by decide +kernel
theorem dX10_countOrLeast_22 : decode cX10_countOrLeast 22 = .ok (.bipush (-9), 2) := by decide +kernel
theorem dX10_countOrLeast_24 : decode cX10_countOrLeast 24 = .ok (.ireturn, 1) := by decide +kernel
theorem dX10_countOrLeast_25 : decode cX10_countOrLeast 25 = .ok (.iconst 0, 1) := by decide +kernel
theorem dX10_countOrLeast_26 : decode cX10_countOrLeast 26 = .ok (.istore_n 3, 1) := by decide +kernel
theorem dX10_countOrLeast_27 : decode cX10_countOrLeast 27 = .ok (.iconst 0, 1) := by decide +kernel
theorem dX10_countOrLeast_28 : decode cX10_countOrLeast 28 = .ok (.istore 4, 2) := by decide +kernel
theorem dX10_countOrLeast_30 : decode cX10_countOrLeast 30 = .ok (.iload 4, 2) := by decide +kernel
theorem dX10_countOrLeast_32 : decode cX10_countOrLeast 32 = .ok (.bipush 8, 2) := by decide +kernel
theorem dX10_countOrLeast_34 : decode cX10_countOrLeast 34 = .ok (.if_icmp .ge 33, 3) := by decide +kernel
theorem dX10_countOrLeast_37 : decode cX10_countOrLeast 37 = .ok (.iload 4, 2) := by decide +kernel
theorem dX10_countOrLeast_39 : decode cX10_countOrLeast 39 = .ok (.iload_n 0, 1) := by decide +kernel
theorem dX10_countOrLeast_40 : decode cX10_countOrLeast 40 = .ok (.invokestatic 128, 3) := by decide +kernel
theorem dX10_countOrLeast_43 : decode cX10_countOrLeast 43 = .ok (.ifCond .eq 18, 3) := by decide +kernel
theorem dX10_countOrLeast_46 : decode cX10_countOrLeast 46 = .ok (.iload_n 0, 1) := by decide +kernel
theorem dX10_countOrLeast_47 : decode cX10_countOrLeast 47 = .ok (.aload_n 1, 1) := by decide +kernel
theorem dX10_countOrLeast_48 : decode cX10_countOrLeast 48 = .ok (.iload 4, 2) := by decide +kernel
theorem dX10_countOrLeast_50 : decode cX10_countOrLeast 50 = .ok (.invokestatic 298, 3) := by decide +kernel
theorem dX10_countOrLeast_53 : decode cX10_countOrLeast 53 = .ok (.iload 4, 2) := by decide +kernel
theorem dX10_countOrLeast_55 : decode cX10_countOrLeast 55 = .ok (.if_icmp .ne 6, 3) := by decide +kernel
theorem dX10_countOrLeast_58 : decode cX10_countOrLeast 58 = .ok (.iinc 3 1, 3) := by decide +kernel
theorem dX10_countOrLeast_61 : decode cX10_countOrLeast 61 = .ok (.iinc 4 1, 3) := by decide +kernel
theorem dX10_countOrLeast_64 : decode cX10_countOrLeast 64 = .ok (.goto (-34), 3) := by decide +kernel
theorem dX10_countOrLeast_67 : decode cX10_countOrLeast 67 = .ok (.iload_n 3, 1) := by decide +kernel
theorem dX10_countOrLeast_68 : decode cX10_countOrLeast 68 = .ok (.ireturn, 1) := by decide +kernel
theorem dX10_leastJoined_0 : decode cX10_leastJoined 0 = .ok (.iconst 1, 1) := by decide +kernel
theorem dX10_leastJoined_1 : decode cX10_leastJoined 1 = .ok (.iload_n 2, 1) := by decide +kernel
theorem dX10_leastJoined_2 : decode cX10_leastJoined 2 = .ok (.ishl, 1) := by decide +kernel
theorem dX10_leastJoined_3 : decode cX10_leastJoined 3 = .ok (.istore_n 3, 1) := by decide +kernel
theorem dX10_leastJoined_4 : decode cX10_leastJoined 4 = .ok (.iconst 0, 1) := by decide +kernel
theorem dX10_leastJoined_5 : decode cX10_leastJoined 5 = .ok (.istore 4, 2) := by decide +kernel
theorem dX10_leastJoined_7 : decode cX10_leastJoined 7 = .ok (.iload 4, 2) := by decide +kernel
theorem dX10_leastJoined_9 : decode cX10_leastJoined 9 = .ok (.bipush 8, 2) := by decide +kernel
theorem dX10_leastJoined_11 : decode cX10_leastJoined 11 = .ok (.if_icmp .ge 43, 3) := by decide +kernel
theorem dX10_leastJoined_14 : decode cX10_leastJoined 14 = .ok (.iconst 0, 1) := by decide +kernel
theorem dX10_leastJoined_15 : decode cX10_leastJoined 15 = .ok (.istore 5, 2) := by decide +kernel
theorem dX10_leastJoined_17 : decode cX10_leastJoined 17 = .ok (.iload 5, 2) := by decide +kernel
theorem dX10_leastJoined_19 : decode cX10_leastJoined 19 = .ok (.bipush 8, 2) := by decide +kernel
theorem dX10_leastJoined_21 : decode cX10_leastJoined 21 = .ok (.if_icmp .ge 27, 3) := by decide +kernel
theorem dX10_leastJoined_24 : decode cX10_leastJoined 24 = .ok (.iload 5, 2) := by decide +kernel
theorem dX10_leastJoined_26 : decode cX10_leastJoined 26 = .ok (.iload_n 3, 1) := by decide +kernel
theorem dX10_leastJoined_27 : decode cX10_leastJoined 27 = .ok (.invokestatic 128, 3) := by decide +kernel
theorem dX10_leastJoined_30 : decode cX10_leastJoined 30 = .ok (.ifCond .eq 12, 3) := by decide +kernel
theorem dX10_leastJoined_33 : decode cX10_leastJoined 33 = .ok (.iload_n 3, 1) := by decide +kernel
theorem dX10_leastJoined_34 : decode cX10_leastJoined 34 = .ok (.aload_n 1, 1) := by decide +kernel
theorem dX10_leastJoined_35 : decode cX10_leastJoined 35 = .ok (.iload 5, 2) := by decide +kernel
theorem dX10_leastJoined_37 : decode cX10_leastJoined 37 = .ok (.iaload, 1) := by decide +kernel
theorem dX10_leastJoined_38 : decode cX10_leastJoined 38 = .ok (.iload_n 0, 1) := by decide +kernel
theorem dX10_leastJoined_39 : decode cX10_leastJoined 39 = .ok (.iand, 1) := by decide +kernel
theorem dX10_leastJoined_40 : decode cX10_leastJoined 40 = .ok (.ior, 1) := by decide +kernel
theorem dX10_leastJoined_41 : decode cX10_leastJoined 41 = .ok (.istore_n 3, 1) := by decide +kernel
theorem dX10_leastJoined_42 : decode cX10_leastJoined 42 = .ok (.iinc 5 1, 3) := by decide +kernel
theorem dX10_leastJoined_45 : decode cX10_leastJoined 45 = .ok (.goto (-28), 3) := by decide +kernel
theorem dX10_leastJoined_48 : decode cX10_leastJoined 48 = .ok (.iinc 4 1, 3) := by decide +kernel
theorem dX10_leastJoined_51 : decode cX10_leastJoined 51 = .ok (.goto (-44), 3) := by decide +kernel
theorem dX10_leastJoined_54 : decode cX10_leastJoined 54 = .ok (.iload_n 3, 1) := by decide +kernel
theorem dX10_leastJoined_55 : decode cX10_leastJoined 55 = .ok (.invokestatic 301, 3) := by decide +kernel
theorem dX10_leastJoined_58 : decode cX10_leastJoined 58 = .ok (.ireturn, 1) := by decide +kernel
theorem dX10_border_0 : decode cX10_border 0 = .ok (.iload_n 1, 1) := by decide +kernel
theorem dX10_border_1 : decode cX10_border 1 = .ok (.invokestatic 156, 3) := by decide +kernel
theorem dX10_border_4 : decode cX10_border 4 = .ok (.ifCond .eq 13, 3) := by decide +kernel
theorem dX10_border_7 : decode cX10_border 7 = .ok (.iload_n 2, 1) := by decide +kernel
theorem dX10_border_8 : decode cX10_border 8 = .ok (.iconst (-1), 1) := by decide +kernel
theorem dX10_border_9 : decode cX10_border 9 = .ok (.bipush 27, 2) := by decide +kernel
theorem dX10_border_11 : decode cX10_border 11 = .ok (.invokestatic 142, 3) := by decide +kernel
theorem dX10_border_14 : decode cX10_border 14 = .ok (.ifCond .ne 5, 3) := by decide +kernel
theorem dX10_border_17 : decode cX10_border 17 = .ok (.iconst (-1), 1) := by decide +kernel
theorem dX10_border_18 : decode cX10_border 18 = .ok (.ireturn, 1) := by decide +kernel
theorem dX10_border_19 : decode cX10_border 19 = .ok (.iconst 0, 1) := by decide +kernel
theorem dX10_border_20 : decode cX10_border 20 = .ok (.istore_n 3, 1) := by decide +kernel
theorem dX10_border_21 : decode cX10_border 21 = .ok (.iconst 0, 1) := by decide +kernel
theorem dX10_border_22 : decode cX10_border 22 = .ok (.istore 4, 2) := by decide +kernel
theorem dX10_border_24 : decode cX10_border 24 = .ok (.iload 4, 2) := by decide +kernel
theorem dX10_border_26 : decode cX10_border 26 = .ok (.aload_n 0, 1) := by decide +kernel
theorem dX10_border_27 : decode cX10_border 27 = .ok (.getfield 89, 3) := by decide +kernel
theorem dX10_border_30 : decode cX10_border 30 = .ok (.if_icmp .ge 84, 3) := by decide +kernel
theorem dX10_border_33 : decode cX10_border 33 = .ok (.iload 4, 2) := by decide +kernel
theorem dX10_border_35 : decode cX10_border 35 = .ok (.iconst 1, 1) := by decide +kernel
theorem dX10_border_36 : decode cX10_border 36 = .ok (.iadd, 1) := by decide +kernel
theorem dX10_border_37 : decode cX10_border 37 = .ok (.istore 5, 2) := by decide +kernel
theorem dX10_border_39 : decode cX10_border 39 = .ok (.iload 5, 2) := by decide +kernel
theorem dX10_border_41 : decode cX10_border 41 = .ok (.aload_n 0, 1) := by decide +kernel
theorem dX10_border_42 : decode cX10_border 42 = .ok (.getfield 89, 3) := by decide +kernel
theorem dX10_border_45 : decode cX10_border 45 = .ok (.if_icmp .ge 63, 3) := by decide +kernel
theorem dX10_border_48 : decode cX10_border 48 = .ok (.iload 5, 2) := by decide +kernel
theorem dX10_border_50 : decode cX10_border 50 = .ok (.aload_n 0, 1) := by decide +kernel
theorem dX10_border_51 : decode cX10_border 51 = .ok (.getfield 24, 3) := by decide +kernel
theorem dX10_border_54 : decode cX10_border 54 = .ok (.iload 4, 2) := by decide +kernel
theorem dX10_border_56 : decode cX10_border 56 = .ok (.iaload, 1) := by decide +kernel
theorem dX10_border_57 : decode cX10_border 57 = .ok (.invokestatic 128, 3) := by decide +kernel
theorem dX10_border_60 : decode cX10_border 60 = .ok (.ifCond .eq 42, 3) := by decide +kernel
theorem dX10_border_63 : decode cX10_border 63 = .ok (.aload_n 0, 1) := by decide +kernel
theorem dX10_border_64 : decode cX10_border 64 = .ok (.iload 4, 2) := by decide +kernel
theorem dX10_border_66 : decode cX10_border 66 = .ok (.iload 5, 2) := by decide +kernel
theorem dX10_border_68 : decode cX10_border 68 = .ok (.iload_n 1, 1) := by decide +kernel
theorem dX10_border_69 : decode cX10_border 69 = .ok (.invokevirtual 295, 3) := by decide +kernel
theorem dX10_border_72 : decode cX10_border 72 = .ok (.aload_n 0, 1) := by decide +kernel
theorem dX10_border_73 : decode cX10_border 73 = .ok (.getfield 55, 3) := by decide +kernel
theorem dX10_border_76 : decode cX10_border 76 = .ok (.getfield 286, 3) := by decide +kernel
theorem dX10_border_79 : decode cX10_border 79 = .ok (.if_icmp .gt 6, 3) := by decide +kernel
theorem dX10_border_82 : decode cX10_border 82 = .ok (.goto 20, 3) := by decide +kernel
theorem dX10_border_85 : decode cX10_border 85 = .ok (.iload_n 3, 1) := by decide +kernel
theorem dX10_border_86 : decode cX10_border 86 = .ok (.iload_n 2, 1) := by decide +kernel
theorem dX10_border_87 : decode cX10_border 87 = .ok (.if_icmp .ne 12, 3) := by decide +kernel
theorem dX10_border_90 : decode cX10_border 90 = .ok (.bipush 10, 2) := by decide +kernel
theorem dX10_border_92 : decode cX10_border 92 = .ok (.iload 4, 2) := by decide +kernel
theorem dX10_border_94 : decode cX10_border 94 = .ok (.imul, 1) := by decide +kernel
theorem dX10_border_95 : decode cX10_border 95 = .ok (.iload 5, 2) := by decide +kernel
theorem dX10_border_97 : decode cX10_border 97 = .ok (.iadd, 1) := by decide +kernel
theorem dX10_border_98 : decode cX10_border 98 = .ok (.ireturn, 1) := by decide +kernel
theorem dX10_border_99 : decode cX10_border 99 = .ok (.iinc 3 1, 3) := by decide +kernel
theorem dX10_border_102 : decode cX10_border 102 = .ok (.iinc 5 1, 3) := by decide +kernel
theorem dX10_border_105 : decode cX10_border 105 = .ok (.goto (-66), 3) := by decide +kernel
theorem dX10_border_108 : decode cX10_border 108 = .ok (.iinc 4 1, 3) := by decide +kernel
theorem dX10_border_111 : decode cX10_border 111 = .ok (.goto (-87), 3) := by decide +kernel
theorem dX10_border_114 : decode cX10_border 114 = .ok (.iload_n 2, 1) := by decide +kernel
theorem dX10_border_115 : decode cX10_border 115 = .ok (.iconst (-1), 1) := by decide +kernel
theorem dX10_border_116 : decode cX10_border 116 = .ok (.if_icmp .ne 7, 3) := by decide +kernel
theorem dX10_border_119 : decode cX10_border 119 = .ok (.iload_n 3, 1) := by decide +kernel
theorem dX10_border_120 : decode cX10_border 120 = .ok (.goto 5, 3) := by decide +kernel
theorem dX10_border_123 : decode cX10_border 123 = .ok (.bipush (-9), 2) := by decide +kernel
theorem dX10_border_125 : decode cX10_border 125 = .ok (.ireturn, 1) := by decide +kernel
theorem dX10_bundle_0 : decode cX10_bundle 0 = .ok (.aload_n 0, 1) := by decide +kernel
theorem dX10_bundle_1 : decode cX10_bundle 1 = .ok (.iload_n 1, 1) := by decide +kernel
theorem dX10_bundle_2 : decode cX10_bundle 2 = .ok (.invokevirtual 152, 3) := by decide +kernel
theorem dX10_bundle_5 : decode cX10_bundle 5 = .ok (.ifCond .eq 11, 3) := by decide +kernel
theorem dX10_bundle_8 : decode cX10_bundle 8 = .ok (.aload_n 0, 1) := by decide +kernel
theorem dX10_bundle_9 : decode cX10_bundle 9 = .ok (.iload_n 2, 1) := by decide +kernel
theorem dX10_bundle_10 : decode cX10_bundle 10 = .ok (.invokevirtual 152, 3) := by decide +kernel
theorem dX10_bundle_13 : decode cX10_bundle 13 = .ok (.ifCond .ne 5, 3) := by decide +kernel
theorem dX10_bundle_16 : decode cX10_bundle 16 = .ok (.iconst (-1), 1) := by decide +kernel
theorem dX10_bundle_17 : decode cX10_bundle 17 = .ok (.ireturn, 1) := by decide +kernel
theorem dX10_bundle_18 : decode cX10_bundle 18 = .ok (.iload_n 1, 1) := by decide +kernel
theorem dX10_bundle_19 : decode cX10_bundle 19 = .ok (.iload_n 2, 1) := by decide +kernel
theorem dX10_bundle_20 : decode cX10_bundle 20 = .ok (.if_icmp .ne 6, 3) := by decide +kernel
theorem dX10_bundle_23 : decode cX10_bundle 23 = .ok (.bipush (-2), 2) := by decide +kernel
theorem dX10_bundle_25 : decode cX10_bundle 25 = .ok (.ireturn, 1) := by decide +kernel
theorem dX10_bundle_26 : decode cX10_bundle 26 = .ok (.iconst 0, 1) := by decide +kernel
theorem dX10_bundle_27 : decode cX10_bundle 27 = .ok (.istore_n 3, 1) := by decide +kernel
theorem dX10_bundle_28 : decode cX10_bundle 28 = .ok (.iconst 0, 1) := by decide +kernel
theorem dX10_bundle_29 : decode cX10_bundle 29 = .ok (.istore 4, 2) := by decide +kernel
theorem dX10_bundle_31 : decode cX10_bundle 31 = .ok (.iload 4, 2) := by decide +kernel
theorem dX10_bundle_33 : decode cX10_bundle 33 = .ok (.bipush 6, 2) := by decide +kernel
theorem dX10_bundle_35 : decode cX10_bundle 35 = .ok (.if_icmp .ge 30, 3) := by decide +kernel
theorem dX10_bundle_38 : decode cX10_bundle 38 = .ok (.aload_n 0, 1) := by decide +kernel
theorem dX10_bundle_39 : decode cX10_bundle 39 = .ok (.iload_n 1, 1) := by decide +kernel
theorem dX10_bundle_40 : decode cX10_bundle 40 = .ok (.iload_n 2, 1) := by decide +kernel
theorem dX10_bundle_41 : decode cX10_bundle 41 = .ok (.iload 4, 2) := by decide +kernel
theorem dX10_bundle_43 : decode cX10_bundle 43 = .ok (.invokevirtual 295, 3) := by decide +kernel
theorem dX10_bundle_46 : decode cX10_bundle 46 = .ok (.aload_n 0, 1) := by decide +kernel
theorem dX10_bundle_47 : decode cX10_bundle 47 = .ok (.getfield 55, 3) := by decide +kernel
theorem dX10_bundle_50 : decode cX10_bundle 50 = .ok (.getfield 286, 3) := by decide +kernel
theorem dX10_bundle_53 : decode cX10_bundle 53 = .ok (.if_icmp .le 6, 3) := by decide +kernel
theorem dX10_bundle_56 : decode cX10_bundle 56 = .ok (.iinc 3 1, 3) := by decide +kernel
theorem dX10_bundle_59 : decode cX10_bundle 59 = .ok (.iinc 4 1, 3) := by decide +kernel
theorem dX10_bundle_62 : decode cX10_bundle 62 = .ok (.goto (-31), 3) := by decide +kernel
theorem dX10_bundle_65 : decode cX10_bundle 65 = .ok (.iload_n 3, 1) := by decide +kernel
theorem dX10_bundle_66 : decode cX10_bundle 66 = .ok (.ireturn, 1) := by decide +kernel
theorem dX10_area_0 : decode cX10_area 0 = .ok (.aload_n 0, 1) := by decide +kernel
theorem dX10_area_1 : decode cX10_area 1 = .ok (.iload_n 1, 1) := by decide +kernel
theorem dX10_area_2 : decode cX10_area 2 = .ok (.invokevirtual 208, 3) := by decide +kernel
theorem dX10_area_5 : decode cX10_area 5 = .ok (.ifCond .eq 16, 3) := by decide +kernel
theorem dX10_area_8 : decode cX10_area 8 = .ok (.iload_n 2, 1) := by decide +kernel
theorem dX10_area_9 : decode cX10_area 9 = .ok (.iconst (-1), 1) := by decide +kernel
theorem dX10_area_10 : decode cX10_area 10 = .ok (.if_icmp .eq 13, 3) := by decide +kernel
theorem dX10_area_13 : decode cX10_area 13 = .ok (.aload_n 0, 1) := by decide +kernel
theorem dX10_area_14 : decode cX10_area 14 = .ok (.iload_n 2, 1) := by decide +kernel
theorem dX10_area_15 : decode cX10_area 15 = .ok (.invokevirtual 152, 3) := by decide +kernel
theorem dX10_area_18 : decode cX10_area 18 = .ok (.ifCond .ne 5, 3) := by decide +kernel
theorem dX10_area_21 : decode cX10_area 21 = .ok (.iconst (-1), 1) := by decide +kernel
theorem dX10_area_22 : decode cX10_area 22 = .ok (.ireturn, 1) := by decide +kernel
theorem dX10_area_23 : decode cX10_area 23 = .ok (.aload_n 0, 1) := by decide +kernel
theorem dX10_area_24 : decode cX10_area 24 = .ok (.getfield 48, 3) := by decide +kernel
theorem dX10_area_27 : decode cX10_area 27 = .ok (.getfield 211, 3) := by decide +kernel
theorem dX10_area_30 : decode cX10_area 30 = .ok (.iload_n 1, 1) := by decide +kernel
theorem dX10_area_31 : decode cX10_area 31 = .ok (.aaload, 1) := by decide +kernel
theorem dX10_area_32 : decode cX10_area 32 = .ok (.getfield 215, 3) := by decide +kernel
theorem dX10_area_35 : decode cX10_area 35 = .ok (.aload_n 0, 1) := by decide +kernel
theorem dX10_area_36 : decode cX10_area 36 = .ok (.getfield 24, 3) := by decide +kernel
theorem dX10_area_39 : decode cX10_area 39 = .ok (.iload_n 2, 1) := by decide +kernel
theorem dX10_area_40 : decode cX10_area 40 = .ok (.invokestatic 292, 3) := by decide +kernel
theorem dX10_area_43 : decode cX10_area 43 = .ok (.ireturn, 1) := by decide +kernel
theorem dX10_sheet_0 : decode cX10_sheet 0 = .ok (.aload_n 0, 1) := by decide +kernel
theorem dX10_sheet_1 : decode cX10_sheet 1 = .ok (.iconst 0, 1) := by decide +kernel
theorem dX10_sheet_2 : decode cX10_sheet 2 = .ok (.putfield 102, 3) := by decide +kernel
theorem dX10_sheet_5 : decode cX10_sheet 5 = .ok (.iload_n 1, 1) := by decide +kernel
theorem dX10_sheet_6 : decode cX10_sheet 6 = .ok (.iconst 4, 1) := by decide +kernel
theorem dX10_sheet_7 : decode cX10_sheet 7 = .ok (.invokestatic 114, 3) := by decide +kernel
theorem dX10_sheet_10 : decode cX10_sheet 10 = .ok (.ifCond .ne 5, 3) := by decide +kernel
theorem dX10_sheet_13 : decode cX10_sheet 13 = .ok (.iconst (-1), 1) := by decide +kernel
theorem dX10_sheet_14 : decode cX10_sheet 14 = .ok (.ireturn, 1) := by decide +kernel
theorem dX10_sheet_15 : decode cX10_sheet 15 = .ok (.iload_n 2, 1) := by decide +kernel
theorem dX10_sheet_16 : decode cX10_sheet 16 = .ok (.iconst 3, 1) := by decide +kernel
theorem dX10_sheet_17 : decode cX10_sheet 17 = .ok (.invokestatic 114, 3) := by decide +kernel
theorem dX10_sheet_20 : decode cX10_sheet 20 = .ok (.ifCond .eq 9, 3) := by decide +kernel
theorem dX10_sheet_23 : decode cX10_sheet 23 = .ok (.iload_n 3, 1) := by decide +kernel
theorem dX10_sheet_24 : decode cX10_sheet 24 = .ok (.bipush 60, 2) := by decide +kernel
theorem dX10_sheet_26 : decode cX10_sheet 26 = .ok (.if_icmp .le 6, 3) := by decide +kernel
theorem dX10_sheet_29 : decode cX10_sheet 29 = .ok (.bipush (-2), 2) := by decide +kernel
theorem dX10_sheet_31 : decode cX10_sheet 31 = .ok (.ireturn, 1) := by decide +kernel
theorem dX10_sheet_32 : decode cX10_sheet 32 = .ok (.iload_n 3, 1) := by decide +kernel
theorem dX10_sheet_33 : decode cX10_sheet 33 = .ok (.ifCond .ge 9, 3) := by decide +kernel
theorem dX10_sheet_36 : decode cX10_sheet 36 = .ok (.aload_n 0, 1) := by decide +kernel
theorem dX10_sheet_37 : decode cX10_sheet 37 = .ok (.iconst 4, 1) := by decide +kernel
theorem dX10_sheet_38 : decode cX10_sheet 38 = .ok (.invokevirtual 304, 3) := by decide +kernel
theorem dX10_sheet_41 : decode cX10_sheet 41 = .ok (.ireturn, 1) := by decide +kernel
theorem dX10_sheet_42 : decode cX10_sheet 42 = .ok (.aload_n 0, 1) := by decide +kernel
theorem dX10_sheet_43 : decode cX10_sheet 43 = .ok (.getfield 68, 3) := by decide +kernel
theorem dX10_sheet_46 : decode cX10_sheet 46 = .ok (.iload_n 1, 1) := by decide +kernel
theorem dX10_sheet_47 : decode cX10_sheet 47 = .ok (.aaload, 1) := by decide +kernel
theorem dX10_sheet_48 : decode cX10_sheet 48 = .ok (.iload_n 2, 1) := by decide +kernel
theorem dX10_sheet_49 : decode cX10_sheet 49 = .ok (.iload_n 3, 1) := by decide +kernel
theorem dX10_sheet_50 : decode cX10_sheet 50 = .ok (.invokevirtual 307, 3) := by decide +kernel
theorem dX10_sheet_53 : decode cX10_sheet 53 = .ok (.iconst 1, 1) := by decide +kernel
theorem dX10_sheet_54 : decode cX10_sheet 54 = .ok (.ireturn, 1) := by decide +kernel
theorem dX10_lose_0 : decode cX10_lose 0 = .ok (.iload_n 1, 1) := by decide +kernel
theorem dX10_lose_1 : decode cX10_lose 1 = .ok (.iconst 4, 1) := by decide +kernel
theorem dX10_lose_2 : decode cX10_lose 2 = .ok (.invokestatic 114, 3) := by decide +kernel
theorem dX10_lose_5 : decode cX10_lose 5 = .ok (.ifCond .ne 5, 3) := by decide +kernel
theorem dX10_lose_8 : decode cX10_lose 8 = .ok (.iconst (-1), 1) := by decide +kernel
theorem dX10_lose_9 : decode cX10_lose 9 = .ok (.ireturn, 1) := by decide +kernel
theorem dX10_lose_10 : decode cX10_lose 10 = .ok (.aload_n 0, 1) := by decide +kernel
theorem dX10_lose_11 : decode cX10_lose 11 = .ok (.getfield 68, 3) := by decide +kernel
theorem dX10_lose_14 : decode cX10_lose 14 = .ok (.iload_n 1, 1) := by decide +kernel
theorem dX10_lose_15 : decode cX10_lose 15 = .ok (.aaload, 1) := by decide +kernel
theorem dX10_lose_16 : decode cX10_lose 16 = .ok (.invokevirtual 311, 3) := by decide +kernel
theorem dX10_lose_19 : decode cX10_lose 19 = .ok (.ifCond .eq 7, 3) := by decide +kernel
theorem dX10_lose_22 : decode cX10_lose 22 = .ok (.iconst 1, 1) := by decide +kernel
theorem dX10_lose_23 : decode cX10_lose 23 = .ok (.goto 4, 3) := by decide +kernel
theorem dX10_lose_26 : decode cX10_lose 26 = .ok (.iconst 0, 1) := by decide +kernel
theorem dX10_lose_27 : decode cX10_lose 27 = .ok (.ireturn, 1) := by decide +kernel
theorem dX10_put_0 : decode cX10_put 0 = .ok (.aload_n 0, 1) := by decide +kernel
theorem dX10_put_1 : decode cX10_put 1 = .ok (.iconst 0, 1) := by decide +kernel
theorem dX10_put_2 : decode cX10_put 2 = .ok (.putfield 102, 3) := by decide +kernel
theorem dX10_put_5 : decode cX10_put 5 = .ok (.iload_n 1, 1) := by decide +kernel
theorem dX10_put_6 : decode cX10_put 6 = .ok (.iconst 4, 1) := by decide +kernel
theorem dX10_put_7 : decode cX10_put 7 = .ok (.invokestatic 114, 3) := by decide +kernel
theorem dX10_put_10 : decode cX10_put 10 = .ok (.ifCond .ne 5, 3) := by decide +kernel
theorem dX10_put_13 : decode cX10_put 13 = .ok (.iconst (-1), 1) := by decide +kernel
theorem dX10_put_14 : decode cX10_put 14 = .ok (.ireturn, 1) := by decide +kernel
theorem dX10_put_15 : decode cX10_put 15 = .ok (.aload_n 0, 1) := by decide +kernel
theorem dX10_put_16 : decode cX10_put 16 = .ok (.getfield 68, 3) := by decide +kernel
theorem dX10_put_19 : decode cX10_put 19 = .ok (.iload_n 1, 1) := by decide +kernel
theorem dX10_put_20 : decode cX10_put 20 = .ok (.aaload, 1) := by decide +kernel
theorem dX10_put_21 : decode cX10_put 21 = .ok (.getfield 314, 3) := by decide +kernel
theorem dX10_put_24 : decode cX10_put 24 = .ok (.ifCond .ne 9, 3) := by decide +kernel
theorem dX10_put_27 : decode cX10_put 27 = .ok (.aload_n 0, 1) := by decide +kernel
theorem dX10_put_28 : decode cX10_put 28 = .ok (.iconst 1, 1) := by decide +kernel
theorem dX10_put_29 : decode cX10_put 29 = .ok (.invokevirtual 304, 3) := by decide +kernel
theorem dX10_put_32 : decode cX10_put 32 = .ok (.ireturn, 1) := by decide +kernel
theorem dX10_put_33 : decode cX10_put 33 = .ok (.iload_n 2, 1) := by decide +kernel
theorem dX10_put_34 : decode cX10_put 34 = .ok (.aload_n 0, 1) := by decide +kernel
theorem dX10_put_35 : decode cX10_put 35 = .ok (.getfield 68, 3) := by decide +kernel
theorem dX10_put_38 : decode cX10_put 38 = .ok (.iload_n 1, 1) := by decide +kernel
theorem dX10_put_39 : decode cX10_put 39 = .ok (.aaload, 1) := by decide +kernel
theorem dX10_put_40 : decode cX10_put 40 = .ok (.getfield 318, 3) := by decide +kernel
theorem dX10_put_43 : decode cX10_put 43 = .ok (.invokestatic 114, 3) := by decide +kernel
theorem dX10_put_46 : decode cX10_put 46 = .ok (.ifCond .ne 9, 3) := by decide +kernel
theorem dX10_put_49 : decode cX10_put 49 = .ok (.aload_n 0, 1) := by decide +kernel
theorem dX10_put_50 : decode cX10_put 50 = .ok (.iconst 3, 1) := by decide +kernel
theorem dX10_put_51 : decode cX10_put 51 = .ok (.invokevirtual 304, 3) := by decide +kernel
theorem dX10_put_54 : decode cX10_put 54 = .ok (.ireturn, 1) := by decide +kernel
theorem dX10_put_55 : decode cX10_put 55 = .ok (.aload_n 0, 1) := by decide +kernel
theorem dX10_put_56 : decode cX10_put 56 = .ok (.getfield 68, 3) := by decide +kernel
theorem dX10_put_59 : decode cX10_put 59 = .ok (.iload_n 1, 1) := by decide +kernel
theorem dX10_put_60 : decode cX10_put 60 = .ok (.aaload, 1) := by decide +kernel
theorem dX10_put_61 : decode cX10_put 61 = .ok (.iload_n 2, 1) := by decide +kernel
theorem dX10_put_62 : decode cX10_put 62 = .ok (.iload_n 3, 1) := by decide +kernel
theorem dX10_put_63 : decode cX10_put 63 = .ok (.invokevirtual 319, 3) := by decide +kernel
theorem dX10_put_66 : decode cX10_put 66 = .ok (.iconst 1, 1) := by decide +kernel
theorem dX10_put_67 : decode cX10_put 67 = .ok (.ireturn, 1) := by decide +kernel
theorem dX10_cell_0 : decode cX10_cell 0 = .ok (.aload_n 0, 1) := by decide +kernel
theorem dX10_cell_1 : decode cX10_cell 1 = .ok (.iconst 0, 1) := by decide +kernel
theorem dX10_cell_2 : decode cX10_cell 2 = .ok (.putfield 102, 3) := by decide +kernel
theorem dX10_cell_5 : decode cX10_cell 5 = .ok (.iload_n 1, 1) := by decide +kernel
theorem dX10_cell_6 : decode cX10_cell 6 = .ok (.iconst 4, 1) := by decide +kernel
theorem dX10_cell_7 : decode cX10_cell 7 = .ok (.invokestatic 114, 3) := by decide +kernel
theorem dX10_cell_10 : decode cX10_cell 10 = .ok (.ifCond .eq 11, 3) := by decide +kernel
theorem dX10_cell_13 : decode cX10_cell 13 = .ok (.iload_n 3, 1) := by decide +kernel
theorem dX10_cell_14 : decode cX10_cell 14 = .ok (.iconst 3, 1) := by decide +kernel
theorem dX10_cell_15 : decode cX10_cell 15 = .ok (.invokestatic 114, 3) := by decide +kernel
theorem dX10_cell_18 : decode cX10_cell 18 = .ok (.ifCond .ne 7, 3) := by decide +kernel
theorem dX10_cell_21 : decode cX10_cell 21 = .ok (.ldc2_w 322, 3) := by decide +kernel
theorem dX10_cell_24 : decode cX10_cell 24 = .ok (.lreturn, 1) := by decide +kernel
theorem dX10_cell_25 : decode cX10_cell 25 = .ok (.aload_n 0, 1) := by decide +kernel
theorem dX10_cell_26 : decode cX10_cell 26 = .ok (.aload_n 0, 1) := by decide +kernel
theorem dX10_cell_27 : decode cX10_cell 27 = .ok (.getfield 68, 3) := by decide +kernel
theorem dX10_cell_30 : decode cX10_cell 30 = .ok (.iload_n 1, 1) := by decide +kernel
theorem dX10_cell_31 : decode cX10_cell 31 = .ok (.aaload, 1) := by decide +kernel
theorem dX10_cell_32 : decode cX10_cell 32 = .ok (.iload_n 3, 1) := by decide +kernel
theorem dX10_cell_33 : decode cX10_cell 33 = .ok (.invokevirtual 324, 3) := by decide +kernel
theorem dX10_cell_36 : decode cX10_cell 36 = .ok (.putfield 102, 3) := by decide +kernel
theorem dX10_cell_39 : decode cX10_cell 39 = .ok (.aload_n 0, 1) := by decide +kernel
theorem dX10_cell_40 : decode cX10_cell 40 = .ok (.getfield 102, 3) := by decide +kernel
theorem dX10_cell_43 : decode cX10_cell 43 = .ok (.ifCond .ne 24, 3) := by decide +kernel
theorem dX10_cell_46 : decode cX10_cell 46 = .ok (.iload_n 2, 1) := by decide +kernel
theorem dX10_cell_47 : decode cX10_cell 47 = .ok (.aload_n 0, 1) := by decide +kernel
theorem dX10_cell_48 : decode cX10_cell 48 = .ok (.getfield 68, 3) := by decide +kernel
theorem dX10_cell_51 : decode cX10_cell 51 = .ok (.iload_n 1, 1) := by decide +kernel
theorem dX10_cell_52 : decode cX10_cell 52 = .ok (.aaload, 1) := by decide +kernel
theorem dX10_cell_53 : decode cX10_cell 53 = .ok (.getfield 318, 3) := by decide +kernel
theorem dX10_cell_56 : decode cX10_cell 56 = .ok (.invokestatic 114, 3) := by decide +kernel
theorem dX10_cell_59 : decode cX10_cell 59 = .ok (.ifCond .ne 8, 3) := by decide +kernel
theorem dX10_cell_62 : decode cX10_cell 62 = .ok (.aload_n 0, 1) := by decide +kernel
theorem dX10_cell_63 : decode cX10_cell 63 = .ok (.iconst 3, 1) := by decide +kernel
theorem dX10_cell_64 : decode cX10_cell 64 = .ok (.putfield 102, 3) := by decide +kernel
theorem dX10_cell_67 : decode cX10_cell 67 = .ok (.aload_n 0, 1) := by decide +kernel
theorem dX10_cell_68 : decode cX10_cell 68 = .ok (.getfield 102, 3) := by decide +kernel
theorem dX10_cell_71 : decode cX10_cell 71 = .ok (.ifCond .ne 18, 3) := by decide +kernel
theorem dX10_cell_74 : decode cX10_cell 74 = .ok (.aload_n 0, 1) := by decide +kernel
theorem dX10_cell_75 : decode cX10_cell 75 = .ok (.getfield 68, 3) := by decide +kernel
theorem dX10_cell_78 : decode cX10_cell 78 = .ok (.iload_n 1, 1) := by decide +kernel
theorem dX10_cell_79 : decode cX10_cell 79 = .ok (.aaload, 1) := by decide +kernel
theorem dX10_cell_80 : decode cX10_cell 80 = .ok (.getfield 327, 3) := by decide +kernel
theorem dX10_cell_83 : decode cX10_cell 83 = .ok (.iload_n 2, 1) := by decide +kernel
theorem dX10_cell_84 : decode cX10_cell 84 = .ok (.iaload, 1) := by decide +kernel
theorem dX10_cell_85 : decode cX10_cell 85 = .ok (.i2l, 1) := by decide +kernel
theorem dX10_cell_86 : decode cX10_cell 86 = .ok (.goto 6, 3) := by decide +kernel
theorem dX10_cell_89 : decode cX10_cell 89 = .ok (.ldc2_w 322, 3) := by decide +kernel
theorem dX10_cell_92 : decode cX10_cell 92 = .ok (.lreturn, 1) := by decide +kernel
theorem dX10_tell_0 : decode cX10_tell 0 = .ok (.aload_n 0, 1) := by decide +kernel
theorem dX10_tell_1 : decode cX10_tell 1 = .ok (.iload_n 1, 1) := by decide +kernel
theorem dX10_tell_2 : decode cX10_tell 2 = .ok (.invokevirtual 176, 3) := by decide +kernel
theorem dX10_tell_5 : decode cX10_tell 5 = .ok (.ifCond .ne 5, 3) := by decide +kernel
theorem dX10_tell_8 : decode cX10_tell 8 = .ok (.iconst (-1), 1) := by decide +kernel
theorem dX10_tell_9 : decode cX10_tell 9 = .ok (.ireturn, 1) := by decide +kernel
theorem dX10_tell_10 : decode cX10_tell 10 = .ok (.aload_n 0, 1) := by decide +kernel
theorem dX10_tell_11 : decode cX10_tell 11 = .ok (.getfield 30, 3) := by decide +kernel
theorem dX10_tell_14 : decode cX10_tell 14 = .ok (.iload_n 1, 1) := by decide +kernel
theorem dX10_tell_15 : decode cX10_tell 15 = .ok (.aaload, 1) := by decide +kernel
theorem dX10_tell_16 : decode cX10_tell 16 = .ok (.getfield 179, 3) := by decide +kernel
theorem dX10_tell_19 : decode cX10_tell 19 = .ok (.lookupswitch 47 #[(1, 36), (2, 25)], 25) := by decide +kernel
theorem dX10_tell_44 : decode cX10_tell 44 = .ok (.aload_n 0, 1) := by decide +kernel
theorem dX10_tell_45 : decode cX10_tell 45 = .ok (.aload_n 0, 1) := by decide +kernel
theorem dX10_tell_46 : decode cX10_tell 46 = .ok (.getfield 30, 3) := by decide +kernel
theorem dX10_tell_49 : decode cX10_tell 49 = .ok (.iload_n 1, 1) := by decide +kernel
theorem dX10_tell_50 : decode cX10_tell 50 = .ok (.aaload, 1) := by decide +kernel
theorem dX10_tell_51 : decode cX10_tell 51 = .ok (.invokevirtual 330, 3) := by decide +kernel
theorem dX10_tell_54 : decode cX10_tell 54 = .ok (.ireturn, 1) := by decide +kernel
theorem dX10_tell_55 : decode cX10_tell 55 = .ok (.aload_n 0, 1) := by decide +kernel
theorem dX10_tell_56 : decode cX10_tell 56 = .ok (.aload_n 0, 1) := by decide +kernel
theorem dX10_tell_57 : decode cX10_tell 57 = .ok (.getfield 30, 3) := by decide +kernel
theorem dX10_tell_60 : decode cX10_tell 60 = .ok (.iload_n 1, 1) := by decide +kernel
theorem dX10_tell_61 : decode cX10_tell 61 = .ok (.aaload, 1) := by decide +kernel
theorem dX10_tell_62 : decode cX10_tell 62 = .ok (.invokevirtual 334, 3) := by decide +kernel
theorem dX10_tell_65 : decode cX10_tell 65 = .ok (.ireturn, 1) := by decide +kernel
theorem dX10_tell_66 : decode cX10_tell 66 = .ok (.aload_n 0, 1) := by decide +kernel
theorem dX10_tell_67 : decode cX10_tell 67 = .ok (.aload_n 0, 1) := by decide +kernel
theorem dX10_tell_68 : decode cX10_tell 68 = .ok (.getfield 30, 3) := by decide +kernel
theorem dX10_tell_71 : decode cX10_tell 71 = .ok (.iload_n 1, 1) := by decide +kernel
theorem dX10_tell_72 : decode cX10_tell 72 = .ok (.aaload, 1) := by decide +kernel
theorem dX10_tell_73 : decode cX10_tell 73 = .ok (.invokevirtual 337, 3) := by decide +kernel
theorem dX10_tell_76 : decode cX10_tell 76 = .ok (.ireturn, 1) := by decide +kernel
theorem dX10_tellForm_0 : decode cX10_tellForm 0 = .ok (.aload_n 0, 1) := by decide +kernel
theorem dX10_tellForm_1 : decode cX10_tellForm 1 = .ok (.iconst 1, 1) := by decide +kernel
theorem dX10_tellForm_2 : decode cX10_tellForm 2 = .ok (.invokevirtual 340, 3) := by decide +kernel
theorem dX10_tellForm_5 : decode cX10_tellForm 5 = .ok (.aload_n 1, 1) := by decide +kernel
theorem dX10_tellForm_6 : decode cX10_tellForm 6 = .ok (.getfield 188, 3) := by decide +kernel
theorem dX10_tellForm_9 : decode cX10_tellForm 9 = .ok (.getfield 191, 3) := by decide +kernel
theorem dX10_tellForm_12 : decode cX10_tellForm 12 = .ok (.ireturn, 1) := by decide +kernel
theorem dX10_tellLoan_0 : decode cX10_tellLoan 0 = .ok (.aload_n 0, 1) := by decide +kernel
theorem dX10_tellLoan_1 : decode cX10_tellLoan 1 = .ok (.iconst 2, 1) := by decide +kernel
theorem dX10_tellLoan_2 : decode cX10_tellLoan 2 = .ok (.invokevirtual 340, 3) := by decide +kernel
theorem dX10_tellLoan_5 : decode cX10_tellLoan 5 = .ok (.aload_n 0, 1) := by decide +kernel
theorem dX10_tellLoan_6 : decode cX10_tellLoan 6 = .ok (.aload_n 1, 1) := by decide +kernel
theorem dX10_tellLoan_7 : decode cX10_tellLoan 7 = .ok (.invokevirtual 337, 3) := by decide +kernel
theorem dX10_tellLoan_10 : decode cX10_tellLoan 10 = .ok (.bipush 10, 2) := by decide +kernel
theorem dX10_tellLoan_12 : decode cX10_tellLoan 12 = .ok (.iadd, 1) := by decide +kernel
theorem dX10_tellLoan_13 : decode cX10_tellLoan 13 = .ok (.ireturn, 1) := by decide +kernel
theorem dX10_tellGuess_0 : decode cX10_tellGuess 0 = .ok (.aload_n 0, 1) := by decide +kernel
theorem dX10_tellGuess_1 : decode cX10_tellGuess 1 = .ok (.iconst 3, 1) := by decide +kernel
theorem dX10_tellGuess_2 : decode cX10_tellGuess 2 = .ok (.invokevirtual 340, 3) := by decide +kernel
theorem dX10_tellGuess_5 : decode cX10_tellGuess 5 = .ok (.aload_n 0, 1) := by decide +kernel
theorem dX10_tellGuess_6 : decode cX10_tellGuess 6 = .ok (.aload_n 1, 1) := by decide +kernel
theorem dX10_tellGuess_7 : decode cX10_tellGuess 7 = .ok (.invokevirtual 334, 3) := by decide +kernel
theorem dX10_tellGuess_10 : decode cX10_tellGuess 10 = .ok (.aload_n 0, 1) := by decide +kernel
theorem dX10_tellGuess_11 : decode cX10_tellGuess 11 = .ok (.aload_n 1, 1) := by decide +kernel
theorem dX10_tellGuess_12 : decode cX10_tellGuess 12 = .ok (.invokevirtual 337, 3) := by decide +kernel
theorem dX10_tellGuess_15 : decode cX10_tellGuess 15 = .ok (.iadd, 1) := by decide +kernel
theorem dX10_tellGuess_16 : decode cX10_tellGuess 16 = .ok (.ireturn, 1) := by decide +kernel
theorem dX10_name_0 : decode cX10_name 0 = .ok (.aload_n 0, 1) := by decide +kernel
theorem dX10_name_1 : decode cX10_name 1 = .ok (.iload_n 1, 1) := by decide +kernel
theorem dX10_name_2 : decode cX10_name 2 = .ok (.invokevirtual 176, 3) := by decide +kernel
theorem dX10_name_5 : decode cX10_name 5 = .ok (.ifCond .ne 5, 3) := by decide +kernel
theorem dX10_name_8 : decode cX10_name 8 = .ok (.iconst (-1), 1) := by decide +kernel
theorem dX10_name_9 : decode cX10_name 9 = .ok (.ireturn, 1) := by decide +kernel
theorem dX10_name_10 : decode cX10_name 10 = .ok (.aload_n 0, 1) := by decide +kernel
theorem dX10_name_11 : decode cX10_name 11 = .ok (.getfield 30, 3) := by decide +kernel
theorem dX10_name_14 : decode cX10_name 14 = .ok (.iload_n 1, 1) := by decide +kernel
theorem dX10_name_15 : decode cX10_name 15 = .ok (.aaload, 1) := by decide +kernel
theorem dX10_name_16 : decode cX10_name 16 = .ok (.getfield 179, 3) := by decide +kernel
theorem dX10_name_19 : decode cX10_name 19 = .ok (.iconst 2, 1) := by decide +kernel
theorem dX10_name_20 : decode cX10_name 20 = .ok (.if_icmp .ne 11, 3) := by decide +kernel
theorem dX10_name_23 : decode cX10_name 23 = .ok (.aload_n 0, 1) := by decide +kernel
theorem dX10_name_24 : decode cX10_name 24 = .ok (.iconst 5, 1) := by decide +kernel
theorem dX10_name_25 : decode cX10_name 25 = .ok (.invokevirtual 340, 3) := by decide +kernel
theorem dX10_name_28 : decode cX10_name 28 = .ok (.bipush 70, 2) := by decide +kernel
theorem dX10_name_30 : decode cX10_name 30 = .ok (.ireturn, 1) := by decide +kernel
theorem dX10_name_31 : decode cX10_name 31 = .ok (.aload_n 0, 1) := by decide +kernel
theorem dX10_name_32 : decode cX10_name 32 = .ok (.iconst 4, 1) := by decide +kernel
theorem dX10_name_33 : decode cX10_name 33 = .ok (.invokevirtual 340, 3) := by decide +kernel
theorem dX10_name_36 : decode cX10_name 36 = .ok (.iload_n 1, 1) := by decide +kernel
theorem dX10_name_37 : decode cX10_name 37 = .ok (.ireturn, 1) := by decide +kernel
theorem dX10_leaveTrace_0 : decode cX10_leaveTrace 0 = .ok (.aload_n 0, 1) := by decide +kernel
theorem dX10_leaveTrace_1 : decode cX10_leaveTrace 1 = .ok (.bipush 31, 2) := by decide +kernel
theorem dX10_leaveTrace_3 : decode cX10_leaveTrace 3 = .ok (.aload_n 0, 1) := by decide +kernel
theorem dX10_leaveTrace_4 : decode cX10_leaveTrace 4 = .ok (.getfield 99, 3) := by decide +kernel
theorem dX10_leaveTrace_7 : decode cX10_leaveTrace 7 = .ok (.imul, 1) := by decide +kernel
theorem dX10_leaveTrace_8 : decode cX10_leaveTrace 8 = .ok (.iload_n 1, 1) := by decide +kernel
theorem dX10_leaveTrace_9 : decode cX10_leaveTrace 9 = .ok (.iadd, 1) := by decide +kernel
theorem dX10_leaveTrace_10 : decode cX10_leaveTrace 10 = .ok (.putfield 99, 3) := by decide +kernel
theorem dX10_leaveTrace_13 : decode cX10_leaveTrace 13 = .ok (.return_, 1) := by decide +kernel
theorem dX10_as_0 : decode cX10_as 0 = .ok (.aload_n 0, 1) := by decide +kernel
theorem dX10_as_1 : decode cX10_as 1 = .ok (.iconst 0, 1) := by decide +kernel
theorem dX10_as_2 : decode cX10_as 2 = .ok (.putfield 102, 3) := by decide +kernel
theorem dX10_as_5 : decode cX10_as 5 = .ok (.aload_n 0, 1) := by decide +kernel
theorem dX10_as_6 : decode cX10_as 6 = .ok (.iload_n 1, 1) := by decide +kernel
theorem dX10_as_7 : decode cX10_as 7 = .ok (.invokevirtual 176, 3) := by decide +kernel
theorem dX10_as_10 : decode cX10_as 10 = .ok (.ifCond .ne 5, 3) := by decide +kernel
theorem dX10_as_13 : decode cX10_as 13 = .ok (.iconst (-1), 1) := by decide +kernel
theorem dX10_as_14 : decode cX10_as 14 = .ok (.ireturn, 1) := by decide +kernel
theorem dX10_as_15 : decode cX10_as 15 = .ok (.iload_n 2, 1) := by decide +kernel
theorem dX10_as_16 : decode cX10_as 16 = .ok (.iconst 0, 1) := by decide +kernel
theorem dX10_as_17 : decode cX10_as 17 = .ok (.iconst 2, 1) := by decide +kernel
theorem dX10_as_18 : decode cX10_as 18 = .ok (.invokestatic 142, 3) := by decide +kernel
theorem dX10_as_21 : decode cX10_as 21 = .ok (.ifCond .ne 6, 3) := by decide +kernel
theorem dX10_as_24 : decode cX10_as 24 = .ok (.bipush (-2), 2) := by decide +kernel
theorem dX10_as_26 : decode cX10_as 26 = .ok (.ireturn, 1) := by decide +kernel
theorem dX10_as_27 : decode cX10_as 27 = .ok (.aload_n 0, 1) := by decide +kernel
theorem dX10_as_28 : decode cX10_as 28 = .ok (.getfield 30, 3) := by decide +kernel
theorem dX10_as_31 : decode cX10_as 31 = .ok (.iload_n 1, 1) := by decide +kernel
theorem dX10_as_32 : decode cX10_as 32 = .ok (.aaload, 1) := by decide +kernel
theorem dX10_as_33 : decode cX10_as 33 = .ok (.getfield 179, 3) := by decide +kernel
theorem dX10_as_36 : decode cX10_as 36 = .ok (.iload_n 2, 1) := by decide +kernel
theorem dX10_as_37 : decode cX10_as 37 = .ok (.if_icmp .lt 7, 3) := by decide +kernel
theorem dX10_as_40 : decode cX10_as 40 = .ok (.iconst 1, 1) := by decide +kernel
theorem dX10_as_41 : decode cX10_as 41 = .ok (.goto 8, 3) := by decide +kernel
theorem dX10_as_44 : decode cX10_as 44 = .ok (.aload_n 0, 1) := by decide +kernel
theorem dX10_as_45 : decode cX10_as 45 = .ok (.iconst 2, 1) := by decide +kernel
theorem dX10_as_46 : decode cX10_as 46 = .ok (.invokevirtual 304, 3) := by decide +kernel
theorem dX10_as_49 : decode cX10_as 49 = .ok (.ireturn, 1) := by decide +kernel
theorem dX10_trace_0 : decode cX10_trace 0 = .ok (.aload_n 0, 1) := by decide +kernel
theorem dX10_trace_1 : decode cX10_trace 1 = .ok (.getfield 99, 3) := by decide +kernel
theorem dX10_trace_4 : decode cX10_trace 4 = .ok (.ireturn, 1) := by decide +kernel
theorem dX10_fault_0 : decode cX10_fault 0 = .ok (.aload_n 0, 1) := by decide +kernel
theorem dX10_fault_1 : decode cX10_fault 1 = .ok (.getfield 102, 3) := by decide +kernel
theorem dX10_fault_4 : decode cX10_fault 4 = .ok (.ireturn, 1) := by decide +kernel
theorem dX10_many_0 : decode cX10_many 0 = .ok (.iload_n 1, 1) := by decide +kernel
theorem dX10_many_1 : decode cX10_many 1 = .ok (.tableswitch 57 0 3 #[31, 36, 41, 49], 31) := by decide +kernel
theorem dX10_many_32 : decode cX10_many 32 = .ok (.aload_n 0, 1) := by decide +kernel
theorem dX10_many_33 : decode cX10_many 33 = .ok (.getfield 89, 3) := by decide +kernel
theorem dX10_many_36 : decode cX10_many 36 = .ok (.ireturn, 1) := by decide +kernel
theorem dX10_many_37 : decode cX10_many 37 = .ok (.aload_n 0, 1) := by decide +kernel
theorem dX10_many_38 : decode cX10_many 38 = .ok (.getfield 93, 3) := by decide +kernel
theorem dX10_many_41 : decode cX10_many 41 = .ok (.ireturn, 1) := by decide +kernel
theorem dX10_many_42 : decode cX10_many 42 = .ok (.aload_n 0, 1) := by decide +kernel
theorem dX10_many_43 : decode cX10_many 43 = .ok (.getfield 48, 3) := by decide +kernel
theorem dX10_many_46 : decode cX10_many 46 = .ok (.getfield 343, 3) := by decide +kernel
theorem dX10_many_49 : decode cX10_many 49 = .ok (.ireturn, 1) := by decide +kernel
theorem dX10_many_50 : decode cX10_many 50 = .ok (.aload_n 0, 1) := by decide +kernel
theorem dX10_many_51 : decode cX10_many 51 = .ok (.getfield 96, 3) := by decide +kernel
theorem dX10_many_54 : decode cX10_many 54 = .ok (.invokestatic 346, 3) := by decide +kernel
theorem dX10_many_57 : decode cX10_many 57 = .ok (.ireturn, 1) := by decide +kernel
theorem dX10_many_58 : decode cX10_many 58 = .ok (.bipush (-2), 2) := by decide +kernel
theorem dX10_many_60 : decode cX10_many 60 = .ok (.ireturn, 1) := by decide +kernel
theorem dX10_isBelow_0 : decode cX10_isBelow 0 = .ok (.iload_n 0, 1) := by decide +kernel
theorem dX10_isBelow_1 : decode cX10_isBelow 1 = .ok (.ifCond .lt 12, 3) := by decide +kernel
theorem dX10_isBelow_4 : decode cX10_isBelow 4 = .ok (.iload_n 0, 1) := by decide +kernel
theorem dX10_isBelow_5 : decode cX10_isBelow 5 = .ok (.iload_n 1, 1) := by decide +kernel
theorem dX10_isBelow_6 : decode cX10_isBelow 6 = .ok (.if_icmp .ge 7, 3) := by decide +kernel
theorem dX10_isBelow_9 : decode cX10_isBelow 9 = .ok (.iconst 1, 1) := by decide +kernel
theorem dX10_isBelow_10 : decode cX10_isBelow 10 = .ok (.goto 4, 3) := by decide +kernel
theorem dX10_isBelow_13 : decode cX10_isBelow 13 = .ok (.iconst 0, 1) := by decide +kernel
theorem dX10_isBelow_14 : decode cX10_isBelow 14 = .ok (.ireturn, 1) := by decide +kernel
theorem dX10_isWithin_0 : decode cX10_isWithin 0 = .ok (.iload_n 0, 1) := by decide +kernel
theorem dX10_isWithin_1 : decode cX10_isWithin 1 = .ok (.iload_n 1, 1) := by decide +kernel
theorem dX10_isWithin_2 : decode cX10_isWithin 2 = .ok (.if_icmp .lt 12, 3) := by decide +kernel
theorem dX10_isWithin_5 : decode cX10_isWithin 5 = .ok (.iload_n 0, 1) := by decide +kernel
theorem dX10_isWithin_6 : decode cX10_isWithin 6 = .ok (.iload_n 2, 1) := by decide +kernel
theorem dX10_isWithin_7 : decode cX10_isWithin 7 = .ok (.if_icmp .gt 7, 3) := by decide +kernel
theorem dX10_isWithin_10 : decode cX10_isWithin 10 = .ok (.iconst 1, 1) := by decide +kernel
theorem dX10_isWithin_11 : decode cX10_isWithin 11 = .ok (.goto 4, 3) := by decide +kernel
theorem dX10_isWithin_14 : decode cX10_isWithin 14 = .ok (.iconst 0, 1) := by decide +kernel
theorem dX10_isWithin_15 : decode cX10_isWithin 15 = .ok (.ireturn, 1) := by decide +kernel
theorem dX10_isSetBelow_0 : decode cX10_isSetBelow 0 = .ok (.iload_n 0, 1) := by decide +kernel
theorem dX10_isSetBelow_1 : decode cX10_isSetBelow 1 = .ok (.iload_n 1, 1) := by decide +kernel
theorem dX10_isSetBelow_2 : decode cX10_isSetBelow 2 = .ok (.iushr, 1) := by decide +kernel
theorem dX10_isSetBelow_3 : decode cX10_isSetBelow 3 = .ok (.ifCond .ne 7, 3) := by decide +kernel
theorem dX10_isSetBelow_6 : decode cX10_isSetBelow 6 = .ok (.iconst 1, 1) := by decide +kernel
theorem dX10_isSetBelow_7 : decode cX10_isSetBelow 7 = .ok (.goto 4, 3) := by decide +kernel
theorem dX10_isSetBelow_10 : decode cX10_isSetBelow 10 = .ok (.iconst 0, 1) := by decide +kernel
theorem dX10_isSetBelow_11 : decode cX10_isSetBelow 11 = .ok (.ireturn, 1) := by decide +kernel
theorem dX10_isIn_0 : decode cX10_isIn 0 = .ok (.iload_n 1, 1) := by decide +kernel
theorem dX10_isIn_1 : decode cX10_isIn 1 = .ok (.iload_n 0, 1) := by decide +kernel
theorem dX10_isIn_2 : decode cX10_isIn 2 = .ok (.ishr, 1) := by decide +kernel
theorem dX10_isIn_3 : decode cX10_isIn 3 = .ok (.iconst 1, 1) := by decide +kernel
theorem dX10_isIn_4 : decode cX10_isIn 4 = .ok (.iand, 1) := by decide +kernel
theorem dX10_isIn_5 : decode cX10_isIn 5 = .ok (.iconst 1, 1) := by decide +kernel
theorem dX10_isIn_6 : decode cX10_isIn 6 = .ok (.if_icmp .ne 7, 3) := by decide +kernel
theorem dX10_isIn_9 : decode cX10_isIn 9 = .ok (.iconst 1, 1) := by decide +kernel
theorem dX10_isIn_10 : decode cX10_isIn 10 = .ok (.goto 4, 3) := by decide +kernel
theorem dX10_isIn_13 : decode cX10_isIn 13 = .ok (.iconst 0, 1) := by decide +kernel
theorem dX10_isIn_14 : decode cX10_isIn 14 = .ok (.ireturn, 1) := by decide +kernel
theorem dX10_isMeaning_0 : decode cX10_isMeaning 0 = .ok (.iload_n 0, 1) := by decide +kernel
theorem dX10_isMeaning_1 : decode cX10_isMeaning 1 = .ok (.bipush 6, 2) := by decide +kernel
theorem dX10_isMeaning_3 : decode cX10_isMeaning 3 = .ok (.invokestatic 114, 3) := by decide +kernel
theorem dX10_isMeaning_6 : decode cX10_isMeaning 6 = .ok (.ireturn, 1) := by decide +kernel
theorem dX10_isSoughtSet_0 : decode cX10_isSoughtSet 0 = .ok (.iload_n 0, 1) := by decide +kernel
theorem dX10_isSoughtSet_1 : decode cX10_isSoughtSet 1 = .ok (.bipush 16, 2) := by decide +kernel
theorem dX10_isSoughtSet_3 : decode cX10_isSoughtSet 3 = .ok (.invokestatic 118, 3) := by decide +kernel
theorem dX10_isSoughtSet_6 : decode cX10_isSoughtSet 6 = .ok (.ifCond .eq 19, 3) := by decide +kernel
theorem dX10_isSoughtSet_9 : decode cX10_isSoughtSet 9 = .ok (.iload_n 0, 1) := by decide +kernel
theorem dX10_isSoughtSet_10 : decode cX10_isSoughtSet 10 = .ok (.invokestatic 346, 3) := by decide +kernel
theorem dX10_isSoughtSet_13 : decode cX10_isSoughtSet 13 = .ok (.iconst 1, 1) := by decide +kernel
theorem dX10_isSoughtSet_14 : decode cX10_isSoughtSet 14 = .ok (.iconst 5, 1) := by decide +kernel
theorem dX10_isSoughtSet_15 : decode cX10_isSoughtSet 15 = .ok (.invokestatic 142, 3) := by decide +kernel
theorem dX10_isSoughtSet_18 : decode cX10_isSoughtSet 18 = .ok (.ifCond .eq 7, 3) := by decide +kernel
theorem dX10_isSoughtSet_21 : decode cX10_isSoughtSet 21 = .ok (.iconst 1, 1) := by decide +kernel
theorem dX10_isSoughtSet_22 : decode cX10_isSoughtSet 22 = .ok (.goto 4, 3) := by decide +kernel
theorem dX10_isSoughtSet_25 : decode cX10_isSoughtSet 25 = .ok (.iconst 0, 1) := by decide +kernel
theorem dX10_isSoughtSet_26 : decode cX10_isSoughtSet 26 = .ok (.ireturn, 1) := by decide +kernel
theorem dX10_isPlace_0 : decode cX10_isPlace 0 = .ok (.iload_n 1, 1) := by decide +kernel
theorem dX10_isPlace_1 : decode cX10_isPlace 1 = .ok (.aload_n 0, 1) := by decide +kernel
theorem dX10_isPlace_2 : decode cX10_isPlace 2 = .ok (.getfield 89, 3) := by decide +kernel
theorem dX10_isPlace_5 : decode cX10_isPlace 5 = .ok (.invokestatic 114, 3) := by decide +kernel
theorem dX10_isPlace_8 : decode cX10_isPlace 8 = .ok (.ireturn, 1) := by decide +kernel
theorem dX10_isForm_0 : decode cX10_isForm 0 = .ok (.iload_n 1, 1) := by decide +kernel
theorem dX10_isForm_1 : decode cX10_isForm 1 = .ok (.aload_n 0, 1) := by decide +kernel
theorem dX10_isForm_2 : decode cX10_isForm 2 = .ok (.getfield 93, 3) := by decide +kernel
theorem dX10_isForm_5 : decode cX10_isForm 5 = .ok (.invokestatic 114, 3) := by decide +kernel
theorem dX10_isForm_8 : decode cX10_isForm 8 = .ok (.ireturn, 1) := by decide +kernel
theorem dX10_isLaw_0 : decode cX10_isLaw 0 = .ok (.iload_n 1, 1) := by decide +kernel
theorem dX10_isLaw_1 : decode cX10_isLaw 1 = .ok (.aload_n 0, 1) := by decide +kernel
theorem dX10_isLaw_2 : decode cX10_isLaw 2 = .ok (.getfield 48, 3) := by decide +kernel
theorem dX10_isLaw_5 : decode cX10_isLaw 5 = .ok (.getfield 343, 3) := by decide +kernel
theorem dX10_isLaw_8 : decode cX10_isLaw 8 = .ok (.invokestatic 114, 3) := by decide +kernel
theorem dX10_isLaw_11 : decode cX10_isLaw 11 = .ok (.ireturn, 1) := by decide +kernel
theorem dX10_failBy_0 : decode cX10_failBy 0 = .ok (.aload_n 0, 1) := by decide +kernel
theorem dX10_failBy_1 : decode cX10_failBy 1 = .ok (.iload_n 1, 1) := by decide +kernel
theorem dX10_failBy_2 : decode cX10_failBy 2 = .ok (.putfield 102, 3) := by decide +kernel
theorem dX10_failBy_5 : decode cX10_failBy 5 = .ok (.bipush (-10), 2) := by decide +kernel
theorem dX10_failBy_7 : decode cX10_failBy 7 = .ok (.iload_n 1, 1) := by decide +kernel
theorem dX10_failBy_8 : decode cX10_failBy 8 = .ok (.isub, 1) := by decide +kernel
theorem dX10_failBy_9 : decode cX10_failBy 9 = .ok (.ireturn, 1) := by decide +kernel
theorem dX10_takeCells_0 : decode cX10_takeCells 0 = .ok (.aload_n 0, 1) := by decide +kernel
theorem dX10_takeCells_1 : decode cX10_takeCells 1 = .ok (.getfield 68, 3) := by decide +kernel
theorem dX10_takeCells_4 : decode cX10_takeCells 4 = .ok (.iload_n 1, 1) := by decide +kernel
theorem dX10_takeCells_5 : decode cX10_takeCells 5 = .ok (.aaload, 1) := by decide +kernel
theorem dX10_takeCells_6 : decode cX10_takeCells 6 = .ok (.iload_n 2, 1) := by decide +kernel
theorem dX10_takeCells_7 : decode cX10_takeCells 7 = .ok (.iload_n 3, 1) := by decide +kernel
theorem dX10_takeCells_8 : decode cX10_takeCells 8 = .ok (.iload 4, 2) := by decide +kernel
theorem dX10_takeCells_10 : decode cX10_takeCells 10 = .ok (.invokevirtual 349, 3) := by decide +kernel
theorem dX10_takeCells_13 : decode cX10_takeCells 13 = .ok (.istore 5, 2) := by decide +kernel
theorem dX10_takeCells_15 : decode cX10_takeCells 15 = .ok (.iload 5, 2) := by decide +kernel
theorem dX10_takeCells_17 : decode cX10_takeCells 17 = .ok (.ifCond .eq 10, 3) := by decide +kernel
theorem dX10_takeCells_20 : decode cX10_takeCells 20 = .ok (.aload_n 0, 1) := by decide +kernel
theorem dX10_takeCells_21 : decode cX10_takeCells 21 = .ok (.iload 5, 2) := by decide +kernel
theorem dX10_takeCells_23 : decode cX10_takeCells 23 = .ok (.invokevirtual 304, 3) := by decide +kernel
theorem dX10_takeCells_26 : decode cX10_takeCells 26 = .ok (.ireturn, 1) := by decide +kernel
theorem dX10_takeCells_27 : decode cX10_takeCells 27 = .ok (.aload_n 0, 1) := by decide +kernel
theorem dX10_takeCells_28 : decode cX10_takeCells 28 = .ok (.getfield 68, 3) := by decide +kernel
theorem dX10_takeCells_31 : decode cX10_takeCells 31 = .ok (.iload_n 1, 1) := by decide +kernel
theorem dX10_takeCells_32 : decode cX10_takeCells 32 = .ok (.aaload, 1) := by decide +kernel
theorem dX10_takeCells_33 : decode cX10_takeCells 33 = .ok (.getfield 327, 3) := by decide +kernel
theorem dX10_takeCells_36 : decode cX10_takeCells 36 = .ok (.iload_n 3, 1) := by decide +kernel
theorem dX10_takeCells_37 : decode cX10_takeCells 37 = .ok (.aload_n 0, 1) := by decide +kernel
theorem dX10_takeCells_38 : decode cX10_takeCells 38 = .ok (.getfield 72, 3) := by decide +kernel
theorem dX10_takeCells_41 : decode cX10_takeCells 41 = .ok (.iconst 0, 1) := by decide +kernel
theorem dX10_takeCells_42 : decode cX10_takeCells 42 = .ok (.iload 4, 2) := by decide +kernel
theorem dX10_takeCells_44 : decode cX10_takeCells 44 = .ok (.invokestatic 352, 3) := by decide +kernel
theorem dX10_takeCells_47 : decode cX10_takeCells 47 = .ok (.iconst 0, 1) := by decide +kernel
theorem dX10_takeCells_48 : decode cX10_takeCells 48 = .ok (.ireturn, 1) := by decide +kernel
theorem dX10_takeSounds_0 : decode cX10_takeSounds 0 = .ok (.aload_n 0, 1) := by decide +kernel
theorem dX10_takeSounds_1 : decode cX10_takeSounds 1 = .ok (.iload_n 1, 1) := by decide +kernel
theorem dX10_takeSounds_2 : decode cX10_takeSounds 2 = .ok (.iload_n 2, 1) := by decide +kernel
theorem dX10_takeSounds_3 : decode cX10_takeSounds 3 = .ok (.iload_n 3, 1) := by decide +kernel
theorem dX10_takeSounds_4 : decode cX10_takeSounds 4 = .ok (.iload 4, 2) := by decide +kernel
theorem dX10_takeSounds_6 : decode cX10_takeSounds 6 = .ok (.invokevirtual 138, 3) := by decide +kernel
theorem dX10_takeSounds_9 : decode cX10_takeSounds 9 = .ok (.istore 5, 2) := by decide +kernel
theorem dX10_takeSounds_11 : decode cX10_takeSounds 11 = .ok (.iload 5, 2) := by decide +kernel
theorem dX10_takeSounds_13 : decode cX10_takeSounds 13 = .ok (.ifCond .eq 6, 3) := by decide +kernel
theorem dX10_takeSounds_16 : decode cX10_takeSounds 16 = .ok (.iload 5, 2) := by decide +kernel
theorem dX10_takeSounds_18 : decode cX10_takeSounds 18 = .ok (.ireturn, 1) := by decide +kernel
theorem dX10_takeSounds_19 : decode cX10_takeSounds 19 = .ok (.iload 4, 2) := by decide +kernel
theorem dX10_takeSounds_21 : decode cX10_takeSounds 21 = .ok (.bipush 8, 2) := by decide +kernel
theorem dX10_takeSounds_23 : decode cX10_takeSounds 23 = .ok (.if_icmp .le 6, 3) := by decide +kernel
theorem dX10_takeSounds_26 : decode cX10_takeSounds 26 = .ok (.bipush (-2), 2) := by decide +kernel
theorem dX10_takeSounds_28 : decode cX10_takeSounds 28 = .ok (.ireturn, 1) := by decide +kernel
theorem dX10_takeSounds_29 : decode cX10_takeSounds 29 = .ok (.aload_n 0, 1) := by decide +kernel
theorem dX10_takeSounds_30 : decode cX10_takeSounds 30 = .ok (.bipush 16, 2) := by decide +kernel
theorem dX10_takeSounds_32 : decode cX10_takeSounds 32 = .ok (.iload 4, 2) := by decide +kernel
theorem dX10_takeSounds_34 : decode cX10_takeSounds 34 = .ok (.invokevirtual 145, 3) := by decide +kernel
theorem dX10_takeSounds_37 : decode cX10_takeSounds 37 = .ok (.ifCond .eq 7, 3) := by decide +kernel
theorem dX10_takeSounds_40 : decode cX10_takeSounds 40 = .ok (.iconst 0, 1) := by decide +kernel
theorem dX10_takeSounds_41 : decode cX10_takeSounds 41 = .ok (.goto 4, 3) := by decide +kernel
theorem dX10_takeSounds_44 : decode cX10_takeSounds 44 = .ok (.iconst (-1), 1) := by decide +kernel
theorem dX10_takeSounds_45 : decode cX10_takeSounds 45 = .ok (.ireturn, 1) := by decide +kernel
theorem dX10_areTakenBelow_0 : decode cX10_areTakenBelow 0 = .ok (.iconst 0, 1) := by decide +kernel
theorem dX10_areTakenBelow_1 : decode cX10_areTakenBelow 1 = .ok (.istore_n 3, 1) := by decide +kernel
theorem dX10_areTakenBelow_2 : decode cX10_areTakenBelow 2 = .ok (.iload_n 3, 1) := by decide +kernel
theorem dX10_areTakenBelow_3 : decode cX10_areTakenBelow 3 = .ok (.iload_n 2, 1) := by decide +kernel
theorem dX10_areTakenBelow_4 : decode cX10_areTakenBelow 4 = .ok (.if_icmp .ge 24, 3) := by decide +kernel
theorem dX10_areTakenBelow_7 : decode cX10_areTakenBelow 7 = .ok (.aload_n 0, 1) := by decide +kernel
theorem dX10_areTakenBelow_8 : decode cX10_areTakenBelow 8 = .ok (.getfield 72, 3) := by decide +kernel
theorem dX10_areTakenBelow_11 : decode cX10_areTakenBelow 11 = .ok (.iload_n 3, 1) := by decide +kernel
theorem dX10_areTakenBelow_12 : decode cX10_areTakenBelow 12 = .ok (.iaload, 1) := by decide +kernel
theorem dX10_areTakenBelow_13 : decode cX10_areTakenBelow 13 = .ok (.iload_n 1, 1) := by decide +kernel
theorem dX10_areTakenBelow_14 : decode cX10_areTakenBelow 14 = .ok (.invokestatic 114, 3) := by decide +kernel
theorem dX10_areTakenBelow_17 : decode cX10_areTakenBelow 17 = .ok (.ifCond .ne 5, 3) := by decide +kernel
theorem dX10_areTakenBelow_20 : decode cX10_areTakenBelow 20 = .ok (.iconst 0, 1) := by decide +kernel
theorem dX10_areTakenBelow_21 : decode cX10_areTakenBelow 21 = .ok (.ireturn, 1) := by decide +kernel
theorem dX10_areTakenBelow_22 : decode cX10_areTakenBelow 22 = .ok (.iinc 3 1, 3) := by decide +kernel
theorem dX10_areTakenBelow_25 : decode cX10_areTakenBelow 25 = .ok (.goto (-23), 3) := by decide +kernel
theorem dX10_areTakenBelow_28 : decode cX10_areTakenBelow 28 = .ok (.iconst 1, 1) := by decide +kernel
theorem dX10_areTakenBelow_29 : decode cX10_areTakenBelow 29 = .ok (.ireturn, 1) := by decide +kernel
