theorem dX11_init_0 : decode cX11_init 0 = .ok (.aload_n 0, 1) := by decide +kernel
theorem dX11_init_1 : decode cX11_init 1 = .ok (.invokespecial 1, 3) := by decide +kernel
theorem dX11_init_4 : decode cX11_init 4 = .ok (.aload_n 0, 1) := by decide +kernel
theorem dX11_init_5 : decode cX11_init 5 = .ok (.iconst 4, 1) := by decide +kernel
theorem dX11_init_6 : decode cX11_init 6 = .ok (.newarray .int, 2) := by decide +kernel
theorem dX11_init_8 : decode cX11_init 8 = .ok (.dup, 1) := by decide +kernel
theorem dX11_init_9 : decode cX11_init 9 = .ok (.iconst 0, 1) := by decide +kernel
theorem dX11_init_10 : decode cX11_init 10 = .ok (.bipush (-9), 2) := by decide +kernel
theorem dX11_init_12 : decode cX11_init 12 = .ok (.iastore, 1) := by decide +kernel
theorem dX11_init_13 : decode cX11_init 13 = .ok (.dup, 1) := by decide +kernel
theorem dX11_init_14 : decode cX11_init 14 = .ok (.iconst 1, 1) := by decide +kernel
theorem dX11_init_15 : decode cX11_init 15 = .ok (.bipush (-9), 2) := by decide +kernel
theorem dX11_init_17 : decode cX11_init 17 = .ok (.iastore, 1) := by decide +kernel
theorem dX11_init_18 : decode cX11_init 18 = .ok (.dup, 1) := by decide +kernel
theorem dX11_init_19 : decode cX11_init 19 = .ok (.iconst 2, 1) := by decide +kernel
theorem dX11_init_20 : decode cX11_init 20 = .ok (.bipush (-9), 2) := by decide +kernel
theorem dX11_init_22 : decode cX11_init 22 = .ok (.iastore, 1) := by decide +kernel
theorem dX11_init_23 : decode cX11_init 23 = .ok (.dup, 1) := by decide +kernel
theorem dX11_init_24 : decode cX11_init 24 = .ok (.iconst 3, 1) := by decide +kernel
theorem dX11_init_25 : decode cX11_init 25 = .ok (.bipush (-9), 2) := by decide +kernel
theorem dX11_init_27 : decode cX11_init 27 = .ok (.iastore, 1) := by decide +kernel
theorem dX11_init_28 : decode cX11_init 28 = .ok (.putfield 9, 3) := by decide +kernel
theorem dX11_init_31 : decode cX11_init 31 = .ok (.aload_n 0, 1) := by decide +kernel
theorem dX11_init_32 : decode cX11_init 32 = .ok (.iconst 4, 1) := by decide +kernel
theorem dX11_init_33 : decode cX11_init 33 = .ok (.newarray .int, 2) := by decide +kernel
theorem dX11_init_35 : decode cX11_init 35 = .ok (.putfield 13, 3) := by decide +kernel
theorem dX11_init_38 : decode cX11_init 38 = .ok (.aload_n 0, 1) := by decide +kernel
theorem dX11_init_39 : decode cX11_init 39 = .ok (.sipush 240, 3) := by decide +kernel
theorem dX11_init_42 : decode cX11_init 42 = .ok (.newarray .int, 2) := by decide +kernel
theorem dX11_init_44 : decode cX11_init 44 = .ok (.putfield 16, 3) := by decide +kernel
theorem dX11_init_47 : decode cX11_init 47 = .ok (.aload_n 0, 1) := by decide +kernel
theorem dX11_init_48 : decode cX11_init 48 = .ok (.bipush 16, 2) := by decide +kernel
theorem dX11_init_50 : decode cX11_init 50 = .ok (.newarray .int, 2) := by decide +kernel
theorem dX11_init_52 : decode cX11_init 52 = .ok (.putfield 19, 3) := by decide +kernel
theorem dX11_init_55 : decode cX11_init 55 = .ok (.aload_n 0, 1) := by decide +kernel
theorem dX11_init_56 : decode cX11_init 56 = .ok (.bipush 16, 2) := by decide +kernel
theorem dX11_init_58 : decode cX11_init 58 = .ok (.newarray .int, 2) := by decide +kernel
theorem dX11_init_60 : decode cX11_init 60 = .ok (.putfield 22, 3) := by decide +kernel
theorem dX11_init_63 : decode cX11_init 63 = .ok (.aload_n 0, 1) := by decide +kernel
theorem dX11_init_64 : decode cX11_init 64 = .ok (.iconst 3, 1) := by decide +kernel
theorem dX11_init_65 : decode cX11_init 65 = .ok (.newarray .int, 2) := by decide +kernel
theorem dX11_init_67 : decode cX11_init 67 = .ok (.putfield 25, 3) := by decide +kernel
theorem dX11_init_70 : decode cX11_init 70 = .ok (.aload_n 0, 1) := by decide +kernel
theorem dX11_init_71 : decode cX11_init 71 = .ok (.bipush 30, 2) := by decide +kernel
theorem dX11_init_73 : decode cX11_init 73 = .ok (.newarray .int, 2) := by decide +kernel
theorem dX11_init_75 : decode cX11_init 75 = .ok (.putfield 28, 3) := by decide +kernel
theorem dX11_init_78 : decode cX11_init 78 = .ok (.aload_n 0, 1) := by decide +kernel
theorem dX11_init_79 : decode cX11_init 79 = .ok (.bipush 30, 2) := by decide +kernel
theorem dX11_init_81 : decode cX11_init 81 = .ok (.newarray .int, 2) := by decide +kernel
theorem dX11_init_83 : decode cX11_init 83 = .ok (.putfield 31, 3) := by decide +kernel
theorem dX11_init_86 : decode cX11_init 86 = .ok (.aload_n 0, 1) := by decide +kernel
theorem dX11_init_87 : decode cX11_init 87 = .ok (.bipush 90, 2) := by decide +kernel
theorem dX11_init_89 : decode cX11_init 89 = .ok (.newarray .int, 2) := by decide +kernel
theorem dX11_init_91 : decode cX11_init 91 = .ok (.putfield 34, 3) := by decide +kernel
theorem dX11_init_94 : decode cX11_init 94 = .ok (.aload_n 0, 1) := by decide +kernel
theorem dX11_init_95 : decode cX11_init 95 = .ok (.bipush 8, 2) := by decide +kernel
theorem dX11_init_97 : decode cX11_init 97 = .ok (.newarray .int, 2) := by decide +kernel
theorem dX11_init_99 : decode cX11_init 99 = .ok (.putfield 37, 3) := by decide +kernel
theorem dX11_init_102 : decode cX11_init 102 = .ok (.aload_n 0, 1) := by decide +kernel
theorem dX11_init_103 : decode cX11_init 103 = .ok (.bipush 40, 2) := by decide +kernel
theorem dX11_init_105 : decode cX11_init 105 = .ok (.newarray .int, 2) := by decide +kernel
theorem dX11_init_107 : decode cX11_init 107 = .ok (.putfield 40, 3) := by decide +kernel
theorem dX11_init_110 : decode cX11_init 110 = .ok (.aload_n 0, 1) := by decide +kernel
theorem dX11_init_111 : decode cX11_init 111 = .ok (.bipush 40, 2) := by decide +kernel
theorem dX11_init_113 : decode cX11_init 113 = .ok (.newarray .int, 2) := by decide +kernel
theorem dX11_init_115 : decode cX11_init 115 = .ok (.putfield 43, 3) := by decide +kernel
theorem dX11_init_118 : decode cX11_init 118 = .ok (.aload_n 0, 1) := by decide +kernel
theorem dX11_init_119 : decode cX11_init 119 = .ok (.bipush 40, 2) := by decide +kernel
theorem dX11_init_121 : decode cX11_init 121 = .ok (.newarray .int, 2) := by decide +kernel
theorem dX11_init_123 : decode cX11_init 123 = .ok (.putfield 46, 3) := by decide +kernel
theorem dX11_init_126 : decode cX11_init 126 = .ok (.aload_n 0, 1) := by decide +kernel
theorem dX11_init_127 : decode cX11_init 127 = .ok (.bipush 40, 2) := by decide +kernel
theorem dX11_init_129 : decode cX11_init 129 = .ok (.newarray .int, 2) := by decide +kernel
theorem dX11_init_131 : decode cX11_init 131 = .ok (.putfield 49, 3) := by decide +kernel
theorem dX11_init_134 : decode cX11_init 134 = .ok (.aload_n 0, 1) := by decide +kernel
theorem dX11_init_135 : decode cX11_init 135 = .ok (.sipush 320, 3) := by decide +kernel
theorem dX11_init_138 : decode cX11_init 138 = .ok (.newarray .int, 2) := by decide +kernel
theorem dX11_init_140 : decode cX11_init 140 = .ok (.putfield 52, 3) := by decide +kernel
theorem dX11_init_143 : decode cX11_init 143 = .ok (.aload_n 0, 1) := by decide +kernel
theorem dX11_init_144 : decode cX11_init 144 = .ok (.bipush 8, 2) := by decide +kernel
theorem dX11_init_146 : decode cX11_init 146 = .ok (.newarray .int, 2) := by decide +kernel
theorem dX11_init_148 : decode cX11_init 148 = .ok (.putfield 55, 3) := by decide +kernel
theorem dX11_init_151 : decode cX11_init 151 = .ok (.aload_n 0, 1) := by decide +kernel
theorem dX11_init_152 : decode cX11_init 152 = .ok (.bipush 6, 2) := by decide +kernel
theorem dX11_init_154 : decode cX11_init 154 = .ok (.newarray .int, 2) := by decide +kernel
theorem dX11_init_156 : decode cX11_init 156 = .ok (.dup, 1) := by decide +kernel
theorem dX11_init_157 : decode cX11_init 157 = .ok (.iconst 0, 1) := by decide +kernel
theorem dX11_init_158 : decode cX11_init 158 = .ok (.bipush (-9), 2) := by decide +kernel
theorem dX11_init_160 : decode cX11_init 160 = .ok (.iastore, 1) := by decide +kernel
theorem dX11_init_161 : decode cX11_init 161 = .ok (.dup, 1) := by decide +kernel
theorem dX11_init_162 : decode cX11_init 162 = .ok (.iconst 1, 1) := by decide +kernel
theorem dX11_init_163 : decode cX11_init 163 = .ok (.bipush (-9), 2) := by decide +kernel
theorem dX11_init_165 : decode cX11_init 165 = .ok (.iastore, 1) := by decide +kernel
theorem dX11_init_166 : decode cX11_init 166 = .ok (.dup, 1) := by decide +kernel
theorem dX11_init_167 : decode cX11_init 167 = .ok (.iconst 2, 1) := by decide +kernel
theorem dX11_init_168 : decode cX11_init 168 = .ok (.bipush (-9), 2) := by decide +kernel
theorem dX11_init_170 : decode cX11_init 170 = .ok (.iastore, 1) := by decide +kernel
theorem dX11_init_171 : decode cX11_init 171 = .ok (.dup, 1) := by decide +kernel
theorem dX11_init_172 : decode cX11_init 172 = .ok (.iconst 3, 1) := by decide +kernel
theorem dX11_init_173 : decode cX11_init 173 = .ok (.bipush (-9), 2) := by decide +kernel
theorem dX11_init_175 : decode cX11_init 175 = .ok (.iastore, 1) := by decide +kernel
theorem dX11_init_176 : decode cX11_init 176 = .ok (.dup, 1) := by decide +kernel
theorem dX11_init_177 : decode cX11_init 177 = .ok (.iconst 4, 1) := by decide +kernel
theorem dX11_init_178 : decode cX11_init 178 = .ok (.bipush (-9), 2) := by decide +kernel
theorem dX11_init_180 : decode cX11_init 180 = .ok (.iastore, 1) := by decide +kernel
theorem dX11_init_181 : decode cX11_init 181 = .ok (.dup, 1) := by decide +kernel
theorem dX11_init_182 : decode cX11_init 182 = .ok (.iconst 5, 1) := by decide +kernel
theorem dX11_init_183 : decode cX11_init 183 = .ok (.bipush (-9), 2) := by decide +kernel
theorem dX11_init_185 : decode cX11_init 185 = .ok (.iastore, 1) := by decide +kernel
theorem dX11_init_186 : decode cX11_init 186 = .ok (.putfield 58, 3) := by decide +kernel
theorem dX11_init_189 : decode cX11_init 189 = .ok (.aload_n 0, 1) := by decide +kernel
theorem dX11_init_190 : decode cX11_init 190 = .ok (.bipush 48, 2) := by decide +kernel
theorem dX11_init_192 : decode cX11_init 192 = .ok (.newarray .int, 2) := by decide +kernel
theorem dX11_init_194 : decode cX11_init 194 = .ok (.putfield 61, 3) := by decide +kernel
theorem dX11_init_197 : decode cX11_init 197 = .ok (.aload_n 0, 1) := by decide +kernel
theorem dX11_init_198 : decode cX11_init 198 = .ok (.bipush 8, 2) := by decide +kernel
theorem dX11_init_200 : decode cX11_init 200 = .ok (.newarray .int, 2) := by decide +kernel
theorem dX11_init_202 : decode cX11_init 202 = .ok (.putfield 64, 3) := by decide +kernel
theorem dX11_init_205 : decode cX11_init 205 = .ok (.aload_n 0, 1) := by decide +kernel
theorem dX11_init_206 : decode cX11_init 206 = .ok (.bipush 8, 2) := by decide +kernel
theorem dX11_init_208 : decode cX11_init 208 = .ok (.newarray .int, 2) := by decide +kernel
theorem dX11_init_210 : decode cX11_init 210 = .ok (.putfield 67, 3) := by decide +kernel
theorem dX11_init_213 : decode cX11_init 213 = .ok (.aload_n 0, 1) := by decide +kernel
theorem dX11_init_214 : decode cX11_init 214 = .ok (.bipush 8, 2) := by decide +kernel
theorem dX11_init_216 : decode cX11_init 216 = .ok (.newarray .int, 2) := by decide +kernel
theorem dX11_init_218 : decode cX11_init 218 = .ok (.putfield 70, 3) := by decide +kernel
theorem dX11_init_221 : decode cX11_init 221 = .ok (.aload_n 0, 1) := by decide +kernel
theorem dX11_init_222 : decode cX11_init 222 = .ok (.bipush 8, 2) := by decide +kernel
theorem dX11_init_224 : decode cX11_init 224 = .ok (.newarray .int, 2) := by decide +kernel
theorem dX11_init_226 : decode cX11_init 226 = .ok (.putfield 73, 3) := by decide +kernel
theorem dX11_init_229 : decode cX11_init 229 = .ok (.aload_n 0, 1) := by decide +kernel
theorem dX11_init_230 : decode cX11_init 230 = .ok (.bipush 8, 2) := by decide +kernel
theorem dX11_init_232 : decode cX11_init 232 = .ok (.newarray .int, 2) := by decide +kernel
theorem dX11_init_234 : decode cX11_init 234 = .ok (.putfield 76, 3) := by decide +kernel
theorem dX11_init_237 : decode cX11_init 237 = .ok (.aload_n 0, 1) := by decide +kernel
theorem dX11_init_238 : decode cX11_init 238 = .ok (.iconst 4, 1) := by decide +kernel
theorem dX11_init_239 : decode cX11_init 239 = .ok (.newarray .int, 2) := by decide +kernel
theorem dX11_init_241 : decode cX11_init 241 = .ok (.putfield 79, 3) := by decide +kernel
theorem dX11_init_244 : decode cX11_init 244 = .ok (.aload_n 0, 1) := by decide +kernel
theorem dX11_init_245 : decode cX11_init 245 = .ok (.bipush 8, 2) := by decide +kernel
theorem dX11_init_247 : decode cX11_init 247 = .ok (.newarray .int, 2) := by decide +kernel
theorem dX11_init_249 : decode cX11_init 249 = .ok (.putfield 82, 3) := by decide +kernel
theorem dX11_init_252 : decode cX11_init 252 = .ok (.aload_n 0, 1) := by decide +kernel
theorem dX11_init_253 : decode cX11_init 253 = .ok (.bipush 8, 2) := by decide +kernel
theorem dX11_init_255 : decode cX11_init 255 = .ok (.newarray .int, 2) := by decide +kernel
theorem dX11_init_257 : decode cX11_init 257 = .ok (.putfield 85, 3) := by decide +kernel
theorem dX11_init_260 : decode cX11_init 260 = .ok (.aload_n 0, 1) := by decide +kernel
theorem dX11_init_261 : decode cX11_init 261 = .ok (.bipush 6, 2) := by decide +kernel
theorem dX11_init_263 : decode cX11_init 263 = .ok (.putfield 88, 3) := by decide +kernel
theorem dX11_init_266 : decode cX11_init 266 = .ok (.aload_n 0, 1) := by decide +kernel
theorem dX11_init_267 : decode cX11_init 267 = .ok (.bipush 81, 2) := by decide +kernel
theorem dX11_init_269 : decode cX11_init 269 = .ok (.newarray .int, 2) := by decide +kernel
theorem dX11_init_271 : decode cX11_init 271 = .ok (.putfield 92, 3) := by decide +kernel
theorem dX11_init_274 : decode cX11_init 274 = .ok (.aload_n 0, 1) := by decide +kernel
theorem dX11_init_275 : decode cX11_init 275 = .ok (.bipush 8, 2) := by decide +kernel
theorem dX11_init_277 : decode cX11_init 277 = .ok (.newarray .int, 2) := by decide +kernel
theorem dX11_init_279 : decode cX11_init 279 = .ok (.putfield 95, 3) := by decide +kernel
theorem dX11_init_282 : decode cX11_init 282 = .ok (.aload_n 0, 1) := by decide +kernel
theorem dX11_init_283 : decode cX11_init 283 = .ok (.bipush 8, 2) := by decide +kernel
theorem dX11_init_285 : decode cX11_init 285 = .ok (.newarray .int, 2) := by decide +kernel
theorem dX11_init_287 : decode cX11_init 287 = .ok (.putfield 98, 3) := by decide +kernel
theorem dX11_init_290 : decode cX11_init 290 = .ok (.aload_n 0, 1) := by decide +kernel
theorem dX11_init_291 : decode cX11_init 291 = .ok (.iconst 3, 1) := by decide +kernel
theorem dX11_init_292 : decode cX11_init 292 = .ok (.newarray .int, 2) := by decide +kernel
theorem dX11_init_294 : decode cX11_init 294 = .ok (.putfield 101, 3) := by decide +kernel
theorem dX11_init_297 : decode cX11_init 297 = .ok (.aload_n 0, 1) := by decide +kernel
theorem dX11_init_298 : decode cX11_init 298 = .ok (.iconst 5, 1) := by decide +kernel
theorem dX11_init_299 : decode cX11_init 299 = .ok (.newarray .int, 2) := by decide +kernel
theorem dX11_init_301 : decode cX11_init 301 = .ok (.putfield 104, 3) := by decide +kernel
theorem dX11_init_304 : decode cX11_init 304 = .ok (.aload_n 0, 1) := by decide +kernel
theorem dX11_init_305 : decode cX11_init 305 = .ok (.bipush 6, 2) := by decide +kernel
theorem dX11_init_307 : decode cX11_init 307 = .ok (.newarray .int, 2) := by decide +kernel
theorem dX11_init_309 : decode cX11_init 309 = .ok (.putfield 107, 3) := by decide +kernel
theorem dX11_init_312 : decode cX11_init 312 = .ok (.aload_n 0, 1) := by decide +kernel
theorem dX11_init_313 : decode cX11_init 313 = .ok (.bipush 6, 2) := by decide +kernel
theorem dX11_init_315 : decode cX11_init 315 = .ok (.newarray .int, 2) := by decide +kernel
theorem dX11_init_317 : decode cX11_init 317 = .ok (.putfield 110, 3) := by decide +kernel
theorem dX11_init_320 : decode cX11_init 320 = .ok (.aload_n 0, 1) := by decide +kernel
theorem dX11_init_321 : decode cX11_init 321 = .ok (.iconst 3, 1) := by decide +kernel
theorem dX11_init_322 : decode cX11_init 322 = .ok (.putfield 113, 3) := by decide +kernel
theorem dX11_init_325 : decode cX11_init 325 = .ok (.aload_n 0, 1) := by decide +kernel
theorem dX11_init_326 : decode cX11_init 326 = .ok (.bipush 8, 2) := by decide +kernel
theorem dX11_init_328 : decode cX11_init 328 = .ok (.newarray .int, 2) := by decide +kernel
theorem dX11_init_330 : decode cX11_init 330 = .ok (.putfield 116, 3) := by decide +kernel
theorem dX11_init_333 : decode cX11_init 333 = .ok (.return_, 1) := by decide +kernel
theorem dX11_fails_0 : decode cX11_fails 0 = .ok (.aload_n 0, 1) := by decide +kernel
theorem dX11_fails_1 : decode cX11_fails 1 = .ok (.iload_n 1, 1) := by decide +kernel
theorem dX11_fails_2 : decode cX11_fails 2 = .ok (.putfield 119, 3) := by decide +kernel
theorem dX11_fails_5 : decode cX11_fails 5 = .ok (.bipush (-10), 2) := by decide +kernel
theorem dX11_fails_7 : decode cX11_fails 7 = .ok (.iload_n 1, 1) := by decide +kernel
theorem dX11_fails_8 : decode cX11_fails 8 = .ok (.isub, 1) := by decide +kernel
theorem dX11_fails_9 : decode cX11_fails 9 = .ok (.ireturn, 1) := by decide +kernel
theorem dX11_lost_0 : decode cX11_lost 0 = .ok (.aload_n 0, 1) := by decide +kernel
theorem dX11_lost_1 : decode cX11_lost 1 = .ok (.iload_n 1, 1) := by decide +kernel
theorem dX11_lost_2 : decode cX11_lost 2 = .ok (.putfield 119, 3) := by decide +kernel
theorem dX11_lost_5 : decode cX11_lost 5 = .ok (.ldc2_w 122, 3) := by decide +kernel
theorem dX11_lost_8 : decode cX11_lost 8 = .ok (.lreturn, 1) := by decide +kernel
theorem dX11_within_0 : decode cX11_within 0 = .ok (.iload_n 0, 1) := by decide +kernel
theorem dX11_within_1 : decode cX11_within 1 = .ok (.iload_n 1, 1) := by decide +kernel
theorem dX11_within_2 : decode cX11_within 2 = .ok (.if_icmp .lt 12, 3) := by decide +kernel
theorem dX11_within_5 : decode cX11_within 5 = .ok (.iload_n 0, 1) := by decide +kernel
theorem dX11_within_6 : decode cX11_within 6 = .ok (.iload_n 2, 1) := by decide +kernel
theorem dX11_within_7 : decode cX11_within 7 = .ok (.if_icmp .gt 7, 3) := by decide +kernel
theorem dX11_within_10 : decode cX11_within 10 = .ok (.iconst 1, 1) := by decide +kernel
theorem dX11_within_11 : decode cX11_within 11 = .ok (.goto 4, 3) := by decide +kernel
theorem dX11_within_14 : decode cX11_within 14 = .ok (.iconst 0, 1) := by decide +kernel
theorem dX11_within_15 : decode cX11_within 15 = .ok (.ireturn, 1) := by decide +kernel
theorem dX11_has_0 : decode cX11_has 0 = .ok (.iload_n 0, 1) := by decide +kernel
theorem dX11_has_1 : decode cX11_has 1 = .ok (.iload_n 1, 1) := by decide +kernel
theorem dX11_has_2 : decode cX11_has 2 = .ok (.ishr, 1) := by decide +kernel
theorem dX11_has_3 : decode cX11_has 3 = .ok (.iconst 1, 1) := by decide +kernel
theorem dX11_has_4 : decode cX11_has 4 = .ok (.iand, 1) := by decide +kernel
theorem dX11_has_5 : decode cX11_has 5 = .ok (.iconst 1, 1) := by decide +kernel
theorem dX11_has_6 : decode cX11_has 6 = .ok (.if_icmp .ne 7, 3) := by decide +kernel
theorem dX11_has_9 : decode cX11_has 9 = .ok (.iconst 1, 1) := by decide +kernel
theorem dX11_has_10 : decode cX11_has 10 = .ok (.goto 4, 3) := by decide +kernel
theorem dX11_has_13 : decode cX11_has 13 = .ok (.iconst 0, 1) := by decide +kernel
theorem dX11_has_14 : decode cX11_has 14 = .ok (.ireturn, 1) := by decide +kernel
theorem dX11_isSheet_0 : decode cX11_isSheet 0 = .ok (.iload_n 0, 1) := by decide +kernel
theorem dX11_isSheet_1 : decode cX11_isSheet 1 = .ok (.iconst 0, 1) := by decide +kernel
theorem dX11_isSheet_2 : decode cX11_isSheet 2 = .ok (.iconst 3, 1) := by decide +kernel
theorem dX11_isSheet_3 : decode cX11_isSheet 3 = .ok (.invokestatic 124, 3) := by decide +kernel
theorem dX11_isSheet_6 : decode cX11_isSheet 6 = .ok (.ireturn, 1) := by decide +kernel
theorem dX11_isLane_0 : decode cX11_isLane 0 = .ok (.iload_n 0, 1) := by decide +kernel
theorem dX11_isLane_1 : decode cX11_isLane 1 = .ok (.iconst 0, 1) := by decide +kernel
theorem dX11_isLane_2 : decode cX11_isLane 2 = .ok (.iconst 2, 1) := by decide +kernel
theorem dX11_isLane_3 : decode cX11_isLane 3 = .ok (.invokestatic 124, 3) := by decide +kernel
theorem dX11_isLane_6 : decode cX11_isLane 6 = .ok (.ireturn, 1) := by decide +kernel
theorem dX11_against_0 : decode cX11_against 0 = .ok (.aload_n 0, 1) := by decide +kernel
theorem dX11_against_1 : decode cX11_against 1 = .ok (.getfield 9, 3) := by decide +kernel
theorem dX11_against_4 : decode cX11_against 4 = .ok (.iload_n 1, 1) := by decide +kernel
theorem dX11_against_5 : decode cX11_against 5 = .ok (.iaload, 1) := by decide +kernel
theorem dX11_against_6 : decode cX11_against 6 = .ok (.bipush (-9), 2) := by decide +kernel
theorem dX11_against_8 : decode cX11_against 8 = .ok (.if_icmp .eq 15, 3) := by decide +kernel
theorem dX11_against_11 : decode cX11_against 11 = .ok (.aload_n 0, 1) := by decide +kernel
theorem dX11_against_12 : decode cX11_against 12 = .ok (.getfield 9, 3) := by decide +kernel
theorem dX11_against_15 : decode cX11_against 15 = .ok (.iload_n 1, 1) := by decide +kernel
theorem dX11_against_16 : decode cX11_against 16 = .ok (.iaload, 1) := by decide +kernel
theorem dX11_against_17 : decode cX11_against 17 = .ok (.iload_n 2, 1) := by decide +kernel
theorem dX11_against_18 : decode cX11_against 18 = .ok (.if_icmp .eq 5, 3) := by decide +kernel
theorem dX11_against_21 : decode cX11_against 21 = .ok (.iconst 2, 1) := by decide +kernel
theorem dX11_against_22 : decode cX11_against 22 = .ok (.ireturn, 1) := by decide +kernel
theorem dX11_against_23 : decode cX11_against 23 = .ok (.aload_n 0, 1) := by decide +kernel
theorem dX11_against_24 : decode cX11_against 24 = .ok (.getfield 9, 3) := by decide +kernel
theorem dX11_against_27 : decode cX11_against 27 = .ok (.iload_n 1, 1) := by decide +kernel
theorem dX11_against_28 : decode cX11_against 28 = .ok (.iaload, 1) := by decide +kernel
theorem dX11_against_29 : decode cX11_against 29 = .ok (.bipush (-9), 2) := by decide +kernel
theorem dX11_against_31 : decode cX11_against 31 = .ok (.if_icmp .ne 5, 3) := by decide +kernel
theorem dX11_against_34 : decode cX11_against 34 = .ok (.iconst 1, 1) := by decide +kernel
theorem dX11_against_35 : decode cX11_against 35 = .ok (.ireturn, 1) := by decide +kernel
theorem dX11_against_36 : decode cX11_against 36 = .ok (.iload 4, 2) := by decide +kernel
theorem dX11_against_38 : decode cX11_against 38 = .ok (.ifCond .ge 5, 3) := by decide +kernel
theorem dX11_against_41 : decode cX11_against 41 = .ok (.iconst 4, 1) := by decide +kernel
theorem dX11_against_42 : decode cX11_against 42 = .ok (.ireturn, 1) := by decide +kernel
theorem dX11_against_43 : decode cX11_against 43 = .ok (.iload_n 3, 1) := by decide +kernel
theorem dX11_against_44 : decode cX11_against 44 = .ok (.ifCond .lt 26, 3) := by decide +kernel
theorem dX11_against_47 : decode cX11_against 47 = .ok (.iload_n 3, 1) := by decide +kernel
theorem dX11_against_48 : decode cX11_against 48 = .ok (.aload_n 0, 1) := by decide +kernel
theorem dX11_against_49 : decode cX11_against 49 = .ok (.getfield 13, 3) := by decide +kernel
theorem dX11_against_52 : decode cX11_against 52 = .ok (.iload_n 1, 1) := by decide +kernel
theorem dX11_against_53 : decode cX11_against 53 = .ok (.iaload, 1) := by decide +kernel
theorem dX11_against_54 : decode cX11_against 54 = .ok (.if_icmp .gt 16, 3) := by decide +kernel
theorem dX11_against_57 : decode cX11_against 57 = .ok (.iload 4, 2) := by decide +kernel
theorem dX11_against_59 : decode cX11_against 59 = .ok (.aload_n 0, 1) := by decide +kernel
theorem dX11_against_60 : decode cX11_against 60 = .ok (.getfield 13, 3) := by decide +kernel
theorem dX11_against_63 : decode cX11_against 63 = .ok (.iload_n 1, 1) := by decide +kernel
theorem dX11_against_64 : decode cX11_against 64 = .ok (.iaload, 1) := by decide +kernel
theorem dX11_against_65 : decode cX11_against 65 = .ok (.iload_n 3, 1) := by decide +kernel
theorem dX11_against_66 : decode cX11_against 66 = .ok (.isub, 1) := by decide +kernel
theorem dX11_against_67 : decode cX11_against 67 = .ok (.if_icmp .le 5, 3) := by decide +kernel
theorem dX11_against_70 : decode cX11_against 70 = .ok (.iconst 3, 1) := by decide +kernel
theorem dX11_against_71 : decode cX11_against 71 = .ok (.ireturn, 1) := by decide +kernel
theorem dX11_against_72 : decode cX11_against 72 = .ok (.iconst 0, 1) := by decide +kernel
theorem dX11_against_73 : decode cX11_against 73 = .ok (.ireturn, 1) := by decide +kernel
theorem dX11_areCells_0 : decode cX11_areCells 0 = .ok (.iconst 0, 1) := by decide +kernel
theorem dX11_areCells_1 : decode cX11_areCells 1 = .ok (.istore 5, 2) := by decide +kernel
theorem dX11_areCells_3 : decode cX11_areCells 3 = .ok (.iload 5, 2) := by decide +kernel
theorem dX11_areCells_5 : decode cX11_areCells 5 = .ok (.iload_n 2, 1) := by decide +kernel
theorem dX11_areCells_6 : decode cX11_areCells 6 = .ok (.if_icmp .ge 29, 3) := by decide +kernel
theorem dX11_areCells_9 : decode cX11_areCells 9 = .ok (.aload_n 0, 1) := by decide +kernel
theorem dX11_areCells_10 : decode cX11_areCells 10 = .ok (.getfield 16, 3) := by decide +kernel
theorem dX11_areCells_13 : decode cX11_areCells 13 = .ok (.iload_n 1, 1) := by decide +kernel
theorem dX11_areCells_14 : decode cX11_areCells 14 = .ok (.iload 5, 2) := by decide +kernel
theorem dX11_areCells_16 : decode cX11_areCells 16 = .ok (.iadd, 1) := by decide +kernel
theorem dX11_areCells_17 : decode cX11_areCells 17 = .ok (.iaload, 1) := by decide +kernel
theorem dX11_areCells_18 : decode cX11_areCells 18 = .ok (.iload_n 3, 1) := by decide +kernel
theorem dX11_areCells_19 : decode cX11_areCells 19 = .ok (.iload 4, 2) := by decide +kernel
theorem dX11_areCells_21 : decode cX11_areCells 21 = .ok (.invokestatic 124, 3) := by decide +kernel
theorem dX11_areCells_24 : decode cX11_areCells 24 = .ok (.ifCond .ne 5, 3) := by decide +kernel
theorem dX11_areCells_27 : decode cX11_areCells 27 = .ok (.iconst 0, 1) := by decide +kernel
theorem dX11_areCells_28 : decode cX11_areCells 28 = .ok (.ireturn, 1) := by decide +kernel
theorem dX11_areCells_29 : decode cX11_areCells 29 = .ok (.iinc 5 1, 3) := by decide +kernel
theorem dX11_areCells_32 : decode cX11_areCells 32 = .ok (.goto (-29), 3) := by decide +kernel
theorem dX11_areCells_35 : decode cX11_areCells 35 = .ok (.iconst 1, 1) := by decide +kernel
theorem dX11_areCells_36 : decode cX11_areCells 36 = .ok (.ireturn, 1) := by decide +kernel
theorem dX11_isSound_0 : decode cX11_isSound 0 = .ok (.iload_n 0, 1) := by decide +kernel
theorem dX11_isSound_1 : decode cX11_isSound 1 = .ok (.iconst 0, 1) := by decide +kernel
theorem dX11_isSound_2 : decode cX11_isSound 2 = .ok (.bipush 15, 2) := by decide +kernel
theorem dX11_isSound_4 : decode cX11_isSound 4 = .ok (.invokestatic 124, 3) := by decide +kernel
theorem dX11_isSound_7 : decode cX11_isSound 7 = .ok (.ireturn, 1) := by decide +kernel
theorem dX11_sound_0 : decode cX11_sound 0 = .ok (.iload_n 1, 1) := by decide +kernel
theorem dX11_sound_1 : decode cX11_sound 1 = .ok (.invokestatic 128, 3) := by decide +kernel
theorem dX11_sound_4 : decode cX11_sound 4 = .ok (.ifCond .ne 5, 3) := by decide +kernel
theorem dX11_sound_7 : decode cX11_sound 7 = .ok (.iconst (-1), 1) := by decide +kernel
theorem dX11_sound_8 : decode cX11_sound 8 = .ok (.ireturn, 1) := by decide +kernel
theorem dX11_sound_9 : decode cX11_sound 9 = .ok (.iload_n 2, 1) := by decide +kernel
theorem dX11_sound_10 : decode cX11_sound 10 = .ok (.iconst 0, 1) := by decide +kernel
theorem dX11_sound_11 : decode cX11_sound 11 = .ok (.bipush 63, 2) := by decide +kernel
theorem dX11_sound_13 : decode cX11_sound 13 = .ok (.invokestatic 124, 3) := by decide +kernel
theorem dX11_sound_16 : decode cX11_sound 16 = .ok (.ifCond .eq 19, 3) := by decide +kernel
theorem dX11_sound_19 : decode cX11_sound 19 = .ok (.iload_n 3, 1) := by decide +kernel
theorem dX11_sound_20 : decode cX11_sound 20 = .ok (.iconst 0, 1) := by decide +kernel
theorem dX11_sound_21 : decode cX11_sound 21 = .ok (.bipush 63, 2) := by decide +kernel
theorem dX11_sound_23 : decode cX11_sound 23 = .ok (.invokestatic 124, 3) := by decide +kernel
theorem dX11_sound_26 : decode cX11_sound 26 = .ok (.ifCond .eq 9, 3) := by decide +kernel
theorem dX11_sound_29 : decode cX11_sound 29 = .ok (.iload_n 2, 1) := by decide +kernel
theorem dX11_sound_30 : decode cX11_sound 30 = .ok (.iload_n 3, 1) := by decide +kernel
theorem dX11_sound_31 : decode cX11_sound 31 = .ok (.iand, 1) := by decide +kernel
theorem dX11_sound_32 : decode cX11_sound 32 = .ok (.ifCond .eq 6, 3) := by decide +kernel
theorem dX11_sound_35 : decode cX11_sound 35 = .ok (.bipush (-2), 2) := by decide +kernel
theorem dX11_sound_37 : decode cX11_sound 37 = .ok (.ireturn, 1) := by decide +kernel
theorem dX11_sound_38 : decode cX11_sound 38 = .ok (.aload_n 0, 1) := by decide +kernel
theorem dX11_sound_39 : decode cX11_sound 39 = .ok (.getfield 19, 3) := by decide +kernel
theorem dX11_sound_42 : decode cX11_sound 42 = .ok (.iload_n 1, 1) := by decide +kernel
theorem dX11_sound_43 : decode cX11_sound 43 = .ok (.iaload, 1) := by decide +kernel
theorem dX11_sound_44 : decode cX11_sound 44 = .ok (.iload_n 2, 1) := by decide +kernel
theorem dX11_sound_45 : decode cX11_sound 45 = .ok (.if_icmp .ne 17, 3) := by decide +kernel
theorem dX11_sound_48 : decode cX11_sound 48 = .ok (.aload_n 0, 1) := by decide +kernel
theorem dX11_sound_49 : decode cX11_sound 49 = .ok (.getfield 22, 3) := by decide +kernel
theorem dX11_sound_52 : decode cX11_sound 52 = .ok (.iload_n 1, 1) := by decide +kernel
theorem dX11_sound_53 : decode cX11_sound 53 = .ok (.iaload, 1) := by decide +kernel
theorem dX11_sound_54 : decode cX11_sound 54 = .ok (.iload_n 3, 1) := by decide +kernel
theorem dX11_sound_55 : decode cX11_sound 55 = .ok (.if_icmp .ne 7, 3) := by decide +kernel
theorem dX11_sound_58 : decode cX11_sound 58 = .ok (.iconst 0, 1) := by decide +kernel
theorem dX11_sound_59 : decode cX11_sound 59 = .ok (.goto 4, 3) := by decide +kernel
theorem dX11_sound_62 : decode cX11_sound 62 = .ok (.iconst 1, 1) := by decide +kernel
theorem dX11_sound_63 : decode cX11_sound 63 = .ok (.istore 4, 2) := by decide +kernel
theorem dX11_sound_65 : decode cX11_sound 65 = .ok (.aload_n 0, 1) := by decide +kernel
theorem dX11_sound_66 : decode cX11_sound 66 = .ok (.getfield 19, 3) := by decide +kernel
theorem dX11_sound_69 : decode cX11_sound 69 = .ok (.iload_n 1, 1) := by decide +kernel
theorem dX11_sound_70 : decode cX11_sound 70 = .ok (.iload_n 2, 1) := by decide +kernel
theorem dX11_sound_71 : decode cX11_sound 71 = .ok (.iastore, 1) := by decide +kernel
theorem dX11_sound_72 : decode cX11_sound 72 = .ok (.aload_n 0, 1) := by decide +kernel
theorem dX11_sound_73 : decode cX11_sound 73 = .ok (.getfield 22, 3) := by decide +kernel
theorem dX11_sound_76 : decode cX11_sound 76 = .ok (.iload_n 1, 1) := by decide +kernel
theorem dX11_sound_77 : decode cX11_sound 77 = .ok (.iload_n 3, 1) := by decide +kernel
theorem dX11_sound_78 : decode cX11_sound 78 = .ok (.iastore, 1) := by decide +kernel
theorem dX11_sound_79 : decode cX11_sound 79 = .ok (.iload 4, 2) := by decide +kernel
theorem dX11_sound_81 : decode cX11_sound 81 = .ok (.ireturn, 1) := by decide +kernel
theorem dX11_feature_0 : decode cX11_feature 0 = .ok (.iload_n 1, 1) := by decide +kernel
theorem dX11_feature_1 : decode cX11_feature 1 = .ok (.invokestatic 128, 3) := by decide +kernel
theorem dX11_feature_4 : decode cX11_feature 4 = .ok (.ifCond .ne 5, 3) := by decide +kernel
theorem dX11_feature_7 : decode cX11_feature 7 = .ok (.iconst (-1), 1) := by decide +kernel
theorem dX11_feature_8 : decode cX11_feature 8 = .ok (.ireturn, 1) := by decide +kernel
theorem dX11_feature_9 : decode cX11_feature 9 = .ok (.iload_n 2, 1) := by decide +kernel
theorem dX11_feature_10 : decode cX11_feature 10 = .ok (.iconst 0, 1) := by decide +kernel
theorem dX11_feature_11 : decode cX11_feature 11 = .ok (.iconst 5, 1) := by decide +kernel
theorem dX11_feature_12 : decode cX11_feature 12 = .ok (.invokestatic 124, 3) := by decide +kernel
theorem dX11_feature_15 : decode cX11_feature 15 = .ok (.ifCond .ne 6, 3) := by decide +kernel
theorem dX11_feature_18 : decode cX11_feature 18 = .ok (.bipush (-2), 2) := by decide +kernel
theorem dX11_feature_20 : decode cX11_feature 20 = .ok (.ireturn, 1) := by decide +kernel
theorem dX11_feature_21 : decode cX11_feature 21 = .ok (.aload_n 0, 1) := by decide +kernel
theorem dX11_feature_22 : decode cX11_feature 22 = .ok (.getfield 19, 3) := by decide +kernel
theorem dX11_feature_25 : decode cX11_feature 25 = .ok (.iload_n 1, 1) := by decide +kernel
theorem dX11_feature_26 : decode cX11_feature 26 = .ok (.iaload, 1) := by decide +kernel
theorem dX11_feature_27 : decode cX11_feature 27 = .ok (.iload_n 2, 1) := by decide +kernel
theorem dX11_feature_28 : decode cX11_feature 28 = .ok (.invokestatic 132, 3) := by decide +kernel
theorem dX11_feature_31 : decode cX11_feature 31 = .ok (.ifCond .eq 7, 3) := by decide +kernel
theorem dX11_feature_34 : decode cX11_feature 34 = .ok (.iconst 1, 1) := by decide +kernel
theorem dX11_feature_35 : decode cX11_feature 35 = .ok (.goto 22, 3) := by decide +kernel
theorem dX11_feature_38 : decode cX11_feature 38 = .ok (.aload_n 0, 1) := by decide +kernel
theorem dX11_feature_39 : decode cX11_feature 39 = .ok (.getfield 22, 3) := by decide +kernel
theorem dX11_feature_42 : decode cX11_feature 42 = .ok (.iload_n 1, 1) := by decide +kernel
theorem dX11_feature_43 : decode cX11_feature 43 = .ok (.iaload, 1) := by decide +kernel
theorem dX11_feature_44 : decode cX11_feature 44 = .ok (.iload_n 2, 1) := by decide +kernel
theorem dX11_feature_45 : decode cX11_feature 45 = .ok (.invokestatic 132, 3) := by decide +kernel
theorem dX11_feature_48 : decode cX11_feature 48 = .ok (.ifCond .eq 7, 3) := by decide +kernel
theorem dX11_feature_51 : decode cX11_feature 51 = .ok (.iconst 0, 1) := by decide +kernel
theorem dX11_feature_52 : decode cX11_feature 52 = .ok (.goto 5, 3) := by decide +kernel
theorem dX11_feature_55 : decode cX11_feature 55 = .ok (.bipush (-9), 2) := by decide +kernel
theorem dX11_feature_57 : decode cX11_feature 57 = .ok (.ireturn, 1) := by decide +kernel
theorem dX11_differOf_0 : decode cX11_differOf 0 = .ok (.iconst 0, 1) := by decide +kernel
theorem dX11_differOf_1 : decode cX11_differOf 1 = .ok (.istore_n 3, 1) := by decide +kernel
theorem dX11_differOf_2 : decode cX11_differOf 2 = .ok (.iconst 0, 1) := by decide +kernel
theorem dX11_differOf_3 : decode cX11_differOf 3 = .ok (.istore 4, 2) := by decide +kernel
theorem dX11_differOf_5 : decode cX11_differOf 5 = .ok (.iload 4, 2) := by decide +kernel
theorem dX11_differOf_7 : decode cX11_differOf 7 = .ok (.bipush 6, 2) := by decide +kernel
theorem dX11_differOf_9 : decode cX11_differOf 9 = .ok (.if_icmp .ge 108, 3) := by decide +kernel
theorem dX11_differOf_12 : decode cX11_differOf 12 = .ok (.aload_n 0, 1) := by decide +kernel
theorem dX11_differOf_13 : decode cX11_differOf 13 = .ok (.getfield 19, 3) := by decide +kernel
theorem dX11_differOf_16 : decode cX11_differOf 16 = .ok (.iload_n 1, 1) := by decide +kernel
theorem dX11_differOf_17 : decode cX11_differOf 17 = .ok (.iaload, 1) := by decide +kernel
theorem dX11_differOf_18 : decode cX11_differOf 18 = .ok (.aload_n 0, 1) := by decide +kernel
theorem dX11_differOf_19 : decode cX11_differOf 19 = .ok (.getfield 22, 3) := by decide +kernel
theorem dX11_differOf_22 : decode cX11_differOf 22 = .ok (.iload_n 1, 1) := by decide +kernel
theorem dX11_differOf_23 : decode cX11_differOf 23 = .ok (.iaload, 1) := by decide +kernel
theorem dX11_differOf_24 : decode cX11_differOf 24 = .ok (.ior, 1) := by decide +kernel
theorem dX11_differOf_25 : decode cX11_differOf 25 = .ok (.iload 4, 2) := by decide +kernel
theorem dX11_differOf_27 : decode cX11_differOf 27 = .ok (.invokestatic 132, 3) := by decide +kernel
theorem dX11_differOf_30 : decode cX11_differOf 30 = .ok (.istore 5, 2) := by decide +kernel
theorem dX11_differOf_32 : decode cX11_differOf 32 = .ok (.aload_n 0, 1) := by decide +kernel
theorem dX11_differOf_33 : decode cX11_differOf 33 = .ok (.getfield 19, 3) := by decide +kernel
theorem dX11_differOf_36 : decode cX11_differOf 36 = .ok (.iload_n 2, 1) := by decide +kernel
theorem dX11_differOf_37 : decode cX11_differOf 37 = .ok (.iaload, 1) := by decide +kernel
theorem dX11_differOf_38 : decode cX11_differOf 38 = .ok (.aload_n 0, 1) := by decide +kernel
theorem dX11_differOf_39 : decode cX11_differOf 39 = .ok (.getfield 22, 3) := by decide +kernel
theorem dX11_differOf_42 : decode cX11_differOf 42 = .ok (.iload_n 2, 1) := by decide +kernel
theorem dX11_differOf_43 : decode cX11_differOf 43 = .ok (.iaload, 1) := by decide +kernel
theorem dX11_differOf_44 : decode cX11_differOf 44 = .ok (.ior, 1) := by decide +kernel
theorem dX11_differOf_45 : decode cX11_differOf 45 = .ok (.iload 4, 2) := by decide +kernel
theorem dX11_differOf_47 : decode cX11_differOf 47 = .ok (.invokestatic 132, 3) := by decide +kernel
theorem dX11_differOf_50 : decode cX11_differOf 50 = .ok (.istore 6, 2) := by decide +kernel
theorem dX11_differOf_52 : decode cX11_differOf 52 = .ok (.iload 5, 2) := by decide +kernel
theorem dX11_differOf_54 : decode cX11_differOf 54 = .ok (.ifCond .eq 44, 3) := by decide +kernel
theorem dX11_differOf_57 : decode cX11_differOf 57 = .ok (.iload 6, 2) := by decide +kernel
theorem dX11_differOf_59 : decode cX11_differOf 59 = .ok (.ifCond .eq 39, 3) := by decide +kernel
theorem dX11_differOf_62 : decode cX11_differOf 62 = .ok (.iload_n 3, 1) := by decide +kernel
theorem dX11_differOf_63 : decode cX11_differOf 63 = .ok (.aload_n 0, 1) := by decide +kernel
theorem dX11_differOf_64 : decode cX11_differOf 64 = .ok (.getfield 19, 3) := by decide +kernel
theorem dX11_differOf_67 : decode cX11_differOf 67 = .ok (.iload_n 1, 1) := by decide +kernel
theorem dX11_differOf_68 : decode cX11_differOf 68 = .ok (.iaload, 1) := by decide +kernel
theorem dX11_differOf_69 : decode cX11_differOf 69 = .ok (.iload 4, 2) := by decide +kernel
theorem dX11_differOf_71 : decode cX11_differOf 71 = .ok (.invokestatic 132, 3) := by decide +kernel
theorem dX11_differOf_74 : decode cX11_differOf 74 = .ok (.aload_n 0, 1) := by decide +kernel
theorem dX11_differOf_75 : decode cX11_differOf 75 = .ok (.getfield 19, 3) := by decide +kernel
theorem dX11_differOf_78 : decode cX11_differOf 78 = .ok (.iload_n 2, 1) := by decide +kernel
theorem dX11_differOf_79 : decode cX11_differOf 79 = .ok (.iaload, 1) := by decide +kernel
theorem dX11_differOf_80 : decode cX11_differOf 80 = .ok (.iload 4, 2) := by decide +kernel
theorem dX11_differOf_82 : decode cX11_differOf 82 = .ok (.invokestatic 132, 3) := by decide +kernel
theorem dX11_differOf_85 : decode cX11_differOf 85 = .ok (.if_icmp .ne 7, 3) := by decide +kernel
theorem dX11_differOf_88 : decode cX11_differOf 88 = .ok (.iconst 0, 1) := by decide +kernel
theorem dX11_differOf_89 : decode cX11_differOf 89 = .ok (.goto 4, 3) := by decide +kernel
theorem dX11_differOf_92 : decode cX11_differOf 92 = .ok (.iconst 2, 1) := by decide +kernel
theorem dX11_differOf_93 : decode cX11_differOf 93 = .ok (.iadd, 1) := by decide +kernel
theorem dX11_differOf_94 : decode cX11_differOf 94 = .ok (.istore_n 3, 1) := by decide +kernel
theorem dX11_differOf_95 : decode cX11_differOf 95 = .ok (.goto 16, 3) := by decide +kernel
theorem dX11_differOf_98 : decode cX11_differOf 98 = .ok (.iload 5, 2) := by decide +kernel
theorem dX11_differOf_100 : decode cX11_differOf 100 = .ok (.ifCond .ne 8, 3) := by decide +kernel
theorem dX11_differOf_103 : decode cX11_differOf 103 = .ok (.iload 6, 2) := by decide +kernel
theorem dX11_differOf_105 : decode cX11_differOf 105 = .ok (.ifCond .eq 6, 3) := by decide +kernel
theorem dX11_differOf_108 : decode cX11_differOf 108 = .ok (.iinc 3 1, 3) := by decide +kernel
theorem dX11_differOf_111 : decode cX11_differOf 111 = .ok (.iinc 4 1, 3) := by decide +kernel
theorem dX11_differOf_114 : decode cX11_differOf 114 = .ok (.goto (-109), 3) := by decide +kernel
theorem dX11_differOf_117 : decode cX11_differOf 117 = .ok (.iload_n 3, 1) := by decide +kernel
theorem dX11_differOf_118 : decode cX11_differOf 118 = .ok (.ireturn, 1) := by decide +kernel
theorem dX11_differ_0 : decode cX11_differ 0 = .ok (.iload_n 1, 1) := by decide +kernel
theorem dX11_differ_1 : decode cX11_differ 1 = .ok (.invokestatic 128, 3) := by decide +kernel
theorem dX11_differ_4 : decode cX11_differ 4 = .ok (.ifCond .eq 19, 3) := by decide +kernel
theorem dX11_differ_7 : decode cX11_differ 7 = .ok (.iload_n 2, 1) := by decide +kernel
theorem dX11_differ_8 : decode cX11_differ 8 = .ok (.invokestatic 128, 3) := by decide +kernel
theorem dX11_differ_11 : decode cX11_differ 11 = .ok (.ifCond .eq 12, 3) := by decide +kernel
theorem dX11_differ_14 : decode cX11_differ 14 = .ok (.aload_n 0, 1) := by decide +kernel
theorem dX11_differ_15 : decode cX11_differ 15 = .ok (.iload_n 1, 1) := by decide +kernel
theorem dX11_differ_16 : decode cX11_differ 16 = .ok (.iload_n 2, 1) := by decide +kernel
theorem dX11_differ_17 : decode cX11_differ 17 = .ok (.invokevirtual 136, 3) := by decide +kernel
theorem dX11_differ_20 : decode cX11_differ 20 = .ok (.goto 4, 3) := by decide +kernel
theorem dX11_differ_23 : decode cX11_differ 23 = .ok (.iconst (-1), 1) := by decide +kernel
theorem dX11_differ_24 : decode cX11_differ 24 = .ok (.ireturn, 1) := by decide +kernel
theorem dX11_isCollector_0 : decode cX11_isCollector 0 = .ok (.iload_n 0, 1) := by decide +kernel
theorem dX11_isCollector_1 : decode cX11_isCollector 1 = .ok (.iconst 0, 1) := by decide +kernel
theorem dX11_isCollector_2 : decode cX11_isCollector 2 = .ok (.iconst 2, 1) := by decide +kernel
theorem dX11_isCollector_3 : decode cX11_isCollector 3 = .ok (.invokestatic 124, 3) := by decide +kernel
theorem dX11_isCollector_6 : decode cX11_isCollector 6 = .ok (.ireturn, 1) := by decide +kernel
theorem dX11_entry_0 : decode cX11_entry 0 = .ok (.aload_n 0, 1) := by decide +kernel
theorem dX11_entry_1 : decode cX11_entry 1 = .ok (.iconst 0, 1) := by decide +kernel
theorem dX11_entry_2 : decode cX11_entry 2 = .ok (.putfield 119, 3) := by decide +kernel
theorem dX11_entry_5 : decode cX11_entry 5 = .ok (.iload_n 1, 1) := by decide +kernel
theorem dX11_entry_6 : decode cX11_entry 6 = .ok (.invokestatic 140, 3) := by decide +kernel
theorem dX11_entry_9 : decode cX11_entry 9 = .ok (.ifCond .eq 17, 3) := by decide +kernel
theorem dX11_entry_12 : decode cX11_entry 12 = .ok (.iload_n 2, 1) := by decide +kernel
theorem dX11_entry_13 : decode cX11_entry 13 = .ok (.invokestatic 128, 3) := by decide +kernel
theorem dX11_entry_16 : decode cX11_entry 16 = .ok (.ifCond .eq 10, 3) := by decide +kernel
theorem dX11_entry_19 : decode cX11_entry 19 = .ok (.iload_n 3, 1) := by decide +kernel
theorem dX11_entry_20 : decode cX11_entry 20 = .ok (.invokestatic 143, 3) := by decide +kernel
theorem dX11_entry_23 : decode cX11_entry 23 = .ok (.ifCond .ne 5, 3) := by decide +kernel
theorem dX11_entry_26 : decode cX11_entry 26 = .ok (.iconst (-1), 1) := by decide +kernel
theorem dX11_entry_27 : decode cX11_entry 27 = .ok (.ireturn, 1) := by decide +kernel
theorem dX11_entry_28 : decode cX11_entry 28 = .ok (.iload 4, 2) := by decide +kernel
theorem dX11_entry_30 : decode cX11_entry 30 = .ok (.invokestatic 146, 3) := by decide +kernel
theorem dX11_entry_33 : decode cX11_entry 33 = .ok (.ifCond .ne 6, 3) := by decide +kernel
theorem dX11_entry_36 : decode cX11_entry 36 = .ok (.bipush (-2), 2) := by decide +kernel
theorem dX11_entry_38 : decode cX11_entry 38 = .ok (.ireturn, 1) := by decide +kernel
theorem dX11_entry_39 : decode cX11_entry 39 = .ok (.aload_n 0, 1) := by decide +kernel
theorem dX11_entry_40 : decode cX11_entry 40 = .ok (.iload_n 3, 1) := by decide +kernel
theorem dX11_entry_41 : decode cX11_entry 41 = .ok (.iload 4, 2) := by decide +kernel
theorem dX11_entry_43 : decode cX11_entry 43 = .ok (.iload 5, 2) := by decide +kernel
theorem dX11_entry_45 : decode cX11_entry 45 = .ok (.iload 6, 2) := by decide +kernel
theorem dX11_entry_47 : decode cX11_entry 47 = .ok (.invokevirtual 149, 3) := by decide +kernel
theorem dX11_entry_50 : decode cX11_entry 50 = .ok (.istore 7, 2) := by decide +kernel
theorem dX11_entry_52 : decode cX11_entry 52 = .ok (.iload 7, 2) := by decide +kernel
theorem dX11_entry_54 : decode cX11_entry 54 = .ok (.ifCond .eq 10, 3) := by decide +kernel
theorem dX11_entry_57 : decode cX11_entry 57 = .ok (.aload_n 0, 1) := by decide +kernel
theorem dX11_entry_58 : decode cX11_entry 58 = .ok (.iload 7, 2) := by decide +kernel
theorem dX11_entry_60 : decode cX11_entry 60 = .ok (.invokevirtual 153, 3) := by decide +kernel
theorem dX11_entry_63 : decode cX11_entry 63 = .ok (.ireturn, 1) := by decide +kernel
theorem dX11_entry_64 : decode cX11_entry 64 = .ok (.bipush 60, 2) := by decide +kernel
theorem dX11_entry_66 : decode cX11_entry 66 = .ok (.iload_n 3, 1) := by decide +kernel
theorem dX11_entry_67 : decode cX11_entry 67 = .ok (.imul, 1) := by decide +kernel
theorem dX11_entry_68 : decode cX11_entry 68 = .ok (.iload 5, 2) := by decide +kernel
theorem dX11_entry_70 : decode cX11_entry 70 = .ok (.iadd, 1) := by decide +kernel
theorem dX11_entry_71 : decode cX11_entry 71 = .ok (.istore 8, 2) := by decide +kernel
theorem dX11_entry_73 : decode cX11_entry 73 = .ok (.iload 6, 2) := by decide +kernel
theorem dX11_entry_75 : decode cX11_entry 75 = .ok (.iconst 1, 1) := by decide +kernel
theorem dX11_entry_76 : decode cX11_entry 76 = .ok (.iconst 3, 1) := by decide +kernel
theorem dX11_entry_77 : decode cX11_entry 77 = .ok (.invokestatic 124, 3) := by decide +kernel
theorem dX11_entry_80 : decode cX11_entry 80 = .ok (.ifCond .eq 17, 3) := by decide +kernel
theorem dX11_entry_83 : decode cX11_entry 83 = .ok (.aload_n 0, 1) := by decide +kernel
theorem dX11_entry_84 : decode cX11_entry 84 = .ok (.iload 8, 2) := by decide +kernel
theorem dX11_entry_86 : decode cX11_entry 86 = .ok (.iload 6, 2) := by decide +kernel
theorem dX11_entry_88 : decode cX11_entry 88 = .ok (.iconst 0, 1) := by decide +kernel
theorem dX11_entry_89 : decode cX11_entry 89 = .ok (.bipush 127, 2) := by decide +kernel
theorem dX11_entry_91 : decode cX11_entry 91 = .ok (.invokevirtual 157, 3) := by decide +kernel
theorem dX11_entry_94 : decode cX11_entry 94 = .ok (.ifCond .ne 6, 3) := by decide +kernel
theorem dX11_entry_97 : decode cX11_entry 97 = .ok (.bipush (-2), 2) := by decide +kernel
theorem dX11_entry_99 : decode cX11_entry 99 = .ok (.ireturn, 1) := by decide +kernel
theorem dX11_entry_100 : decode cX11_entry 100 = .ok (.aload_n 0, 1) := by decide +kernel
theorem dX11_entry_101 : decode cX11_entry 101 = .ok (.getfield 25, 3) := by decide +kernel
theorem dX11_entry_104 : decode cX11_entry 104 = .ok (.iload_n 1, 1) := by decide +kernel
theorem dX11_entry_105 : decode cX11_entry 105 = .ok (.iaload, 1) := by decide +kernel
theorem dX11_entry_106 : decode cX11_entry 106 = .ok (.bipush 10, 2) := by decide +kernel
theorem dX11_entry_108 : decode cX11_entry 108 = .ok (.if_icmp .ne 6, 3) := by decide +kernel
theorem dX11_entry_111 : decode cX11_entry 111 = .ok (.bipush (-4), 2) := by decide +kernel
theorem dX11_entry_113 : decode cX11_entry 113 = .ok (.ireturn, 1) := by decide +kernel
theorem dX11_entry_114 : decode cX11_entry 114 = .ok (.bipush 10, 2) := by decide +kernel
theorem dX11_entry_116 : decode cX11_entry 116 = .ok (.iload_n 1, 1) := by decide +kernel
theorem dX11_entry_117 : decode cX11_entry 117 = .ok (.imul, 1) := by decide +kernel
theorem dX11_entry_118 : decode cX11_entry 118 = .ok (.aload_n 0, 1) := by decide +kernel
theorem dX11_entry_119 : decode cX11_entry 119 = .ok (.getfield 25, 3) := by decide +kernel
theorem dX11_entry_122 : decode cX11_entry 122 = .ok (.iload_n 1, 1) := by decide +kernel
theorem dX11_entry_123 : decode cX11_entry 123 = .ok (.iaload, 1) := by decide +kernel
theorem dX11_entry_124 : decode cX11_entry 124 = .ok (.iadd, 1) := by decide +kernel
theorem dX11_entry_125 : decode cX11_entry 125 = .ok (.istore 9, 2) := by decide +kernel
theorem dX11_entry_127 : decode cX11_entry 127 = .ok (.aload_n 0, 1) := by decide +kernel
theorem dX11_entry_128 : decode cX11_entry 128 = .ok (.getfield 28, 3) := by decide +kernel
theorem dX11_entry_131 : decode cX11_entry 131 = .ok (.iload 9, 2) := by decide +kernel
theorem dX11_entry_133 : decode cX11_entry 133 = .ok (.iload_n 2, 1) := by decide +kernel
theorem dX11_entry_134 : decode cX11_entry 134 = .ok (.iastore, 1) := by decide +kernel
theorem dX11_entry_135 : decode cX11_entry 135 = .ok (.aload_n 0, 1) := by decide +kernel
theorem dX11_entry_136 : decode cX11_entry 136 = .ok (.getfield 31, 3) := by decide +kernel
theorem dX11_entry_139 : decode cX11_entry 139 = .ok (.iload 9, 2) := by decide +kernel
theorem dX11_entry_141 : decode cX11_entry 141 = .ok (.iload 6, 2) := by decide +kernel
theorem dX11_entry_143 : decode cX11_entry 143 = .ok (.iastore, 1) := by decide +kernel
theorem dX11_entry_144 : decode cX11_entry 144 = .ok (.iconst 0, 1) := by decide +kernel
theorem dX11_entry_145 : decode cX11_entry 145 = .ok (.istore 10, 2) := by decide +kernel
theorem dX11_entry_147 : decode cX11_entry 147 = .ok (.iload 10, 2) := by decide +kernel
theorem dX11_entry_149 : decode cX11_entry 149 = .ok (.iload 6, 2) := by decide +kernel
theorem dX11_entry_151 : decode cX11_entry 151 = .ok (.if_icmp .ge 31, 3) := by decide +kernel
theorem dX11_entry_154 : decode cX11_entry 154 = .ok (.aload_n 0, 1) := by decide +kernel
theorem dX11_entry_155 : decode cX11_entry 155 = .ok (.getfield 34, 3) := by decide +kernel
theorem dX11_entry_158 : decode cX11_entry 158 = .ok (.iconst 3, 1) := by decide +kernel
theorem dX11_entry_159 : decode cX11_entry 159 = .ok (.iload 9, 2) := by decide +kernel
theorem dX11_entry_161 : decode cX11_entry 161 = .ok (.imul, 1) := by decide +kernel
theorem dX11_entry_162 : decode cX11_entry 162 = .ok (.iload 10, 2) := by decide +kernel
theorem dX11_entry_164 : decode cX11_entry 164 = .ok (.iadd, 1) := by decide +kernel
theorem dX11_entry_165 : decode cX11_entry 165 = .ok (.aload_n 0, 1) := by decide +kernel
theorem dX11_entry_166 : decode cX11_entry 166 = .ok (.getfield 16, 3) := by decide +kernel
theorem dX11_entry_169 : decode cX11_entry 169 = .ok (.iload 8, 2) := by decide +kernel
theorem dX11_entry_171 : decode cX11_entry 171 = .ok (.iload 10, 2) := by decide +kernel
theorem dX11_entry_173 : decode cX11_entry 173 = .ok (.iadd, 1) := by decide +kernel
theorem dX11_entry_174 : decode cX11_entry 174 = .ok (.iaload, 1) := by decide +kernel
theorem dX11_entry_175 : decode cX11_entry 175 = .ok (.iastore, 1) := by decide +kernel
theorem dX11_entry_176 : decode cX11_entry 176 = .ok (.iinc 10 1, 3) := by decide +kernel
theorem dX11_entry_179 : decode cX11_entry 179 = .ok (.goto (-32), 3) := by decide +kernel
theorem dX11_entry_182 : decode cX11_entry 182 = .ok (.aload_n 0, 1) := by decide +kernel
theorem dX11_entry_183 : decode cX11_entry 183 = .ok (.getfield 25, 3) := by decide +kernel
theorem dX11_entry_186 : decode cX11_entry 186 = .ok (.iload_n 1, 1) := by decide +kernel
theorem dX11_entry_187 : decode cX11_entry 187 = .ok (.dup2, 1) := by decide +kernel
theorem dX11_entry_188 : decode cX11_entry 188 = .ok (.iaload, 1) := by decide +kernel
theorem dX11_entry_189 : decode cX11_entry 189 = .ok (.iconst 1, 1) := by decide +kernel
theorem dX11_entry_190 : decode cX11_entry 190 = .ok (.iadd, 1) := by decide +kernel
theorem dX11_entry_191 : decode cX11_entry 191 = .ok (.iastore, 1) := by decide +kernel
theorem dX11_entry_192 : decode cX11_entry 192 = .ok (.aload_n 0, 1) := by decide +kernel
theorem dX11_entry_193 : decode cX11_entry 193 = .ok (.getfield 25, 3) := by decide +kernel
theorem dX11_entry_196 : decode cX11_entry 196 = .ok (.iload_n 1, 1) := by decide +kernel
theorem dX11_entry_197 : decode cX11_entry 197 = .ok (.iaload, 1) := by decide +kernel
theorem dX11_entry_198 : decode cX11_entry 198 = .ok (.ireturn, 1) := by decide +kernel
theorem dX11_stands_0 : decode cX11_stands 0 = .ok (.aload_n 0, 1) := by decide +kernel
theorem dX11_stands_1 : decode cX11_stands 1 = .ok (.getfield 31, 3) := by decide +kernel
theorem dX11_stands_4 : decode cX11_stands 4 = .ok (.iload_n 1, 1) := by decide +kernel
theorem dX11_stands_5 : decode cX11_stands 5 = .ok (.iaload, 1) := by decide +kernel
theorem dX11_stands_6 : decode cX11_stands 6 = .ok (.iload_n 3, 1) := by decide +kernel
theorem dX11_stands_7 : decode cX11_stands 7 = .ok (.iload_n 2, 1) := by decide +kernel
theorem dX11_stands_8 : decode cX11_stands 8 = .ok (.isub, 1) := by decide +kernel
theorem dX11_stands_9 : decode cX11_stands 9 = .ok (.if_icmp .le 5, 3) := by decide +kernel
theorem dX11_stands_12 : decode cX11_stands 12 = .ok (.iconst 0, 1) := by decide +kernel
theorem dX11_stands_13 : decode cX11_stands 13 = .ok (.ireturn, 1) := by decide +kernel
theorem dX11_stands_14 : decode cX11_stands 14 = .ok (.iconst 0, 1) := by decide +kernel
theorem dX11_stands_15 : decode cX11_stands 15 = .ok (.istore 4, 2) := by decide +kernel
theorem dX11_stands_17 : decode cX11_stands 17 = .ok (.iload 4, 2) := by decide +kernel
theorem dX11_stands_19 : decode cX11_stands 19 = .ok (.aload_n 0, 1) := by decide +kernel
theorem dX11_stands_20 : decode cX11_stands 20 = .ok (.getfield 31, 3) := by decide +kernel
theorem dX11_stands_23 : decode cX11_stands 23 = .ok (.iload_n 1, 1) := by decide +kernel
theorem dX11_stands_24 : decode cX11_stands 24 = .ok (.iaload, 1) := by decide +kernel
theorem dX11_stands_25 : decode cX11_stands 25 = .ok (.if_icmp .ge 34, 3) := by decide +kernel
theorem dX11_stands_28 : decode cX11_stands 28 = .ok (.aload_n 0, 1) := by decide +kernel
theorem dX11_stands_29 : decode cX11_stands 29 = .ok (.getfield 16, 3) := by decide +kernel
theorem dX11_stands_32 : decode cX11_stands 32 = .ok (.iload_n 2, 1) := by decide +kernel
theorem dX11_stands_33 : decode cX11_stands 33 = .ok (.iload 4, 2) := by decide +kernel
theorem dX11_stands_35 : decode cX11_stands 35 = .ok (.iadd, 1) := by decide +kernel
theorem dX11_stands_36 : decode cX11_stands 36 = .ok (.iaload, 1) := by decide +kernel
theorem dX11_stands_37 : decode cX11_stands 37 = .ok (.aload_n 0, 1) := by decide +kernel
theorem dX11_stands_38 : decode cX11_stands 38 = .ok (.getfield 34, 3) := by decide +kernel
theorem dX11_stands_41 : decode cX11_stands 41 = .ok (.iconst 3, 1) := by decide +kernel
theorem dX11_stands_42 : decode cX11_stands 42 = .ok (.iload_n 1, 1) := by decide +kernel
theorem dX11_stands_43 : decode cX11_stands 43 = .ok (.imul, 1) := by decide +kernel
theorem dX11_stands_44 : decode cX11_stands 44 = .ok (.iload 4, 2) := by decide +kernel
theorem dX11_stands_46 : decode cX11_stands 46 = .ok (.iadd, 1) := by decide +kernel
theorem dX11_stands_47 : decode cX11_stands 47 = .ok (.iaload, 1) := by decide +kernel
theorem dX11_stands_48 : decode cX11_stands 48 = .ok (.if_icmp .eq 5, 3) := by decide +kernel
theorem dX11_stands_51 : decode cX11_stands 51 = .ok (.iconst 0, 1) := by decide +kernel
theorem dX11_stands_52 : decode cX11_stands 52 = .ok (.ireturn, 1) := by decide +kernel
theorem dX11_stands_53 : decode cX11_stands 53 = .ok (.iinc 4 1, 3) := by decide +kernel
theorem dX11_stands_56 : decode cX11_stands 56 = .ok (.goto (-39), 3) := by decide +kernel
theorem dX11_stands_59 : decode cX11_stands 59 = .ok (.iconst 1, 1) := by decide +kernel
theorem dX11_stands_60 : decode cX11_stands 60 = .ok (.ireturn, 1) := by decide +kernel
theorem dX11_entryAt_0 : decode cX11_entryAt 0 = .ok (.bipush (-9), 2) := by decide +kernel
theorem dX11_entryAt_2 : decode cX11_entryAt 2 = .ok (.istore 4, 2) := by decide +kernel
theorem dX11_entryAt_4 : decode cX11_entryAt 4 = .ok (.bipush 10, 2) := by decide +kernel
theorem dX11_entryAt_6 : decode cX11_entryAt 6 = .ok (.iload_n 1, 1) := by decide +kernel
theorem dX11_entryAt_7 : decode cX11_entryAt 7 = .ok (.imul, 1) := by decide +kernel
theorem dX11_entryAt_8 : decode cX11_entryAt 8 = .ok (.istore 5, 2) := by decide +kernel
theorem dX11_entryAt_10 : decode cX11_entryAt 10 = .ok (.iload 5, 2) := by decide +kernel
theorem dX11_entryAt_12 : decode cX11_entryAt 12 = .ok (.bipush 10, 2) := by decide +kernel
theorem dX11_entryAt_14 : decode cX11_entryAt 14 = .ok (.iload_n 1, 1) := by decide +kernel
theorem dX11_entryAt_15 : decode cX11_entryAt 15 = .ok (.imul, 1) := by decide +kernel
theorem dX11_entryAt_16 : decode cX11_entryAt 16 = .ok (.aload_n 0, 1) := by decide +kernel
theorem dX11_entryAt_17 : decode cX11_entryAt 17 = .ok (.getfield 25, 3) := by decide +kernel
theorem dX11_entryAt_20 : decode cX11_entryAt 20 = .ok (.iload_n 1, 1) := by decide +kernel
theorem dX11_entryAt_21 : decode cX11_entryAt 21 = .ok (.iaload, 1) := by decide +kernel
theorem dX11_entryAt_22 : decode cX11_entryAt 22 = .ok (.iadd, 1) := by decide +kernel
theorem dX11_entryAt_23 : decode cX11_entryAt 23 = .ok (.if_icmp .ge 48, 3) := by decide +kernel
theorem dX11_entryAt_26 : decode cX11_entryAt 26 = .ok (.aload_n 0, 1) := by decide +kernel
theorem dX11_entryAt_27 : decode cX11_entryAt 27 = .ok (.iload 5, 2) := by decide +kernel
theorem dX11_entryAt_29 : decode cX11_entryAt 29 = .ok (.iload_n 2, 1) := by decide +kernel
theorem dX11_entryAt_30 : decode cX11_entryAt 30 = .ok (.iload_n 3, 1) := by decide +kernel
theorem dX11_entryAt_31 : decode cX11_entryAt 31 = .ok (.invokevirtual 161, 3) := by decide +kernel
theorem dX11_entryAt_34 : decode cX11_entryAt 34 = .ok (.ifCond .eq 31, 3) := by decide +kernel
theorem dX11_entryAt_37 : decode cX11_entryAt 37 = .ok (.iload 4, 2) := by decide +kernel
theorem dX11_entryAt_39 : decode cX11_entryAt 39 = .ok (.bipush (-9), 2) := by decide +kernel
theorem dX11_entryAt_41 : decode cX11_entryAt 41 = .ok (.if_icmp .eq 20, 3) := by decide +kernel
theorem dX11_entryAt_44 : decode cX11_entryAt 44 = .ok (.aload_n 0, 1) := by decide +kernel
theorem dX11_entryAt_45 : decode cX11_entryAt 45 = .ok (.getfield 31, 3) := by decide +kernel
theorem dX11_entryAt_48 : decode cX11_entryAt 48 = .ok (.iload 5, 2) := by decide +kernel
theorem dX11_entryAt_50 : decode cX11_entryAt 50 = .ok (.iaload, 1) := by decide +kernel
theorem dX11_entryAt_51 : decode cX11_entryAt 51 = .ok (.aload_n 0, 1) := by decide +kernel
theorem dX11_entryAt_52 : decode cX11_entryAt 52 = .ok (.getfield 31, 3) := by decide +kernel
theorem dX11_entryAt_55 : decode cX11_entryAt 55 = .ok (.iload 4, 2) := by decide +kernel
theorem dX11_entryAt_57 : decode cX11_entryAt 57 = .ok (.iaload, 1) := by decide +kernel
theorem dX11_entryAt_58 : decode cX11_entryAt 58 = .ok (.if_icmp .lt 7, 3) := by decide +kernel
theorem dX11_entryAt_61 : decode cX11_entryAt 61 = .ok (.iload 5, 2) := by decide +kernel
theorem dX11_entryAt_63 : decode cX11_entryAt 63 = .ok (.istore 4, 2) := by decide +kernel
theorem dX11_entryAt_65 : decode cX11_entryAt 65 = .ok (.iinc 5 1, 3) := by decide +kernel
theorem dX11_entryAt_68 : decode cX11_entryAt 68 = .ok (.goto (-58), 3) := by decide +kernel
theorem dX11_entryAt_71 : decode cX11_entryAt 71 = .ok (.iload 4, 2) := by decide +kernel
theorem dX11_entryAt_73 : decode cX11_entryAt 73 = .ok (.ireturn, 1) := by decide +kernel
theorem dX11_isPlace_0 : decode cX11_isPlace 0 = .ok (.iload_n 1, 1) := by decide +kernel
theorem dX11_isPlace_1 : decode cX11_isPlace 1 = .ok (.ifCond .lt 15, 3) := by decide +kernel
theorem dX11_isPlace_4 : decode cX11_isPlace 4 = .ok (.iload_n 1, 1) := by decide +kernel
theorem dX11_isPlace_5 : decode cX11_isPlace 5 = .ok (.aload_n 0, 1) := by decide +kernel
theorem dX11_isPlace_6 : decode cX11_isPlace 6 = .ok (.getfield 164, 3) := by decide +kernel
theorem dX11_isPlace_9 : decode cX11_isPlace 9 = .ok (.if_icmp .ge 7, 3) := by decide +kernel
theorem dX11_isPlace_12 : decode cX11_isPlace 12 = .ok (.iconst 1, 1) := by decide +kernel
theorem dX11_isPlace_13 : decode cX11_isPlace 13 = .ok (.goto 4, 3) := by decide +kernel
theorem dX11_isPlace_16 : decode cX11_isPlace 16 = .ok (.iconst 0, 1) := by decide +kernel
theorem dX11_isPlace_17 : decode cX11_isPlace 17 = .ok (.ireturn, 1) := by decide +kernel
theorem dX11_isMeaning_0 : decode cX11_isMeaning 0 = .ok (.iload_n 0, 1) := by decide +kernel
theorem dX11_isMeaning_1 : decode cX11_isMeaning 1 = .ok (.iconst 0, 1) := by decide +kernel
theorem dX11_isMeaning_2 : decode cX11_isMeaning 2 = .ok (.iconst 5, 1) := by decide +kernel
theorem dX11_isMeaning_3 : decode cX11_isMeaning 3 = .ok (.invokestatic 124, 3) := by decide +kernel
theorem dX11_isMeaning_6 : decode cX11_isMeaning 6 = .ok (.ireturn, 1) := by decide +kernel
theorem dX11_place_0 : decode cX11_place 0 = .ok (.aload_n 0, 1) := by decide +kernel
theorem dX11_place_1 : decode cX11_place 1 = .ok (.getfield 164, 3) := by decide +kernel
theorem dX11_place_4 : decode cX11_place 4 = .ok (.bipush 8, 2) := by decide +kernel
theorem dX11_place_6 : decode cX11_place 6 = .ok (.if_icmp .ne 6, 3) := by decide +kernel
theorem dX11_place_9 : decode cX11_place 9 = .ok (.bipush (-4), 2) := by decide +kernel
theorem dX11_place_11 : decode cX11_place 11 = .ok (.ireturn, 1) := by decide +kernel
theorem dX11_place_12 : decode cX11_place 12 = .ok (.aload_n 0, 1) := by decide +kernel
theorem dX11_place_13 : decode cX11_place 13 = .ok (.dup, 1) := by decide +kernel
theorem dX11_place_14 : decode cX11_place 14 = .ok (.getfield 164, 3) := by decide +kernel
theorem dX11_place_17 : decode cX11_place 17 = .ok (.iconst 1, 1) := by decide +kernel
theorem dX11_place_18 : decode cX11_place 18 = .ok (.iadd, 1) := by decide +kernel
theorem dX11_place_19 : decode cX11_place 19 = .ok (.putfield 164, 3) := by decide +kernel
theorem dX11_place_22 : decode cX11_place 22 = .ok (.aload_n 0, 1) := by decide +kernel
theorem dX11_place_23 : decode cX11_place 23 = .ok (.getfield 164, 3) := by decide +kernel
theorem dX11_place_26 : decode cX11_place 26 = .ok (.iconst 1, 1) := by decide +kernel
theorem dX11_place_27 : decode cX11_place 27 = .ok (.isub, 1) := by decide +kernel
theorem dX11_place_28 : decode cX11_place 28 = .ok (.ireturn, 1) := by decide +kernel
theorem dX11_near_0 : decode cX11_near 0 = .ok (.aload_n 0, 1) := by decide +kernel
theorem dX11_near_1 : decode cX11_near 1 = .ok (.iload_n 1, 1) := by decide +kernel
theorem dX11_near_2 : decode cX11_near 2 = .ok (.invokevirtual 167, 3) := by decide +kernel
theorem dX11_near_5 : decode cX11_near 5 = .ok (.ifCond .eq 11, 3) := by decide +kernel
theorem dX11_near_8 : decode cX11_near 8 = .ok (.aload_n 0, 1) := by decide +kernel
theorem dX11_near_9 : decode cX11_near 9 = .ok (.iload_n 2, 1) := by decide +kernel
theorem dX11_near_10 : decode cX11_near 10 = .ok (.invokevirtual 167, 3) := by decide +kernel
theorem dX11_near_13 : decode cX11_near 13 = .ok (.ifCond .ne 5, 3) := by decide +kernel
theorem dX11_near_16 : decode cX11_near 16 = .ok (.iconst (-1), 1) := by decide +kernel
theorem dX11_near_17 : decode cX11_near 17 = .ok (.ireturn, 1) := by decide +kernel
theorem dX11_near_18 : decode cX11_near 18 = .ok (.iload_n 1, 1) := by decide +kernel
theorem dX11_near_19 : decode cX11_near 19 = .ok (.iload_n 2, 1) := by decide +kernel
theorem dX11_near_20 : decode cX11_near 20 = .ok (.if_icmp .ne 6, 3) := by decide +kernel
theorem dX11_near_23 : decode cX11_near 23 = .ok (.bipush (-2), 2) := by decide +kernel
theorem dX11_near_25 : decode cX11_near 25 = .ok (.ireturn, 1) := by decide +kernel
theorem dX11_near_26 : decode cX11_near 26 = .ok (.aload_n 0, 1) := by decide +kernel
theorem dX11_near_27 : decode cX11_near 27 = .ok (.getfield 37, 3) := by decide +kernel
theorem dX11_near_30 : decode cX11_near 30 = .ok (.iload_n 1, 1) := by decide +kernel
theorem dX11_near_31 : decode cX11_near 31 = .ok (.iaload, 1) := by decide +kernel
theorem dX11_near_32 : decode cX11_near 32 = .ok (.iload_n 2, 1) := by decide +kernel
theorem dX11_near_33 : decode cX11_near 33 = .ok (.invokestatic 132, 3) := by decide +kernel
theorem dX11_near_36 : decode cX11_near 36 = .ok (.iload_n 3, 1) := by decide +kernel
theorem dX11_near_37 : decode cX11_near 37 = .ok (.if_icmp .ne 5, 3) := by decide +kernel
theorem dX11_near_40 : decode cX11_near 40 = .ok (.iconst 0, 1) := by decide +kernel
theorem dX11_near_41 : decode cX11_near 41 = .ok (.ireturn, 1) := by decide +kernel
theorem dX11_near_42 : decode cX11_near 42 = .ok (.aload_n 0, 1) := by decide +kernel
theorem dX11_near_43 : decode cX11_near 43 = .ok (.getfield 37, 3) := by decide +kernel
theorem dX11_near_46 : decode cX11_near 46 = .ok (.iload_n 1, 1) := by decide +kernel
theorem dX11_near_47 : decode cX11_near 47 = .ok (.iload_n 3, 1) := by decide +kernel
theorem dX11_near_48 : decode cX11_near 48 = .ok (.ifCond .eq 16, 3) := by decide +kernel
theorem dX11_near_51 : decode cX11_near 51 = .ok (.aload_n 0, 1) := by decide +kernel
theorem dX11_near_52 : decode cX11_near 52 = .ok (.getfield 37, 3) := by decide +kernel
theorem dX11_near_55 : decode cX11_near 55 = .ok (.iload_n 1, 1) := by decide +kernel
theorem dX11_near_56 : decode cX11_near 56 = .ok (.iaload, 1) := by decide +kernel
theorem dX11_near_57 : decode cX11_near 57 = .ok (.iconst 1, 1) := by decide +kernel
theorem dX11_near_58 : decode cX11_near 58 = .ok (.iload_n 2, 1) := by decide +kernel
theorem dX11_near_59 : decode cX11_near 59 = .ok (.ishl, 1) := by decide +kernel
theorem dX11_near_60 : decode cX11_near 60 = .ok (.ior, 1) := by decide +kernel
theorem dX11_near_61 : decode cX11_near 61 = .ok (.goto 15, 3) := by decide +kernel
theorem dX11_near_64 : decode cX11_near 64 = .ok (.aload_n 0, 1) := by decide +kernel
theorem dX11_near_65 : decode cX11_near 65 = .ok (.getfield 37, 3) := by decide +kernel
theorem dX11_near_68 : decode cX11_near 68 = .ok (.iload_n 1, 1) := by decide +kernel
theorem dX11_near_69 : decode cX11_near 69 = .ok (.iaload, 1) := by decide +kernel
theorem dX11_near_70 : decode cX11_near 70 = .ok (.iconst 1, 1) := by decide +kernel
theorem dX11_near_71 : decode cX11_near 71 = .ok (.iload_n 2, 1) := by decide +kernel
theorem dX11_near_72 : decode cX11_near 72 = .ok (.ishl, 1) := by decide +kernel
theorem dX11_near_73 : decode cX11_near 73 = .ok (.iconst (-1), 1) := by decide +kernel
theorem dX11_near_74 : decode cX11_near 74 = .ok (.ixor, 1) := by decide +kernel
theorem dX11_near_75 : decode cX11_near 75 = .ok (.iand, 1) := by decide +kernel
theorem dX11_near_76 : decode cX11_near 76 = .ok (.iastore, 1) := by decide +kernel
theorem dX11_near_77 : decode cX11_near 77 = .ok (.aload_n 0, 1) := by decide +kernel
theorem dX11_near_78 : decode cX11_near 78 = .ok (.getfield 37, 3) := by decide +kernel
theorem dX11_near_81 : decode cX11_near 81 = .ok (.iload_n 2, 1) := by decide +kernel
theorem dX11_near_82 : decode cX11_near 82 = .ok (.iload_n 3, 1) := by decide +kernel
theorem dX11_near_83 : decode cX11_near 83 = .ok (.ifCond .eq 16, 3) := by decide +kernel
theorem dX11_near_86 : decode cX11_near 86 = .ok (.aload_n 0, 1) := by decide +kernel
theorem dX11_near_87 : decode cX11_near 87 = .ok (.getfield 37, 3) := by decide +kernel
theorem dX11_near_90 : decode cX11_near 90 = .ok (.iload_n 2, 1) := by decide +kernel
theorem dX11_near_91 : decode cX11_near 91 = .ok (.iaload, 1) := by decide +kernel
theorem dX11_near_92 : decode cX11_near 92 = .ok (.iconst 1, 1) := by decide +kernel
theorem dX11_near_93 : decode cX11_near 93 = .ok (.iload_n 1, 1) := by decide +kernel
theorem dX11_near_94 : decode cX11_near 94 = .ok (.ishl, 1) := by decide +kernel
theorem dX11_near_95 : decode cX11_near 95 = .ok (.ior, 1) := by decide +kernel
theorem dX11_near_96 : decode cX11_near 96 = .ok (.goto 15, 3) := by decide +kernel
theorem dX11_near_99 : decode cX11_near 99 = .ok (.aload_n 0, 1) := by decide +kernel
theorem dX11_near_100 : decode cX11_near 100 = .ok (.getfield 37, 3) := by decide +kernel
theorem dX11_near_103 : decode cX11_near 103 = .ok (.iload_n 2, 1) := by decide +kernel
theorem dX11_near_104 : decode cX11_near 104 = .ok (.iaload, 1) := by decide +kernel
theorem dX11_near_105 : decode cX11_near 105 = .ok (.iconst 1, 1) := by decide +kernel
theorem dX11_near_106 : decode cX11_near 106 = .ok (.iload_n 1, 1) := by decide +kernel
theorem dX11_near_107 : decode cX11_near 107 = .ok (.ishl, 1) := by decide +kernel
theorem dX11_near_108 : decode cX11_near 108 = .ok (.iconst (-1), 1) := by decide +kernel
theorem dX11_near_109 : decode cX11_near 109 = .ok (.ixor, 1) := by decide +kernel
theorem dX11_near_110 : decode cX11_near 110 = .ok (.iand, 1) := by decide +kernel
theorem dX11_near_111 : decode cX11_near 111 = .ok (.iastore, 1) := by decide +kernel
theorem dX11_near_112 : decode cX11_near 112 = .ok (.iconst 1, 1) := by decide +kernel
theorem dX11_near_113 : decode cX11_near 113 = .ok (.ireturn, 1) := by decide +kernel
theorem dX11_isForm_0 : decode cX11_isForm 0 = .ok (.iload_n 1, 1) := by decide +kernel
theorem dX11_isForm_1 : decode cX11_isForm 1 = .ok (.ifCond .lt 15, 3) := by decide +kernel
theorem dX11_isForm_4 : decode cX11_isForm 4 = .ok (.iload_n 1, 1) := by decide +kernel
theorem dX11_isForm_5 : decode cX11_isForm 5 = .ok (.aload_n 0, 1) := by decide +kernel
theorem dX11_isForm_6 : decode cX11_isForm 6 = .ok (.getfield 170, 3) := by decide +kernel
theorem dX11_isForm_9 : decode cX11_isForm 9 = .ok (.if_icmp .ge 7, 3) := by decide +kernel
theorem dX11_isForm_12 : decode cX11_isForm 12 = .ok (.iconst 1, 1) := by decide +kernel
theorem dX11_isForm_13 : decode cX11_isForm 13 = .ok (.goto 4, 3) := by decide +kernel
theorem dX11_isForm_16 : decode cX11_isForm 16 = .ok (.iconst 0, 1) := by decide +kernel
theorem dX11_isForm_17 : decode cX11_isForm 17 = .ok (.ireturn, 1) := by decide +kernel
theorem dX11_form_0 : decode cX11_form 0 = .ok (.aload_n 0, 1) := by decide +kernel
theorem dX11_form_1 : decode cX11_form 1 = .ok (.iconst 0, 1) := by decide +kernel
theorem dX11_form_2 : decode cX11_form 2 = .ok (.putfield 119, 3) := by decide +kernel
theorem dX11_form_5 : decode cX11_form 5 = .ok (.aload_n 0, 1) := by decide +kernel
theorem dX11_form_6 : decode cX11_form 6 = .ok (.iload_n 2, 1) := by decide +kernel
theorem dX11_form_7 : decode cX11_form 7 = .ok (.invokevirtual 167, 3) := by decide +kernel
theorem dX11_form_10 : decode cX11_form 10 = .ok (.ifCond .eq 18, 3) := by decide +kernel
theorem dX11_form_13 : decode cX11_form 13 = .ok (.iload_n 3, 1) := by decide +kernel
theorem dX11_form_14 : decode cX11_form 14 = .ok (.invokestatic 173, 3) := by decide +kernel
theorem dX11_form_17 : decode cX11_form 17 = .ok (.ifCond .eq 11, 3) := by decide +kernel
theorem dX11_form_20 : decode cX11_form 20 = .ok (.iload 4, 2) := by decide +kernel
theorem dX11_form_22 : decode cX11_form 22 = .ok (.invokestatic 143, 3) := by decide +kernel
theorem dX11_form_25 : decode cX11_form 25 = .ok (.ifCond .ne 5, 3) := by decide +kernel
theorem dX11_form_28 : decode cX11_form 28 = .ok (.iconst (-1), 1) := by decide +kernel
theorem dX11_form_29 : decode cX11_form 29 = .ok (.ireturn, 1) := by decide +kernel
theorem dX11_form_30 : decode cX11_form 30 = .ok (.iload_n 1, 1) := by decide +kernel
theorem dX11_form_31 : decode cX11_form 31 = .ok (.iconst 0, 1) := by decide +kernel
theorem dX11_form_32 : decode cX11_form 32 = .ok (.iconst 2, 1) := by decide +kernel
theorem dX11_form_33 : decode cX11_form 33 = .ok (.invokestatic 124, 3) := by decide +kernel
theorem dX11_form_36 : decode cX11_form 36 = .ok (.ifCond .eq 11, 3) := by decide +kernel
theorem dX11_form_39 : decode cX11_form 39 = .ok (.iload 5, 2) := by decide +kernel
theorem dX11_form_41 : decode cX11_form 41 = .ok (.invokestatic 146, 3) := by decide +kernel
theorem dX11_form_44 : decode cX11_form 44 = .ok (.ifCond .ne 6, 3) := by decide +kernel
theorem dX11_form_47 : decode cX11_form 47 = .ok (.bipush (-2), 2) := by decide +kernel
theorem dX11_form_49 : decode cX11_form 49 = .ok (.ireturn, 1) := by decide +kernel
theorem dX11_form_50 : decode cX11_form 50 = .ok (.aload_n 0, 1) := by decide +kernel
theorem dX11_form_51 : decode cX11_form 51 = .ok (.iload 4, 2) := by decide +kernel
theorem dX11_form_53 : decode cX11_form 53 = .ok (.iload 5, 2) := by decide +kernel
theorem dX11_form_55 : decode cX11_form 55 = .ok (.iload 6, 2) := by decide +kernel
theorem dX11_form_57 : decode cX11_form 57 = .ok (.iload 7, 2) := by decide +kernel
theorem dX11_form_59 : decode cX11_form 59 = .ok (.invokevirtual 149, 3) := by decide +kernel
theorem dX11_form_62 : decode cX11_form 62 = .ok (.istore 8, 2) := by decide +kernel
theorem dX11_form_64 : decode cX11_form 64 = .ok (.iload 8, 2) := by decide +kernel
theorem dX11_form_66 : decode cX11_form 66 = .ok (.ifCond .eq 10, 3) := by decide +kernel
theorem dX11_form_69 : decode cX11_form 69 = .ok (.aload_n 0, 1) := by decide +kernel
theorem dX11_form_70 : decode cX11_form 70 = .ok (.iload 8, 2) := by decide +kernel
theorem dX11_form_72 : decode cX11_form 72 = .ok (.invokevirtual 153, 3) := by decide +kernel
theorem dX11_form_75 : decode cX11_form 75 = .ok (.ireturn, 1) := by decide +kernel
theorem dX11_form_76 : decode cX11_form 76 = .ok (.bipush 60, 2) := by decide +kernel
theorem dX11_form_78 : decode cX11_form 78 = .ok (.iload 4, 2) := by decide +kernel
theorem dX11_form_80 : decode cX11_form 80 = .ok (.imul, 1) := by decide +kernel
theorem dX11_form_81 : decode cX11_form 81 = .ok (.iload 6, 2) := by decide +kernel
theorem dX11_form_83 : decode cX11_form 83 = .ok (.iadd, 1) := by decide +kernel
theorem dX11_form_84 : decode cX11_form 84 = .ok (.istore 9, 2) := by decide +kernel
theorem dX11_form_86 : decode cX11_form 86 = .ok (.iload 7, 2) := by decide +kernel
theorem dX11_form_88 : decode cX11_form 88 = .ok (.bipush 8, 2) := by decide +kernel
theorem dX11_form_90 : decode cX11_form 90 = .ok (.if_icmp .le 6, 3) := by decide +kernel
theorem dX11_form_93 : decode cX11_form 93 = .ok (.bipush (-2), 2) := by decide +kernel
theorem dX11_form_95 : decode cX11_form 95 = .ok (.ireturn, 1) := by decide +kernel
theorem dX11_form_96 : decode cX11_form 96 = .ok (.aload_n 0, 1) := by decide +kernel
theorem dX11_form_97 : decode cX11_form 97 = .ok (.iload 9, 2) := by decide +kernel
theorem dX11_form_99 : decode cX11_form 99 = .ok (.iload 7, 2) := by decide +kernel
theorem dX11_form_101 : decode cX11_form 101 = .ok (.iconst 0, 1) := by decide +kernel
theorem dX11_form_102 : decode cX11_form 102 = .ok (.bipush 15, 2) := by decide +kernel
theorem dX11_form_104 : decode cX11_form 104 = .ok (.invokevirtual 157, 3) := by decide +kernel
theorem dX11_form_107 : decode cX11_form 107 = .ok (.ifCond .ne 5, 3) := by decide +kernel
theorem dX11_form_110 : decode cX11_form 110 = .ok (.iconst (-1), 1) := by decide +kernel
theorem dX11_form_111 : decode cX11_form 111 = .ok (.ireturn, 1) := by decide +kernel
theorem dX11_form_112 : decode cX11_form 112 = .ok (.aload_n 0, 1) := by decide +kernel
theorem dX11_form_113 : decode cX11_form 113 = .ok (.getfield 170, 3) := by decide +kernel
theorem dX11_form_116 : decode cX11_form 116 = .ok (.bipush 40, 2) := by decide +kernel
theorem dX11_form_118 : decode cX11_form 118 = .ok (.if_icmp .ne 6, 3) := by decide +kernel
theorem dX11_form_121 : decode cX11_form 121 = .ok (.bipush (-4), 2) := by decide +kernel
theorem dX11_form_123 : decode cX11_form 123 = .ok (.ireturn, 1) := by decide +kernel
theorem dX11_form_124 : decode cX11_form 124 = .ok (.iconst 0, 1) := by decide +kernel
theorem dX11_form_125 : decode cX11_form 125 = .ok (.istore 10, 2) := by decide +kernel
theorem dX11_form_127 : decode cX11_form 127 = .ok (.iload 10, 2) := by decide +kernel
theorem dX11_form_129 : decode cX11_form 129 = .ok (.iload 7, 2) := by decide +kernel
theorem dX11_form_131 : decode cX11_form 131 = .ok (.if_icmp .ge 34, 3) := by decide +kernel
theorem dX11_form_134 : decode cX11_form 134 = .ok (.aload_n 0, 1) := by decide +kernel
theorem dX11_form_135 : decode cX11_form 135 = .ok (.getfield 52, 3) := by decide +kernel
theorem dX11_form_138 : decode cX11_form 138 = .ok (.bipush 8, 2) := by decide +kernel
theorem dX11_form_140 : decode cX11_form 140 = .ok (.aload_n 0, 1) := by decide +kernel
theorem dX11_form_141 : decode cX11_form 141 = .ok (.getfield 170, 3) := by decide +kernel
theorem dX11_form_144 : decode cX11_form 144 = .ok (.imul, 1) := by decide +kernel
theorem dX11_form_145 : decode cX11_form 145 = .ok (.iload 10, 2) := by decide +kernel
theorem dX11_form_147 : decode cX11_form 147 = .ok (.iadd, 1) := by decide +kernel
theorem dX11_form_148 : decode cX11_form 148 = .ok (.aload_n 0, 1) := by decide +kernel
theorem dX11_form_149 : decode cX11_form 149 = .ok (.getfield 16, 3) := by decide +kernel
theorem dX11_form_152 : decode cX11_form 152 = .ok (.iload 9, 2) := by decide +kernel
theorem dX11_form_154 : decode cX11_form 154 = .ok (.iload 10, 2) := by decide +kernel
theorem dX11_form_156 : decode cX11_form 156 = .ok (.iadd, 1) := by decide +kernel
theorem dX11_form_157 : decode cX11_form 157 = .ok (.iaload, 1) := by decide +kernel
theorem dX11_form_158 : decode cX11_form 158 = .ok (.iastore, 1) := by decide +kernel
theorem dX11_form_159 : decode cX11_form 159 = .ok (.iinc 10 1, 3) := by decide +kernel
theorem dX11_form_162 : decode cX11_form 162 = .ok (.goto (-35), 3) := by decide +kernel
theorem dX11_form_165 : decode cX11_form 165 = .ok (.aload_n 0, 1) := by decide +kernel
theorem dX11_form_166 : decode cX11_form 166 = .ok (.iload_n 1, 1) := by decide +kernel
theorem dX11_form_167 : decode cX11_form 167 = .ok (.iload_n 2, 1) := by decide +kernel
theorem dX11_form_168 : decode cX11_form 168 = .ok (.iload_n 3, 1) := by decide +kernel
theorem dX11_form_169 : decode cX11_form 169 = .ok (.iload 7, 2) := by decide +kernel
theorem dX11_form_171 : decode cX11_form 171 = .ok (.invokevirtual 176, 3) := by decide +kernel
theorem dX11_form_174 : decode cX11_form 174 = .ok (.ireturn, 1) := by decide +kernel
theorem dX11_formComes_0 : decode cX11_formComes 0 = .ok (.aload_n 0, 1) := by decide +kernel
theorem dX11_formComes_1 : decode cX11_formComes 1 = .ok (.getfield 40, 3) := by decide +kernel
theorem dX11_formComes_4 : decode cX11_formComes 4 = .ok (.aload_n 0, 1) := by decide +kernel
theorem dX11_formComes_5 : decode cX11_formComes 5 = .ok (.getfield 170, 3) := by decide +kernel
theorem dX11_formComes_8 : decode cX11_formComes 8 = .ok (.iload_n 1, 1) := by decide +kernel
theorem dX11_formComes_9 : decode cX11_formComes 9 = .ok (.iastore, 1) := by decide +kernel
theorem dX11_formComes_10 : decode cX11_formComes 10 = .ok (.aload_n 0, 1) := by decide +kernel
theorem dX11_formComes_11 : decode cX11_formComes 11 = .ok (.getfield 43, 3) := by decide +kernel
theorem dX11_formComes_14 : decode cX11_formComes 14 = .ok (.aload_n 0, 1) := by decide +kernel
theorem dX11_formComes_15 : decode cX11_formComes 15 = .ok (.getfield 170, 3) := by decide +kernel
theorem dX11_formComes_18 : decode cX11_formComes 18 = .ok (.iload_n 2, 1) := by decide +kernel
theorem dX11_formComes_19 : decode cX11_formComes 19 = .ok (.iastore, 1) := by decide +kernel
theorem dX11_formComes_20 : decode cX11_formComes 20 = .ok (.aload_n 0, 1) := by decide +kernel
theorem dX11_formComes_21 : decode cX11_formComes 21 = .ok (.getfield 46, 3) := by decide +kernel
theorem dX11_formComes_24 : decode cX11_formComes 24 = .ok (.aload_n 0, 1) := by decide +kernel
theorem dX11_formComes_25 : decode cX11_formComes 25 = .ok (.getfield 170, 3) := by decide +kernel
theorem dX11_formComes_28 : decode cX11_formComes 28 = .ok (.iload_n 3, 1) := by decide +kernel
theorem dX11_formComes_29 : decode cX11_formComes 29 = .ok (.iastore, 1) := by decide +kernel
theorem dX11_formComes_30 : decode cX11_formComes 30 = .ok (.aload_n 0, 1) := by decide +kernel
theorem dX11_formComes_31 : decode cX11_formComes 31 = .ok (.getfield 49, 3) := by decide +kernel
theorem dX11_formComes_34 : decode cX11_formComes 34 = .ok (.aload_n 0, 1) := by decide +kernel
theorem dX11_formComes_35 : decode cX11_formComes 35 = .ok (.getfield 170, 3) := by decide +kernel
theorem dX11_formComes_38 : decode cX11_formComes 38 = .ok (.iload 4, 2) := by decide +kernel
theorem dX11_formComes_40 : decode cX11_formComes 40 = .ok (.iastore, 1) := by decide +kernel
theorem dX11_formComes_41 : decode cX11_formComes 41 = .ok (.aload_n 0, 1) := by decide +kernel
theorem dX11_formComes_42 : decode cX11_formComes 42 = .ok (.dup, 1) := by decide +kernel
theorem dX11_formComes_43 : decode cX11_formComes 43 = .ok (.getfield 170, 3) := by decide +kernel
theorem dX11_formComes_46 : decode cX11_formComes 46 = .ok (.iconst 1, 1) := by decide +kernel
theorem dX11_formComes_47 : decode cX11_formComes 47 = .ok (.iadd, 1) := by decide +kernel
theorem dX11_formComes_48 : decode cX11_formComes 48 = .ok (.putfield 170, 3) := by decide +kernel
theorem dX11_formComes_51 : decode cX11_formComes 51 = .ok (.aload_n 0, 1) := by decide +kernel
theorem dX11_formComes_52 : decode cX11_formComes 52 = .ok (.getfield 170, 3) := by decide +kernel
theorem dX11_formComes_55 : decode cX11_formComes 55 = .ok (.iconst 1, 1) := by decide +kernel
theorem dX11_formComes_56 : decode cX11_formComes 56 = .ok (.isub, 1) := by decide +kernel
theorem dX11_formComes_57 : decode cX11_formComes 57 = .ok (.ireturn, 1) := by decide +kernel
theorem dX11_read_0 : decode cX11_read 0 = .ok (.aload_n 0, 1) := by decide +kernel
theorem dX11_read_1 : decode cX11_read 1 = .ok (.iconst 0, 1) := by decide +kernel
theorem dX11_read_2 : decode cX11_read 2 = .ok (.putfield 119, 3) := by decide +kernel
theorem dX11_read_5 : decode cX11_read 5 = .ok (.iload_n 1, 1) := by decide +kernel
theorem dX11_read_6 : decode cX11_read 6 = .ok (.invokestatic 140, 3) := by decide +kernel
theorem dX11_read_9 : decode cX11_read 9 = .ok (.ifCond .eq 26, 3) := by decide +kernel
theorem dX11_read_12 : decode cX11_read 12 = .ok (.aload_n 0, 1) := by decide +kernel
theorem dX11_read_13 : decode cX11_read 13 = .ok (.iload_n 2, 1) := by decide +kernel
theorem dX11_read_14 : decode cX11_read 14 = .ok (.invokevirtual 167, 3) := by decide +kernel
theorem dX11_read_17 : decode cX11_read 17 = .ok (.ifCond .eq 18, 3) := by decide +kernel
theorem dX11_read_20 : decode cX11_read 20 = .ok (.iload_n 3, 1) := by decide +kernel
theorem dX11_read_21 : decode cX11_read 21 = .ok (.invokestatic 173, 3) := by decide +kernel
theorem dX11_read_24 : decode cX11_read 24 = .ok (.ifCond .eq 11, 3) := by decide +kernel
theorem dX11_read_27 : decode cX11_read 27 = .ok (.iload 4, 2) := by decide +kernel
theorem dX11_read_29 : decode cX11_read 29 = .ok (.invokestatic 143, 3) := by decide +kernel
theorem dX11_read_32 : decode cX11_read 32 = .ok (.ifCond .ne 5, 3) := by decide +kernel
theorem dX11_read_35 : decode cX11_read 35 = .ok (.iconst (-1), 1) := by decide +kernel
theorem dX11_read_36 : decode cX11_read 36 = .ok (.ireturn, 1) := by decide +kernel
theorem dX11_read_37 : decode cX11_read 37 = .ok (.iload 5, 2) := by decide +kernel
theorem dX11_read_39 : decode cX11_read 39 = .ok (.invokestatic 146, 3) := by decide +kernel
theorem dX11_read_42 : decode cX11_read 42 = .ok (.ifCond .ne 6, 3) := by decide +kernel
theorem dX11_read_45 : decode cX11_read 45 = .ok (.bipush (-2), 2) := by decide +kernel
theorem dX11_read_47 : decode cX11_read 47 = .ok (.ireturn, 1) := by decide +kernel
theorem dX11_read_48 : decode cX11_read 48 = .ok (.aload_n 0, 1) := by decide +kernel
theorem dX11_read_49 : decode cX11_read 49 = .ok (.iload 4, 2) := by decide +kernel
theorem dX11_read_51 : decode cX11_read 51 = .ok (.iload 5, 2) := by decide +kernel
theorem dX11_read_53 : decode cX11_read 53 = .ok (.iload 6, 2) := by decide +kernel
theorem dX11_read_55 : decode cX11_read 55 = .ok (.iload 7, 2) := by decide +kernel
theorem dX11_read_57 : decode cX11_read 57 = .ok (.invokevirtual 149, 3) := by decide +kernel
theorem dX11_read_60 : decode cX11_read 60 = .ok (.istore 8, 2) := by decide +kernel
theorem dX11_read_62 : decode cX11_read 62 = .ok (.iload 8, 2) := by decide +kernel
theorem dX11_read_64 : decode cX11_read 64 = .ok (.ifCond .eq 10, 3) := by decide +kernel
theorem dX11_read_67 : decode cX11_read 67 = .ok (.aload_n 0, 1) := by decide +kernel
theorem dX11_read_68 : decode cX11_read 68 = .ok (.iload 8, 2) := by decide +kernel
theorem dX11_read_70 : decode cX11_read 70 = .ok (.invokevirtual 153, 3) := by decide +kernel
theorem dX11_read_73 : decode cX11_read 73 = .ok (.ireturn, 1) := by decide +kernel
theorem dX11_read_74 : decode cX11_read 74 = .ok (.bipush 60, 2) := by decide +kernel
theorem dX11_read_76 : decode cX11_read 76 = .ok (.iload 4, 2) := by decide +kernel
theorem dX11_read_78 : decode cX11_read 78 = .ok (.imul, 1) := by decide +kernel
theorem dX11_read_79 : decode cX11_read 79 = .ok (.iload 6, 2) := by decide +kernel
theorem dX11_read_81 : decode cX11_read 81 = .ok (.iadd, 1) := by decide +kernel
theorem dX11_read_82 : decode cX11_read 82 = .ok (.istore 9, 2) := by decide +kernel
theorem dX11_read_84 : decode cX11_read 84 = .ok (.iload 9, 2) := by decide +kernel
theorem dX11_read_86 : decode cX11_read 86 = .ok (.istore 10, 2) := by decide +kernel
theorem dX11_read_88 : decode cX11_read 88 = .ok (.iconst 0, 1) := by decide +kernel
theorem dX11_read_89 : decode cX11_read 89 = .ok (.istore 11, 2) := by decide +kernel
theorem dX11_read_91 : decode cX11_read 91 = .ok (.iload 10, 2) := by decide +kernel
theorem dX11_read_93 : decode cX11_read 93 = .ok (.iload 9, 2) := by decide +kernel
theorem dX11_read_95 : decode cX11_read 95 = .ok (.iload 7, 2) := by decide +kernel
theorem dX11_read_97 : decode cX11_read 97 = .ok (.iadd, 1) := by decide +kernel
theorem dX11_read_98 : decode cX11_read 98 = .ok (.if_icmp .ge 72, 3) := by decide +kernel
theorem dX11_read_101 : decode cX11_read 101 = .ok (.aload_n 0, 1) := by decide +kernel
theorem dX11_read_102 : decode cX11_read 102 = .ok (.iload_n 1, 1) := by decide +kernel
theorem dX11_read_103 : decode cX11_read 103 = .ok (.iload 10, 2) := by decide +kernel
theorem dX11_read_105 : decode cX11_read 105 = .ok (.iload 9, 2) := by decide +kernel
theorem dX11_read_107 : decode cX11_read 107 = .ok (.iload 7, 2) := by decide +kernel
theorem dX11_read_109 : decode cX11_read 109 = .ok (.iadd, 1) := by decide +kernel
theorem dX11_read_110 : decode cX11_read 110 = .ok (.invokevirtual 179, 3) := by decide +kernel
theorem dX11_read_113 : decode cX11_read 113 = .ok (.istore 12, 2) := by decide +kernel
theorem dX11_read_115 : decode cX11_read 115 = .ok (.iload 12, 2) := by decide +kernel
theorem dX11_read_117 : decode cX11_read 117 = .ok (.bipush (-9), 2) := by decide +kernel
theorem dX11_read_119 : decode cX11_read 119 = .ok (.if_icmp .eq 10, 3) := by decide +kernel
theorem dX11_read_122 : decode cX11_read 122 = .ok (.iload 11, 2) := by decide +kernel
theorem dX11_read_124 : decode cX11_read 124 = .ok (.bipush 8, 2) := by decide +kernel
theorem dX11_read_126 : decode cX11_read 126 = .ok (.if_icmp .ne 12, 3) := by decide +kernel
theorem dX11_read_129 : decode cX11_read 129 = .ok (.bipush (-100), 2) := by decide +kernel
theorem dX11_read_131 : decode cX11_read 131 = .ok (.iload 10, 2) := by decide +kernel
theorem dX11_read_133 : decode cX11_read 133 = .ok (.iload 9, 2) := by decide +kernel
theorem dX11_read_135 : decode cX11_read 135 = .ok (.isub, 1) := by decide +kernel
theorem dX11_read_136 : decode cX11_read 136 = .ok (.isub, 1) := by decide +kernel
theorem dX11_read_137 : decode cX11_read 137 = .ok (.ireturn, 1) := by decide +kernel
theorem dX11_read_138 : decode cX11_read 138 = .ok (.aload_n 0, 1) := by decide +kernel
theorem dX11_read_139 : decode cX11_read 139 = .ok (.getfield 55, 3) := by decide +kernel
theorem dX11_read_142 : decode cX11_read 142 = .ok (.iload 11, 2) := by decide +kernel
theorem dX11_read_144 : decode cX11_read 144 = .ok (.aload_n 0, 1) := by decide +kernel
theorem dX11_read_145 : decode cX11_read 145 = .ok (.getfield 28, 3) := by decide +kernel
theorem dX11_read_148 : decode cX11_read 148 = .ok (.iload 12, 2) := by decide +kernel
theorem dX11_read_150 : decode cX11_read 150 = .ok (.iaload, 1) := by decide +kernel
theorem dX11_read_151 : decode cX11_read 151 = .ok (.iastore, 1) := by decide +kernel
theorem dX11_read_152 : decode cX11_read 152 = .ok (.iinc 11 1, 3) := by decide +kernel
theorem dX11_read_155 : decode cX11_read 155 = .ok (.iload 10, 2) := by decide +kernel
theorem dX11_read_157 : decode cX11_read 157 = .ok (.aload_n 0, 1) := by decide +kernel
theorem dX11_read_158 : decode cX11_read 158 = .ok (.getfield 31, 3) := by decide +kernel
theorem dX11_read_161 : decode cX11_read 161 = .ok (.iload 12, 2) := by decide +kernel
theorem dX11_read_163 : decode cX11_read 163 = .ok (.iaload, 1) := by decide +kernel
theorem dX11_read_164 : decode cX11_read 164 = .ok (.iadd, 1) := by decide +kernel
theorem dX11_read_165 : decode cX11_read 165 = .ok (.istore 10, 2) := by decide +kernel
theorem dX11_read_167 : decode cX11_read 167 = .ok (.goto (-76), 3) := by decide +kernel
theorem dX11_read_170 : decode cX11_read 170 = .ok (.aload_n 0, 1) := by decide +kernel
theorem dX11_read_171 : decode cX11_read 171 = .ok (.getfield 170, 3) := by decide +kernel
theorem dX11_read_174 : decode cX11_read 174 = .ok (.bipush 40, 2) := by decide +kernel
theorem dX11_read_176 : decode cX11_read 176 = .ok (.if_icmp .ne 6, 3) := by decide +kernel
theorem dX11_read_179 : decode cX11_read 179 = .ok (.bipush (-4), 2) := by decide +kernel
theorem dX11_read_181 : decode cX11_read 181 = .ok (.ireturn, 1) := by decide +kernel
theorem dX11_read_182 : decode cX11_read 182 = .ok (.iconst 0, 1) := by decide +kernel
theorem dX11_read_183 : decode cX11_read 183 = .ok (.istore 12, 2) := by decide +kernel
theorem dX11_read_185 : decode cX11_read 185 = .ok (.iload 12, 2) := by decide +kernel
theorem dX11_read_187 : decode cX11_read 187 = .ok (.iload 11, 2) := by decide +kernel
theorem dX11_read_189 : decode cX11_read 189 = .ok (.if_icmp .ge 31, 3) := by decide +kernel
theorem dX11_read_192 : decode cX11_read 192 = .ok (.aload_n 0, 1) := by decide +kernel
theorem dX11_read_193 : decode cX11_read 193 = .ok (.getfield 52, 3) := by decide +kernel
theorem dX11_read_196 : decode cX11_read 196 = .ok (.bipush 8, 2) := by decide +kernel
theorem dX11_read_198 : decode cX11_read 198 = .ok (.aload_n 0, 1) := by decide +kernel
theorem dX11_read_199 : decode cX11_read 199 = .ok (.getfield 170, 3) := by decide +kernel
theorem dX11_read_202 : decode cX11_read 202 = .ok (.imul, 1) := by decide +kernel
theorem dX11_read_203 : decode cX11_read 203 = .ok (.iload 12, 2) := by decide +kernel
theorem dX11_read_205 : decode cX11_read 205 = .ok (.iadd, 1) := by decide +kernel
theorem dX11_read_206 : decode cX11_read 206 = .ok (.aload_n 0, 1) := by decide +kernel
theorem dX11_read_207 : decode cX11_read 207 = .ok (.getfield 55, 3) := by decide +kernel
theorem dX11_read_210 : decode cX11_read 210 = .ok (.iload 12, 2) := by decide +kernel
theorem dX11_read_212 : decode cX11_read 212 = .ok (.iaload, 1) := by decide +kernel
theorem dX11_read_213 : decode cX11_read 213 = .ok (.iastore, 1) := by decide +kernel
theorem dX11_read_214 : decode cX11_read 214 = .ok (.iinc 12 1, 3) := by decide +kernel
theorem dX11_read_217 : decode cX11_read 217 = .ok (.goto (-32), 3) := by decide +kernel
theorem dX11_read_220 : decode cX11_read 220 = .ok (.aload_n 0, 1) := by decide +kernel
theorem dX11_read_221 : decode cX11_read 221 = .ok (.iconst 0, 1) := by decide +kernel
theorem dX11_read_222 : decode cX11_read 222 = .ok (.iload_n 2, 1) := by decide +kernel
theorem dX11_read_223 : decode cX11_read 223 = .ok (.iload_n 3, 1) := by decide +kernel
theorem dX11_read_224 : decode cX11_read 224 = .ok (.iload 11, 2) := by decide +kernel
theorem dX11_read_226 : decode cX11_read 226 = .ok (.invokevirtual 176, 3) := by decide +kernel
theorem dX11_read_229 : decode cX11_read 229 = .ok (.ireturn, 1) := by decide +kernel
theorem dX11_ofForm_0 : decode cX11_ofForm 0 = .ok (.aload_n 0, 1) := by decide +kernel
theorem dX11_ofForm_1 : decode cX11_ofForm 1 = .ok (.iload_n 1, 1) := by decide +kernel
theorem dX11_ofForm_2 : decode cX11_ofForm 2 = .ok (.invokevirtual 183, 3) := by decide +kernel
theorem dX11_ofForm_5 : decode cX11_ofForm 5 = .ok (.ifCond .ne 5, 3) := by decide +kernel
theorem dX11_ofForm_8 : decode cX11_ofForm 8 = .ok (.iconst (-1), 1) := by decide +kernel
theorem dX11_ofForm_9 : decode cX11_ofForm 9 = .ok (.ireturn, 1) := by decide +kernel
theorem dX11_ofForm_10 : decode cX11_ofForm 10 = .ok (.iload_n 2, 1) := by decide +kernel
theorem dX11_ofForm_11 : decode cX11_ofForm 11 = .ok (.tableswitch 57 0 3 #[29, 36, 43, 50], 29) := by decide +kernel
theorem dX11_ofForm_40 : decode cX11_ofForm 40 = .ok (.aload_n 0, 1) := by decide +kernel
theorem dX11_ofForm_41 : decode cX11_ofForm 41 = .ok (.getfield 40, 3) := by decide +kernel
theorem dX11_ofForm_44 : decode cX11_ofForm 44 = .ok (.iload_n 1, 1) := by decide +kernel
theorem dX11_ofForm_45 : decode cX11_ofForm 45 = .ok (.iaload, 1) := by decide +kernel
theorem dX11_ofForm_46 : decode cX11_ofForm 46 = .ok (.ireturn, 1) := by decide +kernel
theorem dX11_ofForm_47 : decode cX11_ofForm 47 = .ok (.aload_n 0, 1) := by decide +kernel
theorem dX11_ofForm_48 : decode cX11_ofForm 48 = .ok (.getfield 43, 3) := by decide +kernel
theorem dX11_ofForm_51 : decode cX11_ofForm 51 = .ok (.iload_n 1, 1) := by decide +kernel
theorem dX11_ofForm_52 : decode cX11_ofForm 52 = .ok (.iaload, 1) := by decide +kernel
theorem dX11_ofForm_53 : decode cX11_ofForm 53 = .ok (.ireturn, 1) := by decide +kernel
theorem dX11_ofForm_54 : decode cX11_ofForm 54 = .ok (.aload_n 0, 1) := by decide +kernel
theorem dX11_ofForm_55 : decode cX11_ofForm 55 = .ok (.getfield 46, 3) := by decide +kernel
theorem dX11_ofForm_58 : decode cX11_ofForm 58 = .ok (.iload_n 1, 1) := by decide +kernel
theorem dX11_ofForm_59 : decode cX11_ofForm 59 = .ok (.iaload, 1) := by decide +kernel
theorem dX11_ofForm_60 : decode cX11_ofForm 60 = .ok (.ireturn, 1) := by decide +kernel
theorem dX11_ofForm_61 : decode cX11_ofForm 61 = .ok (.aload_n 0, 1) := by decide +kernel
theorem dX11_ofForm_62 : decode cX11_ofForm 62 = .ok (.getfield 49, 3) := by decide +kernel
theorem dX11_ofForm_65 : decode cX11_ofForm 65 = .ok (.iload_n 1, 1) := by decide +kernel
theorem dX11_ofForm_66 : decode cX11_ofForm 66 = .ok (.iaload, 1) := by decide +kernel
theorem dX11_ofForm_67 : decode cX11_ofForm 67 = .ok (.ireturn, 1) := by decide +kernel
theorem dX11_ofForm_68 : decode cX11_ofForm 68 = .ok (.iload_n 2, 1) := by decide +kernel
theorem dX11_ofForm_69 : decode cX11_ofForm 69 = .ok (.bipush 10, 2) := by decide +kernel
theorem dX11_ofForm_71 : decode cX11_ofForm 71 = .ok (.bipush 9, 2) := by decide +kernel
theorem dX11_ofForm_73 : decode cX11_ofForm 73 = .ok (.aload_n 0, 1) := by decide +kernel
theorem dX11_ofForm_74 : decode cX11_ofForm 74 = .ok (.getfield 49, 3) := by decide +kernel
theorem dX11_ofForm_77 : decode cX11_ofForm 77 = .ok (.iload_n 1, 1) := by decide +kernel
theorem dX11_ofForm_78 : decode cX11_ofForm 78 = .ok (.iaload, 1) := by decide +kernel
theorem dX11_ofForm_79 : decode cX11_ofForm 79 = .ok (.iadd, 1) := by decide +kernel
theorem dX11_ofForm_80 : decode cX11_ofForm 80 = .ok (.invokestatic 124, 3) := by decide +kernel
theorem dX11_ofForm_83 : decode cX11_ofForm 83 = .ok (.ifCond .eq 20, 3) := by decide +kernel
theorem dX11_ofForm_86 : decode cX11_ofForm 86 = .ok (.aload_n 0, 1) := by decide +kernel
theorem dX11_ofForm_87 : decode cX11_ofForm 87 = .ok (.getfield 52, 3) := by decide +kernel
theorem dX11_ofForm_90 : decode cX11_ofForm 90 = .ok (.bipush 8, 2) := by decide +kernel
theorem dX11_ofForm_92 : decode cX11_ofForm 92 = .ok (.iload_n 1, 1) := by decide +kernel
theorem dX11_ofForm_93 : decode cX11_ofForm 93 = .ok (.imul, 1) := by decide +kernel
theorem dX11_ofForm_94 : decode cX11_ofForm 94 = .ok (.iload_n 2, 1) := by decide +kernel
theorem dX11_ofForm_95 : decode cX11_ofForm 95 = .ok (.iadd, 1) := by decide +kernel
theorem dX11_ofForm_96 : decode cX11_ofForm 96 = .ok (.bipush 10, 2) := by decide +kernel
theorem dX11_ofForm_98 : decode cX11_ofForm 98 = .ok (.isub, 1) := by decide +kernel
theorem dX11_ofForm_99 : decode cX11_ofForm 99 = .ok (.iaload, 1) := by decide +kernel
theorem dX11_ofForm_100 : decode cX11_ofForm 100 = .ok (.goto 5, 3) := by decide +kernel
theorem dX11_ofForm_103 : decode cX11_ofForm 103 = .ok (.bipush (-2), 2) := by decide +kernel
theorem dX11_ofForm_105 : decode cX11_ofForm 105 = .ok (.ireturn, 1) := by decide +kernel
theorem dX11_saidAt_0 : decode cX11_saidAt 0 = .ok (.bipush (-9), 2) := by decide +kernel
theorem dX11_saidAt_2 : decode cX11_saidAt 2 = .ok (.istore_n 3, 1) := by decide +kernel
theorem dX11_saidAt_3 : decode cX11_saidAt 3 = .ok (.iconst 0, 1) := by decide +kernel
theorem dX11_saidAt_4 : decode cX11_saidAt 4 = .ok (.istore 4, 2) := by decide +kernel
theorem dX11_saidAt_6 : decode cX11_saidAt 6 = .ok (.iload 4, 2) := by decide +kernel
theorem dX11_saidAt_8 : decode cX11_saidAt 8 = .ok (.aload_n 0, 1) := by decide +kernel
theorem dX11_saidAt_9 : decode cX11_saidAt 9 = .ok (.getfield 170, 3) := by decide +kernel
theorem dX11_saidAt_12 : decode cX11_saidAt 12 = .ok (.if_icmp .ge 38, 3) := by decide +kernel
theorem dX11_saidAt_15 : decode cX11_saidAt 15 = .ok (.aload_n 0, 1) := by decide +kernel
theorem dX11_saidAt_16 : decode cX11_saidAt 16 = .ok (.getfield 43, 3) := by decide +kernel
theorem dX11_saidAt_19 : decode cX11_saidAt 19 = .ok (.iload 4, 2) := by decide +kernel
theorem dX11_saidAt_21 : decode cX11_saidAt 21 = .ok (.iaload, 1) := by decide +kernel
theorem dX11_saidAt_22 : decode cX11_saidAt 22 = .ok (.iload_n 1, 1) := by decide +kernel
theorem dX11_saidAt_23 : decode cX11_saidAt 23 = .ok (.if_icmp .ne 19, 3) := by decide +kernel
theorem dX11_saidAt_26 : decode cX11_saidAt 26 = .ok (.aload_n 0, 1) := by decide +kernel
theorem dX11_saidAt_27 : decode cX11_saidAt 27 = .ok (.getfield 46, 3) := by decide +kernel
theorem dX11_saidAt_30 : decode cX11_saidAt 30 = .ok (.iload 4, 2) := by decide +kernel
theorem dX11_saidAt_32 : decode cX11_saidAt 32 = .ok (.iaload, 1) := by decide +kernel
theorem dX11_saidAt_33 : decode cX11_saidAt 33 = .ok (.iload_n 2, 1) := by decide +kernel
theorem dX11_saidAt_34 : decode cX11_saidAt 34 = .ok (.if_icmp .ne 8, 3) := by decide +kernel
theorem dX11_saidAt_37 : decode cX11_saidAt 37 = .ok (.iload 4, 2) := by decide +kernel
theorem dX11_saidAt_39 : decode cX11_saidAt 39 = .ok (.goto 4, 3) := by decide +kernel
theorem dX11_saidAt_42 : decode cX11_saidAt 42 = .ok (.iload_n 3, 1) := by decide +kernel
theorem dX11_saidAt_43 : decode cX11_saidAt 43 = .ok (.istore_n 3, 1) := by decide +kernel
theorem dX11_saidAt_44 : decode cX11_saidAt 44 = .ok (.iinc 4 1, 3) := by decide +kernel
theorem dX11_saidAt_47 : decode cX11_saidAt 47 = .ok (.goto (-41), 3) := by decide +kernel
theorem dX11_saidAt_50 : decode cX11_saidAt 50 = .ok (.iload_n 3, 1) := by decide +kernel
theorem dX11_saidAt_51 : decode cX11_saidAt 51 = .ok (.ireturn, 1) := by decide +kernel
theorem dX11_said_0 : decode cX11_said 0 = .ok (.aload_n 0, 1) := by decide +kernel
theorem dX11_said_1 : decode cX11_said 1 = .ok (.iload_n 1, 1) := by decide +kernel
theorem dX11_said_2 : decode cX11_said 2 = .ok (.invokevirtual 167, 3) := by decide +kernel
theorem dX11_said_5 : decode cX11_said 5 = .ok (.ifCond .eq 19, 3) := by decide +kernel
theorem dX11_said_8 : decode cX11_said 8 = .ok (.iload_n 2, 1) := by decide +kernel
theorem dX11_said_9 : decode cX11_said 9 = .ok (.invokestatic 173, 3) := by decide +kernel
theorem dX11_said_12 : decode cX11_said 12 = .ok (.ifCond .eq 12, 3) := by decide +kernel
theorem dX11_said_15 : decode cX11_said 15 = .ok (.aload_n 0, 1) := by decide +kernel
theorem dX11_said_16 : decode cX11_said 16 = .ok (.iload_n 1, 1) := by decide +kernel
theorem dX11_said_17 : decode cX11_said 17 = .ok (.iload_n 2, 1) := by decide +kernel
theorem dX11_said_18 : decode cX11_said 18 = .ok (.invokevirtual 186, 3) := by decide +kernel
theorem dX11_said_21 : decode cX11_said 21 = .ok (.goto 4, 3) := by decide +kernel
theorem dX11_said_24 : decode cX11_said 24 = .ok (.iconst (-1), 1) := by decide +kernel
theorem dX11_said_25 : decode cX11_said 25 = .ok (.ireturn, 1) := by decide +kernel
theorem dX11_root_0 : decode cX11_root 0 = .ok (.aload_n 0, 1) := by decide +kernel
theorem dX11_root_1 : decode cX11_root 1 = .ok (.iconst 0, 1) := by decide +kernel
theorem dX11_root_2 : decode cX11_root 2 = .ok (.putfield 119, 3) := by decide +kernel
theorem dX11_root_5 : decode cX11_root 5 = .ok (.iload_n 1, 1) := by decide +kernel
theorem dX11_root_6 : decode cX11_root 6 = .ok (.invokestatic 173, 3) := by decide +kernel
theorem dX11_root_9 : decode cX11_root 9 = .ok (.ifCond .eq 10, 3) := by decide +kernel
theorem dX11_root_12 : decode cX11_root 12 = .ok (.iload_n 2, 1) := by decide +kernel
theorem dX11_root_13 : decode cX11_root 13 = .ok (.invokestatic 143, 3) := by decide +kernel
theorem dX11_root_16 : decode cX11_root 16 = .ok (.ifCond .ne 5, 3) := by decide +kernel
theorem dX11_root_19 : decode cX11_root 19 = .ok (.iconst (-1), 1) := by decide +kernel
theorem dX11_root_20 : decode cX11_root 20 = .ok (.ireturn, 1) := by decide +kernel
theorem dX11_root_21 : decode cX11_root 21 = .ok (.iload_n 3, 1) := by decide +kernel
theorem dX11_root_22 : decode cX11_root 22 = .ok (.invokestatic 146, 3) := by decide +kernel
theorem dX11_root_25 : decode cX11_root 25 = .ok (.ifCond .ne 6, 3) := by decide +kernel
theorem dX11_root_28 : decode cX11_root 28 = .ok (.bipush (-2), 2) := by decide +kernel
theorem dX11_root_30 : decode cX11_root 30 = .ok (.ireturn, 1) := by decide +kernel
theorem dX11_root_31 : decode cX11_root 31 = .ok (.aload_n 0, 1) := by decide +kernel
theorem dX11_root_32 : decode cX11_root 32 = .ok (.iload_n 2, 1) := by decide +kernel
theorem dX11_root_33 : decode cX11_root 33 = .ok (.iload_n 3, 1) := by decide +kernel
theorem dX11_root_34 : decode cX11_root 34 = .ok (.iload 4, 2) := by decide +kernel
theorem dX11_root_36 : decode cX11_root 36 = .ok (.iload 5, 2) := by decide +kernel
theorem dX11_root_38 : decode cX11_root 38 = .ok (.invokevirtual 149, 3) := by decide +kernel
theorem dX11_root_41 : decode cX11_root 41 = .ok (.istore 6, 2) := by decide +kernel
theorem dX11_root_43 : decode cX11_root 43 = .ok (.iload 6, 2) := by decide +kernel
theorem dX11_root_45 : decode cX11_root 45 = .ok (.ifCond .eq 10, 3) := by decide +kernel
theorem dX11_root_48 : decode cX11_root 48 = .ok (.aload_n 0, 1) := by decide +kernel
theorem dX11_root_49 : decode cX11_root 49 = .ok (.iload 6, 2) := by decide +kernel
theorem dX11_root_51 : decode cX11_root 51 = .ok (.invokevirtual 153, 3) := by decide +kernel
theorem dX11_root_54 : decode cX11_root 54 = .ok (.ireturn, 1) := by decide +kernel
theorem dX11_root_55 : decode cX11_root 55 = .ok (.bipush 60, 2) := by decide +kernel
theorem dX11_root_57 : decode cX11_root 57 = .ok (.iload_n 2, 1) := by decide +kernel
theorem dX11_root_58 : decode cX11_root 58 = .ok (.imul, 1) := by decide +kernel
theorem dX11_root_59 : decode cX11_root 59 = .ok (.iload 4, 2) := by decide +kernel
theorem dX11_root_61 : decode cX11_root 61 = .ok (.iadd, 1) := by decide +kernel
theorem dX11_root_62 : decode cX11_root 62 = .ok (.istore 7, 2) := by decide +kernel
theorem dX11_root_64 : decode cX11_root 64 = .ok (.iload 5, 2) := by decide +kernel
theorem dX11_root_66 : decode cX11_root 66 = .ok (.bipush 8, 2) := by decide +kernel
theorem dX11_root_68 : decode cX11_root 68 = .ok (.if_icmp .le 6, 3) := by decide +kernel
theorem dX11_root_71 : decode cX11_root 71 = .ok (.bipush (-2), 2) := by decide +kernel
theorem dX11_root_73 : decode cX11_root 73 = .ok (.ireturn, 1) := by decide +kernel
theorem dX11_root_74 : decode cX11_root 74 = .ok (.aload_n 0, 1) := by decide +kernel
theorem dX11_root_75 : decode cX11_root 75 = .ok (.iload 7, 2) := by decide +kernel
theorem dX11_root_77 : decode cX11_root 77 = .ok (.iload 5, 2) := by decide +kernel
theorem dX11_root_79 : decode cX11_root 79 = .ok (.iconst 0, 1) := by decide +kernel
theorem dX11_root_80 : decode cX11_root 80 = .ok (.bipush 15, 2) := by decide +kernel
theorem dX11_root_82 : decode cX11_root 82 = .ok (.invokevirtual 157, 3) := by decide +kernel
theorem dX11_root_85 : decode cX11_root 85 = .ok (.ifCond .ne 5, 3) := by decide +kernel
theorem dX11_root_88 : decode cX11_root 88 = .ok (.iconst (-1), 1) := by decide +kernel
theorem dX11_root_89 : decode cX11_root 89 = .ok (.ireturn, 1) := by decide +kernel
theorem dX11_root_90 : decode cX11_root 90 = .ok (.aload_n 0, 1) := by decide +kernel
theorem dX11_root_91 : decode cX11_root 91 = .ok (.getfield 58, 3) := by decide +kernel
theorem dX11_root_94 : decode cX11_root 94 = .ok (.iload_n 1, 1) := by decide +kernel
theorem dX11_root_95 : decode cX11_root 95 = .ok (.iload 5, 2) := by decide +kernel
theorem dX11_root_97 : decode cX11_root 97 = .ok (.iastore, 1) := by decide +kernel
theorem dX11_root_98 : decode cX11_root 98 = .ok (.iconst 0, 1) := by decide +kernel
theorem dX11_root_99 : decode cX11_root 99 = .ok (.istore 8, 2) := by decide +kernel
theorem dX11_root_101 : decode cX11_root 101 = .ok (.iload 8, 2) := by decide +kernel
theorem dX11_root_103 : decode cX11_root 103 = .ok (.iload 5, 2) := by decide +kernel
theorem dX11_root_105 : decode cX11_root 105 = .ok (.if_icmp .ge 31, 3) := by decide +kernel
theorem dX11_root_108 : decode cX11_root 108 = .ok (.aload_n 0, 1) := by decide +kernel
theorem dX11_root_109 : decode cX11_root 109 = .ok (.getfield 61, 3) := by decide +kernel
theorem dX11_root_112 : decode cX11_root 112 = .ok (.bipush 8, 2) := by decide +kernel
theorem dX11_root_114 : decode cX11_root 114 = .ok (.iload_n 1, 1) := by decide +kernel
theorem dX11_root_115 : decode cX11_root 115 = .ok (.imul, 1) := by decide +kernel
theorem dX11_root_116 : decode cX11_root 116 = .ok (.iload 8, 2) := by decide +kernel
theorem dX11_root_118 : decode cX11_root 118 = .ok (.iadd, 1) := by decide +kernel
theorem dX11_root_119 : decode cX11_root 119 = .ok (.aload_n 0, 1) := by decide +kernel
theorem dX11_root_120 : decode cX11_root 120 = .ok (.getfield 16, 3) := by decide +kernel
theorem dX11_root_123 : decode cX11_root 123 = .ok (.iload 7, 2) := by decide +kernel
theorem dX11_root_125 : decode cX11_root 125 = .ok (.iload 8, 2) := by decide +kernel
theorem dX11_root_127 : decode cX11_root 127 = .ok (.iadd, 1) := by decide +kernel
theorem dX11_root_128 : decode cX11_root 128 = .ok (.iaload, 1) := by decide +kernel
theorem dX11_root_129 : decode cX11_root 129 = .ok (.iastore, 1) := by decide +kernel
theorem dX11_root_130 : decode cX11_root 130 = .ok (.iinc 8 1, 3) := by decide +kernel
theorem dX11_root_133 : decode cX11_root 133 = .ok (.goto (-32), 3) := by decide +kernel
theorem dX11_root_136 : decode cX11_root 136 = .ok (.iload 5, 2) := by decide +kernel
theorem dX11_root_138 : decode cX11_root 138 = .ok (.ireturn, 1) := by decide +kernel
theorem dX11_ofRoot_0 : decode cX11_ofRoot 0 = .ok (.iload_n 1, 1) := by decide +kernel
theorem dX11_ofRoot_1 : decode cX11_ofRoot 1 = .ok (.invokestatic 173, 3) := by decide +kernel
theorem dX11_ofRoot_4 : decode cX11_ofRoot 4 = .ok (.ifCond .eq 13, 3) := by decide +kernel
theorem dX11_ofRoot_7 : decode cX11_ofRoot 7 = .ok (.iload_n 2, 1) := by decide +kernel
theorem dX11_ofRoot_8 : decode cX11_ofRoot 8 = .ok (.iconst (-1), 1) := by decide +kernel
theorem dX11_ofRoot_9 : decode cX11_ofRoot 9 = .ok (.bipush 7, 2) := by decide +kernel
theorem dX11_ofRoot_11 : decode cX11_ofRoot 11 = .ok (.invokestatic 124, 3) := by decide +kernel
theorem dX11_ofRoot_14 : decode cX11_ofRoot 14 = .ok (.ifCond .ne 5, 3) := by decide +kernel
theorem dX11_ofRoot_17 : decode cX11_ofRoot 17 = .ok (.iconst (-1), 1) := by decide +kernel
theorem dX11_ofRoot_18 : decode cX11_ofRoot 18 = .ok (.ireturn, 1) := by decide +kernel
theorem dX11_ofRoot_19 : decode cX11_ofRoot 19 = .ok (.iload_n 2, 1) := by decide +kernel
theorem dX11_ofRoot_20 : decode cX11_ofRoot 20 = .ok (.iconst (-1), 1) := by decide +kernel
theorem dX11_ofRoot_21 : decode cX11_ofRoot 21 = .ok (.if_icmp .ne 12, 3) := by decide +kernel
theorem dX11_ofRoot_24 : decode cX11_ofRoot 24 = .ok (.aload_n 0, 1) := by decide +kernel
theorem dX11_ofRoot_25 : decode cX11_ofRoot 25 = .ok (.getfield 58, 3) := by decide +kernel
theorem dX11_ofRoot_28 : decode cX11_ofRoot 28 = .ok (.iload_n 1, 1) := by decide +kernel
theorem dX11_ofRoot_29 : decode cX11_ofRoot 29 = .ok (.iaload, 1) := by decide +kernel
theorem dX11_ofRoot_30 : decode cX11_ofRoot 30 = .ok (.goto 29, 3) := by decide +kernel
theorem dX11_ofRoot_33 : decode cX11_ofRoot 33 = .ok (.iload_n 2, 1) := by decide +kernel
theorem dX11_ofRoot_34 : decode cX11_ofRoot 34 = .ok (.aload_n 0, 1) := by decide +kernel
theorem dX11_ofRoot_35 : decode cX11_ofRoot 35 = .ok (.getfield 58, 3) := by decide +kernel
theorem dX11_ofRoot_38 : decode cX11_ofRoot 38 = .ok (.iload_n 1, 1) := by decide +kernel
theorem dX11_ofRoot_39 : decode cX11_ofRoot 39 = .ok (.iaload, 1) := by decide +kernel
theorem dX11_ofRoot_40 : decode cX11_ofRoot 40 = .ok (.if_icmp .ge 17, 3) := by decide +kernel
theorem dX11_ofRoot_43 : decode cX11_ofRoot 43 = .ok (.aload_n 0, 1) := by decide +kernel
theorem dX11_ofRoot_44 : decode cX11_ofRoot 44 = .ok (.getfield 61, 3) := by decide +kernel
theorem dX11_ofRoot_47 : decode cX11_ofRoot 47 = .ok (.bipush 8, 2) := by decide +kernel
theorem dX11_ofRoot_49 : decode cX11_ofRoot 49 = .ok (.iload_n 1, 1) := by decide +kernel
theorem dX11_ofRoot_50 : decode cX11_ofRoot 50 = .ok (.imul, 1) := by decide +kernel
theorem dX11_ofRoot_51 : decode cX11_ofRoot 51 = .ok (.iload_n 2, 1) := by decide +kernel
theorem dX11_ofRoot_52 : decode cX11_ofRoot 52 = .ok (.iadd, 1) := by decide +kernel
theorem dX11_ofRoot_53 : decode cX11_ofRoot 53 = .ok (.iaload, 1) := by decide +kernel
theorem dX11_ofRoot_54 : decode cX11_ofRoot 54 = .ok (.goto 5, 3) := by decide +kernel
theorem dX11_ofRoot_57 : decode cX11_ofRoot 57 = .ok (.bipush (-9), 2) := by decide +kernel
theorem dX11_ofRoot_59 : decode cX11_ofRoot 59 = .ok (.ireturn, 1) := by decide +kernel
theorem dX11_codeAt_0 : decode cX11_codeAt 0 = .ok (.aload_n 0, 1) := by decide +kernel
theorem dX11_codeAt_1 : decode cX11_codeAt 1 = .ok (.getfield 189, 3) := by decide +kernel
theorem dX11_codeAt_4 : decode cX11_codeAt 4 = .ok (.aload_n 0, 1) := by decide +kernel
theorem dX11_codeAt_5 : decode cX11_codeAt 5 = .ok (.getfield 192, 3) := by decide +kernel
theorem dX11_codeAt_8 : decode cX11_codeAt 8 = .ok (.if_icmp .ge 15, 3) := by decide +kernel
theorem dX11_codeAt_11 : decode cX11_codeAt 11 = .ok (.aload_n 0, 1) := by decide +kernel
theorem dX11_codeAt_12 : decode cX11_codeAt 12 = .ok (.getfield 16, 3) := by decide +kernel
theorem dX11_codeAt_15 : decode cX11_codeAt 15 = .ok (.aload_n 0, 1) := by decide +kernel
theorem dX11_codeAt_16 : decode cX11_codeAt 16 = .ok (.getfield 189, 3) := by decide +kernel
theorem dX11_codeAt_19 : decode cX11_codeAt 19 = .ok (.iaload, 1) := by decide +kernel
theorem dX11_codeAt_20 : decode cX11_codeAt 20 = .ok (.goto 5, 3) := by decide +kernel
theorem dX11_codeAt_23 : decode cX11_codeAt 23 = .ok (.bipush (-9), 2) := by decide +kernel
theorem dX11_codeAt_25 : decode cX11_codeAt 25 = .ok (.ireturn, 1) := by decide +kernel
theorem dX11_readsTarget_0 : decode cX11_readsTarget 0 = .ok (.aload_n 0, 1) := by decide +kernel
theorem dX11_readsTarget_1 : decode cX11_readsTarget 1 = .ok (.invokevirtual 195, 3) := by decide +kernel
theorem dX11_readsTarget_4 : decode cX11_readsTarget 4 = .ok (.istore_n 1, 1) := by decide +kernel
theorem dX11_readsTarget_5 : decode cX11_readsTarget 5 = .ok (.iload_n 1, 1) := by decide +kernel
theorem dX11_readsTarget_6 : decode cX11_readsTarget 6 = .ok (.bipush 97, 2) := by decide +kernel
theorem dX11_readsTarget_8 : decode cX11_readsTarget 8 = .ok (.bipush 112, 2) := by decide +kernel
theorem dX11_readsTarget_10 : decode cX11_readsTarget 10 = .ok (.invokestatic 124, 3) := by decide +kernel
theorem dX11_readsTarget_13 : decode cX11_readsTarget 13 = .ok (.ifCond .eq 18, 3) := by decide +kernel
theorem dX11_readsTarget_16 : decode cX11_readsTarget 16 = .ok (.aload_n 0, 1) := by decide +kernel
theorem dX11_readsTarget_17 : decode cX11_readsTarget 17 = .ok (.dup, 1) := by decide +kernel
theorem dX11_readsTarget_18 : decode cX11_readsTarget 18 = .ok (.getfield 189, 3) := by decide +kernel
theorem dX11_readsTarget_21 : decode cX11_readsTarget 21 = .ok (.iconst 1, 1) := by decide +kernel
theorem dX11_readsTarget_22 : decode cX11_readsTarget 22 = .ok (.iadd, 1) := by decide +kernel
theorem dX11_readsTarget_23 : decode cX11_readsTarget 23 = .ok (.putfield 189, 3) := by decide +kernel
theorem dX11_readsTarget_26 : decode cX11_readsTarget 26 = .ok (.iload_n 1, 1) := by decide +kernel
theorem dX11_readsTarget_27 : decode cX11_readsTarget 27 = .ok (.bipush 97, 2) := by decide +kernel
theorem dX11_readsTarget_29 : decode cX11_readsTarget 29 = .ok (.isub, 1) := by decide +kernel
theorem dX11_readsTarget_30 : decode cX11_readsTarget 30 = .ok (.ireturn, 1) := by decide +kernel
theorem dX11_readsTarget_31 : decode cX11_readsTarget 31 = .ok (.iload_n 1, 1) := by decide +kernel
theorem dX11_readsTarget_32 : decode cX11_readsTarget 32 = .ok (.bipush 43, 2) := by decide +kernel
theorem dX11_readsTarget_34 : decode cX11_readsTarget 34 = .ok (.if_icmp .eq 12, 3) := by decide +kernel
theorem dX11_readsTarget_37 : decode cX11_readsTarget 37 = .ok (.iload_n 1, 1) := by decide +kernel
theorem dX11_readsTarget_38 : decode cX11_readsTarget 38 = .ok (.bipush 45, 2) := by decide +kernel
theorem dX11_readsTarget_40 : decode cX11_readsTarget 40 = .ok (.if_icmp .eq 6, 3) := by decide +kernel
theorem dX11_readsTarget_43 : decode cX11_readsTarget 43 = .ok (.bipush (-9), 2) := by decide +kernel
theorem dX11_readsTarget_45 : decode cX11_readsTarget 45 = .ok (.ireturn, 1) := by decide +kernel
theorem dX11_readsTarget_46 : decode cX11_readsTarget 46 = .ok (.aload_n 0, 1) := by decide +kernel
theorem dX11_readsTarget_47 : decode cX11_readsTarget 47 = .ok (.dup, 1) := by decide +kernel
theorem dX11_readsTarget_48 : decode cX11_readsTarget 48 = .ok (.getfield 189, 3) := by decide +kernel
theorem dX11_readsTarget_51 : decode cX11_readsTarget 51 = .ok (.iconst 1, 1) := by decide +kernel
theorem dX11_readsTarget_52 : decode cX11_readsTarget 52 = .ok (.iadd, 1) := by decide +kernel
theorem dX11_readsTarget_53 : decode cX11_readsTarget 53 = .ok (.putfield 189, 3) := by decide +kernel
theorem dX11_readsTarget_56 : decode cX11_readsTarget 56 = .ok (.aload_n 0, 1) := by decide +kernel
theorem dX11_readsTarget_57 : decode cX11_readsTarget 57 = .ok (.invokevirtual 195, 3) := by decide +kernel
theorem dX11_readsTarget_60 : decode cX11_readsTarget 60 = .ok (.istore_n 2, 1) := by decide +kernel
theorem dX11_readsTarget_61 : decode cX11_readsTarget 61 = .ok (.iload_n 2, 1) := by decide +kernel
theorem dX11_readsTarget_62 : decode cX11_readsTarget 62 = .ok (.bipush 48, 2) := by decide +kernel
theorem dX11_readsTarget_64 : decode cX11_readsTarget 64 = .ok (.bipush 53, 2) := by decide +kernel
theorem dX11_readsTarget_66 : decode cX11_readsTarget 66 = .ok (.invokestatic 124, 3) := by decide +kernel
theorem dX11_readsTarget_69 : decode cX11_readsTarget 69 = .ok (.ifCond .ne 6, 3) := by decide +kernel
theorem dX11_readsTarget_72 : decode cX11_readsTarget 72 = .ok (.bipush (-9), 2) := by decide +kernel
theorem dX11_readsTarget_74 : decode cX11_readsTarget 74 = .ok (.ireturn, 1) := by decide +kernel
theorem dX11_readsTarget_75 : decode cX11_readsTarget 75 = .ok (.aload_n 0, 1) := by decide +kernel
theorem dX11_readsTarget_76 : decode cX11_readsTarget 76 = .ok (.dup, 1) := by decide +kernel
theorem dX11_readsTarget_77 : decode cX11_readsTarget 77 = .ok (.getfield 189, 3) := by decide +kernel
theorem dX11_readsTarget_80 : decode cX11_readsTarget 80 = .ok (.iconst 1, 1) := by decide +kernel
theorem dX11_readsTarget_81 : decode cX11_readsTarget 81 = .ok (.iadd, 1) := by decide +kernel
theorem dX11_readsTarget_82 : decode cX11_readsTarget 82 = .ok (.putfield 189, 3) := by decide +kernel
theorem dX11_readsTarget_85 : decode cX11_readsTarget 85 = .ok (.iload_n 1, 1) := by decide +kernel
theorem dX11_readsTarget_86 : decode cX11_readsTarget 86 = .ok (.bipush 43, 2) := by decide +kernel
theorem dX11_readsTarget_88 : decode cX11_readsTarget 88 = .ok (.if_icmp .ne 8, 3) := by decide +kernel
theorem dX11_readsTarget_91 : decode cX11_readsTarget 91 = .ok (.bipush 16, 2) := by decide +kernel
theorem dX11_readsTarget_93 : decode cX11_readsTarget 93 = .ok (.goto 5, 3) := by decide +kernel
theorem dX11_readsTarget_96 : decode cX11_readsTarget 96 = .ok (.bipush 24, 2) := by decide +kernel
theorem dX11_readsTarget_98 : decode cX11_readsTarget 98 = .ok (.iload_n 2, 1) := by decide +kernel
theorem dX11_readsTarget_99 : decode cX11_readsTarget 99 = .ok (.iadd, 1) := by decide +kernel
theorem dX11_readsTarget_100 : decode cX11_readsTarget 100 = .ok (.bipush 48, 2) := by decide +kernel
theorem dX11_readsTarget_102 : decode cX11_readsTarget 102 = .ok (.isub, 1) := by decide +kernel
theorem dX11_readsTarget_103 : decode cX11_readsTarget 103 = .ok (.ireturn, 1) := by decide +kernel
theorem dX11_readsSide_0 : decode cX11_readsSide 0 = .ok (.aload_n 0, 1) := by decide +kernel
theorem dX11_readsSide_1 : decode cX11_readsSide 1 = .ok (.invokevirtual 195, 3) := by decide +kernel
theorem dX11_readsSide_4 : decode cX11_readsSide 4 = .ok (.iload_n 1, 1) := by decide +kernel
theorem dX11_readsSide_5 : decode cX11_readsSide 5 = .ok (.if_icmp .ne 6, 3) := by decide +kernel
theorem dX11_readsSide_8 : decode cX11_readsSide 8 = .ok (.bipush 40, 2) := by decide +kernel
theorem dX11_readsSide_10 : decode cX11_readsSide 10 = .ok (.ireturn, 1) := by decide +kernel
theorem dX11_readsSide_11 : decode cX11_readsSide 11 = .ok (.aload_n 0, 1) := by decide +kernel
theorem dX11_readsSide_12 : decode cX11_readsSide 12 = .ok (.invokevirtual 195, 3) := by decide +kernel
theorem dX11_readsSide_15 : decode cX11_readsSide 15 = .ok (.bipush 35, 2) := by decide +kernel
theorem dX11_readsSide_17 : decode cX11_readsSide 17 = .ok (.if_icmp .ne 16, 3) := by decide +kernel
theorem dX11_readsSide_20 : decode cX11_readsSide 20 = .ok (.aload_n 0, 1) := by decide +kernel
theorem dX11_readsSide_21 : decode cX11_readsSide 21 = .ok (.dup, 1) := by decide +kernel
theorem dX11_readsSide_22 : decode cX11_readsSide 22 = .ok (.getfield 189, 3) := by decide +kernel
theorem dX11_readsSide_25 : decode cX11_readsSide 25 = .ok (.iconst 1, 1) := by decide +kernel
theorem dX11_readsSide_26 : decode cX11_readsSide 26 = .ok (.iadd, 1) := by decide +kernel
theorem dX11_readsSide_27 : decode cX11_readsSide 27 = .ok (.putfield 189, 3) := by decide +kernel
theorem dX11_readsSide_30 : decode cX11_readsSide 30 = .ok (.bipush 41, 2) := by decide +kernel
theorem dX11_readsSide_32 : decode cX11_readsSide 32 = .ok (.ireturn, 1) := by decide +kernel
theorem dX11_readsSide_33 : decode cX11_readsSide 33 = .ok (.aload_n 0, 1) := by decide +kernel
theorem dX11_readsSide_34 : decode cX11_readsSide 34 = .ok (.invokevirtual 199, 3) := by decide +kernel
theorem dX11_readsSide_37 : decode cX11_readsSide 37 = .ok (.ireturn, 1) := by decide +kernel
theorem dX11_readsLaw_0 : decode cX11_readsLaw 0 = .ok (.aload_n 1, 1) := by decide +kernel
theorem dX11_readsLaw_1 : decode cX11_readsLaw 1 = .ok (.iconst 0, 1) := by decide +kernel
theorem dX11_readsLaw_2 : decode cX11_readsLaw 2 = .ok (.aload_n 0, 1) := by decide +kernel
theorem dX11_readsLaw_3 : decode cX11_readsLaw 3 = .ok (.invokevirtual 199, 3) := by decide +kernel
theorem dX11_readsLaw_6 : decode cX11_readsLaw 6 = .ok (.iastore, 1) := by decide +kernel
theorem dX11_readsLaw_7 : decode cX11_readsLaw 7 = .ok (.aload_n 1, 1) := by decide +kernel
theorem dX11_readsLaw_8 : decode cX11_readsLaw 8 = .ok (.iconst 0, 1) := by decide +kernel
theorem dX11_readsLaw_9 : decode cX11_readsLaw 9 = .ok (.iaload, 1) := by decide +kernel
theorem dX11_readsLaw_10 : decode cX11_readsLaw 10 = .ok (.bipush (-9), 2) := by decide +kernel
theorem dX11_readsLaw_12 : decode cX11_readsLaw 12 = .ok (.if_icmp .eq 12, 3) := by decide +kernel
theorem dX11_readsLaw_15 : decode cX11_readsLaw 15 = .ok (.aload_n 0, 1) := by decide +kernel
theorem dX11_readsLaw_16 : decode cX11_readsLaw 16 = .ok (.invokevirtual 195, 3) := by decide +kernel
theorem dX11_readsLaw_19 : decode cX11_readsLaw 19 = .ok (.bipush 62, 2) := by decide +kernel
theorem dX11_readsLaw_21 : decode cX11_readsLaw 21 = .ok (.if_icmp .eq 5, 3) := by decide +kernel
theorem dX11_readsLaw_24 : decode cX11_readsLaw 24 = .ok (.iconst 0, 1) := by decide +kernel
theorem dX11_readsLaw_25 : decode cX11_readsLaw 25 = .ok (.ireturn, 1) := by decide +kernel
theorem dX11_readsLaw_26 : decode cX11_readsLaw 26 = .ok (.aload_n 0, 1) := by decide +kernel
theorem dX11_readsLaw_27 : decode cX11_readsLaw 27 = .ok (.dup, 1) := by decide +kernel
theorem dX11_readsLaw_28 : decode cX11_readsLaw 28 = .ok (.getfield 189, 3) := by decide +kernel
theorem dX11_readsLaw_31 : decode cX11_readsLaw 31 = .ok (.iconst 1, 1) := by decide +kernel
theorem dX11_readsLaw_32 : decode cX11_readsLaw 32 = .ok (.iadd, 1) := by decide +kernel
theorem dX11_readsLaw_33 : decode cX11_readsLaw 33 = .ok (.putfield 189, 3) := by decide +kernel
theorem dX11_readsLaw_36 : decode cX11_readsLaw 36 = .ok (.aload_n 0, 1) := by decide +kernel
theorem dX11_readsLaw_37 : decode cX11_readsLaw 37 = .ok (.invokevirtual 195, 3) := by decide +kernel
theorem dX11_readsLaw_40 : decode cX11_readsLaw 40 = .ok (.istore_n 2, 1) := by decide +kernel
theorem dX11_readsLaw_41 : decode cX11_readsLaw 41 = .ok (.iload_n 2, 1) := by decide +kernel
theorem dX11_readsLaw_42 : decode cX11_readsLaw 42 = .ok (.bipush 48, 2) := by decide +kernel
theorem dX11_readsLaw_44 : decode cX11_readsLaw 44 = .ok (.if_icmp .eq 16, 3) := by decide +kernel
theorem dX11_readsLaw_47 : decode cX11_readsLaw 47 = .ok (.iload_n 2, 1) := by decide +kernel
theorem dX11_readsLaw_48 : decode cX11_readsLaw 48 = .ok (.bipush 97, 2) := by decide +kernel
theorem dX11_readsLaw_50 : decode cX11_readsLaw 50 = .ok (.bipush 112, 2) := by decide +kernel
theorem dX11_readsLaw_52 : decode cX11_readsLaw 52 = .ok (.invokestatic 124, 3) := by decide +kernel
theorem dX11_readsLaw_55 : decode cX11_readsLaw 55 = .ok (.ifCond .ne 5, 3) := by decide +kernel
theorem dX11_readsLaw_58 : decode cX11_readsLaw 58 = .ok (.iconst 0, 1) := by decide +kernel
theorem dX11_readsLaw_59 : decode cX11_readsLaw 59 = .ok (.ireturn, 1) := by decide +kernel
theorem dX11_readsLaw_60 : decode cX11_readsLaw 60 = .ok (.aload_n 1, 1) := by decide +kernel
theorem dX11_readsLaw_61 : decode cX11_readsLaw 61 = .ok (.iconst 1, 1) := by decide +kernel
theorem dX11_readsLaw_62 : decode cX11_readsLaw 62 = .ok (.iload_n 2, 1) := by decide +kernel
theorem dX11_readsLaw_63 : decode cX11_readsLaw 63 = .ok (.bipush 48, 2) := by decide +kernel
theorem dX11_readsLaw_65 : decode cX11_readsLaw 65 = .ok (.if_icmp .ne 8, 3) := by decide +kernel
theorem dX11_readsLaw_68 : decode cX11_readsLaw 68 = .ok (.bipush 42, 2) := by decide +kernel
theorem dX11_readsLaw_70 : decode cX11_readsLaw 70 = .ok (.goto 7, 3) := by decide +kernel
theorem dX11_readsLaw_73 : decode cX11_readsLaw 73 = .ok (.iload_n 2, 1) := by decide +kernel
theorem dX11_readsLaw_74 : decode cX11_readsLaw 74 = .ok (.bipush 97, 2) := by decide +kernel
theorem dX11_readsLaw_76 : decode cX11_readsLaw 76 = .ok (.isub, 1) := by decide +kernel
theorem dX11_readsLaw_77 : decode cX11_readsLaw 77 = .ok (.iastore, 1) := by decide +kernel
theorem dX11_readsLaw_78 : decode cX11_readsLaw 78 = .ok (.aload_n 1, 1) := by decide +kernel
theorem dX11_readsLaw_79 : decode cX11_readsLaw 79 = .ok (.iconst 2, 1) := by decide +kernel
theorem dX11_readsLaw_80 : decode cX11_readsLaw 80 = .ok (.bipush 40, 2) := by decide +kernel
theorem dX11_readsLaw_82 : decode cX11_readsLaw 82 = .ok (.iastore, 1) := by decide +kernel
theorem dX11_readsLaw_83 : decode cX11_readsLaw 83 = .ok (.aload_n 1, 1) := by decide +kernel
theorem dX11_readsLaw_84 : decode cX11_readsLaw 84 = .ok (.iconst 3, 1) := by decide +kernel
theorem dX11_readsLaw_85 : decode cX11_readsLaw 85 = .ok (.bipush 40, 2) := by decide +kernel
theorem dX11_readsLaw_87 : decode cX11_readsLaw 87 = .ok (.iastore, 1) := by decide +kernel
theorem dX11_readsLaw_88 : decode cX11_readsLaw 88 = .ok (.aload_n 0, 1) := by decide +kernel
theorem dX11_readsLaw_89 : decode cX11_readsLaw 89 = .ok (.dup, 1) := by decide +kernel
theorem dX11_readsLaw_90 : decode cX11_readsLaw 90 = .ok (.getfield 189, 3) := by decide +kernel
theorem dX11_readsLaw_93 : decode cX11_readsLaw 93 = .ok (.iconst 1, 1) := by decide +kernel
theorem dX11_readsLaw_94 : decode cX11_readsLaw 94 = .ok (.iadd, 1) := by decide +kernel
theorem dX11_readsLaw_95 : decode cX11_readsLaw 95 = .ok (.putfield 189, 3) := by decide +kernel
theorem dX11_readsLaw_98 : decode cX11_readsLaw 98 = .ok (.aload_n 0, 1) := by decide +kernel
theorem dX11_readsLaw_99 : decode cX11_readsLaw 99 = .ok (.getfield 189, 3) := by decide +kernel
theorem dX11_readsLaw_102 : decode cX11_readsLaw 102 = .ok (.aload_n 0, 1) := by decide +kernel
theorem dX11_readsLaw_103 : decode cX11_readsLaw 103 = .ok (.getfield 192, 3) := by decide +kernel
theorem dX11_readsLaw_106 : decode cX11_readsLaw 106 = .ok (.if_icmp .ne 5, 3) := by decide +kernel
theorem dX11_readsLaw_109 : decode cX11_readsLaw 109 = .ok (.iconst 1, 1) := by decide +kernel
theorem dX11_readsLaw_110 : decode cX11_readsLaw 110 = .ok (.ireturn, 1) := by decide +kernel
theorem dX11_readsLaw_111 : decode cX11_readsLaw 111 = .ok (.aload_n 0, 1) := by decide +kernel
theorem dX11_readsLaw_112 : decode cX11_readsLaw 112 = .ok (.invokevirtual 195, 3) := by decide +kernel
theorem dX11_readsLaw_115 : decode cX11_readsLaw 115 = .ok (.bipush 47, 2) := by decide +kernel
theorem dX11_readsLaw_117 : decode cX11_readsLaw 117 = .ok (.if_icmp .eq 5, 3) := by decide +kernel
theorem dX11_readsLaw_120 : decode cX11_readsLaw 120 = .ok (.iconst 0, 1) := by decide +kernel
theorem dX11_readsLaw_121 : decode cX11_readsLaw 121 = .ok (.ireturn, 1) := by decide +kernel
theorem dX11_readsLaw_122 : decode cX11_readsLaw 122 = .ok (.aload_n 0, 1) := by decide +kernel
theorem dX11_readsLaw_123 : decode cX11_readsLaw 123 = .ok (.dup, 1) := by decide +kernel
theorem dX11_readsLaw_124 : decode cX11_readsLaw 124 = .ok (.getfield 189, 3) := by decide +kernel
theorem dX11_readsLaw_127 : decode cX11_readsLaw 127 = .ok (.iconst 1, 1) := by decide +kernel
theorem dX11_readsLaw_128 : decode cX11_readsLaw 128 = .ok (.iadd, 1) := by decide +kernel
theorem dX11_readsLaw_129 : decode cX11_readsLaw 129 = .ok (.putfield 189, 3) := by decide +kernel
theorem dX11_readsLaw_132 : decode cX11_readsLaw 132 = .ok (.aload_n 1, 1) := by decide +kernel
theorem dX11_readsLaw_133 : decode cX11_readsLaw 133 = .ok (.iconst 2, 1) := by decide +kernel
theorem dX11_readsLaw_134 : decode cX11_readsLaw 134 = .ok (.aload_n 0, 1) := by decide +kernel
theorem dX11_readsLaw_135 : decode cX11_readsLaw 135 = .ok (.bipush 95, 2) := by decide +kernel
theorem dX11_readsLaw_137 : decode cX11_readsLaw 137 = .ok (.invokevirtual 202, 3) := by decide +kernel
theorem dX11_readsLaw_140 : decode cX11_readsLaw 140 = .ok (.iastore, 1) := by decide +kernel
theorem dX11_readsLaw_141 : decode cX11_readsLaw 141 = .ok (.aload_n 1, 1) := by decide +kernel
theorem dX11_readsLaw_142 : decode cX11_readsLaw 142 = .ok (.iconst 2, 1) := by decide +kernel
theorem dX11_readsLaw_143 : decode cX11_readsLaw 143 = .ok (.iaload, 1) := by decide +kernel
theorem dX11_readsLaw_144 : decode cX11_readsLaw 144 = .ok (.bipush (-9), 2) := by decide +kernel
theorem dX11_readsLaw_146 : decode cX11_readsLaw 146 = .ok (.if_icmp .eq 12, 3) := by decide +kernel
theorem dX11_readsLaw_149 : decode cX11_readsLaw 149 = .ok (.aload_n 0, 1) := by decide +kernel
theorem dX11_readsLaw_150 : decode cX11_readsLaw 150 = .ok (.invokevirtual 195, 3) := by decide +kernel
theorem dX11_readsLaw_153 : decode cX11_readsLaw 153 = .ok (.bipush 95, 2) := by decide +kernel
theorem dX11_readsLaw_155 : decode cX11_readsLaw 155 = .ok (.if_icmp .eq 5, 3) := by decide +kernel
theorem dX11_readsLaw_158 : decode cX11_readsLaw 158 = .ok (.iconst 0, 1) := by decide +kernel
theorem dX11_readsLaw_159 : decode cX11_readsLaw 159 = .ok (.ireturn, 1) := by decide +kernel
theorem dX11_readsLaw_160 : decode cX11_readsLaw 160 = .ok (.aload_n 0, 1) := by decide +kernel
theorem dX11_readsLaw_161 : decode cX11_readsLaw 161 = .ok (.dup, 1) := by decide +kernel
theorem dX11_readsLaw_162 : decode cX11_readsLaw 162 = .ok (.getfield 189, 3) := by decide +kernel
theorem dX11_readsLaw_165 : decode cX11_readsLaw 165 = .ok (.iconst 1, 1) := by decide +kernel
theorem dX11_readsLaw_166 : decode cX11_readsLaw 166 = .ok (.iadd, 1) := by decide +kernel
theorem dX11_readsLaw_167 : decode cX11_readsLaw 167 = .ok (.putfield 189, 3) := by decide +kernel
theorem dX11_readsLaw_170 : decode cX11_readsLaw 170 = .ok (.aload_n 1, 1) := by decide +kernel
theorem dX11_readsLaw_171 : decode cX11_readsLaw 171 = .ok (.iconst 3, 1) := by decide +kernel
theorem dX11_readsLaw_172 : decode cX11_readsLaw 172 = .ok (.aload_n 0, 1) := by decide +kernel
theorem dX11_readsLaw_173 : decode cX11_readsLaw 173 = .ok (.bipush (-9), 2) := by decide +kernel
theorem dX11_readsLaw_175 : decode cX11_readsLaw 175 = .ok (.invokevirtual 202, 3) := by decide +kernel
theorem dX11_readsLaw_178 : decode cX11_readsLaw 178 = .ok (.iastore, 1) := by decide +kernel
theorem dX11_readsLaw_179 : decode cX11_readsLaw 179 = .ok (.aload_n 1, 1) := by decide +kernel
theorem dX11_readsLaw_180 : decode cX11_readsLaw 180 = .ok (.iconst 3, 1) := by decide +kernel
theorem dX11_readsLaw_181 : decode cX11_readsLaw 181 = .ok (.iaload, 1) := by decide +kernel
theorem dX11_readsLaw_182 : decode cX11_readsLaw 182 = .ok (.bipush (-9), 2) := by decide +kernel
theorem dX11_readsLaw_184 : decode cX11_readsLaw 184 = .ok (.if_icmp .eq 18, 3) := by decide +kernel
theorem dX11_readsLaw_187 : decode cX11_readsLaw 187 = .ok (.aload_n 0, 1) := by decide +kernel
theorem dX11_readsLaw_188 : decode cX11_readsLaw 188 = .ok (.getfield 189, 3) := by decide +kernel
theorem dX11_readsLaw_191 : decode cX11_readsLaw 191 = .ok (.aload_n 0, 1) := by decide +kernel
theorem dX11_readsLaw_192 : decode cX11_readsLaw 192 = .ok (.getfield 192, 3) := by decide +kernel
theorem dX11_readsLaw_195 : decode cX11_readsLaw 195 = .ok (.if_icmp .ne 7, 3) := by decide +kernel
theorem dX11_readsLaw_198 : decode cX11_readsLaw 198 = .ok (.iconst 1, 1) := by decide +kernel
theorem dX11_readsLaw_199 : decode cX11_readsLaw 199 = .ok (.goto 4, 3) := by decide +kernel
theorem dX11_readsLaw_202 : decode cX11_readsLaw 202 = .ok (.iconst 0, 1) := by decide +kernel
theorem dX11_readsLaw_203 : decode cX11_readsLaw 203 = .ok (.ireturn, 1) := by decide +kernel
theorem dX11_law_0 : decode cX11_law 0 = .ok (.aload_n 0, 1) := by decide +kernel
theorem dX11_law_1 : decode cX11_law 1 = .ok (.iconst 0, 1) := by decide +kernel
theorem dX11_law_2 : decode cX11_law 2 = .ok (.putfield 119, 3) := by decide +kernel
theorem dX11_law_5 : decode cX11_law 5 = .ok (.iload_n 2, 1) := by decide +kernel
theorem dX11_law_6 : decode cX11_law 6 = .ok (.invokestatic 143, 3) := by decide +kernel
theorem dX11_law_9 : decode cX11_law 9 = .ok (.ifCond .ne 5, 3) := by decide +kernel
theorem dX11_law_12 : decode cX11_law 12 = .ok (.iconst (-1), 1) := by decide +kernel
theorem dX11_law_13 : decode cX11_law 13 = .ok (.ireturn, 1) := by decide +kernel
theorem dX11_law_14 : decode cX11_law 14 = .ok (.iload_n 1, 1) := by decide +kernel
theorem dX11_law_15 : decode cX11_law 15 = .ok (.iconst 0, 1) := by decide +kernel
theorem dX11_law_16 : decode cX11_law 16 = .ok (.iconst 1, 1) := by decide +kernel
theorem dX11_law_17 : decode cX11_law 17 = .ok (.aload_n 0, 1) := by decide +kernel
theorem dX11_law_18 : decode cX11_law 18 = .ok (.getfield 164, 3) := by decide +kernel
theorem dX11_law_21 : decode cX11_law 21 = .ok (.ishl, 1) := by decide +kernel
theorem dX11_law_22 : decode cX11_law 22 = .ok (.iconst 1, 1) := by decide +kernel
theorem dX11_law_23 : decode cX11_law 23 = .ok (.isub, 1) := by decide +kernel
theorem dX11_law_24 : decode cX11_law 24 = .ok (.invokestatic 124, 3) := by decide +kernel
theorem dX11_law_27 : decode cX11_law 27 = .ok (.ifCond .eq 10, 3) := by decide +kernel
theorem dX11_law_30 : decode cX11_law 30 = .ok (.iload_n 3, 1) := by decide +kernel
theorem dX11_law_31 : decode cX11_law 31 = .ok (.invokestatic 146, 3) := by decide +kernel
theorem dX11_law_34 : decode cX11_law 34 = .ok (.ifCond .ne 6, 3) := by decide +kernel
theorem dX11_law_37 : decode cX11_law 37 = .ok (.bipush (-2), 2) := by decide +kernel
theorem dX11_law_39 : decode cX11_law 39 = .ok (.ireturn, 1) := by decide +kernel
theorem dX11_law_40 : decode cX11_law 40 = .ok (.aload_n 0, 1) := by decide +kernel
theorem dX11_law_41 : decode cX11_law 41 = .ok (.iload_n 2, 1) := by decide +kernel
theorem dX11_law_42 : decode cX11_law 42 = .ok (.iload_n 3, 1) := by decide +kernel
theorem dX11_law_43 : decode cX11_law 43 = .ok (.iload 4, 2) := by decide +kernel
theorem dX11_law_45 : decode cX11_law 45 = .ok (.iload 5, 2) := by decide +kernel
theorem dX11_law_47 : decode cX11_law 47 = .ok (.invokevirtual 149, 3) := by decide +kernel
theorem dX11_law_50 : decode cX11_law 50 = .ok (.istore 6, 2) := by decide +kernel
theorem dX11_law_52 : decode cX11_law 52 = .ok (.iload 6, 2) := by decide +kernel
theorem dX11_law_54 : decode cX11_law 54 = .ok (.ifCond .eq 10, 3) := by decide +kernel
theorem dX11_law_57 : decode cX11_law 57 = .ok (.aload_n 0, 1) := by decide +kernel
theorem dX11_law_58 : decode cX11_law 58 = .ok (.iload 6, 2) := by decide +kernel
theorem dX11_law_60 : decode cX11_law 60 = .ok (.invokevirtual 153, 3) := by decide +kernel
theorem dX11_law_63 : decode cX11_law 63 = .ok (.ireturn, 1) := by decide +kernel
theorem dX11_law_64 : decode cX11_law 64 = .ok (.bipush 60, 2) := by decide +kernel
theorem dX11_law_66 : decode cX11_law 66 = .ok (.iload_n 2, 1) := by decide +kernel
theorem dX11_law_67 : decode cX11_law 67 = .ok (.imul, 1) := by decide +kernel
theorem dX11_law_68 : decode cX11_law 68 = .ok (.iload 4, 2) := by decide +kernel
theorem dX11_law_70 : decode cX11_law 70 = .ok (.iadd, 1) := by decide +kernel
theorem dX11_law_71 : decode cX11_law 71 = .ok (.istore 7, 2) := by decide +kernel
theorem dX11_law_73 : decode cX11_law 73 = .ok (.aload_n 0, 1) := by decide +kernel
theorem dX11_law_74 : decode cX11_law 74 = .ok (.iload 7, 2) := by decide +kernel
theorem dX11_law_76 : decode cX11_law 76 = .ok (.putfield 189, 3) := by decide +kernel
theorem dX11_law_79 : decode cX11_law 79 = .ok (.aload_n 0, 1) := by decide +kernel
theorem dX11_law_80 : decode cX11_law 80 = .ok (.iload 7, 2) := by decide +kernel
theorem dX11_law_82 : decode cX11_law 82 = .ok (.iload 5, 2) := by decide +kernel
theorem dX11_law_84 : decode cX11_law 84 = .ok (.iadd, 1) := by decide +kernel
theorem dX11_law_85 : decode cX11_law 85 = .ok (.putfield 192, 3) := by decide +kernel
theorem dX11_law_88 : decode cX11_law 88 = .ok (.aload_n 0, 1) := by decide +kernel
theorem dX11_law_89 : decode cX11_law 89 = .ok (.aload_n 0, 1) := by decide +kernel
theorem dX11_law_90 : decode cX11_law 90 = .ok (.getfield 79, 3) := by decide +kernel
theorem dX11_law_93 : decode cX11_law 93 = .ok (.invokevirtual 205, 3) := by decide +kernel
theorem dX11_law_96 : decode cX11_law 96 = .ok (.ifCond .ne 14, 3) := by decide +kernel
theorem dX11_law_99 : decode cX11_law 99 = .ok (.bipush (-100), 2) := by decide +kernel
theorem dX11_law_101 : decode cX11_law 101 = .ok (.aload_n 0, 1) := by decide +kernel
theorem dX11_law_102 : decode cX11_law 102 = .ok (.getfield 189, 3) := by decide +kernel
theorem dX11_law_105 : decode cX11_law 105 = .ok (.iload 7, 2) := by decide +kernel
theorem dX11_law_107 : decode cX11_law 107 = .ok (.isub, 1) := by decide +kernel
theorem dX11_law_108 : decode cX11_law 108 = .ok (.isub, 1) := by decide +kernel
theorem dX11_law_109 : decode cX11_law 109 = .ok (.ireturn, 1) := by decide +kernel
theorem dX11_law_110 : decode cX11_law 110 = .ok (.aload_n 0, 1) := by decide +kernel
theorem dX11_law_111 : decode cX11_law 111 = .ok (.getfield 209, 3) := by decide +kernel
theorem dX11_law_114 : decode cX11_law 114 = .ok (.bipush 8, 2) := by decide +kernel
theorem dX11_law_116 : decode cX11_law 116 = .ok (.if_icmp .ne 6, 3) := by decide +kernel
theorem dX11_law_119 : decode cX11_law 119 = .ok (.bipush (-4), 2) := by decide +kernel
theorem dX11_law_121 : decode cX11_law 121 = .ok (.ireturn, 1) := by decide +kernel
theorem dX11_law_122 : decode cX11_law 122 = .ok (.aload_n 0, 1) := by decide +kernel
theorem dX11_law_123 : decode cX11_law 123 = .ok (.getfield 64, 3) := by decide +kernel
theorem dX11_law_126 : decode cX11_law 126 = .ok (.aload_n 0, 1) := by decide +kernel
theorem dX11_law_127 : decode cX11_law 127 = .ok (.getfield 209, 3) := by decide +kernel
theorem dX11_law_130 : decode cX11_law 130 = .ok (.iload_n 1, 1) := by decide +kernel
theorem dX11_law_131 : decode cX11_law 131 = .ok (.iastore, 1) := by decide +kernel
theorem dX11_law_132 : decode cX11_law 132 = .ok (.aload_n 0, 1) := by decide +kernel
theorem dX11_law_133 : decode cX11_law 133 = .ok (.getfield 67, 3) := by decide +kernel
theorem dX11_law_136 : decode cX11_law 136 = .ok (.aload_n 0, 1) := by decide +kernel
theorem dX11_law_137 : decode cX11_law 137 = .ok (.getfield 209, 3) := by decide +kernel
theorem dX11_law_140 : decode cX11_law 140 = .ok (.aload_n 0, 1) := by decide +kernel
theorem dX11_law_141 : decode cX11_law 141 = .ok (.getfield 79, 3) := by decide +kernel
theorem dX11_law_144 : decode cX11_law 144 = .ok (.iconst 0, 1) := by decide +kernel
theorem dX11_law_145 : decode cX11_law 145 = .ok (.iaload, 1) := by decide +kernel
theorem dX11_law_146 : decode cX11_law 146 = .ok (.iastore, 1) := by decide +kernel
theorem dX11_law_147 : decode cX11_law 147 = .ok (.aload_n 0, 1) := by decide +kernel
theorem dX11_law_148 : decode cX11_law 148 = .ok (.getfield 70, 3) := by decide +kernel
theorem dX11_law_151 : decode cX11_law 151 = .ok (.aload_n 0, 1) := by decide +kernel
theorem dX11_law_152 : decode cX11_law 152 = .ok (.getfield 209, 3) := by decide +kernel
theorem dX11_law_155 : decode cX11_law 155 = .ok (.aload_n 0, 1) := by decide +kernel
theorem dX11_law_156 : decode cX11_law 156 = .ok (.getfield 79, 3) := by decide +kernel
theorem dX11_law_159 : decode cX11_law 159 = .ok (.iconst 1, 1) := by decide +kernel
theorem dX11_law_160 : decode cX11_law 160 = .ok (.iaload, 1) := by decide +kernel
theorem dX11_law_161 : decode cX11_law 161 = .ok (.iastore, 1) := by decide +kernel
theorem dX11_law_162 : decode cX11_law 162 = .ok (.aload_n 0, 1) := by decide +kernel
theorem dX11_law_163 : decode cX11_law 163 = .ok (.getfield 73, 3) := by decide +kernel
theorem dX11_law_166 : decode cX11_law 166 = .ok (.aload_n 0, 1) := by decide +kernel
theorem dX11_law_167 : decode cX11_law 167 = .ok (.getfield 209, 3) := by decide +kernel
theorem dX11_law_170 : decode cX11_law 170 = .ok (.aload_n 0, 1) := by decide +kernel
theorem dX11_law_171 : decode cX11_law 171 = .ok (.getfield 79, 3) := by decide +kernel
theorem dX11_law_174 : decode cX11_law 174 = .ok (.iconst 2, 1) := by decide +kernel
theorem dX11_law_175 : decode cX11_law 175 = .ok (.iaload, 1) := by decide +kernel
theorem dX11_law_176 : decode cX11_law 176 = .ok (.iastore, 1) := by decide +kernel
theorem dX11_law_177 : decode cX11_law 177 = .ok (.aload_n 0, 1) := by decide +kernel
theorem dX11_law_178 : decode cX11_law 178 = .ok (.getfield 76, 3) := by decide +kernel
theorem dX11_law_181 : decode cX11_law 181 = .ok (.aload_n 0, 1) := by decide +kernel
theorem dX11_law_182 : decode cX11_law 182 = .ok (.getfield 209, 3) := by decide +kernel
theorem dX11_law_185 : decode cX11_law 185 = .ok (.aload_n 0, 1) := by decide +kernel
theorem dX11_law_186 : decode cX11_law 186 = .ok (.getfield 79, 3) := by decide +kernel
theorem dX11_law_189 : decode cX11_law 189 = .ok (.iconst 3, 1) := by decide +kernel
theorem dX11_law_190 : decode cX11_law 190 = .ok (.iaload, 1) := by decide +kernel
theorem dX11_law_191 : decode cX11_law 191 = .ok (.iastore, 1) := by decide +kernel
theorem dX11_law_192 : decode cX11_law 192 = .ok (.aload_n 0, 1) := by decide +kernel
theorem dX11_law_193 : decode cX11_law 193 = .ok (.dup, 1) := by decide +kernel
theorem dX11_law_194 : decode cX11_law 194 = .ok (.getfield 209, 3) := by decide +kernel
theorem dX11_law_197 : decode cX11_law 197 = .ok (.iconst 1, 1) := by decide +kernel
theorem dX11_law_198 : decode cX11_law 198 = .ok (.iadd, 1) := by decide +kernel
theorem dX11_law_199 : decode cX11_law 199 = .ok (.putfield 209, 3) := by decide +kernel
theorem dX11_law_202 : decode cX11_law 202 = .ok (.aload_n 0, 1) := by decide +kernel
theorem dX11_law_203 : decode cX11_law 203 = .ok (.getfield 209, 3) := by decide +kernel
theorem dX11_law_206 : decode cX11_law 206 = .ok (.iconst 1, 1) := by decide +kernel
theorem dX11_law_207 : decode cX11_law 207 = .ok (.isub, 1) := by decide +kernel
theorem dX11_law_208 : decode cX11_law 208 = .ok (.ireturn, 1) := by decide +kernel
theorem dX11_isLaw_0 : decode cX11_isLaw 0 = .ok (.iload_n 1, 1) := by decide +kernel
theorem dX11_isLaw_1 : decode cX11_isLaw 1 = .ok (.ifCond .lt 15, 3) := by decide +kernel
theorem dX11_isLaw_4 : decode cX11_isLaw 4 = .ok (.iload_n 1, 1) := by decide +kernel
theorem dX11_isLaw_5 : decode cX11_isLaw 5 = .ok (.aload_n 0, 1) := by decide +kernel
theorem dX11_isLaw_6 : decode cX11_isLaw 6 = .ok (.getfield 209, 3) := by decide +kernel
theorem dX11_isLaw_9 : decode cX11_isLaw 9 = .ok (.if_icmp .ge 7, 3) := by decide +kernel
theorem dX11_isLaw_12 : decode cX11_isLaw 12 = .ok (.iconst 1, 1) := by decide +kernel
theorem dX11_isLaw_13 : decode cX11_isLaw 13 = .ok (.goto 4, 3) := by decide +kernel
theorem dX11_isLaw_16 : decode cX11_isLaw 16 = .ok (.iconst 0, 1) := by decide +kernel
theorem dX11_isLaw_17 : decode cX11_isLaw 17 = .ok (.ireturn, 1) := by decide +kernel
theorem dX11_force_0 : decode cX11_force 0 = .ok (.aload_n 0, 1) := by decide +kernel
theorem dX11_force_1 : decode cX11_force 1 = .ok (.iload_n 1, 1) := by decide +kernel
theorem dX11_force_2 : decode cX11_force 2 = .ok (.invokevirtual 212, 3) := by decide +kernel
theorem dX11_force_5 : decode cX11_force 5 = .ok (.ifCond .ne 5, 3) := by decide +kernel
theorem dX11_force_8 : decode cX11_force 8 = .ok (.iconst (-1), 1) := by decide +kernel
theorem dX11_force_9 : decode cX11_force 9 = .ok (.ireturn, 1) := by decide +kernel
theorem dX11_force_10 : decode cX11_force 10 = .ok (.iload_n 2, 1) := by decide +kernel
theorem dX11_force_11 : decode cX11_force 11 = .ok (.iconst 0, 1) := by decide +kernel
theorem dX11_force_12 : decode cX11_force 12 = .ok (.iconst 1, 1) := by decide +kernel
theorem dX11_force_13 : decode cX11_force 13 = .ok (.aload_n 0, 1) := by decide +kernel
theorem dX11_force_14 : decode cX11_force 14 = .ok (.getfield 164, 3) := by decide +kernel
theorem dX11_force_17 : decode cX11_force 17 = .ok (.ishl, 1) := by decide +kernel
theorem dX11_force_18 : decode cX11_force 18 = .ok (.iconst 1, 1) := by decide +kernel
theorem dX11_force_19 : decode cX11_force 19 = .ok (.isub, 1) := by decide +kernel
theorem dX11_force_20 : decode cX11_force 20 = .ok (.invokestatic 124, 3) := by decide +kernel
theorem dX11_force_23 : decode cX11_force 23 = .ok (.ifCond .ne 6, 3) := by decide +kernel
theorem dX11_force_26 : decode cX11_force 26 = .ok (.bipush (-2), 2) := by decide +kernel
theorem dX11_force_28 : decode cX11_force 28 = .ok (.ireturn, 1) := by decide +kernel
theorem dX11_force_29 : decode cX11_force 29 = .ok (.aload_n 0, 1) := by decide +kernel
theorem dX11_force_30 : decode cX11_force 30 = .ok (.getfield 64, 3) := by decide +kernel
theorem dX11_force_33 : decode cX11_force 33 = .ok (.iload_n 1, 1) := by decide +kernel
theorem dX11_force_34 : decode cX11_force 34 = .ok (.iaload, 1) := by decide +kernel
theorem dX11_force_35 : decode cX11_force 35 = .ok (.istore_n 3, 1) := by decide +kernel
theorem dX11_force_36 : decode cX11_force 36 = .ok (.aload_n 0, 1) := by decide +kernel
theorem dX11_force_37 : decode cX11_force 37 = .ok (.getfield 64, 3) := by decide +kernel
theorem dX11_force_40 : decode cX11_force 40 = .ok (.iload_n 1, 1) := by decide +kernel
theorem dX11_force_41 : decode cX11_force 41 = .ok (.iload_n 2, 1) := by decide +kernel
theorem dX11_force_42 : decode cX11_force 42 = .ok (.iastore, 1) := by decide +kernel
theorem dX11_force_43 : decode cX11_force 43 = .ok (.iload_n 3, 1) := by decide +kernel
theorem dX11_force_44 : decode cX11_force 44 = .ok (.ireturn, 1) := by decide +kernel
theorem dX11_isOf_0 : decode cX11_isOf 0 = .ok (.iload_n 2, 1) := by decide +kernel
theorem dX11_isOf_1 : decode cX11_isOf 1 = .ok (.bipush 16, 2) := by decide +kernel
theorem dX11_isOf_3 : decode cX11_isOf 3 = .ok (.if_icmp .ge 16, 3) := by decide +kernel
theorem dX11_isOf_6 : decode cX11_isOf 6 = .ok (.iload_n 1, 1) := by decide +kernel
theorem dX11_isOf_7 : decode cX11_isOf 7 = .ok (.iload_n 2, 1) := by decide +kernel
theorem dX11_isOf_8 : decode cX11_isOf 8 = .ok (.if_icmp .ne 7, 3) := by decide +kernel
theorem dX11_isOf_11 : decode cX11_isOf 11 = .ok (.iconst 1, 1) := by decide +kernel
theorem dX11_isOf_12 : decode cX11_isOf 12 = .ok (.goto 42, 3) := by decide +kernel
theorem dX11_isOf_15 : decode cX11_isOf 15 = .ok (.iconst 0, 1) := by decide +kernel
theorem dX11_isOf_16 : decode cX11_isOf 16 = .ok (.goto 38, 3) := by decide +kernel
theorem dX11_isOf_19 : decode cX11_isOf 19 = .ok (.iload_n 2, 1) := by decide +kernel
theorem dX11_isOf_20 : decode cX11_isOf 20 = .ok (.bipush 24, 2) := by decide +kernel
theorem dX11_isOf_22 : decode cX11_isOf 22 = .ok (.if_icmp .ge 19, 3) := by decide +kernel
theorem dX11_isOf_25 : decode cX11_isOf 25 = .ok (.aload_n 0, 1) := by decide +kernel
theorem dX11_isOf_26 : decode cX11_isOf 26 = .ok (.getfield 19, 3) := by decide +kernel
theorem dX11_isOf_29 : decode cX11_isOf 29 = .ok (.iload_n 1, 1) := by decide +kernel
theorem dX11_isOf_30 : decode cX11_isOf 30 = .ok (.iaload, 1) := by decide +kernel
theorem dX11_isOf_31 : decode cX11_isOf 31 = .ok (.iload_n 2, 1) := by decide +kernel
theorem dX11_isOf_32 : decode cX11_isOf 32 = .ok (.bipush 16, 2) := by decide +kernel
theorem dX11_isOf_34 : decode cX11_isOf 34 = .ok (.isub, 1) := by decide +kernel
theorem dX11_isOf_35 : decode cX11_isOf 35 = .ok (.invokestatic 132, 3) := by decide +kernel
theorem dX11_isOf_38 : decode cX11_isOf 38 = .ok (.goto 16, 3) := by decide +kernel
theorem dX11_isOf_41 : decode cX11_isOf 41 = .ok (.aload_n 0, 1) := by decide +kernel
theorem dX11_isOf_42 : decode cX11_isOf 42 = .ok (.getfield 22, 3) := by decide +kernel
theorem dX11_isOf_45 : decode cX11_isOf 45 = .ok (.iload_n 1, 1) := by decide +kernel
theorem dX11_isOf_46 : decode cX11_isOf 46 = .ok (.iaload, 1) := by decide +kernel
theorem dX11_isOf_47 : decode cX11_isOf 47 = .ok (.iload_n 2, 1) := by decide +kernel
theorem dX11_isOf_48 : decode cX11_isOf 48 = .ok (.bipush 24, 2) := by decide +kernel
theorem dX11_isOf_50 : decode cX11_isOf 50 = .ok (.isub, 1) := by decide +kernel
theorem dX11_isOf_51 : decode cX11_isOf 51 = .ok (.invokestatic 132, 3) := by decide +kernel
theorem dX11_isOf_54 : decode cX11_isOf 54 = .ok (.ireturn, 1) := by decide +kernel
theorem dX11_holds_0 : decode cX11_holds 0 = .ok (.iload_n 2, 1) := by decide +kernel
theorem dX11_holds_1 : decode cX11_holds 1 = .ok (.bipush 40, 2) := by decide +kernel
theorem dX11_holds_3 : decode cX11_holds 3 = .ok (.if_icmp .ne 5, 3) := by decide +kernel
theorem dX11_holds_6 : decode cX11_holds 6 = .ok (.iconst 1, 1) := by decide +kernel
theorem dX11_holds_7 : decode cX11_holds 7 = .ok (.ireturn, 1) := by decide +kernel
theorem dX11_holds_8 : decode cX11_holds 8 = .ok (.iload_n 2, 1) := by decide +kernel
theorem dX11_holds_9 : decode cX11_holds 9 = .ok (.bipush 41, 2) := by decide +kernel
theorem dX11_holds_11 : decode cX11_holds 11 = .ok (.if_icmp .eq 9, 3) := by decide +kernel
theorem dX11_holds_14 : decode cX11_holds 14 = .ok (.iload_n 1, 1) := by decide +kernel
theorem dX11_holds_15 : decode cX11_holds 15 = .ok (.bipush (-9), 2) := by decide +kernel
theorem dX11_holds_17 : decode cX11_holds 17 = .ok (.if_icmp .ne 21, 3) := by decide +kernel
theorem dX11_holds_20 : decode cX11_holds 20 = .ok (.iload_n 2, 1) := by decide +kernel
theorem dX11_holds_21 : decode cX11_holds 21 = .ok (.bipush 41, 2) := by decide +kernel
theorem dX11_holds_23 : decode cX11_holds 23 = .ok (.if_icmp .ne 13, 3) := by decide +kernel
theorem dX11_holds_26 : decode cX11_holds 26 = .ok (.iload_n 1, 1) := by decide +kernel
theorem dX11_holds_27 : decode cX11_holds 27 = .ok (.bipush (-9), 2) := by decide +kernel
theorem dX11_holds_29 : decode cX11_holds 29 = .ok (.if_icmp .ne 7, 3) := by decide +kernel
theorem dX11_holds_32 : decode cX11_holds 32 = .ok (.iconst 1, 1) := by decide +kernel
theorem dX11_holds_33 : decode cX11_holds 33 = .ok (.goto 4, 3) := by decide +kernel
theorem dX11_holds_36 : decode cX11_holds 36 = .ok (.iconst 0, 1) := by decide +kernel
theorem dX11_holds_37 : decode cX11_holds 37 = .ok (.ireturn, 1) := by decide +kernel
theorem dX11_holds_38 : decode cX11_holds 38 = .ok (.aload_n 0, 1) := by decide +kernel
theorem dX11_holds_39 : decode cX11_holds 39 = .ok (.iload_n 1, 1) := by decide +kernel
theorem dX11_holds_40 : decode cX11_holds 40 = .ok (.iload_n 2, 1) := by decide +kernel
theorem dX11_holds_41 : decode cX11_holds 41 = .ok (.invokevirtual 215, 3) := by decide +kernel
theorem dX11_holds_44 : decode cX11_holds 44 = .ok (.ireturn, 1) := by decide +kernel
theorem dX11_doLaw_0 : decode cX11_doLaw 0 = .ok (.aload_n 0, 1) := by decide +kernel
theorem dX11_doLaw_1 : decode cX11_doLaw 1 = .ok (.getfield 218, 3) := by decide +kernel
theorem dX11_doLaw_4 : decode cX11_doLaw 4 = .ok (.istore_n 2, 1) := by decide +kernel
theorem dX11_doLaw_5 : decode cX11_doLaw 5 = .ok (.iconst 0, 1) := by decide +kernel
theorem dX11_doLaw_6 : decode cX11_doLaw 6 = .ok (.istore_n 3, 1) := by decide +kernel
theorem dX11_doLaw_7 : decode cX11_doLaw 7 = .ok (.iload_n 3, 1) := by decide +kernel
theorem dX11_doLaw_8 : decode cX11_doLaw 8 = .ok (.iload_n 2, 1) := by decide +kernel
theorem dX11_doLaw_9 : decode cX11_doLaw 9 = .ok (.if_icmp .ge 21, 3) := by decide +kernel
theorem dX11_doLaw_12 : decode cX11_doLaw 12 = .ok (.aload_n 0, 1) := by decide +kernel
theorem dX11_doLaw_13 : decode cX11_doLaw 13 = .ok (.getfield 85, 3) := by decide +kernel
theorem dX11_doLaw_16 : decode cX11_doLaw 16 = .ok (.iload_n 3, 1) := by decide +kernel
theorem dX11_doLaw_17 : decode cX11_doLaw 17 = .ok (.aload_n 0, 1) := by decide +kernel
theorem dX11_doLaw_18 : decode cX11_doLaw 18 = .ok (.getfield 82, 3) := by decide +kernel
theorem dX11_doLaw_21 : decode cX11_doLaw 21 = .ok (.iload_n 3, 1) := by decide +kernel
theorem dX11_doLaw_22 : decode cX11_doLaw 22 = .ok (.iaload, 1) := by decide +kernel
theorem dX11_doLaw_23 : decode cX11_doLaw 23 = .ok (.iastore, 1) := by decide +kernel
theorem dX11_doLaw_24 : decode cX11_doLaw 24 = .ok (.iinc 3 1, 3) := by decide +kernel
theorem dX11_doLaw_27 : decode cX11_doLaw 27 = .ok (.goto (-20), 3) := by decide +kernel
theorem dX11_doLaw_30 : decode cX11_doLaw 30 = .ok (.iconst 0, 1) := by decide +kernel
theorem dX11_doLaw_31 : decode cX11_doLaw 31 = .ok (.istore_n 3, 1) := by decide +kernel
theorem dX11_doLaw_32 : decode cX11_doLaw 32 = .ok (.aload_n 0, 1) := by decide +kernel
theorem dX11_doLaw_33 : decode cX11_doLaw 33 = .ok (.iconst 0, 1) := by decide +kernel
theorem dX11_doLaw_34 : decode cX11_doLaw 34 = .ok (.putfield 218, 3) := by decide +kernel
theorem dX11_doLaw_37 : decode cX11_doLaw 37 = .ok (.iconst 0, 1) := by decide +kernel
theorem dX11_doLaw_38 : decode cX11_doLaw 38 = .ok (.istore 4, 2) := by decide +kernel
theorem dX11_doLaw_40 : decode cX11_doLaw 40 = .ok (.iload 4, 2) := by decide +kernel
theorem dX11_doLaw_42 : decode cX11_doLaw 42 = .ok (.iload_n 2, 1) := by decide +kernel
theorem dX11_doLaw_43 : decode cX11_doLaw 43 = .ok (.if_icmp .ge 191, 3) := by decide +kernel
theorem dX11_doLaw_46 : decode cX11_doLaw 46 = .ok (.aload_n 0, 1) := by decide +kernel
theorem dX11_doLaw_47 : decode cX11_doLaw 47 = .ok (.aload_n 0, 1) := by decide +kernel
theorem dX11_doLaw_48 : decode cX11_doLaw 48 = .ok (.getfield 85, 3) := by decide +kernel
theorem dX11_doLaw_51 : decode cX11_doLaw 51 = .ok (.iload 4, 2) := by decide +kernel
theorem dX11_doLaw_53 : decode cX11_doLaw 53 = .ok (.iaload, 1) := by decide +kernel
theorem dX11_doLaw_54 : decode cX11_doLaw 54 = .ok (.aload_n 0, 1) := by decide +kernel
theorem dX11_doLaw_55 : decode cX11_doLaw 55 = .ok (.getfield 67, 3) := by decide +kernel
theorem dX11_doLaw_58 : decode cX11_doLaw 58 = .ok (.iload_n 1, 1) := by decide +kernel
theorem dX11_doLaw_59 : decode cX11_doLaw 59 = .ok (.iaload, 1) := by decide +kernel
theorem dX11_doLaw_60 : decode cX11_doLaw 60 = .ok (.invokevirtual 215, 3) := by decide +kernel
theorem dX11_doLaw_63 : decode cX11_doLaw 63 = .ok (.ifCond .eq 74, 3) := by decide +kernel
theorem dX11_doLaw_66 : decode cX11_doLaw 66 = .ok (.aload_n 0, 1) := by decide +kernel
theorem dX11_doLaw_67 : decode cX11_doLaw 67 = .ok (.iload 4, 2) := by decide +kernel
theorem dX11_doLaw_69 : decode cX11_doLaw 69 = .ok (.ifCond .ne 8, 3) := by decide +kernel
theorem dX11_doLaw_72 : decode cX11_doLaw 72 = .ok (.bipush (-9), 2) := by decide +kernel
theorem dX11_doLaw_74 : decode cX11_doLaw 74 = .ok (.goto 12, 3) := by decide +kernel
theorem dX11_doLaw_77 : decode cX11_doLaw 77 = .ok (.aload_n 0, 1) := by decide +kernel
theorem dX11_doLaw_78 : decode cX11_doLaw 78 = .ok (.getfield 85, 3) := by decide +kernel
theorem dX11_doLaw_81 : decode cX11_doLaw 81 = .ok (.iload 4, 2) := by decide +kernel
theorem dX11_doLaw_83 : decode cX11_doLaw 83 = .ok (.iconst 1, 1) := by decide +kernel
theorem dX11_doLaw_84 : decode cX11_doLaw 84 = .ok (.isub, 1) := by decide +kernel
theorem dX11_doLaw_85 : decode cX11_doLaw 85 = .ok (.iaload, 1) := by decide +kernel
theorem dX11_doLaw_86 : decode cX11_doLaw 86 = .ok (.aload_n 0, 1) := by decide +kernel
theorem dX11_doLaw_87 : decode cX11_doLaw 87 = .ok (.getfield 73, 3) := by decide +kernel
theorem dX11_doLaw_90 : decode cX11_doLaw 90 = .ok (.iload_n 1, 1) := by decide +kernel
theorem dX11_doLaw_91 : decode cX11_doLaw 91 = .ok (.iaload, 1) := by decide +kernel
theorem dX11_doLaw_92 : decode cX11_doLaw 92 = .ok (.invokevirtual 221, 3) := by decide +kernel
theorem dX11_doLaw_95 : decode cX11_doLaw 95 = .ok (.ifCond .eq 42, 3) := by decide +kernel
theorem dX11_doLaw_98 : decode cX11_doLaw 98 = .ok (.aload_n 0, 1) := by decide +kernel
theorem dX11_doLaw_99 : decode cX11_doLaw 99 = .ok (.iload 4, 2) := by decide +kernel
theorem dX11_doLaw_101 : decode cX11_doLaw 101 = .ok (.iload_n 2, 1) := by decide +kernel
theorem dX11_doLaw_102 : decode cX11_doLaw 102 = .ok (.iconst 1, 1) := by decide +kernel
theorem dX11_doLaw_103 : decode cX11_doLaw 103 = .ok (.isub, 1) := by decide +kernel
theorem dX11_doLaw_104 : decode cX11_doLaw 104 = .ok (.if_icmp .ne 8, 3) := by decide +kernel
theorem dX11_doLaw_107 : decode cX11_doLaw 107 = .ok (.bipush (-9), 2) := by decide +kernel
theorem dX11_doLaw_109 : decode cX11_doLaw 109 = .ok (.goto 12, 3) := by decide +kernel
theorem dX11_doLaw_112 : decode cX11_doLaw 112 = .ok (.aload_n 0, 1) := by decide +kernel
theorem dX11_doLaw_113 : decode cX11_doLaw 113 = .ok (.getfield 85, 3) := by decide +kernel
theorem dX11_doLaw_116 : decode cX11_doLaw 116 = .ok (.iload 4, 2) := by decide +kernel
theorem dX11_doLaw_118 : decode cX11_doLaw 118 = .ok (.iconst 1, 1) := by decide +kernel
theorem dX11_doLaw_119 : decode cX11_doLaw 119 = .ok (.iadd, 1) := by decide +kernel
theorem dX11_doLaw_120 : decode cX11_doLaw 120 = .ok (.iaload, 1) := by decide +kernel
theorem dX11_doLaw_121 : decode cX11_doLaw 121 = .ok (.aload_n 0, 1) := by decide +kernel
theorem dX11_doLaw_122 : decode cX11_doLaw 122 = .ok (.getfield 76, 3) := by decide +kernel
theorem dX11_doLaw_125 : decode cX11_doLaw 125 = .ok (.iload_n 1, 1) := by decide +kernel
theorem dX11_doLaw_126 : decode cX11_doLaw 126 = .ok (.iaload, 1) := by decide +kernel
theorem dX11_doLaw_127 : decode cX11_doLaw 127 = .ok (.invokevirtual 221, 3) := by decide +kernel
theorem dX11_doLaw_130 : decode cX11_doLaw 130 = .ok (.ifCond .eq 7, 3) := by decide +kernel
theorem dX11_doLaw_133 : decode cX11_doLaw 133 = .ok (.iconst 1, 1) := by decide +kernel
theorem dX11_doLaw_134 : decode cX11_doLaw 134 = .ok (.goto 4, 3) := by decide +kernel
theorem dX11_doLaw_137 : decode cX11_doLaw 137 = .ok (.iconst 0, 1) := by decide +kernel
theorem dX11_doLaw_138 : decode cX11_doLaw 138 = .ok (.istore 5, 2) := by decide +kernel
theorem dX11_doLaw_140 : decode cX11_doLaw 140 = .ok (.iload 5, 2) := by decide +kernel
theorem dX11_doLaw_142 : decode cX11_doLaw 142 = .ok (.ifCond .eq 19, 3) := by decide +kernel
theorem dX11_doLaw_145 : decode cX11_doLaw 145 = .ok (.aload_n 0, 1) := by decide +kernel
theorem dX11_doLaw_146 : decode cX11_doLaw 146 = .ok (.getfield 70, 3) := by decide +kernel
theorem dX11_doLaw_149 : decode cX11_doLaw 149 = .ok (.iload_n 1, 1) := by decide +kernel
theorem dX11_doLaw_150 : decode cX11_doLaw 150 = .ok (.iaload, 1) := by decide +kernel
theorem dX11_doLaw_151 : decode cX11_doLaw 151 = .ok (.bipush 42, 2) := by decide +kernel
theorem dX11_doLaw_153 : decode cX11_doLaw 153 = .ok (.if_icmp .ne 8, 3) := by decide +kernel
theorem dX11_doLaw_156 : decode cX11_doLaw 156 = .ok (.iconst 1, 1) := by decide +kernel
theorem dX11_doLaw_157 : decode cX11_doLaw 157 = .ok (.istore_n 3, 1) := by decide +kernel
theorem dX11_doLaw_158 : decode cX11_doLaw 158 = .ok (.goto 70, 3) := by decide +kernel
theorem dX11_doLaw_161 : decode cX11_doLaw 161 = .ok (.aload_n 0, 1) := by decide +kernel
theorem dX11_doLaw_162 : decode cX11_doLaw 162 = .ok (.getfield 82, 3) := by decide +kernel
theorem dX11_doLaw_165 : decode cX11_doLaw 165 = .ok (.aload_n 0, 1) := by decide +kernel
theorem dX11_doLaw_166 : decode cX11_doLaw 166 = .ok (.getfield 218, 3) := by decide +kernel
theorem dX11_doLaw_169 : decode cX11_doLaw 169 = .ok (.iload 5, 2) := by decide +kernel
theorem dX11_doLaw_171 : decode cX11_doLaw 171 = .ok (.ifCond .eq 12, 3) := by decide +kernel
theorem dX11_doLaw_174 : decode cX11_doLaw 174 = .ok (.aload_n 0, 1) := by decide +kernel
theorem dX11_doLaw_175 : decode cX11_doLaw 175 = .ok (.getfield 70, 3) := by decide +kernel
theorem dX11_doLaw_178 : decode cX11_doLaw 178 = .ok (.iload_n 1, 1) := by decide +kernel
theorem dX11_doLaw_179 : decode cX11_doLaw 179 = .ok (.iaload, 1) := by decide +kernel
theorem dX11_doLaw_180 : decode cX11_doLaw 180 = .ok (.goto 10, 3) := by decide +kernel
theorem dX11_doLaw_183 : decode cX11_doLaw 183 = .ok (.aload_n 0, 1) := by decide +kernel
theorem dX11_doLaw_184 : decode cX11_doLaw 184 = .ok (.getfield 85, 3) := by decide +kernel
theorem dX11_doLaw_187 : decode cX11_doLaw 187 = .ok (.iload 4, 2) := by decide +kernel
theorem dX11_doLaw_189 : decode cX11_doLaw 189 = .ok (.iaload, 1) := by decide +kernel
theorem dX11_doLaw_190 : decode cX11_doLaw 190 = .ok (.iastore, 1) := by decide +kernel
theorem dX11_doLaw_191 : decode cX11_doLaw 191 = .ok (.iload_n 3, 1) := by decide +kernel
theorem dX11_doLaw_192 : decode cX11_doLaw 192 = .ok (.aload_n 0, 1) := by decide +kernel
theorem dX11_doLaw_193 : decode cX11_doLaw 193 = .ok (.getfield 82, 3) := by decide +kernel
theorem dX11_doLaw_196 : decode cX11_doLaw 196 = .ok (.aload_n 0, 1) := by decide +kernel
theorem dX11_doLaw_197 : decode cX11_doLaw 197 = .ok (.getfield 218, 3) := by decide +kernel
theorem dX11_doLaw_200 : decode cX11_doLaw 200 = .ok (.iaload, 1) := by decide +kernel
theorem dX11_doLaw_201 : decode cX11_doLaw 201 = .ok (.aload_n 0, 1) := by decide +kernel
theorem dX11_doLaw_202 : decode cX11_doLaw 202 = .ok (.getfield 85, 3) := by decide +kernel
theorem dX11_doLaw_205 : decode cX11_doLaw 205 = .ok (.iload 4, 2) := by decide +kernel
theorem dX11_doLaw_207 : decode cX11_doLaw 207 = .ok (.iaload, 1) := by decide +kernel
theorem dX11_doLaw_208 : decode cX11_doLaw 208 = .ok (.if_icmp .eq 7, 3) := by decide +kernel
theorem dX11_doLaw_211 : decode cX11_doLaw 211 = .ok (.iconst 1, 1) := by decide +kernel
theorem dX11_doLaw_212 : decode cX11_doLaw 212 = .ok (.goto 4, 3) := by decide +kernel
theorem dX11_doLaw_215 : decode cX11_doLaw 215 = .ok (.iconst 0, 1) := by decide +kernel
theorem dX11_doLaw_216 : decode cX11_doLaw 216 = .ok (.ior, 1) := by decide +kernel
theorem dX11_doLaw_217 : decode cX11_doLaw 217 = .ok (.istore_n 3, 1) := by decide +kernel
theorem dX11_doLaw_218 : decode cX11_doLaw 218 = .ok (.aload_n 0, 1) := by decide +kernel
theorem dX11_doLaw_219 : decode cX11_doLaw 219 = .ok (.dup, 1) := by decide +kernel
theorem dX11_doLaw_220 : decode cX11_doLaw 220 = .ok (.getfield 218, 3) := by decide +kernel
theorem dX11_doLaw_223 : decode cX11_doLaw 223 = .ok (.iconst 1, 1) := by decide +kernel
theorem dX11_doLaw_224 : decode cX11_doLaw 224 = .ok (.iadd, 1) := by decide +kernel
theorem dX11_doLaw_225 : decode cX11_doLaw 225 = .ok (.putfield 218, 3) := by decide +kernel
theorem dX11_doLaw_228 : decode cX11_doLaw 228 = .ok (.iinc 4 1, 3) := by decide +kernel
theorem dX11_doLaw_231 : decode cX11_doLaw 231 = .ok (.goto (-191), 3) := by decide +kernel
theorem dX11_doLaw_234 : decode cX11_doLaw 234 = .ok (.iload_n 3, 1) := by decide +kernel
theorem dX11_doLaw_235 : decode cX11_doLaw 235 = .ok (.ireturn, 1) := by decide +kernel
theorem dX11_takeRoot_0 : decode cX11_takeRoot 0 = .ok (.aload_n 0, 1) := by decide +kernel
theorem dX11_takeRoot_1 : decode cX11_takeRoot 1 = .ok (.aload_n 0, 1) := by decide +kernel
theorem dX11_takeRoot_2 : decode cX11_takeRoot 2 = .ok (.getfield 58, 3) := by decide +kernel
theorem dX11_takeRoot_5 : decode cX11_takeRoot 5 = .ok (.iload_n 1, 1) := by decide +kernel
theorem dX11_takeRoot_6 : decode cX11_takeRoot 6 = .ok (.iaload, 1) := by decide +kernel
theorem dX11_takeRoot_7 : decode cX11_takeRoot 7 = .ok (.putfield 218, 3) := by decide +kernel
theorem dX11_takeRoot_10 : decode cX11_takeRoot 10 = .ok (.iconst 0, 1) := by decide +kernel
theorem dX11_takeRoot_11 : decode cX11_takeRoot 11 = .ok (.istore_n 2, 1) := by decide +kernel
theorem dX11_takeRoot_12 : decode cX11_takeRoot 12 = .ok (.iload_n 2, 1) := by decide +kernel
theorem dX11_takeRoot_13 : decode cX11_takeRoot 13 = .ok (.aload_n 0, 1) := by decide +kernel
theorem dX11_takeRoot_14 : decode cX11_takeRoot 14 = .ok (.getfield 218, 3) := by decide +kernel
theorem dX11_takeRoot_17 : decode cX11_takeRoot 17 = .ok (.if_icmp .ge 26, 3) := by decide +kernel
theorem dX11_takeRoot_20 : decode cX11_takeRoot 20 = .ok (.aload_n 0, 1) := by decide +kernel
theorem dX11_takeRoot_21 : decode cX11_takeRoot 21 = .ok (.getfield 82, 3) := by decide +kernel
theorem dX11_takeRoot_24 : decode cX11_takeRoot 24 = .ok (.iload_n 2, 1) := by decide +kernel
theorem dX11_takeRoot_25 : decode cX11_takeRoot 25 = .ok (.aload_n 0, 1) := by decide +kernel
theorem dX11_takeRoot_26 : decode cX11_takeRoot 26 = .ok (.getfield 61, 3) := by decide +kernel
theorem dX11_takeRoot_29 : decode cX11_takeRoot 29 = .ok (.bipush 8, 2) := by decide +kernel
theorem dX11_takeRoot_31 : decode cX11_takeRoot 31 = .ok (.iload_n 1, 1) := by decide +kernel
theorem dX11_takeRoot_32 : decode cX11_takeRoot 32 = .ok (.imul, 1) := by decide +kernel
theorem dX11_takeRoot_33 : decode cX11_takeRoot 33 = .ok (.iload_n 2, 1) := by decide +kernel
theorem dX11_takeRoot_34 : decode cX11_takeRoot 34 = .ok (.iadd, 1) := by decide +kernel
theorem dX11_takeRoot_35 : decode cX11_takeRoot 35 = .ok (.iaload, 1) := by decide +kernel
theorem dX11_takeRoot_36 : decode cX11_takeRoot 36 = .ok (.iastore, 1) := by decide +kernel
theorem dX11_takeRoot_37 : decode cX11_takeRoot 37 = .ok (.iinc 2 1, 3) := by decide +kernel
theorem dX11_takeRoot_40 : decode cX11_takeRoot 40 = .ok (.goto (-28), 3) := by decide +kernel
theorem dX11_takeRoot_43 : decode cX11_takeRoot 43 = .ok (.return_, 1) := by decide +kernel
theorem dX11_derive_0 : decode cX11_derive 0 = .ok (.bipush (-9), 2) := by decide +kernel
theorem dX11_derive_2 : decode cX11_derive 2 = .ok (.istore_n 3, 1) := by decide +kernel
theorem dX11_derive_3 : decode cX11_derive 3 = .ok (.iload_n 2, 1) := by decide +kernel
theorem dX11_derive_4 : decode cX11_derive 4 = .ok (.istore 4, 2) := by decide +kernel
theorem dX11_derive_6 : decode cX11_derive 6 = .ok (.iconst 0, 1) := by decide +kernel
theorem dX11_derive_7 : decode cX11_derive 7 = .ok (.istore 5, 2) := by decide +kernel
theorem dX11_derive_9 : decode cX11_derive 9 = .ok (.iload 5, 2) := by decide +kernel
theorem dX11_derive_11 : decode cX11_derive 11 = .ok (.aload_n 0, 1) := by decide +kernel
theorem dX11_derive_12 : decode cX11_derive 12 = .ok (.getfield 209, 3) := by decide +kernel
theorem dX11_derive_15 : decode cX11_derive 15 = .ok (.if_icmp .ge 47, 3) := by decide +kernel
theorem dX11_derive_18 : decode cX11_derive 18 = .ok (.iload 4, 2) := by decide +kernel
theorem dX11_derive_20 : decode cX11_derive 20 = .ok (.ifCond .le 42, 3) := by decide +kernel
theorem dX11_derive_23 : decode cX11_derive 23 = .ok (.aload_n 0, 1) := by decide +kernel
theorem dX11_derive_24 : decode cX11_derive 24 = .ok (.getfield 64, 3) := by decide +kernel
theorem dX11_derive_27 : decode cX11_derive 27 = .ok (.iload 5, 2) := by decide +kernel
theorem dX11_derive_29 : decode cX11_derive 29 = .ok (.iaload, 1) := by decide +kernel
theorem dX11_derive_30 : decode cX11_derive 30 = .ok (.iload_n 1, 1) := by decide +kernel
theorem dX11_derive_31 : decode cX11_derive 31 = .ok (.invokestatic 132, 3) := by decide +kernel
theorem dX11_derive_34 : decode cX11_derive 34 = .ok (.ifCond .eq 22, 3) := by decide +kernel
theorem dX11_derive_37 : decode cX11_derive 37 = .ok (.iinc 4 (-1), 3) := by decide +kernel
theorem dX11_derive_40 : decode cX11_derive 40 = .ok (.aload_n 0, 1) := by decide +kernel
theorem dX11_derive_41 : decode cX11_derive 41 = .ok (.iload 5, 2) := by decide +kernel
