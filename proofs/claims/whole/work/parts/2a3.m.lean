theorem d_MO_next_0 : decode prog_14_method_13_code 0 = .ok (.aload_n 0, 1) := by decide +kernel
theorem d_MO_next_1 : decode prog_14_method_13_code 1 = .ok (.getfield 116, 3) := by decide +kernel
theorem d_MO_next_4 : decode prog_14_method_13_code 4 = .ok (.aload_n 0, 1) := by decide +kernel
theorem d_MO_next_5 : decode prog_14_method_13_code 5 = .ok (.getfield 82, 3) := by decide +kernel
theorem d_MO_next_8 : decode prog_14_method_13_code 8 = .ok (.if_icmp .ge 44, 3) := by decide +kernel
theorem d_MO_next_11 : decode prog_14_method_13_code 11 = .ok (.aload_n 0, 1) := by decide +kernel
theorem d_MO_next_12 : decode prog_14_method_13_code 12 = .ok (.getfield 28, 3) := by decide +kernel
theorem d_MO_next_15 : decode prog_14_method_13_code 15 = .ok (.aload_n 0, 1) := by decide +kernel
theorem d_MO_next_16 : decode prog_14_method_13_code 16 = .ok (.getfield 116, 3) := by decide +kernel
theorem d_MO_next_19 : decode prog_14_method_13_code 19 = .ok (.iaload, 1) := by decide +kernel
theorem d_MO_next_20 : decode prog_14_method_13_code 20 = .ok (.bipush 32, 2) := by decide +kernel
theorem d_MO_next_22 : decode prog_14_method_13_code 22 = .ok (.if_icmp .eq 17, 3) := by decide +kernel
theorem d_MO_next_25 : decode prog_14_method_13_code 25 = .ok (.aload_n 0, 1) := by decide +kernel
theorem d_MO_next_26 : decode prog_14_method_13_code 26 = .ok (.getfield 28, 3) := by decide +kernel
theorem d_MO_next_29 : decode prog_14_method_13_code 29 = .ok (.aload_n 0, 1) := by decide +kernel
theorem d_MO_next_30 : decode prog_14_method_13_code 30 = .ok (.getfield 116, 3) := by decide +kernel
theorem d_MO_next_33 : decode prog_14_method_13_code 33 = .ok (.iaload, 1) := by decide +kernel
theorem d_MO_next_34 : decode prog_14_method_13_code 34 = .ok (.bipush 10, 2) := by decide +kernel
theorem d_MO_next_36 : decode prog_14_method_13_code 36 = .ok (.if_icmp .ne 16, 3) := by decide +kernel
theorem d_MO_next_39 : decode prog_14_method_13_code 39 = .ok (.aload_n 0, 1) := by decide +kernel
theorem d_MO_next_40 : decode prog_14_method_13_code 40 = .ok (.dup, 1) := by decide +kernel
theorem d_MO_next_41 : decode prog_14_method_13_code 41 = .ok (.getfield 116, 3) := by decide +kernel
theorem d_MO_next_44 : decode prog_14_method_13_code 44 = .ok (.iconst 1, 1) := by decide +kernel
theorem d_MO_next_45 : decode prog_14_method_13_code 45 = .ok (.iadd, 1) := by decide +kernel
theorem d_MO_next_46 : decode prog_14_method_13_code 46 = .ok (.putfield 116, 3) := by decide +kernel
theorem d_MO_next_49 : decode prog_14_method_13_code 49 = .ok (.goto (-49), 3) := by decide +kernel
theorem d_MO_next_52 : decode prog_14_method_13_code 52 = .ok (.aload_n 0, 1) := by decide +kernel
theorem d_MO_next_53 : decode prog_14_method_13_code 53 = .ok (.aload_n 0, 1) := by decide +kernel
theorem d_MO_next_54 : decode prog_14_method_13_code 54 = .ok (.getfield 116, 3) := by decide +kernel
theorem d_MO_next_57 : decode prog_14_method_13_code 57 = .ok (.putfield 119, 3) := by decide +kernel
theorem d_MO_next_60 : decode prog_14_method_13_code 60 = .ok (.aload_n 0, 1) := by decide +kernel
theorem d_MO_next_61 : decode prog_14_method_13_code 61 = .ok (.iconst 0, 1) := by decide +kernel
theorem d_MO_next_62 : decode prog_14_method_13_code 62 = .ok (.putfield 122, 3) := by decide +kernel
theorem d_MO_next_65 : decode prog_14_method_13_code 65 = .ok (.aload_n 0, 1) := by decide +kernel
theorem d_MO_next_66 : decode prog_14_method_13_code 66 = .ok (.iconst 0, 1) := by decide +kernel
theorem d_MO_next_67 : decode prog_14_method_13_code 67 = .ok (.putfield 125, 3) := by decide +kernel
theorem d_MO_next_70 : decode prog_14_method_13_code 70 = .ok (.aload_n 0, 1) := by decide +kernel
theorem d_MO_next_71 : decode prog_14_method_13_code 71 = .ok (.getfield 116, 3) := by decide +kernel
theorem d_MO_next_74 : decode prog_14_method_13_code 74 = .ok (.aload_n 0, 1) := by decide +kernel
theorem d_MO_next_75 : decode prog_14_method_13_code 75 = .ok (.getfield 82, 3) := by decide +kernel
theorem d_MO_next_78 : decode prog_14_method_13_code 78 = .ok (.if_icmp .ne 4, 3) := by decide +kernel
theorem d_MO_next_81 : decode prog_14_method_13_code 81 = .ok (.return_, 1) := by decide +kernel
theorem d_MO_next_82 : decode prog_14_method_13_code 82 = .ok (.aload_n 0, 1) := by decide +kernel
theorem d_MO_next_83 : decode prog_14_method_13_code 83 = .ok (.getfield 28, 3) := by decide +kernel
theorem d_MO_next_86 : decode prog_14_method_13_code 86 = .ok (.aload_n 0, 1) := by decide +kernel
theorem d_MO_next_87 : decode prog_14_method_13_code 87 = .ok (.getfield 116, 3) := by decide +kernel
theorem d_MO_next_90 : decode prog_14_method_13_code 90 = .ok (.iaload, 1) := by decide +kernel
theorem d_MO_next_91 : decode prog_14_method_13_code 91 = .ok (.istore_n 1, 1) := by decide +kernel
theorem d_MO_next_92 : decode prog_14_method_13_code 92 = .ok (.iload_n 1, 1) := by decide +kernel
theorem d_MO_next_93 : decode prog_14_method_13_code 93 = .ok (.bipush 97, 2) := by decide +kernel
theorem d_MO_next_95 : decode prog_14_method_13_code 95 = .ok (.bipush 122, 2) := by decide +kernel
theorem d_MO_next_97 : decode prog_14_method_13_code 97 = .ok (.invokestatic 93, 3) := by decide +kernel
theorem d_MO_next_100 : decode prog_14_method_13_code 100 = .ok (.ifCond .eq 117, 3) := by decide +kernel
theorem d_MO_next_103 : decode prog_14_method_13_code 103 = .ok (.aload_n 0, 1) := by decide +kernel
theorem d_MO_next_104 : decode prog_14_method_13_code 104 = .ok (.getfield 116, 3) := by decide +kernel
theorem d_MO_next_107 : decode prog_14_method_13_code 107 = .ok (.aload_n 0, 1) := by decide +kernel
theorem d_MO_next_108 : decode prog_14_method_13_code 108 = .ok (.getfield 82, 3) := by decide +kernel
theorem d_MO_next_111 : decode prog_14_method_13_code 111 = .ok (.if_icmp .ge 35, 3) := by decide +kernel
theorem d_MO_next_114 : decode prog_14_method_13_code 114 = .ok (.aload_n 0, 1) := by decide +kernel
theorem d_MO_next_115 : decode prog_14_method_13_code 115 = .ok (.getfield 28, 3) := by decide +kernel
theorem d_MO_next_118 : decode prog_14_method_13_code 118 = .ok (.aload_n 0, 1) := by decide +kernel
theorem d_MO_next_119 : decode prog_14_method_13_code 119 = .ok (.getfield 116, 3) := by decide +kernel
theorem d_MO_next_122 : decode prog_14_method_13_code 122 = .ok (.iaload, 1) := by decide +kernel
theorem d_MO_next_123 : decode prog_14_method_13_code 123 = .ok (.bipush 97, 2) := by decide +kernel
theorem d_MO_next_125 : decode prog_14_method_13_code 125 = .ok (.bipush 122, 2) := by decide +kernel
theorem d_MO_next_127 : decode prog_14_method_13_code 127 = .ok (.invokestatic 93, 3) := by decide +kernel
theorem d_MO_next_130 : decode prog_14_method_13_code 130 = .ok (.ifCond .eq 16, 3) := by decide +kernel
theorem d_MO_next_133 : decode prog_14_method_13_code 133 = .ok (.aload_n 0, 1) := by decide +kernel
theorem d_MO_next_134 : decode prog_14_method_13_code 134 = .ok (.dup, 1) := by decide +kernel
theorem d_MO_next_135 : decode prog_14_method_13_code 135 = .ok (.getfield 116, 3) := by decide +kernel
theorem d_MO_next_138 : decode prog_14_method_13_code 138 = .ok (.iconst 1, 1) := by decide +kernel
theorem d_MO_next_139 : decode prog_14_method_13_code 139 = .ok (.iadd, 1) := by decide +kernel
theorem d_MO_next_140 : decode prog_14_method_13_code 140 = .ok (.putfield 116, 3) := by decide +kernel
theorem d_MO_next_143 : decode prog_14_method_13_code 143 = .ok (.goto (-40), 3) := by decide +kernel
theorem d_MO_next_146 : decode prog_14_method_13_code 146 = .ok (.aload_n 0, 1) := by decide +kernel
theorem d_MO_next_147 : decode prog_14_method_13_code 147 = .ok (.aload_n 0, 1) := by decide +kernel
theorem d_MO_next_148 : decode prog_14_method_13_code 148 = .ok (.getfield 119, 3) := by decide +kernel
theorem d_MO_next_151 : decode prog_14_method_13_code 151 = .ok (.aload_n 0, 1) := by decide +kernel
theorem d_MO_next_152 : decode prog_14_method_13_code 152 = .ok (.getfield 116, 3) := by decide +kernel
theorem d_MO_next_155 : decode prog_14_method_13_code 155 = .ok (.invokevirtual 128, 3) := by decide +kernel
theorem d_MO_next_158 : decode prog_14_method_13_code 158 = .ok (.istore_n 2, 1) := by decide +kernel
theorem d_MO_next_159 : decode prog_14_method_13_code 159 = .ok (.aload_n 0, 1) := by decide +kernel
theorem d_MO_next_160 : decode prog_14_method_13_code 160 = .ok (.iload_n 2, 1) := by decide +kernel
theorem d_MO_next_161 : decode prog_14_method_13_code 161 = .ok (.iconst 3, 1) := by decide +kernel
theorem d_MO_next_162 : decode prog_14_method_13_code 162 = .ok (.if_icmp .ge 7, 3) := by decide +kernel
theorem d_MO_next_165 : decode prog_14_method_13_code 165 = .ok (.iconst 3, 1) := by decide +kernel
theorem d_MO_next_166 : decode prog_14_method_13_code 166 = .ok (.goto 29, 3) := by decide +kernel
theorem d_MO_next_169 : decode prog_14_method_13_code 169 = .ok (.iload_n 2, 1) := by decide +kernel
theorem d_MO_next_170 : decode prog_14_method_13_code 170 = .ok (.bipush 9, 2) := by decide +kernel
theorem d_MO_next_172 : decode prog_14_method_13_code 172 = .ok (.if_icmp .ge 7, 3) := by decide +kernel
theorem d_MO_next_175 : decode prog_14_method_13_code 175 = .ok (.iconst 2, 1) := by decide +kernel
theorem d_MO_next_176 : decode prog_14_method_13_code 176 = .ok (.goto 19, 3) := by decide +kernel
theorem d_MO_next_179 : decode prog_14_method_13_code 179 = .ok (.iload_n 2, 1) := by decide +kernel
theorem d_MO_next_180 : decode prog_14_method_13_code 180 = .ok (.bipush 12, 2) := by decide +kernel
theorem d_MO_next_182 : decode prog_14_method_13_code 182 = .ok (.if_icmp .ne 7, 3) := by decide +kernel
theorem d_MO_next_185 : decode prog_14_method_13_code 185 = .ok (.iconst (-1), 1) := by decide +kernel
theorem d_MO_next_186 : decode prog_14_method_13_code 186 = .ok (.goto 9, 3) := by decide +kernel
theorem d_MO_next_189 : decode prog_14_method_13_code 189 = .ok (.iconst 4, 1) := by decide +kernel
theorem d_MO_next_190 : decode prog_14_method_13_code 190 = .ok (.iload_n 2, 1) := by decide +kernel
theorem d_MO_next_191 : decode prog_14_method_13_code 191 = .ok (.iadd, 1) := by decide +kernel
theorem d_MO_next_192 : decode prog_14_method_13_code 192 = .ok (.bipush 9, 2) := by decide +kernel
theorem d_MO_next_194 : decode prog_14_method_13_code 194 = .ok (.isub, 1) := by decide +kernel
theorem d_MO_next_195 : decode prog_14_method_13_code 195 = .ok (.putfield 122, 3) := by decide +kernel
theorem d_MO_next_198 : decode prog_14_method_13_code 198 = .ok (.aload_n 0, 1) := by decide +kernel
theorem d_MO_next_199 : decode prog_14_method_13_code 199 = .ok (.iload_n 2, 1) := by decide +kernel
theorem d_MO_next_200 : decode prog_14_method_13_code 200 = .ok (.iconst 3, 1) := by decide +kernel
theorem d_MO_next_201 : decode prog_14_method_13_code 201 = .ok (.if_icmp .ge 7, 3) := by decide +kernel
theorem d_MO_next_204 : decode prog_14_method_13_code 204 = .ok (.iload_n 2, 1) := by decide +kernel
theorem d_MO_next_205 : decode prog_14_method_13_code 205 = .ok (.goto 6, 3) := by decide +kernel
theorem d_MO_next_208 : decode prog_14_method_13_code 208 = .ok (.iload_n 2, 1) := by decide +kernel
theorem d_MO_next_209 : decode prog_14_method_13_code 209 = .ok (.iconst 3, 1) := by decide +kernel
theorem d_MO_next_210 : decode prog_14_method_13_code 210 = .ok (.isub, 1) := by decide +kernel
theorem d_MO_next_211 : decode prog_14_method_13_code 211 = .ok (.putfield 125, 3) := by decide +kernel
theorem d_MO_next_214 : decode prog_14_method_13_code 214 = .ok (.goto 189, 3) := by decide +kernel
theorem d_MO_next_217 : decode prog_14_method_13_code 217 = .ok (.iload_n 1, 1) := by decide +kernel
theorem d_MO_next_218 : decode prog_14_method_13_code 218 = .ok (.bipush 48, 2) := by decide +kernel
theorem d_MO_next_220 : decode prog_14_method_13_code 220 = .ok (.bipush 57, 2) := by decide +kernel
theorem d_MO_next_222 : decode prog_14_method_13_code 222 = .ok (.invokestatic 93, 3) := by decide +kernel
theorem d_MO_next_225 : decode prog_14_method_13_code 225 = .ok (.ifCond .eq 101, 3) := by decide +kernel
theorem d_MO_next_228 : decode prog_14_method_13_code 228 = .ok (.iconst 0, 1) := by decide +kernel
theorem d_MO_next_229 : decode prog_14_method_13_code 229 = .ok (.istore_n 2, 1) := by decide +kernel
theorem d_MO_next_230 : decode prog_14_method_13_code 230 = .ok (.aload_n 0, 1) := by decide +kernel
theorem d_MO_next_231 : decode prog_14_method_13_code 231 = .ok (.getfield 116, 3) := by decide +kernel
theorem d_MO_next_234 : decode prog_14_method_13_code 234 = .ok (.aload_n 0, 1) := by decide +kernel
theorem d_MO_next_235 : decode prog_14_method_13_code 235 = .ok (.getfield 82, 3) := by decide +kernel
theorem d_MO_next_238 : decode prog_14_method_13_code 238 = .ok (.if_icmp .ge 71, 3) := by decide +kernel
theorem d_MO_next_241 : decode prog_14_method_13_code 241 = .ok (.aload_n 0, 1) := by decide +kernel
theorem d_MO_next_242 : decode prog_14_method_13_code 242 = .ok (.getfield 28, 3) := by decide +kernel
theorem d_MO_next_245 : decode prog_14_method_13_code 245 = .ok (.aload_n 0, 1) := by decide +kernel
theorem d_MO_next_246 : decode prog_14_method_13_code 246 = .ok (.getfield 116, 3) := by decide +kernel
theorem d_MO_next_249 : decode prog_14_method_13_code 249 = .ok (.iaload, 1) := by decide +kernel
theorem d_MO_next_250 : decode prog_14_method_13_code 250 = .ok (.bipush 48, 2) := by decide +kernel
theorem d_MO_next_252 : decode prog_14_method_13_code 252 = .ok (.bipush 57, 2) := by decide +kernel
theorem d_MO_next_254 : decode prog_14_method_13_code 254 = .ok (.invokestatic 93, 3) := by decide +kernel
theorem d_MO_next_257 : decode prog_14_method_13_code 257 = .ok (.ifCond .eq 52, 3) := by decide +kernel
theorem d_MO_next_260 : decode prog_14_method_13_code 260 = .ok (.aload_n 0, 1) := by decide +kernel
theorem d_MO_next_261 : decode prog_14_method_13_code 261 = .ok (.iload_n 2, 1) := by decide +kernel
theorem d_MO_next_262 : decode prog_14_method_13_code 262 = .ok (.iconst 4, 1) := by decide +kernel
theorem d_MO_next_263 : decode prog_14_method_13_code 263 = .ok (.if_icmp .ge 26, 3) := by decide +kernel
theorem d_MO_next_266 : decode prog_14_method_13_code 266 = .ok (.bipush 10, 2) := by decide +kernel
theorem d_MO_next_268 : decode prog_14_method_13_code 268 = .ok (.aload_n 0, 1) := by decide +kernel
theorem d_MO_next_269 : decode prog_14_method_13_code 269 = .ok (.getfield 125, 3) := by decide +kernel
theorem d_MO_next_272 : decode prog_14_method_13_code 272 = .ok (.imul, 1) := by decide +kernel
theorem d_MO_next_273 : decode prog_14_method_13_code 273 = .ok (.aload_n 0, 1) := by decide +kernel
theorem d_MO_next_274 : decode prog_14_method_13_code 274 = .ok (.getfield 28, 3) := by decide +kernel
theorem d_MO_next_277 : decode prog_14_method_13_code 277 = .ok (.aload_n 0, 1) := by decide +kernel
theorem d_MO_next_278 : decode prog_14_method_13_code 278 = .ok (.getfield 116, 3) := by decide +kernel
theorem d_MO_next_281 : decode prog_14_method_13_code 281 = .ok (.iaload, 1) := by decide +kernel
theorem d_MO_next_282 : decode prog_14_method_13_code 282 = .ok (.iadd, 1) := by decide +kernel
theorem d_MO_next_283 : decode prog_14_method_13_code 283 = .ok (.bipush 48, 2) := by decide +kernel
theorem d_MO_next_285 : decode prog_14_method_13_code 285 = .ok (.isub, 1) := by decide +kernel
theorem d_MO_next_286 : decode prog_14_method_13_code 286 = .ok (.goto 4, 3) := by decide +kernel
theorem d_MO_next_289 : decode prog_14_method_13_code 289 = .ok (.iconst 0, 1) := by decide +kernel
theorem d_MO_next_290 : decode prog_14_method_13_code 290 = .ok (.putfield 125, 3) := by decide +kernel
theorem d_MO_next_293 : decode prog_14_method_13_code 293 = .ok (.iinc 2 1, 3) := by decide +kernel
theorem d_MO_next_296 : decode prog_14_method_13_code 296 = .ok (.aload_n 0, 1) := by decide +kernel
theorem d_MO_next_297 : decode prog_14_method_13_code 297 = .ok (.dup, 1) := by decide +kernel
theorem d_MO_next_298 : decode prog_14_method_13_code 298 = .ok (.getfield 116, 3) := by decide +kernel
theorem d_MO_next_301 : decode prog_14_method_13_code 301 = .ok (.iconst 1, 1) := by decide +kernel
theorem d_MO_next_302 : decode prog_14_method_13_code 302 = .ok (.iadd, 1) := by decide +kernel
theorem d_MO_next_303 : decode prog_14_method_13_code 303 = .ok (.putfield 116, 3) := by decide +kernel
theorem d_MO_next_306 : decode prog_14_method_13_code 306 = .ok (.goto (-76), 3) := by decide +kernel
theorem d_MO_next_309 : decode prog_14_method_13_code 309 = .ok (.aload_n 0, 1) := by decide +kernel
theorem d_MO_next_310 : decode prog_14_method_13_code 310 = .ok (.iload_n 2, 1) := by decide +kernel
theorem d_MO_next_311 : decode prog_14_method_13_code 311 = .ok (.iconst 4, 1) := by decide +kernel
theorem d_MO_next_312 : decode prog_14_method_13_code 312 = .ok (.if_icmp .le 7, 3) := by decide +kernel
theorem d_MO_next_315 : decode prog_14_method_13_code 315 = .ok (.iconst (-1), 1) := by decide +kernel
theorem d_MO_next_316 : decode prog_14_method_13_code 316 = .ok (.goto 4, 3) := by decide +kernel
theorem d_MO_next_319 : decode prog_14_method_13_code 319 = .ok (.iconst 1, 1) := by decide +kernel
theorem d_MO_next_320 : decode prog_14_method_13_code 320 = .ok (.putfield 122, 3) := by decide +kernel
theorem d_MO_next_323 : decode prog_14_method_13_code 323 = .ok (.goto 80, 3) := by decide +kernel
theorem d_MO_next_326 : decode prog_14_method_13_code 326 = .ok (.iload_n 1, 1) := by decide +kernel
theorem d_MO_next_327 : decode prog_14_method_13_code 327 = .ok (.bipush 40, 2) := by decide +kernel
theorem d_MO_next_329 : decode prog_14_method_13_code 329 = .ok (.if_icmp .eq 45, 3) := by decide +kernel
theorem d_MO_next_332 : decode prog_14_method_13_code 332 = .ok (.iload_n 1, 1) := by decide +kernel
theorem d_MO_next_333 : decode prog_14_method_13_code 333 = .ok (.bipush 41, 2) := by decide +kernel
theorem d_MO_next_335 : decode prog_14_method_13_code 335 = .ok (.if_icmp .eq 39, 3) := by decide +kernel
theorem d_MO_next_338 : decode prog_14_method_13_code 338 = .ok (.iload_n 1, 1) := by decide +kernel
theorem d_MO_next_339 : decode prog_14_method_13_code 339 = .ok (.bipush 59, 2) := by decide +kernel
theorem d_MO_next_341 : decode prog_14_method_13_code 341 = .ok (.if_icmp .eq 33, 3) := by decide +kernel
theorem d_MO_next_344 : decode prog_14_method_13_code 344 = .ok (.iload_n 1, 1) := by decide +kernel
theorem d_MO_next_345 : decode prog_14_method_13_code 345 = .ok (.bipush 43, 2) := by decide +kernel
theorem d_MO_next_347 : decode prog_14_method_13_code 347 = .ok (.if_icmp .eq 27, 3) := by decide +kernel
theorem d_MO_next_350 : decode prog_14_method_13_code 350 = .ok (.iload_n 1, 1) := by decide +kernel
theorem d_MO_next_351 : decode prog_14_method_13_code 351 = .ok (.bipush 45, 2) := by decide +kernel
theorem d_MO_next_353 : decode prog_14_method_13_code 353 = .ok (.if_icmp .eq 21, 3) := by decide +kernel
theorem d_MO_next_356 : decode prog_14_method_13_code 356 = .ok (.iload_n 1, 1) := by decide +kernel
theorem d_MO_next_357 : decode prog_14_method_13_code 357 = .ok (.bipush 42, 2) := by decide +kernel
theorem d_MO_next_359 : decode prog_14_method_13_code 359 = .ok (.if_icmp .eq 15, 3) := by decide +kernel
theorem d_MO_next_362 : decode prog_14_method_13_code 362 = .ok (.iload_n 1, 1) := by decide +kernel
theorem d_MO_next_363 : decode prog_14_method_13_code 363 = .ok (.bipush 60, 2) := by decide +kernel
theorem d_MO_next_365 : decode prog_14_method_13_code 365 = .ok (.if_icmp .eq 9, 3) := by decide +kernel
theorem d_MO_next_368 : decode prog_14_method_13_code 368 = .ok (.iload_n 1, 1) := by decide +kernel
theorem d_MO_next_369 : decode prog_14_method_13_code 369 = .ok (.bipush 61, 2) := by decide +kernel
theorem d_MO_next_371 : decode prog_14_method_13_code 371 = .ok (.if_icmp .ne 7, 3) := by decide +kernel
theorem d_MO_next_374 : decode prog_14_method_13_code 374 = .ok (.iconst 1, 1) := by decide +kernel
theorem d_MO_next_375 : decode prog_14_method_13_code 375 = .ok (.goto 4, 3) := by decide +kernel
theorem d_MO_next_378 : decode prog_14_method_13_code 378 = .ok (.iconst 0, 1) := by decide +kernel
theorem d_MO_next_379 : decode prog_14_method_13_code 379 = .ok (.istore_n 2, 1) := by decide +kernel
theorem d_MO_next_380 : decode prog_14_method_13_code 380 = .ok (.aload_n 0, 1) := by decide +kernel
theorem d_MO_next_381 : decode prog_14_method_13_code 381 = .ok (.iload_n 2, 1) := by decide +kernel
theorem d_MO_next_382 : decode prog_14_method_13_code 382 = .ok (.ifCond .eq 7, 3) := by decide +kernel
theorem d_MO_next_385 : decode prog_14_method_13_code 385 = .ok (.iload_n 1, 1) := by decide +kernel
theorem d_MO_next_386 : decode prog_14_method_13_code 386 = .ok (.goto 4, 3) := by decide +kernel
theorem d_MO_next_389 : decode prog_14_method_13_code 389 = .ok (.iconst (-1), 1) := by decide +kernel
theorem d_MO_next_390 : decode prog_14_method_13_code 390 = .ok (.putfield 122, 3) := by decide +kernel
theorem d_MO_next_393 : decode prog_14_method_13_code 393 = .ok (.aload_n 0, 1) := by decide +kernel
theorem d_MO_next_394 : decode prog_14_method_13_code 394 = .ok (.dup, 1) := by decide +kernel
theorem d_MO_next_395 : decode prog_14_method_13_code 395 = .ok (.getfield 116, 3) := by decide +kernel
theorem d_MO_next_398 : decode prog_14_method_13_code 398 = .ok (.iconst 1, 1) := by decide +kernel
theorem d_MO_next_399 : decode prog_14_method_13_code 399 = .ok (.iadd, 1) := by decide +kernel
theorem d_MO_next_400 : decode prog_14_method_13_code 400 = .ok (.putfield 116, 3) := by decide +kernel
theorem d_MO_next_403 : decode prog_14_method_13_code 403 = .ok (.return_, 1) := by decide +kernel
def p_MO_next_379 (Q : AH → Prop) (x1 : Int32) (s0 : Int32) (h : AH) : Prop := ((s0 = 0 → Q (wI (wI h 59 23 (-1)) 59 21 (((wI h 59 23 (-1)).1 59 21) + 1))) ∧ (¬ s0 = 0 → Q (wI (wI h 59 23 x1) 59 21 (((wI h 59 23 x1).1 59 21) + 1))))
def p_MO_next_374 (Q : AH → Prop) (x1 : Int32) (h : AH) : Prop := p_MO_next_379 Q   x1 1 h
def p_MO_next_309 (Q : AH → Prop) (x2 : Int32) (h : AH) : Prop := ((x2 ≤ 4 → Q (wI h 59 23 1)) ∧ (¬ x2 ≤ 4 → Q (wI h 59 23 (-1))))
def p_MO_next_290 (Q : AH → Prop) (K230 : Int32 → AH → Prop) (x2 : Int32) (s1 : Int32) (h : AH) : Prop := K230 (x2 + 1) (wI (wI h 59 24 s1) 59 21 (((wI h 59 24 s1).1 59 21) + 1))
def p_MO_next_230 (Q : AH → Prop) : Nat → Int32 → AH → Prop
  | 0 => fun _ _ => False
  | n + 1 => fun x2 h => let K230 := p_MO_next_230 Q n; (((h.1 59 8) ≤ (h.1 59 21) → p_MO_next_309 Q   x2 h) ∧ (¬ (h.1 59 8) ≤ (h.1 59 21) → inb (h.1 59 21) 160 ∧ p_MO_in (fun r3 h2 => ((r3 = 0 → p_MO_next_309 Q   x2 h2) ∧ (¬ r3 = 0 → ((4 ≤ x2 → p_MO_next_290 Q  K230 x2 0 h2) ∧ (¬ 4 ≤ x2 → inb (h2.1 59 21) 160 ∧ p_MO_next_290 Q  K230 x2 (((10 * (h2.1 59 24)) + (h2.1 66 (h2.1 59 21))) - 48) h2))))) (h.1 66 (h.1 59 21)) 48 57 h))
def p_MO_next_195 (Q : AH → Prop) (x2 : Int32) (s1 : Int32) (h : AH) : Prop := ((3 ≤ x2 → Q (wI (wI h 59 23 s1) 59 24 (x2 - 3))) ∧ (¬ 3 ≤ x2 → Q (wI (wI h 59 23 s1) 59 24 x2)))
def p_MO_next_146 (Q : AH → Prop) (h : AH) : Prop := p_MO_wordFrom (fun r2 h1 => ((3 ≤ r2 → ((9 ≤ r2 → ((¬ r2 = 12 → p_MO_next_195 Q   r2 ((4 + r2) - 9) h1) ∧ (r2 = 12 → p_MO_next_195 Q   r2 (-1) h1))) ∧ (¬ 9 ≤ r2 → p_MO_next_195 Q   r2 2 h1))) ∧ (¬ 3 ≤ r2 → p_MO_next_195 Q   r2 3 h1))) (h.1 59 22) (h.1 59 21) h
def p_MO_next_103 (Q : AH → Prop) : Nat → AH → Prop
  | 0 => fun  _ => False
  | n + 1 => fun h => let K103 := p_MO_next_103 Q n; (((h.1 59 8) ≤ (h.1 59 21) → p_MO_next_146 Q   h) ∧ (¬ (h.1 59 8) ≤ (h.1 59 21) → inb (h.1 59 21) 160 ∧ p_MO_in (fun r3 h2 => ((r3 = 0 → p_MO_next_146 Q   h2) ∧ (¬ r3 = 0 → K103 (wI h2 59 21 ((h2.1 59 21) + 1))))) (h.1 66 (h.1 59 21)) 97 122 h))
def p_MO_next_52 (Q : AH → Prop) (h : AH) : Prop := ((¬ ((wI (wI (wI h 59 22 (h.1 59 21)) 59 23 0) 59 24 0).1 59 21) = ((wI (wI (wI h 59 22 (h.1 59 21)) 59 23 0) 59 24 0).1 59 8) → inb ((wI (wI (wI h 59 22 (h.1 59 21)) 59 23 0) 59 24 0).1 59 21) 160 ∧ p_MO_in (fun r4 h3 => ((r4 = 0 → p_MO_in (fun r6 h5 => ((r6 = 0 → ((((wI (wI (wI h 59 22 (h.1 59 21)) 59 23 0) 59 24 0).1 66 ((wI (wI (wI h 59 22 (h.1 59 21)) 59 23 0) 59 24 0).1 59 21)) = 40 → p_MO_next_374 Q   ((wI (wI (wI h 59 22 (h.1 59 21)) 59 23 0) 59 24 0).1 66 ((wI (wI (wI h 59 22 (h.1 59 21)) 59 23 0) 59 24 0).1 59 21)) h5) ∧ (¬ ((wI (wI (wI h 59 22 (h.1 59 21)) 59 23 0) 59 24 0).1 66 ((wI (wI (wI h 59 22 (h.1 59 21)) 59 23 0) 59 24 0).1 59 21)) = 40 → ((((wI (wI (wI h 59 22 (h.1 59 21)) 59 23 0) 59 24 0).1 66 ((wI (wI (wI h 59 22 (h.1 59 21)) 59 23 0) 59 24 0).1 59 21)) = 41 → p_MO_next_374 Q   ((wI (wI (wI h 59 22 (h.1 59 21)) 59 23 0) 59 24 0).1 66 ((wI (wI (wI h 59 22 (h.1 59 21)) 59 23 0) 59 24 0).1 59 21)) h5) ∧ (¬ ((wI (wI (wI h 59 22 (h.1 59 21)) 59 23 0) 59 24 0).1 66 ((wI (wI (wI h 59 22 (h.1 59 21)) 59 23 0) 59 24 0).1 59 21)) = 41 → ((((wI (wI (wI h 59 22 (h.1 59 21)) 59 23 0) 59 24 0).1 66 ((wI (wI (wI h 59 22 (h.1 59 21)) 59 23 0) 59 24 0).1 59 21)) = 59 → p_MO_next_374 Q   ((wI (wI (wI h 59 22 (h.1 59 21)) 59 23 0) 59 24 0).1 66 ((wI (wI (wI h 59 22 (h.1 59 21)) 59 23 0) 59 24 0).1 59 21)) h5) ∧ (¬ ((wI (wI (wI h 59 22 (h.1 59 21)) 59 23 0) 59 24 0).1 66 ((wI (wI (wI h 59 22 (h.1 59 21)) 59 23 0) 59 24 0).1 59 21)) = 59 → ((((wI (wI (wI h 59 22 (h.1 59 21)) 59 23 0) 59 24 0).1 66 ((wI (wI (wI h 59 22 (h.1 59 21)) 59 23 0) 59 24 0).1 59 21)) = 43 → p_MO_next_374 Q   ((wI (wI (wI h 59 22 (h.1 59 21)) 59 23 0) 59 24 0).1 66 ((wI (wI (wI h 59 22 (h.1 59 21)) 59 23 0) 59 24 0).1 59 21)) h5) ∧ (¬ ((wI (wI (wI h 59 22 (h.1 59 21)) 59 23 0) 59 24 0).1 66 ((wI (wI (wI h 59 22 (h.1 59 21)) 59 23 0) 59 24 0).1 59 21)) = 43 → ((((wI (wI (wI h 59 22 (h.1 59 21)) 59 23 0) 59 24 0).1 66 ((wI (wI (wI h 59 22 (h.1 59 21)) 59 23 0) 59 24 0).1 59 21)) = 45 → p_MO_next_374 Q   ((wI (wI (wI h 59 22 (h.1 59 21)) 59 23 0) 59 24 0).1 66 ((wI (wI (wI h 59 22 (h.1 59 21)) 59 23 0) 59 24 0).1 59 21)) h5) ∧ (¬ ((wI (wI (wI h 59 22 (h.1 59 21)) 59 23 0) 59 24 0).1 66 ((wI (wI (wI h 59 22 (h.1 59 21)) 59 23 0) 59 24 0).1 59 21)) = 45 → ((((wI (wI (wI h 59 22 (h.1 59 21)) 59 23 0) 59 24 0).1 66 ((wI (wI (wI h 59 22 (h.1 59 21)) 59 23 0) 59 24 0).1 59 21)) = 42 → p_MO_next_374 Q   ((wI (wI (wI h 59 22 (h.1 59 21)) 59 23 0) 59 24 0).1 66 ((wI (wI (wI h 59 22 (h.1 59 21)) 59 23 0) 59 24 0).1 59 21)) h5) ∧ (¬ ((wI (wI (wI h 59 22 (h.1 59 21)) 59 23 0) 59 24 0).1 66 ((wI (wI (wI h 59 22 (h.1 59 21)) 59 23 0) 59 24 0).1 59 21)) = 42 → ((((wI (wI (wI h 59 22 (h.1 59 21)) 59 23 0) 59 24 0).1 66 ((wI (wI (wI h 59 22 (h.1 59 21)) 59 23 0) 59 24 0).1 59 21)) = 60 → p_MO_next_374 Q   ((wI (wI (wI h 59 22 (h.1 59 21)) 59 23 0) 59 24 0).1 66 ((wI (wI (wI h 59 22 (h.1 59 21)) 59 23 0) 59 24 0).1 59 21)) h5) ∧ (¬ ((wI (wI (wI h 59 22 (h.1 59 21)) 59 23 0) 59 24 0).1 66 ((wI (wI (wI h 59 22 (h.1 59 21)) 59 23 0) 59 24 0).1 59 21)) = 60 → ((¬ ((wI (wI (wI h 59 22 (h.1 59 21)) 59 23 0) 59 24 0).1 66 ((wI (wI (wI h 59 22 (h.1 59 21)) 59 23 0) 59 24 0).1 59 21)) = 61 → p_MO_next_379 Q   ((wI (wI (wI h 59 22 (h.1 59 21)) 59 23 0) 59 24 0).1 66 ((wI (wI (wI h 59 22 (h.1 59 21)) 59 23 0) 59 24 0).1 59 21)) 0 h5) ∧ (((wI (wI (wI h 59 22 (h.1 59 21)) 59 23 0) 59 24 0).1 66 ((wI (wI (wI h 59 22 (h.1 59 21)) 59 23 0) 59 24 0).1 59 21)) = 61 → p_MO_next_374 Q   ((wI (wI (wI h 59 22 (h.1 59 21)) 59 23 0) 59 24 0).1 66 ((wI (wI (wI h 59 22 (h.1 59 21)) 59 23 0) 59 24 0).1 59 21)) h5))))))))))))))))) ∧ (¬ r6 = 0 → ∃ n, p_MO_next_230 Q   n 0 h5))) ((wI (wI (wI h 59 22 (h.1 59 21)) 59 23 0) 59 24 0).1 66 ((wI (wI (wI h 59 22 (h.1 59 21)) 59 23 0) 59 24 0).1 59 21)) 48 57 h3) ∧ (¬ r4 = 0 → ∃ n, p_MO_next_103 Q   n h3))) ((wI (wI (wI h 59 22 (h.1 59 21)) 59 23 0) 59 24 0).1 66 ((wI (wI (wI h 59 22 (h.1 59 21)) 59 23 0) 59 24 0).1 59 21)) 97 122 (wI (wI (wI h 59 22 (h.1 59 21)) 59 23 0) 59 24 0)) ∧ (((wI (wI (wI h 59 22 (h.1 59 21)) 59 23 0) 59 24 0).1 59 21) = ((wI (wI (wI h 59 22 (h.1 59 21)) 59 23 0) 59 24 0).1 59 8) → Q (wI (wI (wI h 59 22 (h.1 59 21)) 59 23 0) 59 24 0)))
def p_MO_next_39 (Q : AH → Prop) (K0 : AH → Prop) (h : AH) : Prop := K0 (wI h 59 21 ((h.1 59 21) + 1))
def p_MO_next_0 (Q : AH → Prop) : Nat → AH → Prop
  | 0 => fun  _ => False
  | n + 1 => fun h => let K0 := p_MO_next_0 Q n; (((h.1 59 8) ≤ (h.1 59 21) → p_MO_next_52 Q   h) ∧ (¬ (h.1 59 8) ≤ (h.1 59 21) → inb (h.1 59 21) 160 ∧ (((h.1 66 (h.1 59 21)) = 32 → p_MO_next_39 Q  K0 h) ∧ (¬ (h.1 66 (h.1 59 21)) = 32 → ((¬ (h.1 66 (h.1 59 21)) = 10 → p_MO_next_52 Q   h) ∧ ((h.1 66 (h.1 59 21)) = 10 → p_MO_next_39 Q  K0 h))))))
def p_MO_next (Q : AH → Prop) (h : AH) : Prop := ∃ n, p_MO_next_0 Q   n h
set_option maxRecDepth 20000 in
theorem r_MO_next_379 {G : GG} {d : Nat} {Q : AH → Prop} (x1 : Int32) (s0 : Int32) (h : AH) (H : p_MO_next_379 Q x1 s0 h) : Att G T1 m_MO_next (d + 1) 379 [some (.ref 59), some (.int x1), none] [.int s0] h 0 0 (vQ Q) := by
  refine A_istore_n [some (.ref 59), some (.int x1), some (.int s0)] d_MO_next_379 (by decide) rfl rfl ?_
  refine A_aload_n d_MO_next_380 rfl ?_
  refine A_iload_n d_MO_next_381 rfl ?_
  refine A_if_eq 389 d_MO_next_382 (by decide) (fun z => ?_) (fun z => ?_)
  · have H := H.1 z
    refine A_iconst (-1) (by decide) d_MO_next_389 ?_
    refine A_putI (k := 23) d_MO_next_390 (fo_MO_122_12 rfl) (Or.inr ⟨rfl, _, ft_12_23⟩) (fun z => by cases z) rfl (vA_s (by decide)) rfl rfl rfl ?_
    refine A_aload_n d_MO_next_393 rfl ?_
    refine A_dup rfl d_MO_next_394 ?_
    refine A_get (v := .int ((wI h 59 23 (-1)).1 59 21)) d_MO_next_395 (fo_MO_116_12 rfl) (vA_s (by decide)) rfl rfl ?_
    refine A_iconst 1 (by decide) d_MO_next_398 ?_
    refine A_iadd d_MO_next_399 ?_
    refine A_putI (k := 21) d_MO_next_400 (fo_MO_116_12 rfl) (Or.inr ⟨rfl, _, ft_12_21⟩) (fun z => by cases z) rfl (vA_s (by decide)) rfl rfl rfl ?_
    exact A_ret d_MO_next_403 rfl H
  · have H := H.2 z
    refine A_iload_n d_MO_next_385 rfl ?_
    refine A_goto 390 d_MO_next_386 (by decide) ?_
    refine A_putI (k := 23) d_MO_next_390 (fo_MO_122_12 rfl) (Or.inr ⟨rfl, _, ft_12_23⟩) (fun z => by cases z) rfl (vA_s (by decide)) rfl rfl rfl ?_
    refine A_aload_n d_MO_next_393 rfl ?_
    refine A_dup rfl d_MO_next_394 ?_
    refine A_get (v := .int ((wI h 59 23 x1).1 59 21)) d_MO_next_395 (fo_MO_116_12 rfl) (vA_s (by decide)) rfl rfl ?_
    refine A_iconst 1 (by decide) d_MO_next_398 ?_
    refine A_iadd d_MO_next_399 ?_
    refine A_putI (k := 21) d_MO_next_400 (fo_MO_116_12 rfl) (Or.inr ⟨rfl, _, ft_12_21⟩) (fun z => by cases z) rfl (vA_s (by decide)) rfl rfl rfl ?_
    exact A_ret d_MO_next_403 rfl H
set_option maxRecDepth 20000 in
theorem r_MO_next_374 {G : GG} {d : Nat} {Q : AH → Prop} (x1 : Int32) (h : AH) (H : p_MO_next_374 Q x1 h) : Att G T1 m_MO_next (d + 1) 374 [some (.ref 59), some (.int x1), none] [] h 0 0 (vQ Q) := by
  refine A_iconst 1 (by decide) d_MO_next_374 ?_
  refine A_goto 379 d_MO_next_375 (by decide) ?_
  exact r_MO_next_379   _ _ _ H
set_option maxRecDepth 20000 in
theorem r_MO_next_309 {G : GG} {d : Nat} {Q : AH → Prop} (x2 : Int32) (h : AH) (H : p_MO_next_309 Q x2 h) : Att G T1 m_MO_next (d + 1) 309 [some (.ref 59), none, some (.int x2)] [] h 0 0 (vQ Q) := by
  refine A_aload_n d_MO_next_309 rfl ?_
  refine A_iload_n d_MO_next_310 rfl ?_
  refine A_iconst 4 (by decide) d_MO_next_311 ?_
  refine A_icmp_le 319 d_MO_next_312 (by decide) (fun z => ?_) (fun z => ?_)
  · have H := H.1 z
    refine A_iconst 1 (by decide) d_MO_next_319 ?_
    refine A_putI (k := 23) d_MO_next_320 (fo_MO_122_12 rfl) (Or.inr ⟨rfl, _, ft_12_23⟩) (fun z => by cases z) rfl (vA_s (by decide)) rfl rfl rfl ?_
    refine A_goto 403 d_MO_next_323 (by decide) ?_
    exact A_ret d_MO_next_403 rfl H
  · have H := H.2 z
    refine A_iconst (-1) (by decide) d_MO_next_315 ?_
    refine A_goto 320 d_MO_next_316 (by decide) ?_
    refine A_putI (k := 23) d_MO_next_320 (fo_MO_122_12 rfl) (Or.inr ⟨rfl, _, ft_12_23⟩) (fun z => by cases z) rfl (vA_s (by decide)) rfl rfl rfl ?_
    refine A_goto 403 d_MO_next_323 (by decide) ?_
    exact A_ret d_MO_next_403 rfl H
set_option maxRecDepth 20000 in
theorem r_MO_next_290 {G : GG} {d : Nat} {Q : AH → Prop} {K230 : Int32 → AH → Prop} (k230 : ∀ x2 h, K230 x2 h → Att G T1 m_MO_next (d + 1) 230 [some (.ref 59), none, some (.int x2)] [] h 0 0 (vQ Q)) (x2 : Int32) (s1 : Int32) (h : AH) (H : p_MO_next_290 Q K230 x2 s1 h) : Att G T1 m_MO_next (d + 1) 290 [some (.ref 59), none, some (.int x2)] [.int s1, .ref 59] h 0 0 (vQ Q) := by
  refine A_putI (k := 24) d_MO_next_290 (fo_MO_125_12 rfl) (Or.inr ⟨rfl, _, ft_12_24⟩) (fun z => by cases z) rfl (vA_s (by decide)) rfl rfl rfl ?_
  refine A_iinc 1 [some (.ref 59), none, some (.int (x2 + 1))] d_MO_next_293 rfl (by decide) (by decide) rfl rfl ?_
  refine A_aload_n d_MO_next_296 rfl ?_
  refine A_dup rfl d_MO_next_297 ?_
  refine A_get (v := .int ((wI h 59 24 s1).1 59 21)) d_MO_next_298 (fo_MO_116_12 rfl) (vA_s (by decide)) rfl rfl ?_
  refine A_iconst 1 (by decide) d_MO_next_301 ?_
  refine A_iadd d_MO_next_302 ?_
  refine A_putI (k := 21) d_MO_next_303 (fo_MO_116_12 rfl) (Or.inr ⟨rfl, _, ft_12_21⟩) (fun z => by cases z) rfl (vA_s (by decide)) rfl rfl rfl ?_
  refine A_goto 230 d_MO_next_306 (by decide) ?_
  exact k230 _ _ H
set_option maxRecDepth 20000 in
theorem r_MO_next_230 {G : GG} {d : Nat} {Q : AH → Prop} : ∀ (n : Nat) (x2 : Int32) (h : AH), p_MO_next_230 Q n x2 h → Att G T1 m_MO_next (d + 1) 230 [some (.ref 59), none, some (.int x2)] [] h 0 0 (vQ Q) := by
  intro n
  induction n with
  | zero => intro x2 h H; exact H.elim
  | succ n k230 =>
    intro x2 h H
    refine A_aload_n d_MO_next_230 rfl ?_
    refine A_get (v := .int (h.1 59 21)) d_MO_next_231 (fo_MO_116_12 rfl) (vA_s (by decide)) rfl rfl ?_
    refine A_aload_n d_MO_next_234 rfl ?_
    refine A_get (v := .int (h.1 59 8)) d_MO_next_235 (fo_MO_82_12 rfl) (vA_s (by decide)) rfl rfl ?_
    refine A_icmp_ge 309 d_MO_next_238 (by decide) (fun z => ?_) (fun z => ?_)
    · have H := H.1 z
      exact r_MO_next_309   _ _ H
    · have H := H.2 z
      refine A_aload_n d_MO_next_241 rfl ?_
      refine A_get (v := .ref 66) d_MO_next_242 (fo_MO_28_12 rfl) (vA_s (by decide)) rfl rfl ?_
      refine A_aload_n d_MO_next_245 rfl ?_
      refine A_get (v := .int (h.1 59 21)) d_MO_next_246 (fo_MO_116_12 rfl) (vA_s (by decide)) rfl rfl ?_
      obtain ⟨c1, H⟩ := H
      refine A_iald (n := 160) d_MO_next_249 (vA_s (by decide)) rfl c1 ?_
      refine A_bipush 48 (by decide) d_MO_next_250 ?_
      refine A_bipush 57 (by decide) d_MO_next_252 ?_
      refine A_cI [.int (h.1 66 (h.1 59 21)), .int 48, .int 57] [] (ct_MO_93 rfl) d_MO_next_254 rfl rfl (by decide) (Nat.le_of_ble_eq_true rfl) trivial (ok_MO_in (d := d) H) (fun r3 h2 H => ?_)
      refine A_if_eq 309 d_MO_next_257 (by decide) (fun z => ?_) (fun z => ?_)
      · have H := H.1 z
        exact r_MO_next_309   _ _ H
      · have H := H.2 z
        refine A_aload_n d_MO_next_260 rfl ?_
        refine A_iload_n d_MO_next_261 rfl ?_
        refine A_iconst 4 (by decide) d_MO_next_262 ?_
        refine A_icmp_ge 289 d_MO_next_263 (by decide) (fun z => ?_) (fun z => ?_)
        · have H := H.1 z
          refine A_iconst 0 (by decide) d_MO_next_289 ?_
          exact r_MO_next_290  k230 _ _ _ H
        · have H := H.2 z
          refine A_bipush 10 (by decide) d_MO_next_266 ?_
          refine A_aload_n d_MO_next_268 rfl ?_
          refine A_get (v := .int (h2.1 59 24)) d_MO_next_269 (fo_MO_125_12 rfl) (vA_s (by decide)) rfl rfl ?_
          refine A_imul d_MO_next_272 ?_
          refine A_aload_n d_MO_next_273 rfl ?_
          refine A_get (v := .ref 66) d_MO_next_274 (fo_MO_28_12 rfl) (vA_s (by decide)) rfl rfl ?_
          refine A_aload_n d_MO_next_277 rfl ?_
          refine A_get (v := .int (h2.1 59 21)) d_MO_next_278 (fo_MO_116_12 rfl) (vA_s (by decide)) rfl rfl ?_
          obtain ⟨c4, H⟩ := H
          refine A_iald (n := 160) d_MO_next_281 (vA_s (by decide)) rfl c4 ?_
          refine A_iadd d_MO_next_282 ?_
          refine A_bipush 48 (by decide) d_MO_next_283 ?_
          refine A_isub d_MO_next_285 ?_
          refine A_goto 290 d_MO_next_286 (by decide) ?_
          exact r_MO_next_290  k230 _ _ _ H
set_option maxRecDepth 20000 in
theorem r_MO_next_195 {G : GG} {d : Nat} {Q : AH → Prop} (x2 : Int32) (s1 : Int32) (h : AH) (H : p_MO_next_195 Q x2 s1 h) : Att G T1 m_MO_next (d + 1) 195 [some (.ref 59), none, some (.int x2)] [.int s1, .ref 59] h 0 0 (vQ Q) := by
  refine A_putI (k := 23) d_MO_next_195 (fo_MO_122_12 rfl) (Or.inr ⟨rfl, _, ft_12_23⟩) (fun z => by cases z) rfl (vA_s (by decide)) rfl rfl rfl ?_
  refine A_aload_n d_MO_next_198 rfl ?_
  refine A_iload_n d_MO_next_199 rfl ?_
  refine A_iconst 3 (by decide) d_MO_next_200 ?_
  refine A_icmp_ge 208 d_MO_next_201 (by decide) (fun z => ?_) (fun z => ?_)
  · have H := H.1 z
    refine A_iload_n d_MO_next_208 rfl ?_
    refine A_iconst 3 (by decide) d_MO_next_209 ?_
    refine A_isub d_MO_next_210 ?_
    refine A_putI (k := 24) d_MO_next_211 (fo_MO_125_12 rfl) (Or.inr ⟨rfl, _, ft_12_24⟩) (fun z => by cases z) rfl (vA_s (by decide)) rfl rfl rfl ?_
    refine A_goto 403 d_MO_next_214 (by decide) ?_
    exact A_ret d_MO_next_403 rfl H
  · have H := H.2 z
    refine A_iload_n d_MO_next_204 rfl ?_
    refine A_goto 211 d_MO_next_205 (by decide) ?_
    refine A_putI (k := 24) d_MO_next_211 (fo_MO_125_12 rfl) (Or.inr ⟨rfl, _, ft_12_24⟩) (fun z => by cases z) rfl (vA_s (by decide)) rfl rfl rfl ?_
    refine A_goto 403 d_MO_next_214 (by decide) ?_
    exact A_ret d_MO_next_403 rfl H
set_option maxRecDepth 20000 in
theorem r_MO_next_146 {G : GG} {d : Nat} {Q : AH → Prop} (h : AH) (H : p_MO_next_146 Q h) : Att G T1 m_MO_next (d + 1) 146 [some (.ref 59), none, none] [] h 0 0 (vQ Q) := by
  refine A_aload_n d_MO_next_146 rfl ?_
  refine A_aload_n d_MO_next_147 rfl ?_
  refine A_get (v := .int (h.1 59 22)) d_MO_next_148 (fo_MO_119_12 rfl) (vA_s (by decide)) rfl rfl ?_
  refine A_aload_n d_MO_next_151 rfl ?_
  refine A_get (v := .int (h.1 59 21)) d_MO_next_152 (fo_MO_116_12 rfl) (vA_s (by decide)) rfl rfl ?_
  refine A_cI [.ref 59, .int (h.1 59 22), .int (h.1 59 21)] [] (ct_MO_128 rfl) d_MO_next_155 rfl rfl (by decide) (Nat.le_of_ble_eq_true rfl) (rcA_o (c := 12) rfl (vA_s (by decide)) rfl (by decide) rfl) (ok_MO_wordFrom (d := d) H) (fun r2 h1 H => ?_)
  refine A_istore_n [some (.ref 59), none, some (.int r2)] d_MO_next_158 (by decide) rfl rfl ?_
  refine A_aload_n d_MO_next_159 rfl ?_
  refine A_iload_n d_MO_next_160 rfl ?_
  refine A_iconst 3 (by decide) d_MO_next_161 ?_
  refine A_icmp_ge 169 d_MO_next_162 (by decide) (fun z => ?_) (fun z => ?_)
  · have H := H.1 z
    refine A_iload_n d_MO_next_169 rfl ?_
    refine A_bipush 9 (by decide) d_MO_next_170 ?_
    refine A_icmp_ge 179 d_MO_next_172 (by decide) (fun z => ?_) (fun z => ?_)
    · have H := H.1 z
      refine A_iload_n d_MO_next_179 rfl ?_
      refine A_bipush 12 (by decide) d_MO_next_180 ?_
      refine A_icmp_ne 189 d_MO_next_182 (by decide) (fun z => ?_) (fun z => ?_)
      · have H := H.1 z
        refine A_iconst 4 (by decide) d_MO_next_189 ?_
        refine A_iload_n d_MO_next_190 rfl ?_
        refine A_iadd d_MO_next_191 ?_
        refine A_bipush 9 (by decide) d_MO_next_192 ?_
        refine A_isub d_MO_next_194 ?_
        exact r_MO_next_195   _ _ _ H
      · have H := H.2 z
        refine A_iconst (-1) (by decide) d_MO_next_185 ?_
        refine A_goto 195 d_MO_next_186 (by decide) ?_
        exact r_MO_next_195   _ _ _ H
    · have H := H.2 z
      refine A_iconst 2 (by decide) d_MO_next_175 ?_
      refine A_goto 195 d_MO_next_176 (by decide) ?_
      exact r_MO_next_195   _ _ _ H
  · have H := H.2 z
    refine A_iconst 3 (by decide) d_MO_next_165 ?_
    refine A_goto 195 d_MO_next_166 (by decide) ?_
    exact r_MO_next_195   _ _ _ H
set_option maxRecDepth 20000 in
theorem r_MO_next_103 {G : GG} {d : Nat} {Q : AH → Prop} : ∀ (n : Nat) (h : AH), p_MO_next_103 Q n h → Att G T1 m_MO_next (d + 1) 103 [some (.ref 59), none, none] [] h 0 0 (vQ Q) := by
  intro n
  induction n with
  | zero => intro h H; exact H.elim
  | succ n k103 =>
    intro h H
    refine A_aload_n d_MO_next_103 rfl ?_
    refine A_get (v := .int (h.1 59 21)) d_MO_next_104 (fo_MO_116_12 rfl) (vA_s (by decide)) rfl rfl ?_
    refine A_aload_n d_MO_next_107 rfl ?_
    refine A_get (v := .int (h.1 59 8)) d_MO_next_108 (fo_MO_82_12 rfl) (vA_s (by decide)) rfl rfl ?_
    refine A_icmp_ge 146 d_MO_next_111 (by decide) (fun z => ?_) (fun z => ?_)
    · have H := H.1 z
      exact r_MO_next_146   _ H
    · have H := H.2 z
      refine A_aload_n d_MO_next_114 rfl ?_
      refine A_get (v := .ref 66) d_MO_next_115 (fo_MO_28_12 rfl) (vA_s (by decide)) rfl rfl ?_
      refine A_aload_n d_MO_next_118 rfl ?_
      refine A_get (v := .int (h.1 59 21)) d_MO_next_119 (fo_MO_116_12 rfl) (vA_s (by decide)) rfl rfl ?_
      obtain ⟨c1, H⟩ := H
      refine A_iald (n := 160) d_MO_next_122 (vA_s (by decide)) rfl c1 ?_
      refine A_bipush 97 (by decide) d_MO_next_123 ?_
      refine A_bipush 122 (by decide) d_MO_next_125 ?_
      refine A_cI [.int (h.1 66 (h.1 59 21)), .int 97, .int 122] [] (ct_MO_93 rfl) d_MO_next_127 rfl rfl (by decide) (Nat.le_of_ble_eq_true rfl) trivial (ok_MO_in (d := d) H) (fun r3 h2 H => ?_)
      refine A_if_eq 146 d_MO_next_130 (by decide) (fun z => ?_) (fun z => ?_)
      · have H := H.1 z
        exact r_MO_next_146   _ H
      · have H := H.2 z
        refine A_aload_n d_MO_next_133 rfl ?_
        refine A_dup rfl d_MO_next_134 ?_
        refine A_get (v := .int (h2.1 59 21)) d_MO_next_135 (fo_MO_116_12 rfl) (vA_s (by decide)) rfl rfl ?_
        refine A_iconst 1 (by decide) d_MO_next_138 ?_
        refine A_iadd d_MO_next_139 ?_
        refine A_putI (k := 21) d_MO_next_140 (fo_MO_116_12 rfl) (Or.inr ⟨rfl, _, ft_12_21⟩) (fun z => by cases z) rfl (vA_s (by decide)) rfl rfl rfl ?_
        refine A_goto 103 d_MO_next_143 (by decide) ?_
        exact k103 _ H
set_option maxRecDepth 20000 in
theorem r_MO_next_52 {G : GG} {d : Nat} {Q : AH → Prop} (h : AH) (H : p_MO_next_52 Q h) : Att G T1 m_MO_next (d + 1) 52 [some (.ref 59), none, none] [] h 0 0 (vQ Q) := by
  refine A_aload_n d_MO_next_52 rfl ?_
  refine A_aload_n d_MO_next_53 rfl ?_
  refine A_get (v := .int (h.1 59 21)) d_MO_next_54 (fo_MO_116_12 rfl) (vA_s (by decide)) rfl rfl ?_
  refine A_putI (k := 22) d_MO_next_57 (fo_MO_119_12 rfl) (Or.inr ⟨rfl, _, ft_12_22⟩) (fun z => by cases z) rfl (vA_s (by decide)) rfl rfl rfl ?_
  refine A_aload_n d_MO_next_60 rfl ?_
  refine A_iconst 0 (by decide) d_MO_next_61 ?_
  refine A_putI (k := 23) d_MO_next_62 (fo_MO_122_12 rfl) (Or.inr ⟨rfl, _, ft_12_23⟩) (fun z => by cases z) rfl (vA_s (by decide)) rfl rfl rfl ?_
  refine A_aload_n d_MO_next_65 rfl ?_
  refine A_iconst 0 (by decide) d_MO_next_66 ?_
  refine A_putI (k := 24) d_MO_next_67 (fo_MO_125_12 rfl) (Or.inr ⟨rfl, _, ft_12_24⟩) (fun z => by cases z) rfl (vA_s (by decide)) rfl rfl rfl ?_
  refine A_aload_n d_MO_next_70 rfl ?_
  refine A_get (v := .int ((wI (wI (wI h 59 22 (h.1 59 21)) 59 23 0) 59 24 0).1 59 21)) d_MO_next_71 (fo_MO_116_12 rfl) (vA_s (by decide)) rfl rfl ?_
  refine A_aload_n d_MO_next_74 rfl ?_
  refine A_get (v := .int ((wI (wI (wI h 59 22 (h.1 59 21)) 59 23 0) 59 24 0).1 59 8)) d_MO_next_75 (fo_MO_82_12 rfl) (vA_s (by decide)) rfl rfl ?_
  refine A_icmp_ne 82 d_MO_next_78 (by decide) (fun z => ?_) (fun z => ?_)
  · have H := H.1 z
    refine A_aload_n d_MO_next_82 rfl ?_
    refine A_get (v := .ref 66) d_MO_next_83 (fo_MO_28_12 rfl) (vA_s (by decide)) rfl rfl ?_
    refine A_aload_n d_MO_next_86 rfl ?_
    refine A_get (v := .int ((wI (wI (wI h 59 22 (h.1 59 21)) 59 23 0) 59 24 0).1 59 21)) d_MO_next_87 (fo_MO_116_12 rfl) (vA_s (by decide)) rfl rfl ?_
    obtain ⟨c1, H⟩ := H
    refine A_iald (n := 160) d_MO_next_90 (vA_s (by decide)) rfl c1 ?_
    refine A_istore_n [some (.ref 59), some (.int ((wI (wI (wI h 59 22 (h.1 59 21)) 59 23 0) 59 24 0).1 66 ((wI (wI (wI h 59 22 (h.1 59 21)) 59 23 0) 59 24 0).1 59 21))), none] d_MO_next_91 (by decide) rfl rfl ?_
    refine A_iload_n d_MO_next_92 rfl ?_
    refine A_bipush 97 (by decide) d_MO_next_93 ?_
    refine A_bipush 122 (by decide) d_MO_next_95 ?_
    refine A_cI [.int ((wI (wI (wI h 59 22 (h.1 59 21)) 59 23 0) 59 24 0).1 66 ((wI (wI (wI h 59 22 (h.1 59 21)) 59 23 0) 59 24 0).1 59 21)), .int 97, .int 122] [] (ct_MO_93 rfl) d_MO_next_97 rfl rfl (by decide) (Nat.le_of_ble_eq_true rfl) trivial (ok_MO_in (d := d) H) (fun r4 h3 H => ?_)
    refine A_if_eq 217 d_MO_next_100 (by decide) (fun z => ?_) (fun z => ?_)
    · have H := H.1 z
      refine A_iload_n d_MO_next_217 rfl ?_
      refine A_bipush 48 (by decide) d_MO_next_218 ?_
      refine A_bipush 57 (by decide) d_MO_next_220 ?_
      refine A_cI [.int ((wI (wI (wI h 59 22 (h.1 59 21)) 59 23 0) 59 24 0).1 66 ((wI (wI (wI h 59 22 (h.1 59 21)) 59 23 0) 59 24 0).1 59 21)), .int 48, .int 57] [] (ct_MO_93 rfl) d_MO_next_222 rfl rfl (by decide) (Nat.le_of_ble_eq_true rfl) trivial (ok_MO_in (d := d) H) (fun r6 h5 H => ?_)
      refine A_if_eq 326 d_MO_next_225 (by decide) (fun z => ?_) (fun z => ?_)
      · have H := H.1 z
        refine A_iload_n d_MO_next_326 rfl ?_
        refine A_bipush 40 (by decide) d_MO_next_327 ?_
        refine A_icmp_eq 374 d_MO_next_329 (by decide) (fun z => ?_) (fun z => ?_)
        · have H := H.1 z
          exact r_MO_next_374   _ _ H
        · have H := H.2 z
          refine A_iload_n d_MO_next_332 rfl ?_
          refine A_bipush 41 (by decide) d_MO_next_333 ?_
          refine A_icmp_eq 374 d_MO_next_335 (by decide) (fun z => ?_) (fun z => ?_)
          · have H := H.1 z
            exact r_MO_next_374   _ _ H
          · have H := H.2 z
            refine A_iload_n d_MO_next_338 rfl ?_
            refine A_bipush 59 (by decide) d_MO_next_339 ?_
            refine A_icmp_eq 374 d_MO_next_341 (by decide) (fun z => ?_) (fun z => ?_)
            · have H := H.1 z
              exact r_MO_next_374   _ _ H
            · have H := H.2 z
              refine A_iload_n d_MO_next_344 rfl ?_
              refine A_bipush 43 (by decide) d_MO_next_345 ?_
              refine A_icmp_eq 374 d_MO_next_347 (by decide) (fun z => ?_) (fun z => ?_)
              · have H := H.1 z
                exact r_MO_next_374   _ _ H
              · have H := H.2 z
                refine A_iload_n d_MO_next_350 rfl ?_
                refine A_bipush 45 (by decide) d_MO_next_351 ?_
                refine A_icmp_eq 374 d_MO_next_353 (by decide) (fun z => ?_) (fun z => ?_)
                · have H := H.1 z
                  exact r_MO_next_374   _ _ H
                · have H := H.2 z
                  refine A_iload_n d_MO_next_356 rfl ?_
                  refine A_bipush 42 (by decide) d_MO_next_357 ?_
                  refine A_icmp_eq 374 d_MO_next_359 (by decide) (fun z => ?_) (fun z => ?_)
                  · have H := H.1 z
                    exact r_MO_next_374   _ _ H
                  · have H := H.2 z
                    refine A_iload_n d_MO_next_362 rfl ?_
                    refine A_bipush 60 (by decide) d_MO_next_363 ?_
                    refine A_icmp_eq 374 d_MO_next_365 (by decide) (fun z => ?_) (fun z => ?_)
                    · have H := H.1 z
                      exact r_MO_next_374   _ _ H
                    · have H := H.2 z
                      refine A_iload_n d_MO_next_368 rfl ?_
                      refine A_bipush 61 (by decide) d_MO_next_369 ?_
                      refine A_icmp_ne 378 d_MO_next_371 (by decide) (fun z => ?_) (fun z => ?_)
                      · have H := H.1 z
                        refine A_iconst 0 (by decide) d_MO_next_378 ?_
                        exact r_MO_next_379   _ _ _ H
                      · have H := H.2 z
                        exact r_MO_next_374   _ _ H
      · have H := H.2 z
        refine A_iconst 0 (by decide) d_MO_next_228 ?_
        refine A_istore_n [some (.ref 59), some (.int ((wI (wI (wI h 59 22 (h.1 59 21)) 59 23 0) 59 24 0).1 66 ((wI (wI (wI h 59 22 (h.1 59 21)) 59 23 0) 59 24 0).1 59 21))), some (.int 0)] d_MO_next_229 (by decide) rfl rfl ?_
        refine A_sub (L' := [some (.ref 59), none, some (.int 0)]) ⟨rfl, rfl, trivial⟩ ?_
        obtain ⟨n9, H⟩ := H
        exact r_MO_next_230   n9 _ _ H
    · have H := H.2 z
      refine A_sub (L' := [some (.ref 59), none, none]) ⟨rfl, trivial⟩ ?_
      obtain ⟨n9, H⟩ := H
      exact r_MO_next_103   n9 _ H
  · have H := H.2 z
    exact A_ret d_MO_next_81 rfl H
set_option maxRecDepth 20000 in
theorem r_MO_next_39 {G : GG} {d : Nat} {Q : AH → Prop} {K0 : AH → Prop} (k0 : ∀ h, K0 h → Att G T1 m_MO_next (d + 1) 0 [some (.ref 59), none, none] [] h 0 0 (vQ Q)) (h : AH) (H : p_MO_next_39 Q K0 h) : Att G T1 m_MO_next (d + 1) 39 [some (.ref 59), none, none] [] h 0 0 (vQ Q) := by
  refine A_aload_n d_MO_next_39 rfl ?_
  refine A_dup rfl d_MO_next_40 ?_
  refine A_get (v := .int (h.1 59 21)) d_MO_next_41 (fo_MO_116_12 rfl) (vA_s (by decide)) rfl rfl ?_
  refine A_iconst 1 (by decide) d_MO_next_44 ?_
  refine A_iadd d_MO_next_45 ?_
  refine A_putI (k := 21) d_MO_next_46 (fo_MO_116_12 rfl) (Or.inr ⟨rfl, _, ft_12_21⟩) (fun z => by cases z) rfl (vA_s (by decide)) rfl rfl rfl ?_
  refine A_goto 0 d_MO_next_49 (by decide) ?_
  exact k0 _ H
set_option maxRecDepth 20000 in
theorem r_MO_next_0 {G : GG} {d : Nat} {Q : AH → Prop} : ∀ (n : Nat) (h : AH), p_MO_next_0 Q n h → Att G T1 m_MO_next (d + 1) 0 [some (.ref 59), none, none] [] h 0 0 (vQ Q) := by
  intro n
  induction n with
  | zero => intro h H; exact H.elim
  | succ n k0 =>
    intro h H
    refine A_aload_n d_MO_next_0 rfl ?_
    refine A_get (v := .int (h.1 59 21)) d_MO_next_1 (fo_MO_116_12 rfl) (vA_s (by decide)) rfl rfl ?_
    refine A_aload_n d_MO_next_4 rfl ?_
    refine A_get (v := .int (h.1 59 8)) d_MO_next_5 (fo_MO_82_12 rfl) (vA_s (by decide)) rfl rfl ?_
    refine A_icmp_ge 52 d_MO_next_8 (by decide) (fun z => ?_) (fun z => ?_)
    · have H := H.1 z
      exact r_MO_next_52   _ H
    · have H := H.2 z
      refine A_aload_n d_MO_next_11 rfl ?_
      refine A_get (v := .ref 66) d_MO_next_12 (fo_MO_28_12 rfl) (vA_s (by decide)) rfl rfl ?_
      refine A_aload_n d_MO_next_15 rfl ?_
      refine A_get (v := .int (h.1 59 21)) d_MO_next_16 (fo_MO_116_12 rfl) (vA_s (by decide)) rfl rfl ?_
      obtain ⟨c1, H⟩ := H
      refine A_iald (n := 160) d_MO_next_19 (vA_s (by decide)) rfl c1 ?_
      refine A_bipush 32 (by decide) d_MO_next_20 ?_
      refine A_icmp_eq 39 d_MO_next_22 (by decide) (fun z => ?_) (fun z => ?_)
      · have H := H.1 z
        exact r_MO_next_39  k0 _ H
      · have H := H.2 z
        refine A_aload_n d_MO_next_25 rfl ?_
        refine A_get (v := .ref 66) d_MO_next_26 (fo_MO_28_12 rfl) (vA_s (by decide)) rfl rfl ?_
        refine A_aload_n d_MO_next_29 rfl ?_
        refine A_get (v := .int (h.1 59 21)) d_MO_next_30 (fo_MO_116_12 rfl) (vA_s (by decide)) rfl rfl ?_
        refine A_iald (n := 160) d_MO_next_33 (vA_s (by decide)) rfl c1 ?_
        refine A_bipush 10 (by decide) d_MO_next_34 ?_
        refine A_icmp_ne 52 d_MO_next_36 (by decide) (fun z => ?_) (fun z => ?_)
        · have H := H.1 z
          exact r_MO_next_52   _ H
        · have H := H.2 z
          exact r_MO_next_39  k0 _ H
set_option maxRecDepth 20000 in
theorem r_MO_next_e {G : GG} {d : Nat} {Q : AH → Prop} (h : AH) (H : p_MO_next Q h) : Att G T1 m_MO_next (d + 1) 0 [some (.ref 59), none, none] [] h 0 0 (vQ Q) := by
  obtain ⟨n9, H⟩ := H
  exact r_MO_next_0   n9 _ H
set_option maxRecDepth 20000 in
theorem ok_MO_next {G : GG} {d : Nat} {Q : AH → Prop} {h : AH} (H : p_MO_next Q h) : WP G T1 m_MO_next (d + 1) [.ref 59] h 0 0 (vQ Q) := by
  exact WP.enter 2 (by decide) rfl rfl (r_MO_next_e h H)
theorem d_MO_unwinds_0 : decode prog_14_method_16_code 0 = .ok (.aload_n 0, 1) := by decide +kernel
theorem d_MO_unwinds_1 : decode prog_14_method_16_code 1 = .ok (.getfield 135, 3) := by decide +kernel
theorem d_MO_unwinds_4 : decode prog_14_method_16_code 4 = .ok (.ifCond .le 75, 3) := by decide +kernel
theorem d_MO_unwinds_7 : decode prog_14_method_16_code 7 = .ok (.aload_n 0, 1) := by decide +kernel
theorem d_MO_unwinds_8 : decode prog_14_method_16_code 8 = .ok (.getfield 55, 3) := by decide +kernel
theorem d_MO_unwinds_11 : decode prog_14_method_16_code 11 = .ok (.aload_n 0, 1) := by decide +kernel
theorem d_MO_unwinds_12 : decode prog_14_method_16_code 12 = .ok (.getfield 135, 3) := by decide +kernel
theorem d_MO_unwinds_15 : decode prog_14_method_16_code 15 = .ok (.iconst 1, 1) := by decide +kernel
theorem d_MO_unwinds_16 : decode prog_14_method_16_code 16 = .ok (.isub, 1) := by decide +kernel
theorem d_MO_unwinds_17 : decode prog_14_method_16_code 17 = .ok (.iaload, 1) := by decide +kernel
theorem d_MO_unwinds_18 : decode prog_14_method_16_code 18 = .ok (.invokestatic 138, 3) := by decide +kernel
theorem d_MO_unwinds_21 : decode prog_14_method_16_code 21 = .ok (.iload_n 1, 1) := by decide +kernel
theorem d_MO_unwinds_22 : decode prog_14_method_16_code 22 = .ok (.if_icmp .lt 57, 3) := by decide +kernel
theorem d_MO_unwinds_25 : decode prog_14_method_16_code 25 = .ok (.aload_n 0, 1) := by decide +kernel
theorem d_MO_unwinds_26 : decode prog_14_method_16_code 26 = .ok (.dup, 1) := by decide +kernel
theorem d_MO_unwinds_27 : decode prog_14_method_16_code 27 = .ok (.getfield 135, 3) := by decide +kernel
theorem d_MO_unwinds_30 : decode prog_14_method_16_code 30 = .ok (.iconst 1, 1) := by decide +kernel
theorem d_MO_unwinds_31 : decode prog_14_method_16_code 31 = .ok (.isub, 1) := by decide +kernel
theorem d_MO_unwinds_32 : decode prog_14_method_16_code 32 = .ok (.putfield 135, 3) := by decide +kernel
theorem d_MO_unwinds_35 : decode prog_14_method_16_code 35 = .ok (.aload_n 0, 1) := by decide +kernel
theorem d_MO_unwinds_36 : decode prog_14_method_16_code 36 = .ok (.getfield 55, 3) := by decide +kernel
theorem d_MO_unwinds_39 : decode prog_14_method_16_code 39 = .ok (.aload_n 0, 1) := by decide +kernel
theorem d_MO_unwinds_40 : decode prog_14_method_16_code 40 = .ok (.getfield 135, 3) := by decide +kernel
theorem d_MO_unwinds_43 : decode prog_14_method_16_code 43 = .ok (.iaload, 1) := by decide +kernel
theorem d_MO_unwinds_44 : decode prog_14_method_16_code 44 = .ok (.istore_n 2, 1) := by decide +kernel
theorem d_MO_unwinds_45 : decode prog_14_method_16_code 45 = .ok (.aload_n 0, 1) := by decide +kernel
theorem d_MO_unwinds_46 : decode prog_14_method_16_code 46 = .ok (.dup, 1) := by decide +kernel
theorem d_MO_unwinds_47 : decode prog_14_method_16_code 47 = .ok (.getfield 142, 3) := by decide +kernel
theorem d_MO_unwinds_50 : decode prog_14_method_16_code 50 = .ok (.iload_n 2, 1) := by decide +kernel
theorem d_MO_unwinds_51 : decode prog_14_method_16_code 51 = .ok (.bipush 13, 2) := by decide +kernel
theorem d_MO_unwinds_53 : decode prog_14_method_16_code 53 = .ok (.if_icmp .eq 9, 3) := by decide +kernel
theorem d_MO_unwinds_56 : decode prog_14_method_16_code 56 = .ok (.iload_n 2, 1) := by decide +kernel
theorem d_MO_unwinds_57 : decode prog_14_method_16_code 57 = .ok (.bipush 19, 2) := by decide +kernel
theorem d_MO_unwinds_59 : decode prog_14_method_16_code 59 = .ok (.if_icmp .ne 7, 3) := by decide +kernel
theorem d_MO_unwinds_62 : decode prog_14_method_16_code 62 = .ok (.iconst 1, 1) := by decide +kernel
theorem d_MO_unwinds_63 : decode prog_14_method_16_code 63 = .ok (.goto 4, 3) := by decide +kernel
theorem d_MO_unwinds_66 : decode prog_14_method_16_code 66 = .ok (.iconst 0, 1) := by decide +kernel
theorem d_MO_unwinds_67 : decode prog_14_method_16_code 67 = .ok (.isub, 1) := by decide +kernel
theorem d_MO_unwinds_68 : decode prog_14_method_16_code 68 = .ok (.putfield 142, 3) := by decide +kernel
theorem d_MO_unwinds_71 : decode prog_14_method_16_code 71 = .ok (.aload_n 0, 1) := by decide +kernel
theorem d_MO_unwinds_72 : decode prog_14_method_16_code 72 = .ok (.iload_n 2, 1) := by decide +kernel
theorem d_MO_unwinds_73 : decode prog_14_method_16_code 73 = .ok (.invokevirtual 145, 3) := by decide +kernel
theorem d_MO_unwinds_76 : decode prog_14_method_16_code 76 = .ok (.goto (-76), 3) := by decide +kernel
theorem d_MO_unwinds_79 : decode prog_14_method_16_code 79 = .ok (.return_, 1) := by decide +kernel
def p_MO_unwinds_67 (Q : AH → Prop) (K0 : Int32 → AH → Prop) (x1 : Int32) (x2 : Int32) (s1 : Int32) (s2 : Int32) (h : AH) : Prop := p_MO_puts (fun h1 => K0 x1 h1) x2 (wI h 59 28 (s1 - s2))
def p_MO_unwinds_62 (Q : AH → Prop) (K0 : Int32 → AH → Prop) (x1 : Int32) (x2 : Int32) (s1 : Int32) (h : AH) : Prop := p_MO_unwinds_67 Q  K0 x1 x2 s1 1 h
def p_MO_unwinds_0 (Q : AH → Prop) : Nat → Int32 → AH → Prop
  | 0 => fun _ _ => False
  | n + 1 => fun x1 h => let K0 := p_MO_unwinds_0 Q n; (((h.1 59 27) ≤ 0 → Q h) ∧ (¬ (h.1 59 27) ≤ 0 → inb ((h.1 59 27) - 1) 200 ∧ p_MO_rank (fun r3 h2 => ((r3 < x1 → Q h2) ∧ (¬ r3 < x1 → inb ((wI h2 59 27 ((h2.1 59 27) - 1)).1 59 27) 200 ∧ ((((wI h2 59 27 ((h2.1 59 27) - 1)).1 75 ((wI h2 59 27 ((h2.1 59 27) - 1)).1 59 27)) = 13 → p_MO_unwinds_62 Q  K0 x1 ((wI h2 59 27 ((h2.1 59 27) - 1)).1 75 ((wI h2 59 27 ((h2.1 59 27) - 1)).1 59 27)) ((wI h2 59 27 ((h2.1 59 27) - 1)).1 59 28) (wI h2 59 27 ((h2.1 59 27) - 1))) ∧ (¬ ((wI h2 59 27 ((h2.1 59 27) - 1)).1 75 ((wI h2 59 27 ((h2.1 59 27) - 1)).1 59 27)) = 13 → ((¬ ((wI h2 59 27 ((h2.1 59 27) - 1)).1 75 ((wI h2 59 27 ((h2.1 59 27) - 1)).1 59 27)) = 19 → p_MO_unwinds_67 Q  K0 x1 ((wI h2 59 27 ((h2.1 59 27) - 1)).1 75 ((wI h2 59 27 ((h2.1 59 27) - 1)).1 59 27)) ((wI h2 59 27 ((h2.1 59 27) - 1)).1 59 28) 0 (wI h2 59 27 ((h2.1 59 27) - 1))) ∧ (((wI h2 59 27 ((h2.1 59 27) - 1)).1 75 ((wI h2 59 27 ((h2.1 59 27) - 1)).1 59 27)) = 19 → p_MO_unwinds_62 Q  K0 x1 ((wI h2 59 27 ((h2.1 59 27) - 1)).1 75 ((wI h2 59 27 ((h2.1 59 27) - 1)).1 59 27)) ((wI h2 59 27 ((h2.1 59 27) - 1)).1 59 28) (wI h2 59 27 ((h2.1 59 27) - 1))))))))) (h.1 75 ((h.1 59 27) - 1)) h))
def p_MO_unwinds (Q : AH → Prop) (x1 : Int32) (h : AH) : Prop := ∃ n, p_MO_unwinds_0 Q   n x1 h
set_option maxRecDepth 20000 in
theorem r_MO_unwinds_67 {G : GG} {d : Nat} {Q : AH → Prop} {K0 : Int32 → AH → Prop} (k0 : ∀ x1 h, K0 x1 h → Att G T1 m_MO_unwinds (d + 1) 0 [some (.ref 59), some (.int x1), none] [] h 0 0 (vQ Q)) (x1 : Int32) (x2 : Int32) (s1 : Int32) (s2 : Int32) (h : AH) (H : p_MO_unwinds_67 Q K0 x1 x2 s1 s2 h) : Att G T1 m_MO_unwinds (d + 1) 67 [some (.ref 59), some (.int x1), some (.int x2)] [.int s2, .int s1, .ref 59] h 0 0 (vQ Q) := by
  refine A_isub d_MO_unwinds_67 ?_
  refine A_putI (k := 28) d_MO_unwinds_68 (fo_MO_142_12 rfl) (Or.inr ⟨rfl, _, ft_12_28⟩) (fun z => by cases z) rfl (vA_s (by decide)) rfl rfl rfl ?_
  refine A_aload_n d_MO_unwinds_71 rfl ?_
  refine A_iload_n d_MO_unwinds_72 rfl ?_
  refine A_cV [.ref 59, .int x2] [] (ct_MO_145 rfl) d_MO_unwinds_73 rfl rfl (by decide) (Nat.le_of_ble_eq_true rfl) (rcA_o (c := 12) rfl (vA_s (by decide)) rfl (by decide) rfl) (ok_MO_puts (d := d) H) (fun h1 H => ?_)
  refine A_goto 0 d_MO_unwinds_76 (by decide) ?_
  refine A_sub (L' := [some (.ref 59), some (.int x1), none]) ⟨rfl, rfl, trivial⟩ ?_
  exact k0 _ _ H
set_option maxRecDepth 20000 in
theorem r_MO_unwinds_62 {G : GG} {d : Nat} {Q : AH → Prop} {K0 : Int32 → AH → Prop} (k0 : ∀ x1 h, K0 x1 h → Att G T1 m_MO_unwinds (d + 1) 0 [some (.ref 59), some (.int x1), none] [] h 0 0 (vQ Q)) (x1 : Int32) (x2 : Int32) (s1 : Int32) (h : AH) (H : p_MO_unwinds_62 Q K0 x1 x2 s1 h) : Att G T1 m_MO_unwinds (d + 1) 62 [some (.ref 59), some (.int x1), some (.int x2)] [.int s1, .ref 59] h 0 0 (vQ Q) := by
  refine A_iconst 1 (by decide) d_MO_unwinds_62 ?_
  refine A_goto 67 d_MO_unwinds_63 (by decide) ?_
  exact r_MO_unwinds_67  k0 _ _ _ _ _ H
set_option maxRecDepth 20000 in
theorem r_MO_unwinds_0 {G : GG} {d : Nat} {Q : AH → Prop} : ∀ (n : Nat) (x1 : Int32) (h : AH), p_MO_unwinds_0 Q n x1 h → Att G T1 m_MO_unwinds (d + 1) 0 [some (.ref 59), some (.int x1), none] [] h 0 0 (vQ Q) := by
  intro n
  induction n with
  | zero => intro x1 h H; exact H.elim
  | succ n k0 =>
    intro x1 h H
    refine A_aload_n d_MO_unwinds_0 rfl ?_
    refine A_get (v := .int (h.1 59 27)) d_MO_unwinds_1 (fo_MO_135_12 rfl) (vA_s (by decide)) rfl rfl ?_
    refine A_if_le 79 d_MO_unwinds_4 (by decide) (fun z => ?_) (fun z => ?_)
    · have H := H.1 z
      exact A_ret d_MO_unwinds_79 rfl H
    · have H := H.2 z
      refine A_aload_n d_MO_unwinds_7 rfl ?_
      refine A_get (v := .ref 75) d_MO_unwinds_8 (fo_MO_55_12 rfl) (vA_s (by decide)) rfl rfl ?_
      refine A_aload_n d_MO_unwinds_11 rfl ?_
      refine A_get (v := .int (h.1 59 27)) d_MO_unwinds_12 (fo_MO_135_12 rfl) (vA_s (by decide)) rfl rfl ?_
      refine A_iconst 1 (by decide) d_MO_unwinds_15 ?_
      refine A_isub d_MO_unwinds_16 ?_
      obtain ⟨c1, H⟩ := H
      refine A_iald (n := 200) d_MO_unwinds_17 (vA_s (by decide)) rfl c1 ?_
      refine A_cI [.int (h.1 75 ((h.1 59 27) - 1))] [] (ct_MO_138 rfl) d_MO_unwinds_18 rfl rfl (by decide) (Nat.le_of_ble_eq_true rfl) trivial (ok_MO_rank (d := d) H) (fun r3 h2 H => ?_)
      refine A_iload_n d_MO_unwinds_21 rfl ?_
      refine A_icmp_lt 79 d_MO_unwinds_22 (by decide) (fun z => ?_) (fun z => ?_)
      · have H := H.1 z
        exact A_ret d_MO_unwinds_79 rfl H
      · have H := H.2 z
        refine A_aload_n d_MO_unwinds_25 rfl ?_
        refine A_dup rfl d_MO_unwinds_26 ?_
        refine A_get (v := .int (h2.1 59 27)) d_MO_unwinds_27 (fo_MO_135_12 rfl) (vA_s (by decide)) rfl rfl ?_
        refine A_iconst 1 (by decide) d_MO_unwinds_30 ?_
        refine A_isub d_MO_unwinds_31 ?_
        refine A_putI (k := 27) d_MO_unwinds_32 (fo_MO_135_12 rfl) (Or.inr ⟨rfl, _, ft_12_27⟩) (fun z => by cases z) rfl (vA_s (by decide)) rfl rfl rfl ?_
        refine A_aload_n d_MO_unwinds_35 rfl ?_
        refine A_get (v := .ref 75) d_MO_unwinds_36 (fo_MO_55_12 rfl) (vA_s (by decide)) rfl rfl ?_
        refine A_aload_n d_MO_unwinds_39 rfl ?_
        refine A_get (v := .int ((wI h2 59 27 ((h2.1 59 27) - 1)).1 59 27)) d_MO_unwinds_40 (fo_MO_135_12 rfl) (vA_s (by decide)) rfl rfl ?_
        obtain ⟨c4, H⟩ := H
        refine A_iald (n := 200) d_MO_unwinds_43 (vA_s (by decide)) rfl c4 ?_
        refine A_istore_n [some (.ref 59), some (.int x1), some (.int ((wI h2 59 27 ((h2.1 59 27) - 1)).1 75 ((wI h2 59 27 ((h2.1 59 27) - 1)).1 59 27)))] d_MO_unwinds_44 (by decide) rfl rfl ?_
        refine A_aload_n d_MO_unwinds_45 rfl ?_
        refine A_dup rfl d_MO_unwinds_46 ?_
        refine A_get (v := .int ((wI h2 59 27 ((h2.1 59 27) - 1)).1 59 28)) d_MO_unwinds_47 (fo_MO_142_12 rfl) (vA_s (by decide)) rfl rfl ?_
        refine A_iload_n d_MO_unwinds_50 rfl ?_
        refine A_bipush 13 (by decide) d_MO_unwinds_51 ?_
        refine A_icmp_eq 62 d_MO_unwinds_53 (by decide) (fun z => ?_) (fun z => ?_)
        · have H := H.1 z
          exact r_MO_unwinds_62  k0 _ _ _ _ H
        · have H := H.2 z
          refine A_iload_n d_MO_unwinds_56 rfl ?_
          refine A_bipush 19 (by decide) d_MO_unwinds_57 ?_
          refine A_icmp_ne 66 d_MO_unwinds_59 (by decide) (fun z => ?_) (fun z => ?_)
          · have H := H.1 z
            refine A_iconst 0 (by decide) d_MO_unwinds_66 ?_
            exact r_MO_unwinds_67  k0 _ _ _ _ _ H
          · have H := H.2 z
            exact r_MO_unwinds_62  k0 _ _ _ _ H
set_option maxRecDepth 20000 in
theorem r_MO_unwinds_e {G : GG} {d : Nat} {Q : AH → Prop} (x1 : Int32) (h : AH) (H : p_MO_unwinds Q x1 h) : Att G T1 m_MO_unwinds (d + 1) 0 [some (.ref 59), some (.int x1), none] [] h 0 0 (vQ Q) := by
  obtain ⟨n9, H⟩ := H
  exact r_MO_unwinds_0   n9 _ _ H
set_option maxRecDepth 20000 in
theorem ok_MO_unwinds {G : GG} {d : Nat} {Q : AH → Prop} {x1 : Int32} {h : AH} (H : p_MO_unwinds Q x1 h) : WP G T1 m_MO_unwinds (d + 1) [.ref 59, .int x1] h 0 0 (vQ Q) := by
  exact WP.enter 1 (by decide) rfl rfl (r_MO_unwinds_e x1 h H)
theorem d_MO_opensOne_0 : decode prog_14_method_18_code 0 = .ok (.aload_n 0, 1) := by decide +kernel
theorem d_MO_opensOne_1 : decode prog_14_method_18_code 1 = .ok (.getfield 142, 3) := by decide +kernel
theorem d_MO_opensOne_4 : decode prog_14_method_18_code 4 = .ok (.iconst 5, 1) := by decide +kernel
theorem d_MO_opensOne_5 : decode prog_14_method_18_code 5 = .ok (.if_icmp .ne 5, 3) := by decide +kernel
theorem d_MO_opensOne_8 : decode prog_14_method_18_code 8 = .ok (.iconst 0, 1) := by decide +kernel
theorem d_MO_opensOne_9 : decode prog_14_method_18_code 9 = .ok (.ireturn, 1) := by decide +kernel
theorem d_MO_opensOne_10 : decode prog_14_method_18_code 10 = .ok (.aload_n 0, 1) := by decide +kernel
theorem d_MO_opensOne_11 : decode prog_14_method_18_code 11 = .ok (.dup, 1) := by decide +kernel
theorem d_MO_opensOne_12 : decode prog_14_method_18_code 12 = .ok (.getfield 142, 3) := by decide +kernel
theorem d_MO_opensOne_15 : decode prog_14_method_18_code 15 = .ok (.iconst 1, 1) := by decide +kernel
theorem d_MO_opensOne_16 : decode prog_14_method_18_code 16 = .ok (.iadd, 1) := by decide +kernel
theorem d_MO_opensOne_17 : decode prog_14_method_18_code 17 = .ok (.putfield 142, 3) := by decide +kernel
theorem d_MO_opensOne_20 : decode prog_14_method_18_code 20 = .ok (.aload_n 0, 1) := by decide +kernel
theorem d_MO_opensOne_21 : decode prog_14_method_18_code 21 = .ok (.iload_n 1, 1) := by decide +kernel
theorem d_MO_opensOne_22 : decode prog_14_method_18_code 22 = .ok (.invokevirtual 149, 3) := by decide +kernel
theorem d_MO_opensOne_25 : decode prog_14_method_18_code 25 = .ok (.iconst 1, 1) := by decide +kernel
theorem d_MO_opensOne_26 : decode prog_14_method_18_code 26 = .ok (.ireturn, 1) := by decide +kernel
def p_MO_opensOne (Q : Int32 → AH → Prop) (x1 : Int32) (h : AH) : Prop := ((¬ (h.1 59 28) = 5 → p_MO_holds (fun h1 => Q 1 h1) x1 (wI h 59 28 ((h.1 59 28) + 1))) ∧ ((h.1 59 28) = 5 → Q 0 h))
set_option maxRecDepth 20000 in
theorem r_MO_opensOne_0 {G : GG} {d : Nat} {Q : Int32 → AH → Prop} (x1 : Int32) (h : AH) (H : p_MO_opensOne Q x1 h) : Att G T1 m_MO_opensOne (d + 1) 0 [some (.ref 59), some (.int x1)] [] h 0 0 (iQ Q) := by
  refine A_aload_n d_MO_opensOne_0 rfl ?_
  refine A_get (v := .int (h.1 59 28)) d_MO_opensOne_1 (fo_MO_142_12 rfl) (vA_s (by decide)) rfl rfl ?_
  refine A_iconst 5 (by decide) d_MO_opensOne_4 ?_
  refine A_icmp_ne 10 d_MO_opensOne_5 (by decide) (fun z => ?_) (fun z => ?_)
  · have H := H.1 z
    refine A_aload_n d_MO_opensOne_10 rfl ?_
    refine A_dup rfl d_MO_opensOne_11 ?_
    refine A_get (v := .int (h.1 59 28)) d_MO_opensOne_12 (fo_MO_142_12 rfl) (vA_s (by decide)) rfl rfl ?_
    refine A_iconst 1 (by decide) d_MO_opensOne_15 ?_
    refine A_iadd d_MO_opensOne_16 ?_
    refine A_putI (k := 28) d_MO_opensOne_17 (fo_MO_142_12 rfl) (Or.inr ⟨rfl, _, ft_12_28⟩) (fun z => by cases z) rfl (vA_s (by decide)) rfl rfl rfl ?_
    refine A_aload_n d_MO_opensOne_20 rfl ?_
    refine A_iload_n d_MO_opensOne_21 rfl ?_
    refine A_cV [.ref 59, .int x1] [] (ct_MO_149 rfl) d_MO_opensOne_22 rfl rfl (by decide) (Nat.le_of_ble_eq_true rfl) (rcA_o (c := 12) rfl (vA_s (by decide)) rfl (by decide) rfl) (ok_MO_holds (d := d) H) (fun h1 H => ?_)
    refine A_iconst 1 (by decide) d_MO_opensOne_25 ?_
    exact A_iret d_MO_opensOne_26 rfl rfl H
  · have H := H.2 z
    refine A_iconst 0 (by decide) d_MO_opensOne_8 ?_
    exact A_iret d_MO_opensOne_9 rfl rfl H
set_option maxRecDepth 20000 in
theorem ok_MO_opensOne {G : GG} {d : Nat} {Q : Int32 → AH → Prop} {x1 : Int32} {h : AH} (H : p_MO_opensOne Q x1 h) : WP G T1 m_MO_opensOne (d + 1) [.ref 59, .int x1] h 0 0 (iQ Q) := by
  exact WP.enter 0 (by decide) rfl rfl (r_MO_opensOne_0 x1 h H)
theorem d_MO_chains_0 : decode prog_14_method_7_code 0 = .ok (.iconst 0, 1) := by decide +kernel
theorem d_MO_chains_1 : decode prog_14_method_7_code 1 = .ok (.istore_n 1, 1) := by decide +kernel
theorem d_MO_chains_2 : decode prog_14_method_7_code 2 = .ok (.iconst 0, 1) := by decide +kernel
theorem d_MO_chains_3 : decode prog_14_method_7_code 3 = .ok (.istore_n 2, 1) := by decide +kernel
theorem d_MO_chains_4 : decode prog_14_method_7_code 4 = .ok (.iload_n 2, 1) := by decide +kernel
theorem d_MO_chains_5 : decode prog_14_method_7_code 5 = .ok (.aload_n 0, 1) := by decide +kernel
theorem d_MO_chains_6 : decode prog_14_method_7_code 6 = .ok (.getfield 90, 3) := by decide +kernel
theorem d_MO_chains_9 : decode prog_14_method_7_code 9 = .ok (.if_icmp .ge 25, 3) := by decide +kernel
theorem d_MO_chains_12 : decode prog_14_method_7_code 12 = .ok (.iload_n 1, 1) := by decide +kernel
theorem d_MO_chains_13 : decode prog_14_method_7_code 13 = .ok (.aload_n 0, 1) := by decide +kernel
theorem d_MO_chains_14 : decode prog_14_method_7_code 14 = .ok (.iload_n 2, 1) := by decide +kernel
theorem d_MO_chains_15 : decode prog_14_method_7_code 15 = .ok (.invokevirtual 97, 3) := by decide +kernel
theorem d_MO_chains_18 : decode prog_14_method_7_code 18 = .ok (.ifCond .eq 7, 3) := by decide +kernel
theorem d_MO_chains_21 : decode prog_14_method_7_code 21 = .ok (.iconst 1, 1) := by decide +kernel
theorem d_MO_chains_22 : decode prog_14_method_7_code 22 = .ok (.goto 4, 3) := by decide +kernel
theorem d_MO_chains_25 : decode prog_14_method_7_code 25 = .ok (.iconst 0, 1) := by decide +kernel
theorem d_MO_chains_26 : decode prog_14_method_7_code 26 = .ok (.iadd, 1) := by decide +kernel
theorem d_MO_chains_27 : decode prog_14_method_7_code 27 = .ok (.istore_n 1, 1) := by decide +kernel
theorem d_MO_chains_28 : decode prog_14_method_7_code 28 = .ok (.iinc 2 1, 3) := by decide +kernel
theorem d_MO_chains_31 : decode prog_14_method_7_code 31 = .ok (.goto (-27), 3) := by decide +kernel
theorem d_MO_chains_34 : decode prog_14_method_7_code 34 = .ok (.iload_n 1, 1) := by decide +kernel
theorem d_MO_chains_35 : decode prog_14_method_7_code 35 = .ok (.ireturn, 1) := by decide +kernel
def p_MO_chains_26 (Q : Int32 → AH → Prop) (K4 : Int32 → Int32 → AH → Prop) (x2 : Int32) (s0 : Int32) (s1 : Int32) (h : AH) : Prop := K4 (s0 + s1) (x2 + 1) h
def p_MO_chains_4 (Q : Int32 → AH → Prop) : Nat → Int32 → Int32 → AH → Prop
  | 0 => fun _ _ _ => False
  | n + 1 => fun x1 x2 h => let K4 := p_MO_chains_4 Q n; (((h.1 59 0) ≤ x2 → Q x1 h) ∧ (¬ (h.1 59 0) ≤ x2 → p_MO_isLesser (fun r2 h1 => ((r2 = 0 → p_MO_chains_26 Q  K4 x2 x1 0 h1) ∧ (¬ r2 = 0 → p_MO_chains_26 Q  K4 x2 x1 1 h1))) x2 h))
def p_MO_chains (Q : Int32 → AH → Prop) (h : AH) : Prop := ∃ n, p_MO_chains_4 Q   n 0 0 h
set_option maxRecDepth 20000 in
theorem r_MO_chains_26 {G : GG} {d : Nat} {Q : Int32 → AH → Prop} {K4 : Int32 → Int32 → AH → Prop} (k4 : ∀ x1 x2 h, K4 x1 x2 h → Att G T1 m_MO_chains (d + 1) 4 [some (.ref 59), some (.int x1), some (.int x2)] [] h 0 0 (iQ Q)) (x2 : Int32) (s0 : Int32) (s1 : Int32) (h : AH) (H : p_MO_chains_26 Q K4 x2 s0 s1 h) : Att G T1 m_MO_chains (d + 1) 26 [some (.ref 59), none, some (.int x2)] [.int s1, .int s0] h 0 0 (iQ Q) := by
  refine A_iadd d_MO_chains_26 ?_
  refine A_istore_n [some (.ref 59), some (.int (s0 + s1)), some (.int x2)] d_MO_chains_27 (by decide) rfl rfl ?_
  refine A_iinc 1 [some (.ref 59), some (.int (s0 + s1)), some (.int (x2 + 1))] d_MO_chains_28 rfl (by decide) (by decide) rfl rfl ?_
  refine A_goto 4 d_MO_chains_31 (by decide) ?_
  exact k4 _ _ _ H
set_option maxRecDepth 20000 in
theorem r_MO_chains_4 {G : GG} {d : Nat} {Q : Int32 → AH → Prop} : ∀ (n : Nat) (x1 : Int32) (x2 : Int32) (h : AH), p_MO_chains_4 Q n x1 x2 h → Att G T1 m_MO_chains (d + 1) 4 [some (.ref 59), some (.int x1), some (.int x2)] [] h 0 0 (iQ Q) := by
  intro n
  induction n with
  | zero => intro x1 x2 h H; exact H.elim
  | succ n k4 =>
    intro x1 x2 h H
    refine A_iload_n d_MO_chains_4 rfl ?_
    refine A_aload_n d_MO_chains_5 rfl ?_
    refine A_get (v := .int (h.1 59 0)) d_MO_chains_6 (fo_MO_90_12 rfl) (vA_s (by decide)) rfl rfl ?_
    refine A_icmp_ge 34 d_MO_chains_9 (by decide) (fun z => ?_) (fun z => ?_)
    · have H := H.1 z
      refine A_iload_n d_MO_chains_34 rfl ?_
      exact A_iret d_MO_chains_35 rfl rfl H
    · have H := H.2 z
      refine A_iload_n d_MO_chains_12 rfl ?_
      refine A_aload_n d_MO_chains_13 rfl ?_
      refine A_iload_n d_MO_chains_14 rfl ?_
      refine A_cI [.ref 59, .int x2] [.int x1] (ct_MO_97 rfl) d_MO_chains_15 rfl rfl (by decide) (Nat.le_of_ble_eq_true rfl) (rcA_o (c := 12) rfl (vA_s (by decide)) rfl (by decide) rfl) (ok_MO_isLesser (d := d) H) (fun r2 h1 H => ?_)
      refine A_if_eq 25 d_MO_chains_18 (by decide) (fun z => ?_) (fun z => ?_)
      · have H := H.1 z
        refine A_iconst 0 (by decide) d_MO_chains_25 ?_
        refine A_sub (L' := [some (.ref 59), none, some (.int x2)]) ⟨rfl, rfl, trivial⟩ ?_
        exact r_MO_chains_26  k4 _ _ _ _ H
      · have H := H.2 z
        refine A_iconst 1 (by decide) d_MO_chains_21 ?_
        refine A_goto 26 d_MO_chains_22 (by decide) ?_
        refine A_sub (L' := [some (.ref 59), none, some (.int x2)]) ⟨rfl, rfl, trivial⟩ ?_
        exact r_MO_chains_26  k4 _ _ _ _ H
set_option maxRecDepth 20000 in
theorem r_MO_chains_0 {G : GG} {d : Nat} {Q : Int32 → AH → Prop} (h : AH) (H : p_MO_chains Q h) : Att G T1 m_MO_chains (d + 1) 0 [some (.ref 59), none, none] [] h 0 0 (iQ Q) := by
  refine A_iconst 0 (by decide) d_MO_chains_0 ?_
  refine A_istore_n [some (.ref 59), some (.int 0), none] d_MO_chains_1 (by decide) rfl rfl ?_
  refine A_iconst 0 (by decide) d_MO_chains_2 ?_
  refine A_istore_n [some (.ref 59), some (.int 0), some (.int 0)] d_MO_chains_3 (by decide) rfl rfl ?_
  obtain ⟨n9, H⟩ := H
  exact r_MO_chains_4   n9 _ _ _ H
set_option maxRecDepth 20000 in
theorem ok_MO_chains {G : GG} {d : Nat} {Q : Int32 → AH → Prop} {h : AH} (H : p_MO_chains Q h) : WP G T1 m_MO_chains (d + 1) [.ref 59] h 0 0 (iQ Q) := by
  exact WP.enter 2 (by decide) rfl rfl (r_MO_chains_0 h H)
theorem d_MO_isByte_0 : decode prog_14_method_10_code 0 = .ok (.iload_n 0, 1) := by decide +kernel
theorem d_MO_isByte_1 : decode prog_14_method_10_code 1 = .ok (.iconst 0, 1) := by decide +kernel
theorem d_MO_isByte_2 : decode prog_14_method_10_code 2 = .ok (.sipush 255, 3) := by decide +kernel
theorem d_MO_isByte_5 : decode prog_14_method_10_code 5 = .ok (.invokestatic 93, 3) := by decide +kernel
theorem d_MO_isByte_8 : decode prog_14_method_10_code 8 = .ok (.ireturn, 1) := by decide +kernel
def p_MO_isByte (Q : Int32 → AH → Prop) (x0 : Int32) (h : AH) : Prop := p_MO_in (fun r2 h1 => narrow .boolean (.int r2) = .int r2 ∧ Q r2 h1) x0 0 255 h
set_option maxRecDepth 20000 in
theorem r_MO_isByte_0 {G : GG} {d : Nat} {Q : Int32 → AH → Prop} (x0 : Int32) (h : AH) (H : p_MO_isByte Q x0 h) : Att G T1 m_MO_isByte (d + 1) 0 [some (.int x0)] [] h 0 0 (iQ Q) := by
  refine A_iload_n d_MO_isByte_0 rfl ?_
  refine A_iconst 0 (by decide) d_MO_isByte_1 ?_
  refine A_sipush 255 (by decide) d_MO_isByte_2 ?_
  refine A_cI [.int x0, .int 0, .int 255] [] (ct_MO_93 rfl) d_MO_isByte_5 rfl rfl (by decide) (Nat.le_of_ble_eq_true rfl) trivial (ok_MO_in (d := d) H) (fun r2 h1 H => ?_)
  exact A_iret d_MO_isByte_8 rfl H.1 H.2
set_option maxRecDepth 20000 in
theorem ok_MO_isByte {G : GG} {d : Nat} {Q : Int32 → AH → Prop} {x0 : Int32} {h : AH} (H : p_MO_isByte Q x0 h) : WP G T1 m_MO_isByte (d + 1) [.int x0] h 0 0 (iQ Q) := by
  exact WP.enter 0 (by decide) rfl rfl (r_MO_isByte_0 x0 h H)
theorem d_MO_force_0 : decode prog_14_method_25_code 0 = .ok (.iload_n 1, 1) := by decide +kernel
theorem d_MO_force_1 : decode prog_14_method_25_code 1 = .ok (.iconst 0, 1) := by decide +kernel
theorem d_MO_force_2 : decode prog_14_method_25_code 2 = .ok (.aload_n 0, 1) := by decide +kernel
theorem d_MO_force_3 : decode prog_14_method_25_code 3 = .ok (.getfield 107, 3) := by decide +kernel
theorem d_MO_force_6 : decode prog_14_method_25_code 6 = .ok (.iconst 1, 1) := by decide +kernel
theorem d_MO_force_7 : decode prog_14_method_25_code 7 = .ok (.isub, 1) := by decide +kernel
theorem d_MO_force_8 : decode prog_14_method_25_code 8 = .ok (.invokestatic 93, 3) := by decide +kernel
theorem d_MO_force_11 : decode prog_14_method_25_code 11 = .ok (.ifCond .ne 6, 3) := by decide +kernel
theorem d_MO_force_14 : decode prog_14_method_25_code 14 = .ok (.bipush (-2), 2) := by decide +kernel
theorem d_MO_force_16 : decode prog_14_method_25_code 16 = .ok (.ireturn, 1) := by decide +kernel
theorem d_MO_force_17 : decode prog_14_method_25_code 17 = .ok (.aload_n 0, 1) := by decide +kernel
theorem d_MO_force_18 : decode prog_14_method_25_code 18 = .ok (.getfield 110, 3) := by decide +kernel
theorem d_MO_force_21 : decode prog_14_method_25_code 21 = .ok (.istore_n 2, 1) := by decide +kernel
theorem d_MO_force_22 : decode prog_14_method_25_code 22 = .ok (.aload_n 0, 1) := by decide +kernel
theorem d_MO_force_23 : decode prog_14_method_25_code 23 = .ok (.iload_n 1, 1) := by decide +kernel
theorem d_MO_force_24 : decode prog_14_method_25_code 24 = .ok (.putfield 110, 3) := by decide +kernel
theorem d_MO_force_27 : decode prog_14_method_25_code 27 = .ok (.iload_n 2, 1) := by decide +kernel
theorem d_MO_force_28 : decode prog_14_method_25_code 28 = .ok (.ireturn, 1) := by decide +kernel
def p_MO_force (Q : Int32 → AH → Prop) (x1 : Int32) (h : AH) : Prop := p_MO_in (fun r2 h1 => ((¬ r2 = 0 → Q (h1.1 59 12) (wI h1 59 12 x1)) ∧ (r2 = 0 → Q (-2) h1))) x1 0 ((h.1 59 11) - 1) h
set_option maxRecDepth 20000 in
theorem r_MO_force_0 {G : GG} {d : Nat} {Q : Int32 → AH → Prop} (x1 : Int32) (h : AH) (H : p_MO_force Q x1 h) : Att G T1 m_MO_force (d + 1) 0 [some (.ref 59), some (.int x1), none] [] h 0 0 (iQ Q) := by
  refine A_iload_n d_MO_force_0 rfl ?_
  refine A_iconst 0 (by decide) d_MO_force_1 ?_
  refine A_aload_n d_MO_force_2 rfl ?_
  refine A_get (v := .int (h.1 59 11)) d_MO_force_3 (fo_MO_107_12 rfl) (vA_s (by decide)) rfl rfl ?_
  refine A_iconst 1 (by decide) d_MO_force_6 ?_
  refine A_isub d_MO_force_7 ?_
  refine A_cI [.int x1, .int 0, .int ((h.1 59 11) - 1)] [] (ct_MO_93 rfl) d_MO_force_8 rfl rfl (by decide) (Nat.le_of_ble_eq_true rfl) trivial (ok_MO_in (d := d) H) (fun r2 h1 H => ?_)
  refine A_if_ne 17 d_MO_force_11 (by decide) (fun z => ?_) (fun z => ?_)
  · have H := H.1 z
    refine A_aload_n d_MO_force_17 rfl ?_
    refine A_get (v := .int (h1.1 59 12)) d_MO_force_18 (fo_MO_110_12 rfl) (vA_s (by decide)) rfl rfl ?_
    refine A_istore_n [some (.ref 59), some (.int x1), some (.int (h1.1 59 12))] d_MO_force_21 (by decide) rfl rfl ?_
    refine A_aload_n d_MO_force_22 rfl ?_
    refine A_iload_n d_MO_force_23 rfl ?_
    refine A_putI (k := 12) d_MO_force_24 (fo_MO_110_12 rfl) (Or.inr ⟨rfl, _, ft_12_12⟩) (fun z => by cases z) rfl (vA_s (by decide)) rfl rfl rfl ?_
    refine A_iload_n d_MO_force_27 rfl ?_
    exact A_iret d_MO_force_28 rfl rfl H
  · have H := H.2 z
    refine A_bipush (-2) (by decide) d_MO_force_14 ?_
    exact A_iret d_MO_force_16 rfl rfl H
set_option maxRecDepth 20000 in
theorem ok_MO_force {G : GG} {d : Nat} {Q : Int32 → AH → Prop} {x1 : Int32} {h : AH} (H : p_MO_force Q x1 h) : WP G T1 m_MO_force (d + 1) [.ref 59, .int x1] h 0 0 (iQ Q) := by
  exact WP.enter 1 (by decide) rfl rfl (r_MO_force_0 x1 h H)
theorem d_MO_isHouse_0 : decode prog_14_method_5_code 0 = .ok (.iload_n 1, 1) := by decide +kernel
theorem d_MO_isHouse_1 : decode prog_14_method_5_code 1 = .ok (.iconst 0, 1) := by decide +kernel
theorem d_MO_isHouse_2 : decode prog_14_method_5_code 2 = .ok (.aload_n 0, 1) := by decide +kernel
theorem d_MO_isHouse_3 : decode prog_14_method_5_code 3 = .ok (.getfield 90, 3) := by decide +kernel
theorem d_MO_isHouse_6 : decode prog_14_method_5_code 6 = .ok (.iconst 1, 1) := by decide +kernel
theorem d_MO_isHouse_7 : decode prog_14_method_5_code 7 = .ok (.isub, 1) := by decide +kernel
theorem d_MO_isHouse_8 : decode prog_14_method_5_code 8 = .ok (.invokestatic 93, 3) := by decide +kernel
theorem d_MO_isHouse_11 : decode prog_14_method_5_code 11 = .ok (.ireturn, 1) := by decide +kernel
def p_MO_isHouse (Q : Int32 → AH → Prop) (x1 : Int32) (h : AH) : Prop := p_MO_in (fun r2 h1 => narrow .boolean (.int r2) = .int r2 ∧ Q r2 h1) x1 0 ((h.1 59 0) - 1) h
set_option maxRecDepth 20000 in
theorem r_MO_isHouse_0 {G : GG} {d : Nat} {Q : Int32 → AH → Prop} (x1 : Int32) (h : AH) (H : p_MO_isHouse Q x1 h) : Att G T1 m_MO_isHouse (d + 1) 0 [some (.ref 59), some (.int x1)] [] h 0 0 (iQ Q) := by
  refine A_iload_n d_MO_isHouse_0 rfl ?_
  refine A_iconst 0 (by decide) d_MO_isHouse_1 ?_
  refine A_aload_n d_MO_isHouse_2 rfl ?_
  refine A_get (v := .int (h.1 59 0)) d_MO_isHouse_3 (fo_MO_90_12 rfl) (vA_s (by decide)) rfl rfl ?_
  refine A_iconst 1 (by decide) d_MO_isHouse_6 ?_
  refine A_isub d_MO_isHouse_7 ?_
  refine A_cI [.int x1, .int 0, .int ((h.1 59 0) - 1)] [] (ct_MO_93 rfl) d_MO_isHouse_8 rfl rfl (by decide) (Nat.le_of_ble_eq_true rfl) trivial (ok_MO_in (d := d) H) (fun r2 h1 H => ?_)
  exact A_iret d_MO_isHouse_11 rfl H.1 H.2
set_option maxRecDepth 20000 in
theorem ok_MO_isHouse {G : GG} {d : Nat} {Q : Int32 → AH → Prop} {x1 : Int32} {h : AH} (H : p_MO_isHouse Q x1 h) : WP G T1 m_MO_isHouse (d + 1) [.ref 59, .int x1] h 0 0 (iQ Q) := by
  exact WP.enter 0 (by decide) rfl rfl (r_MO_isHouse_0 x1 h H)
theorem d_MO_isMany_0 : decode prog_14_method_27_code 0 = .ok (.iload_n 0, 1) := by decide +kernel
theorem d_MO_isMany_1 : decode prog_14_method_27_code 1 = .ok (.iconst 0, 1) := by decide +kernel
theorem d_MO_isMany_2 : decode prog_14_method_27_code 2 = .ok (.bipush 24, 2) := by decide +kernel
theorem d_MO_isMany_4 : decode prog_14_method_27_code 4 = .ok (.invokestatic 93, 3) := by decide +kernel
theorem d_MO_isMany_7 : decode prog_14_method_27_code 7 = .ok (.ireturn, 1) := by decide +kernel
def p_MO_isMany (Q : Int32 → AH → Prop) (x0 : Int32) (h : AH) : Prop := p_MO_in (fun r2 h1 => narrow .boolean (.int r2) = .int r2 ∧ Q r2 h1) x0 0 24 h
set_option maxRecDepth 20000 in
theorem r_MO_isMany_0 {G : GG} {d : Nat} {Q : Int32 → AH → Prop} (x0 : Int32) (h : AH) (H : p_MO_isMany Q x0 h) : Att G T1 m_MO_isMany (d + 1) 0 [some (.int x0)] [] h 0 0 (iQ Q) := by
  refine A_iload_n d_MO_isMany_0 rfl ?_
  refine A_iconst 0 (by decide) d_MO_isMany_1 ?_
  refine A_bipush 24 (by decide) d_MO_isMany_2 ?_
  refine A_cI [.int x0, .int 0, .int 24] [] (ct_MO_93 rfl) d_MO_isMany_4 rfl rfl (by decide) (Nat.le_of_ble_eq_true rfl) trivial (ok_MO_in (d := d) H) (fun r2 h1 H => ?_)
  exact A_iret d_MO_isMany_7 rfl H.1 H.2
set_option maxRecDepth 20000 in
theorem ok_MO_isMany {G : GG} {d : Nat} {Q : Int32 → AH → Prop} {x0 : Int32} {h : AH} (H : p_MO_isMany Q x0 h) : WP G T1 m_MO_isMany (d + 1) [.int x0] h 0 0 (iQ Q) := by
  exact WP.enter 0 (by decide) rfl rfl (r_MO_isMany_0 x0 h H)
theorem d_MO_says_0 : decode prog_14_method_24_code 0 = .ok (.iconst 0, 1) := by decide +kernel
theorem d_MO_says_1 : decode prog_14_method_24_code 1 = .ok (.istore_n 2, 1) := by decide +kernel
theorem d_MO_says_2 : decode prog_14_method_24_code 2 = .ok (.aload_n 0, 1) := by decide +kernel
theorem d_MO_says_3 : decode prog_14_method_24_code 3 = .ok (.getfield 34, 3) := by decide +kernel
theorem d_MO_says_6 : decode prog_14_method_24_code 6 = .ok (.iconst 4, 1) := by decide +kernel
theorem d_MO_says_7 : decode prog_14_method_24_code 7 = .ok (.aload_n 0, 1) := by decide +kernel
theorem d_MO_says_8 : decode prog_14_method_24_code 8 = .ok (.getfield 110, 3) := by decide +kernel
theorem d_MO_says_11 : decode prog_14_method_24_code 11 = .ok (.imul, 1) := by decide +kernel
theorem d_MO_says_12 : decode prog_14_method_24_code 12 = .ok (.iload_n 1, 1) := by decide +kernel
theorem d_MO_says_13 : decode prog_14_method_24_code 13 = .ok (.iadd, 1) := by decide +kernel
theorem d_MO_says_14 : decode prog_14_method_24_code 14 = .ok (.iaload, 1) := by decide +kernel
theorem d_MO_says_15 : decode prog_14_method_24_code 15 = .ok (.istore_n 3, 1) := by decide +kernel
theorem d_MO_says_16 : decode prog_14_method_24_code 16 = .ok (.iload_n 3, 1) := by decide +kernel
theorem d_MO_says_17 : decode prog_14_method_24_code 17 = .ok (.aload_n 0, 1) := by decide +kernel
theorem d_MO_says_18 : decode prog_14_method_24_code 18 = .ok (.getfield 34, 3) := by decide +kernel
theorem d_MO_says_21 : decode prog_14_method_24_code 21 = .ok (.iconst 4, 1) := by decide +kernel
theorem d_MO_says_22 : decode prog_14_method_24_code 22 = .ok (.aload_n 0, 1) := by decide +kernel
theorem d_MO_says_23 : decode prog_14_method_24_code 23 = .ok (.getfield 110, 3) := by decide +kernel
theorem d_MO_says_26 : decode prog_14_method_24_code 26 = .ok (.imul, 1) := by decide +kernel
theorem d_MO_says_27 : decode prog_14_method_24_code 27 = .ok (.iload_n 1, 1) := by decide +kernel
theorem d_MO_says_28 : decode prog_14_method_24_code 28 = .ok (.iadd, 1) := by decide +kernel
theorem d_MO_says_29 : decode prog_14_method_24_code 29 = .ok (.iconst 1, 1) := by decide +kernel
theorem d_MO_says_30 : decode prog_14_method_24_code 30 = .ok (.iadd, 1) := by decide +kernel
theorem d_MO_says_31 : decode prog_14_method_24_code 31 = .ok (.iaload, 1) := by decide +kernel
theorem d_MO_says_32 : decode prog_14_method_24_code 32 = .ok (.if_icmp .ge 165, 3) := by decide +kernel
theorem d_MO_says_35 : decode prog_14_method_24_code 35 = .ok (.aload_n 0, 1) := by decide +kernel
theorem d_MO_says_36 : decode prog_14_method_24_code 36 = .ok (.getfield 31, 3) := by decide +kernel
theorem d_MO_says_39 : decode prog_14_method_24_code 39 = .ok (.sipush 200, 3) := by decide +kernel
theorem d_MO_says_42 : decode prog_14_method_24_code 42 = .ok (.aload_n 0, 1) := by decide +kernel
theorem d_MO_says_43 : decode prog_14_method_24_code 43 = .ok (.getfield 110, 3) := by decide +kernel
theorem d_MO_says_46 : decode prog_14_method_24_code 46 = .ok (.imul, 1) := by decide +kernel
theorem d_MO_says_47 : decode prog_14_method_24_code 47 = .ok (.iload_n 3, 1) := by decide +kernel
theorem d_MO_says_48 : decode prog_14_method_24_code 48 = .ok (.iadd, 1) := by decide +kernel
theorem d_MO_says_49 : decode prog_14_method_24_code 49 = .ok (.iaload, 1) := by decide +kernel
theorem d_MO_says_50 : decode prog_14_method_24_code 50 = .ok (.istore 4, 2) := by decide +kernel
theorem d_MO_says_52 : decode prog_14_method_24_code 52 = .ok (.iload 4, 2) := by decide +kernel
theorem d_MO_says_54 : decode prog_14_method_24_code 54 = .ok (.ldc 158, 2) := by decide +kernel
theorem d_MO_says_56 : decode prog_14_method_24_code 56 = .ok (.if_icmp .ge 10, 3) := by decide +kernel
theorem d_MO_says_59 : decode prog_14_method_24_code 59 = .ok (.iload 4, 2) := by decide +kernel
theorem d_MO_says_61 : decode prog_14_method_24_code 61 = .ok (.bipush 11, 2) := by decide +kernel
theorem d_MO_says_63 : decode prog_14_method_24_code 63 = .ok (.if_icmp .ge 37, 3) := by decide +kernel
theorem d_MO_says_66 : decode prog_14_method_24_code 66 = .ok (.aload_n 0, 1) := by decide +kernel
theorem d_MO_says_67 : decode prog_14_method_24_code 67 = .ok (.getfield 58, 3) := by decide +kernel
theorem d_MO_says_70 : decode prog_14_method_24_code 70 = .ok (.iload_n 2, 1) := by decide +kernel
theorem d_MO_says_71 : decode prog_14_method_24_code 71 = .ok (.iload 4, 2) := by decide +kernel
theorem d_MO_says_73 : decode prog_14_method_24_code 73 = .ok (.bipush 11, 2) := by decide +kernel
theorem d_MO_says_75 : decode prog_14_method_24_code 75 = .ok (.if_icmp .ge 13, 3) := by decide +kernel
theorem d_MO_says_78 : decode prog_14_method_24_code 78 = .ok (.aload_n 0, 1) := by decide +kernel
theorem d_MO_says_79 : decode prog_14_method_24_code 79 = .ok (.getfield 61, 3) := by decide +kernel
theorem d_MO_says_82 : decode prog_14_method_24_code 82 = .ok (.iload 4, 2) := by decide +kernel
theorem d_MO_says_84 : decode prog_14_method_24_code 84 = .ok (.iaload, 1) := by decide +kernel
theorem d_MO_says_85 : decode prog_14_method_24_code 85 = .ok (.goto 8, 3) := by decide +kernel
theorem d_MO_says_88 : decode prog_14_method_24_code 88 = .ok (.iload 4, 2) := by decide +kernel
theorem d_MO_says_90 : decode prog_14_method_24_code 90 = .ok (.ldc 158, 2) := by decide +kernel
theorem d_MO_says_92 : decode prog_14_method_24_code 92 = .ok (.isub, 1) := by decide +kernel
theorem d_MO_says_93 : decode prog_14_method_24_code 93 = .ok (.iastore, 1) := by decide +kernel
theorem d_MO_says_94 : decode prog_14_method_24_code 94 = .ok (.iinc 2 1, 3) := by decide +kernel
theorem d_MO_says_97 : decode prog_14_method_24_code 97 = .ok (.goto 94, 3) := by decide +kernel
theorem d_MO_says_100 : decode prog_14_method_24_code 100 = .ok (.iload 4, 2) := by decide +kernel
theorem d_MO_says_102 : decode prog_14_method_24_code 102 = .ok (.bipush 13, 2) := by decide +kernel
theorem d_MO_says_104 : decode prog_14_method_24_code 104 = .ok (.if_icmp .ne 30, 3) := by decide +kernel
theorem d_MO_says_107 : decode prog_14_method_24_code 107 = .ok (.aload_n 0, 1) := by decide +kernel
theorem d_MO_says_108 : decode prog_14_method_24_code 108 = .ok (.getfield 58, 3) := by decide +kernel
theorem d_MO_says_111 : decode prog_14_method_24_code 111 = .ok (.iload_n 2, 1) := by decide +kernel
theorem d_MO_says_112 : decode prog_14_method_24_code 112 = .ok (.iconst 1, 1) := by decide +kernel
theorem d_MO_says_113 : decode prog_14_method_24_code 113 = .ok (.isub, 1) := by decide +kernel
theorem d_MO_says_114 : decode prog_14_method_24_code 114 = .ok (.aload_n 0, 1) := by decide +kernel
theorem d_MO_says_115 : decode prog_14_method_24_code 115 = .ok (.getfield 58, 3) := by decide +kernel
theorem d_MO_says_118 : decode prog_14_method_24_code 118 = .ok (.iload_n 2, 1) := by decide +kernel
theorem d_MO_says_119 : decode prog_14_method_24_code 119 = .ok (.iconst 1, 1) := by decide +kernel
theorem d_MO_says_120 : decode prog_14_method_24_code 120 = .ok (.isub, 1) := by decide +kernel
theorem d_MO_says_121 : decode prog_14_method_24_code 121 = .ok (.iaload, 1) := by decide +kernel
theorem d_MO_says_122 : decode prog_14_method_24_code 122 = .ok (.ifCond .ne 7, 3) := by decide +kernel
theorem d_MO_says_125 : decode prog_14_method_24_code 125 = .ok (.iconst 1, 1) := by decide +kernel
theorem d_MO_says_126 : decode prog_14_method_24_code 126 = .ok (.goto 4, 3) := by decide +kernel
theorem d_MO_says_129 : decode prog_14_method_24_code 129 = .ok (.iconst 0, 1) := by decide +kernel
theorem d_MO_says_130 : decode prog_14_method_24_code 130 = .ok (.iastore, 1) := by decide +kernel
theorem d_MO_says_131 : decode prog_14_method_24_code 131 = .ok (.goto 60, 3) := by decide +kernel
theorem d_MO_says_134 : decode prog_14_method_24_code 134 = .ok (.iload 4, 2) := by decide +kernel
theorem d_MO_says_136 : decode prog_14_method_24_code 136 = .ok (.bipush 19, 2) := by decide +kernel
theorem d_MO_says_138 : decode prog_14_method_24_code 138 = .ok (.if_icmp .ne 23, 3) := by decide +kernel
theorem d_MO_says_141 : decode prog_14_method_24_code 141 = .ok (.aload_n 0, 1) := by decide +kernel
theorem d_MO_says_142 : decode prog_14_method_24_code 142 = .ok (.getfield 58, 3) := by decide +kernel
theorem d_MO_says_145 : decode prog_14_method_24_code 145 = .ok (.iload_n 2, 1) := by decide +kernel
theorem d_MO_says_146 : decode prog_14_method_24_code 146 = .ok (.iconst 1, 1) := by decide +kernel
theorem d_MO_says_147 : decode prog_14_method_24_code 147 = .ok (.isub, 1) := by decide +kernel
theorem d_MO_says_148 : decode prog_14_method_24_code 148 = .ok (.aload_n 0, 1) := by decide +kernel
theorem d_MO_says_149 : decode prog_14_method_24_code 149 = .ok (.getfield 58, 3) := by decide +kernel
theorem d_MO_says_152 : decode prog_14_method_24_code 152 = .ok (.iload_n 2, 1) := by decide +kernel
theorem d_MO_says_153 : decode prog_14_method_24_code 153 = .ok (.iconst 1, 1) := by decide +kernel
theorem d_MO_says_154 : decode prog_14_method_24_code 154 = .ok (.isub, 1) := by decide +kernel
theorem d_MO_says_155 : decode prog_14_method_24_code 155 = .ok (.iaload, 1) := by decide +kernel
theorem d_MO_says_156 : decode prog_14_method_24_code 156 = .ok (.ineg, 1) := by decide +kernel
theorem d_MO_says_157 : decode prog_14_method_24_code 157 = .ok (.iastore, 1) := by decide +kernel
theorem d_MO_says_158 : decode prog_14_method_24_code 158 = .ok (.goto 33, 3) := by decide +kernel
theorem d_MO_says_161 : decode prog_14_method_24_code 161 = .ok (.iinc 2 (-1), 3) := by decide +kernel
theorem d_MO_says_164 : decode prog_14_method_24_code 164 = .ok (.aload_n 0, 1) := by decide +kernel
theorem d_MO_says_165 : decode prog_14_method_24_code 165 = .ok (.getfield 58, 3) := by decide +kernel
theorem d_MO_says_168 : decode prog_14_method_24_code 168 = .ok (.iload_n 2, 1) := by decide +kernel
theorem d_MO_says_169 : decode prog_14_method_24_code 169 = .ok (.iconst 1, 1) := by decide +kernel
theorem d_MO_says_170 : decode prog_14_method_24_code 170 = .ok (.isub, 1) := by decide +kernel
theorem d_MO_says_171 : decode prog_14_method_24_code 171 = .ok (.iload 4, 2) := by decide +kernel
theorem d_MO_says_173 : decode prog_14_method_24_code 173 = .ok (.aload_n 0, 1) := by decide +kernel
theorem d_MO_says_174 : decode prog_14_method_24_code 174 = .ok (.getfield 58, 3) := by decide +kernel
theorem d_MO_says_177 : decode prog_14_method_24_code 177 = .ok (.iload_n 2, 1) := by decide +kernel
theorem d_MO_says_178 : decode prog_14_method_24_code 178 = .ok (.iconst 1, 1) := by decide +kernel
theorem d_MO_says_179 : decode prog_14_method_24_code 179 = .ok (.isub, 1) := by decide +kernel
theorem d_MO_says_180 : decode prog_14_method_24_code 180 = .ok (.iaload, 1) := by decide +kernel
theorem d_MO_says_181 : decode prog_14_method_24_code 181 = .ok (.aload_n 0, 1) := by decide +kernel
theorem d_MO_says_182 : decode prog_14_method_24_code 182 = .ok (.getfield 58, 3) := by decide +kernel
theorem d_MO_says_185 : decode prog_14_method_24_code 185 = .ok (.iload_n 2, 1) := by decide +kernel
theorem d_MO_says_186 : decode prog_14_method_24_code 186 = .ok (.iaload, 1) := by decide +kernel
theorem d_MO_says_187 : decode prog_14_method_24_code 187 = .ok (.invokestatic 172, 3) := by decide +kernel
theorem d_MO_says_190 : decode prog_14_method_24_code 190 = .ok (.iastore, 1) := by decide +kernel
theorem d_MO_says_191 : decode prog_14_method_24_code 191 = .ok (.iinc 3 1, 3) := by decide +kernel
theorem d_MO_says_194 : decode prog_14_method_24_code 194 = .ok (.goto (-178), 3) := by decide +kernel
theorem d_MO_says_197 : decode prog_14_method_24_code 197 = .ok (.aload_n 0, 1) := by decide +kernel
theorem d_MO_says_198 : decode prog_14_method_24_code 198 = .ok (.getfield 58, 3) := by decide +kernel
theorem d_MO_says_201 : decode prog_14_method_24_code 201 = .ok (.iconst 0, 1) := by decide +kernel
theorem d_MO_says_202 : decode prog_14_method_24_code 202 = .ok (.iaload, 1) := by decide +kernel
theorem d_MO_says_203 : decode prog_14_method_24_code 203 = .ok (.ireturn, 1) := by decide +kernel
def p_MO_says_191 (Q : Int32 → AH → Prop) (K16 : Int32 → Int32 → Int32 → AH → Prop) (x1 : Int32) (x2 : Int32) (x3 : Int32) (h : AH) : Prop := K16 x1 x2 (x3 + 1) h
def p_MO_says_130 (Q : Int32 → AH → Prop) (K16 : Int32 → Int32 → Int32 → AH → Prop) (x1 : Int32) (x2 : Int32) (x3 : Int32) (s1 : Int32) (s2 : Int32) (h : AH) : Prop := inb s1 200 ∧ p_MO_says_191 Q  K16 x1 x2 x3 (wI h 76 s1 s2)
def p_MO_says_93 (Q : Int32 → AH → Prop) (K16 : Int32 → Int32 → Int32 → AH → Prop) (x1 : Int32) (x2 : Int32) (x3 : Int32) (s1 : Int32) (s2 : Int32) (h : AH) : Prop := inb s1 200 ∧ p_MO_says_191 Q  K16 x1 (x2 + 1) x3 (wI h 76 s1 s2)
def p_MO_says_66 (Q : Int32 → AH → Prop) (K16 : Int32 → Int32 → Int32 → AH → Prop) (x1 : Int32) (x2 : Int32) (x3 : Int32) (x4 : Int32) (h : AH) : Prop := ((11 ≤ x4 → p_MO_says_93 Q  K16 x1 x2 x3 x2 (x4 - 100000) h) ∧ (¬ 11 ≤ x4 → inb x4 6 ∧ p_MO_says_93 Q  K16 x1 x2 x3 x2 (h.1 77 x4) h))
def p_MO_says_16 (Q : Int32 → AH → Prop) : Nat → Int32 → Int32 → Int32 → AH → Prop
  | 0 => fun _ _ _ _ => False
  | n + 1 => fun x1 x2 x3 h => let K16 := p_MO_says_16 Q n; inb (((4 * (h.1 59 12)) + x1) + 1) 24 ∧ (((h.1 68 (((4 * (h.1 59 12)) + x1) + 1)) ≤ x3 → Q (h.1 76 0) h) ∧ (¬ (h.1 68 (((4 * (h.1 59 12)) + x1) + 1)) ≤ x3 → inb ((200 * (h.1 59 12)) + x3) 1200 ∧ ((100000 ≤ (h.1 67 ((200 * (h.1 59 12)) + x3)) → p_MO_says_66 Q  K16 x1 x2 x3 (h.1 67 ((200 * (h.1 59 12)) + x3)) h) ∧ (¬ 100000 ≤ (h.1 67 ((200 * (h.1 59 12)) + x3)) → ((11 ≤ (h.1 67 ((200 * (h.1 59 12)) + x3)) → ((¬ (h.1 67 ((200 * (h.1 59 12)) + x3)) = 13 → ((¬ (h.1 67 ((200 * (h.1 59 12)) + x3)) = 19 → inb ((x2 + (-1)) - 1) 200 ∧ inb (x2 + (-1)) 200 ∧ p_MO_two (fun r6 h5 => inb ((x2 + (-1)) - 1) 200 ∧ p_MO_says_191 Q  K16 x1 (x2 + (-1)) x3 (wI h5 76 ((x2 + (-1)) - 1) r6)) (h.1 67 ((200 * (h.1 59 12)) + x3)) (h.1 76 ((x2 + (-1)) - 1)) (h.1 76 (x2 + (-1))) h) ∧ ((h.1 67 ((200 * (h.1 59 12)) + x3)) = 19 → inb (x2 - 1) 200 ∧ p_MO_says_191 Q  K16 x1 x2 x3 (wI h 76 (x2 - 1) (-(h.1 76 (x2 - 1))))))) ∧ ((h.1 67 ((200 * (h.1 59 12)) + x3)) = 13 → inb (x2 - 1) 200 ∧ ((¬ (h.1 76 (x2 - 1)) = 0 → p_MO_says_130 Q  K16 x1 x2 x3 (x2 - 1) 0 h) ∧ ((h.1 76 (x2 - 1)) = 0 → p_MO_says_130 Q  K16 x1 x2 x3 (x2 - 1) 1 h))))) ∧ (¬ 11 ≤ (h.1 67 ((200 * (h.1 59 12)) + x3)) → p_MO_says_66 Q  K16 x1 x2 x3 (h.1 67 ((200 * (h.1 59 12)) + x3)) h))))))
def p_MO_says (Q : Int32 → AH → Prop) (x1 : Int32) (h : AH) : Prop := inb ((4 * (h.1 59 12)) + x1) 24 ∧ ∃ n, p_MO_says_16 Q   n x1 0 (h.1 68 ((4 * (h.1 59 12)) + x1)) h
set_option maxRecDepth 20000 in
theorem r_MO_says_191 {G : GG} {d : Nat} {Q : Int32 → AH → Prop} {K16 : Int32 → Int32 → Int32 → AH → Prop} (k16 : ∀ x1 x2 x3 h, K16 x1 x2 x3 h → Att G T1 m_MO_says (d + 1) 16 [some (.ref 59), some (.int x1), some (.int x2), some (.int x3), none] [] h 0 0 (iQ Q)) (x1 : Int32) (x2 : Int32) (x3 : Int32) (h : AH) (H : p_MO_says_191 Q K16 x1 x2 x3 h) : Att G T1 m_MO_says (d + 1) 191 [some (.ref 59), some (.int x1), some (.int x2), some (.int x3), none] [] h 0 0 (iQ Q) := by
  refine A_iinc 1 [some (.ref 59), some (.int x1), some (.int x2), some (.int (x3 + 1)), none] d_MO_says_191 rfl (by decide) (by decide) rfl rfl ?_
  refine A_goto 16 d_MO_says_194 (by decide) ?_
  exact k16 _ _ _ _ H
set_option maxRecDepth 20000 in
theorem r_MO_says_130 {G : GG} {d : Nat} {Q : Int32 → AH → Prop} {K16 : Int32 → Int32 → Int32 → AH → Prop} (k16 : ∀ x1 x2 x3 h, K16 x1 x2 x3 h → Att G T1 m_MO_says (d + 1) 16 [some (.ref 59), some (.int x1), some (.int x2), some (.int x3), none] [] h 0 0 (iQ Q)) (x1 : Int32) (x2 : Int32) (x3 : Int32) (s1 : Int32) (s2 : Int32) (h : AH) (H : p_MO_says_130 Q K16 x1 x2 x3 s1 s2 h) : Att G T1 m_MO_says (d + 1) 130 [some (.ref 59), some (.int x1), some (.int x2), some (.int x3), none] [.int s2, .int s1, .ref 76] h 0 0 (iQ Q) := by
  obtain ⟨c1, H⟩ := H
  refine A_iast (n := 200) d_MO_says_130 (vA_s (by decide)) rfl c1 ?_
  refine A_goto 191 d_MO_says_131 (by decide) ?_
  exact r_MO_says_191  k16 _ _ _ _ H
set_option maxRecDepth 20000 in
theorem r_MO_says_93 {G : GG} {d : Nat} {Q : Int32 → AH → Prop} {K16 : Int32 → Int32 → Int32 → AH → Prop} (k16 : ∀ x1 x2 x3 h, K16 x1 x2 x3 h → Att G T1 m_MO_says (d + 1) 16 [some (.ref 59), some (.int x1), some (.int x2), some (.int x3), none] [] h 0 0 (iQ Q)) (x1 : Int32) (x2 : Int32) (x3 : Int32) (s1 : Int32) (s2 : Int32) (h : AH) (H : p_MO_says_93 Q K16 x1 x2 x3 s1 s2 h) : Att G T1 m_MO_says (d + 1) 93 [some (.ref 59), some (.int x1), some (.int x2), some (.int x3), none] [.int s2, .int s1, .ref 76] h 0 0 (iQ Q) := by
  obtain ⟨c1, H⟩ := H
  refine A_iast (n := 200) d_MO_says_93 (vA_s (by decide)) rfl c1 ?_
  refine A_iinc 1 [some (.ref 59), some (.int x1), some (.int (x2 + 1)), some (.int x3), none] d_MO_says_94 rfl (by decide) (by decide) rfl rfl ?_
  refine A_goto 191 d_MO_says_97 (by decide) ?_
  exact r_MO_says_191  k16 _ _ _ _ H
set_option maxRecDepth 20000 in
theorem r_MO_says_66 {G : GG} {d : Nat} {Q : Int32 → AH → Prop} {K16 : Int32 → Int32 → Int32 → AH → Prop} (k16 : ∀ x1 x2 x3 h, K16 x1 x2 x3 h → Att G T1 m_MO_says (d + 1) 16 [some (.ref 59), some (.int x1), some (.int x2), some (.int x3), none] [] h 0 0 (iQ Q)) (x1 : Int32) (x2 : Int32) (x3 : Int32) (x4 : Int32) (h : AH) (H : p_MO_says_66 Q K16 x1 x2 x3 x4 h) : Att G T1 m_MO_says (d + 1) 66 [some (.ref 59), some (.int x1), some (.int x2), some (.int x3), some (.int x4)] [] h 0 0 (iQ Q) := by
  refine A_aload_n d_MO_says_66 rfl ?_
  refine A_get (v := .ref 76) d_MO_says_67 (fo_MO_58_12 rfl) (vA_s (by decide)) rfl rfl ?_
  refine A_iload_n d_MO_says_70 rfl ?_
  refine A_iload d_MO_says_71 rfl ?_
  refine A_bipush 11 (by decide) d_MO_says_73 ?_
  refine A_icmp_ge 88 d_MO_says_75 (by decide) (fun z => ?_) (fun z => ?_)
  · have H := H.1 z
    refine A_iload d_MO_says_88 rfl ?_
    refine A_ldc 100000 d_MO_says_90 (tG 855 (by decide +kernel) (by decide +kernel)) ?_
    refine A_isub d_MO_says_92 ?_
    refine A_sub (L' := [some (.ref 59), some (.int x1), some (.int x2), some (.int x3), none]) ⟨rfl, rfl, rfl, rfl, trivial⟩ ?_
    exact r_MO_says_93  k16 _ _ _ _ _ _ H
  · have H := H.2 z
    refine A_aload_n d_MO_says_78 rfl ?_
    refine A_get (v := .ref 77) d_MO_says_79 (fo_MO_61_12 rfl) (vA_s (by decide)) rfl rfl ?_
    refine A_iload d_MO_says_82 rfl ?_
    obtain ⟨c1, H⟩ := H
    refine A_iald (n := 6) d_MO_says_84 (vA_s (by decide)) rfl c1 ?_
    refine A_goto 93 d_MO_says_85 (by decide) ?_
    refine A_sub (L' := [some (.ref 59), some (.int x1), some (.int x2), some (.int x3), none]) ⟨rfl, rfl, rfl, rfl, trivial⟩ ?_
    exact r_MO_says_93  k16 _ _ _ _ _ _ H
set_option maxRecDepth 20000 in
theorem r_MO_says_16 {G : GG} {d : Nat} {Q : Int32 → AH → Prop} : ∀ (n : Nat) (x1 : Int32) (x2 : Int32) (x3 : Int32) (h : AH), p_MO_says_16 Q n x1 x2 x3 h → Att G T1 m_MO_says (d + 1) 16 [some (.ref 59), some (.int x1), some (.int x2), some (.int x3), none] [] h 0 0 (iQ Q) := by
  intro n
  induction n with
  | zero => intro x1 x2 x3 h H; exact H.elim
  | succ n k16 =>
    intro x1 x2 x3 h H
    refine A_iload_n d_MO_says_16 rfl ?_
    refine A_aload_n d_MO_says_17 rfl ?_
    refine A_get (v := .ref 68) d_MO_says_18 (fo_MO_34_12 rfl) (vA_s (by decide)) rfl rfl ?_
    refine A_iconst 4 (by decide) d_MO_says_21 ?_
    refine A_aload_n d_MO_says_22 rfl ?_
    refine A_get (v := .int (h.1 59 12)) d_MO_says_23 (fo_MO_110_12 rfl) (vA_s (by decide)) rfl rfl ?_
    refine A_imul d_MO_says_26 ?_
    refine A_iload_n d_MO_says_27 rfl ?_
    refine A_iadd d_MO_says_28 ?_
    refine A_iconst 1 (by decide) d_MO_says_29 ?_
    refine A_iadd d_MO_says_30 ?_
    obtain ⟨c1, H⟩ := H
    refine A_iald (n := 24) d_MO_says_31 (vA_s (by decide)) rfl c1 ?_
    refine A_icmp_ge 197 d_MO_says_32 (by decide) (fun z => ?_) (fun z => ?_)
    · have H := H.1 z
      refine A_aload_n d_MO_says_197 rfl ?_
      refine A_get (v := .ref 76) d_MO_says_198 (fo_MO_58_12 rfl) (vA_s (by decide)) rfl rfl ?_
      refine A_iconst 0 (by decide) d_MO_says_201 ?_
      refine A_iald (n := 200) d_MO_says_202 (vA_s (by decide)) rfl (by decide) ?_
      exact A_iret d_MO_says_203 rfl rfl H
    · have H := H.2 z
      refine A_aload_n d_MO_says_35 rfl ?_
      refine A_get (v := .ref 67) d_MO_says_36 (fo_MO_31_12 rfl) (vA_s (by decide)) rfl rfl ?_
      refine A_sipush 200 (by decide) d_MO_says_39 ?_
      refine A_aload_n d_MO_says_42 rfl ?_
      refine A_get (v := .int (h.1 59 12)) d_MO_says_43 (fo_MO_110_12 rfl) (vA_s (by decide)) rfl rfl ?_
      refine A_imul d_MO_says_46 ?_
      refine A_iload_n d_MO_says_47 rfl ?_
      refine A_iadd d_MO_says_48 ?_
      obtain ⟨c2, H⟩ := H
      refine A_iald (n := 1200) d_MO_says_49 (vA_s (by decide)) rfl c2 ?_
      refine A_istore [some (.ref 59), some (.int x1), some (.int x2), some (.int x3), some (.int (h.1 67 ((200 * (h.1 59 12)) + x3)))] d_MO_says_50 (by decide) rfl rfl ?_
      refine A_iload d_MO_says_52 rfl ?_
      refine A_ldc 100000 d_MO_says_54 (tG 855 (by decide +kernel) (by decide +kernel)) ?_
      refine A_icmp_ge 66 d_MO_says_56 (by decide) (fun z => ?_) (fun z => ?_)
      · have H := H.1 z
        exact r_MO_says_66  k16 _ _ _ _ _ H
      · have H := H.2 z
        refine A_iload d_MO_says_59 rfl ?_
        refine A_bipush 11 (by decide) d_MO_says_61 ?_
        refine A_icmp_ge 100 d_MO_says_63 (by decide) (fun z => ?_) (fun z => ?_)
        · have H := H.1 z
          refine A_iload d_MO_says_100 rfl ?_
          refine A_bipush 13 (by decide) d_MO_says_102 ?_
          refine A_icmp_ne 134 d_MO_says_104 (by decide) (fun z => ?_) (fun z => ?_)
          · have H := H.1 z
            refine A_iload d_MO_says_134 rfl ?_
            refine A_bipush 19 (by decide) d_MO_says_136 ?_
            refine A_icmp_ne 161 d_MO_says_138 (by decide) (fun z => ?_) (fun z => ?_)
            · have H := H.1 z
              refine A_iinc (-1) [some (.ref 59), some (.int x1), some (.int (x2 + (-1))), some (.int x3), some (.int (h.1 67 ((200 * (h.1 59 12)) + x3)))] d_MO_says_161 rfl (by decide) (by decide) rfl rfl ?_
              refine A_aload_n d_MO_says_164 rfl ?_
              refine A_get (v := .ref 76) d_MO_says_165 (fo_MO_58_12 rfl) (vA_s (by decide)) rfl rfl ?_
              refine A_iload_n d_MO_says_168 rfl ?_
              refine A_iconst 1 (by decide) d_MO_says_169 ?_
              refine A_isub d_MO_says_170 ?_
              refine A_iload d_MO_says_171 rfl ?_
              refine A_aload_n d_MO_says_173 rfl ?_
              refine A_get (v := .ref 76) d_MO_says_174 (fo_MO_58_12 rfl) (vA_s (by decide)) rfl rfl ?_
              refine A_iload_n d_MO_says_177 rfl ?_
              refine A_iconst 1 (by decide) d_MO_says_178 ?_
              refine A_isub d_MO_says_179 ?_
              obtain ⟨c3, H⟩ := H
              refine A_iald (n := 200) d_MO_says_180 (vA_s (by decide)) rfl c3 ?_
              refine A_aload_n d_MO_says_181 rfl ?_
              refine A_get (v := .ref 76) d_MO_says_182 (fo_MO_58_12 rfl) (vA_s (by decide)) rfl rfl ?_
              refine A_iload_n d_MO_says_185 rfl ?_
              obtain ⟨c4, H⟩ := H
              refine A_iald (n := 200) d_MO_says_186 (vA_s (by decide)) rfl c4 ?_
              refine A_cI [.int (h.1 67 ((200 * (h.1 59 12)) + x3)), .int (h.1 76 ((x2 + (-1)) - 1)), .int (h.1 76 (x2 + (-1)))] [.int ((x2 + (-1)) - 1), .ref 76] (ct_MO_172 rfl) d_MO_says_187 rfl rfl (by decide) (Nat.le_of_ble_eq_true rfl) trivial (ok_MO_two (d := d) H) (fun r6 h5 H => ?_)
              obtain ⟨c7, H⟩ := H
              refine A_iast (n := 200) d_MO_says_190 (vA_s (by decide)) rfl c7 ?_
              refine A_sub (L' := [some (.ref 59), some (.int x1), some (.int (x2 + (-1))), some (.int x3), none]) ⟨rfl, rfl, rfl, rfl, trivial⟩ ?_
              exact r_MO_says_191  k16 _ _ _ _ H
            · have H := H.2 z
              refine A_aload_n d_MO_says_141 rfl ?_
              refine A_get (v := .ref 76) d_MO_says_142 (fo_MO_58_12 rfl) (vA_s (by decide)) rfl rfl ?_
              refine A_iload_n d_MO_says_145 rfl ?_
              refine A_iconst 1 (by decide) d_MO_says_146 ?_
              refine A_isub d_MO_says_147 ?_
              refine A_aload_n d_MO_says_148 rfl ?_
              refine A_get (v := .ref 76) d_MO_says_149 (fo_MO_58_12 rfl) (vA_s (by decide)) rfl rfl ?_
              refine A_iload_n d_MO_says_152 rfl ?_
              refine A_iconst 1 (by decide) d_MO_says_153 ?_
              refine A_isub d_MO_says_154 ?_
              obtain ⟨c8, H⟩ := H
              refine A_iald (n := 200) d_MO_says_155 (vA_s (by decide)) rfl c8 ?_
              refine A_ineg d_MO_says_156 ?_
              refine A_iast (n := 200) d_MO_says_157 (vA_s (by decide)) rfl c8 ?_
              refine A_goto 191 d_MO_says_158 (by decide) ?_
              refine A_sub (L' := [some (.ref 59), some (.int x1), some (.int x2), some (.int x3), none]) ⟨rfl, rfl, rfl, rfl, trivial⟩ ?_
              exact r_MO_says_191  k16 _ _ _ _ H
          · have H := H.2 z
            refine A_aload_n d_MO_says_107 rfl ?_
            refine A_get (v := .ref 76) d_MO_says_108 (fo_MO_58_12 rfl) (vA_s (by decide)) rfl rfl ?_
            refine A_iload_n d_MO_says_111 rfl ?_
            refine A_iconst 1 (by decide) d_MO_says_112 ?_
            refine A_isub d_MO_says_113 ?_
            refine A_aload_n d_MO_says_114 rfl ?_
            refine A_get (v := .ref 76) d_MO_says_115 (fo_MO_58_12 rfl) (vA_s (by decide)) rfl rfl ?_
            refine A_iload_n d_MO_says_118 rfl ?_
            refine A_iconst 1 (by decide) d_MO_says_119 ?_
            refine A_isub d_MO_says_120 ?_
            obtain ⟨c9, H⟩ := H
            refine A_iald (n := 200) d_MO_says_121 (vA_s (by decide)) rfl c9 ?_
            refine A_if_ne 129 d_MO_says_122 (by decide) (fun z => ?_) (fun z => ?_)
            · have H := H.1 z
              refine A_iconst 0 (by decide) d_MO_says_129 ?_
              refine A_sub (L' := [some (.ref 59), some (.int x1), some (.int x2), some (.int x3), none]) ⟨rfl, rfl, rfl, rfl, trivial⟩ ?_
              exact r_MO_says_130  k16 _ _ _ _ _ _ H
            · have H := H.2 z
              refine A_iconst 1 (by decide) d_MO_says_125 ?_
              refine A_goto 130 d_MO_says_126 (by decide) ?_
              refine A_sub (L' := [some (.ref 59), some (.int x1), some (.int x2), some (.int x3), none]) ⟨rfl, rfl, rfl, rfl, trivial⟩ ?_
              exact r_MO_says_130  k16 _ _ _ _ _ _ H
        · have H := H.2 z
          exact r_MO_says_66  k16 _ _ _ _ _ H
set_option maxRecDepth 20000 in
theorem r_MO_says_0 {G : GG} {d : Nat} {Q : Int32 → AH → Prop} (x1 : Int32) (h : AH) (H : p_MO_says Q x1 h) : Att G T1 m_MO_says (d + 1) 0 [some (.ref 59), some (.int x1), none, none, none] [] h 0 0 (iQ Q) := by
  refine A_iconst 0 (by decide) d_MO_says_0 ?_
  refine A_istore_n [some (.ref 59), some (.int x1), some (.int 0), none, none] d_MO_says_1 (by decide) rfl rfl ?_
  refine A_aload_n d_MO_says_2 rfl ?_
  refine A_get (v := .ref 68) d_MO_says_3 (fo_MO_34_12 rfl) (vA_s (by decide)) rfl rfl ?_
  refine A_iconst 4 (by decide) d_MO_says_6 ?_
  refine A_aload_n d_MO_says_7 rfl ?_
  refine A_get (v := .int (h.1 59 12)) d_MO_says_8 (fo_MO_110_12 rfl) (vA_s (by decide)) rfl rfl ?_
  refine A_imul d_MO_says_11 ?_
  refine A_iload_n d_MO_says_12 rfl ?_
  refine A_iadd d_MO_says_13 ?_
  obtain ⟨c1, H⟩ := H
  refine A_iald (n := 24) d_MO_says_14 (vA_s (by decide)) rfl c1 ?_
  refine A_istore_n [some (.ref 59), some (.int x1), some (.int 0), some (.int (h.1 68 ((4 * (h.1 59 12)) + x1))), none] d_MO_says_15 (by decide) rfl rfl ?_
  obtain ⟨n9, H⟩ := H
  exact r_MO_says_16   n9 _ _ _ _ H
set_option maxRecDepth 20000 in
theorem ok_MO_says {G : GG} {d : Nat} {Q : Int32 → AH → Prop} {x1 : Int32} {h : AH} (H : p_MO_says Q x1 h) : WP G T1 m_MO_says (d + 1) [.ref 59, .int x1] h 0 0 (iQ Q) := by
  exact WP.enter 3 (by decide) rfl rfl (r_MO_says_0 x1 h H)
theorem d_MO_house_0 : decode prog_14_method_29_code 0 = .ok (.iload_n 1, 1) := by decide +kernel
theorem d_MO_house_1 : decode prog_14_method_29_code 1 = .ok (.iconst 0, 1) := by decide +kernel
theorem d_MO_house_2 : decode prog_14_method_29_code 2 = .ok (.iconst 5, 1) := by decide +kernel
theorem d_MO_house_3 : decode prog_14_method_29_code 3 = .ok (.invokestatic 93, 3) := by decide +kernel
theorem d_MO_house_6 : decode prog_14_method_29_code 6 = .ok (.ifCond .eq 23, 3) := by decide +kernel
theorem d_MO_house_9 : decode prog_14_method_29_code 9 = .ok (.iload_n 2, 1) := by decide +kernel
theorem d_MO_house_10 : decode prog_14_method_29_code 10 = .ok (.iconst 0, 1) := by decide +kernel
theorem d_MO_house_11 : decode prog_14_method_29_code 11 = .ok (.bipush 99, 2) := by decide +kernel
theorem d_MO_house_13 : decode prog_14_method_29_code 13 = .ok (.invokestatic 93, 3) := by decide +kernel
theorem d_MO_house_16 : decode prog_14_method_29_code 16 = .ok (.ifCond .eq 13, 3) := by decide +kernel
theorem d_MO_house_19 : decode prog_14_method_29_code 19 = .ok (.iload_n 3, 1) := by decide +kernel
theorem d_MO_house_20 : decode prog_14_method_29_code 20 = .ok (.iconst 0, 1) := by decide +kernel
theorem d_MO_house_21 : decode prog_14_method_29_code 21 = .ok (.bipush 9, 2) := by decide +kernel
theorem d_MO_house_23 : decode prog_14_method_29_code 23 = .ok (.invokestatic 93, 3) := by decide +kernel
theorem d_MO_house_26 : decode prog_14_method_29_code 26 = .ok (.ifCond .ne 6, 3) := by decide +kernel
theorem d_MO_house_29 : decode prog_14_method_29_code 29 = .ok (.bipush (-2), 2) := by decide +kernel
theorem d_MO_house_31 : decode prog_14_method_29_code 31 = .ok (.ireturn, 1) := by decide +kernel
theorem d_MO_house_32 : decode prog_14_method_29_code 32 = .ok (.aload_n 0, 1) := by decide +kernel
theorem d_MO_house_33 : decode prog_14_method_29_code 33 = .ok (.getfield 90, 3) := by decide +kernel
theorem d_MO_house_36 : decode prog_14_method_29_code 36 = .ok (.bipush 7, 2) := by decide +kernel
theorem d_MO_house_38 : decode prog_14_method_29_code 38 = .ok (.if_icmp .ne 6, 3) := by decide +kernel
theorem d_MO_house_41 : decode prog_14_method_29_code 41 = .ok (.bipush (-4), 2) := by decide +kernel
theorem d_MO_house_43 : decode prog_14_method_29_code 43 = .ok (.ireturn, 1) := by decide +kernel
theorem d_MO_house_44 : decode prog_14_method_29_code 44 = .ok (.aload_n 0, 1) := by decide +kernel
theorem d_MO_house_45 : decode prog_14_method_29_code 45 = .ok (.getfield 7, 3) := by decide +kernel
theorem d_MO_house_48 : decode prog_14_method_29_code 48 = .ok (.aload_n 0, 1) := by decide +kernel
theorem d_MO_house_49 : decode prog_14_method_29_code 49 = .ok (.getfield 90, 3) := by decide +kernel
theorem d_MO_house_52 : decode prog_14_method_29_code 52 = .ok (.iload_n 1, 1) := by decide +kernel
theorem d_MO_house_53 : decode prog_14_method_29_code 53 = .ok (.iastore, 1) := by decide +kernel
theorem d_MO_house_54 : decode prog_14_method_29_code 54 = .ok (.aload_n 0, 1) := by decide +kernel
theorem d_MO_house_55 : decode prog_14_method_29_code 55 = .ok (.getfield 13, 3) := by decide +kernel
theorem d_MO_house_58 : decode prog_14_method_29_code 58 = .ok (.aload_n 0, 1) := by decide +kernel
theorem d_MO_house_59 : decode prog_14_method_29_code 59 = .ok (.getfield 90, 3) := by decide +kernel
theorem d_MO_house_62 : decode prog_14_method_29_code 62 = .ok (.iload_n 2, 1) := by decide +kernel
theorem d_MO_house_63 : decode prog_14_method_29_code 63 = .ok (.iastore, 1) := by decide +kernel
theorem d_MO_house_64 : decode prog_14_method_29_code 64 = .ok (.aload_n 0, 1) := by decide +kernel
theorem d_MO_house_65 : decode prog_14_method_29_code 65 = .ok (.getfield 16, 3) := by decide +kernel
theorem d_MO_house_68 : decode prog_14_method_29_code 68 = .ok (.aload_n 0, 1) := by decide +kernel
theorem d_MO_house_69 : decode prog_14_method_29_code 69 = .ok (.getfield 90, 3) := by decide +kernel
theorem d_MO_house_72 : decode prog_14_method_29_code 72 = .ok (.iload_n 3, 1) := by decide +kernel
theorem d_MO_house_73 : decode prog_14_method_29_code 73 = .ok (.iastore, 1) := by decide +kernel
theorem d_MO_house_74 : decode prog_14_method_29_code 74 = .ok (.aload_n 0, 1) := by decide +kernel
theorem d_MO_house_75 : decode prog_14_method_29_code 75 = .ok (.getfield 19, 3) := by decide +kernel
theorem d_MO_house_78 : decode prog_14_method_29_code 78 = .ok (.aload_n 0, 1) := by decide +kernel
theorem d_MO_house_79 : decode prog_14_method_29_code 79 = .ok (.getfield 90, 3) := by decide +kernel
theorem d_MO_house_82 : decode prog_14_method_29_code 82 = .ok (.bipush 9, 2) := by decide +kernel
theorem d_MO_house_84 : decode prog_14_method_29_code 84 = .ok (.iastore, 1) := by decide +kernel
theorem d_MO_house_85 : decode prog_14_method_29_code 85 = .ok (.aload_n 0, 1) := by decide +kernel
theorem d_MO_house_86 : decode prog_14_method_29_code 86 = .ok (.getfield 22, 3) := by decide +kernel
theorem d_MO_house_89 : decode prog_14_method_29_code 89 = .ok (.aload_n 0, 1) := by decide +kernel
theorem d_MO_house_90 : decode prog_14_method_29_code 90 = .ok (.getfield 90, 3) := by decide +kernel
theorem d_MO_house_93 : decode prog_14_method_29_code 93 = .ok (.iconst 0, 1) := by decide +kernel
theorem d_MO_house_94 : decode prog_14_method_29_code 94 = .ok (.iastore, 1) := by decide +kernel
theorem d_MO_house_95 : decode prog_14_method_29_code 95 = .ok (.aload_n 0, 1) := by decide +kernel
theorem d_MO_house_96 : decode prog_14_method_29_code 96 = .ok (.getfield 25, 3) := by decide +kernel
theorem d_MO_house_99 : decode prog_14_method_29_code 99 = .ok (.aload_n 0, 1) := by decide +kernel
theorem d_MO_house_100 : decode prog_14_method_29_code 100 = .ok (.getfield 90, 3) := by decide +kernel
theorem d_MO_house_103 : decode prog_14_method_29_code 103 = .ok (.iconst (-1), 1) := by decide +kernel
theorem d_MO_house_104 : decode prog_14_method_29_code 104 = .ok (.iastore, 1) := by decide +kernel
theorem d_MO_house_105 : decode prog_14_method_29_code 105 = .ok (.aload_n 0, 1) := by decide +kernel
theorem d_MO_house_106 : decode prog_14_method_29_code 106 = .ok (.dup, 1) := by decide +kernel
theorem d_MO_house_107 : decode prog_14_method_29_code 107 = .ok (.getfield 90, 3) := by decide +kernel
theorem d_MO_house_110 : decode prog_14_method_29_code 110 = .ok (.iconst 1, 1) := by decide +kernel
theorem d_MO_house_111 : decode prog_14_method_29_code 111 = .ok (.iadd, 1) := by decide +kernel
theorem d_MO_house_112 : decode prog_14_method_29_code 112 = .ok (.putfield 90, 3) := by decide +kernel
theorem d_MO_house_115 : decode prog_14_method_29_code 115 = .ok (.aload_n 0, 1) := by decide +kernel
theorem d_MO_house_116 : decode prog_14_method_29_code 116 = .ok (.getfield 90, 3) := by decide +kernel
theorem d_MO_house_119 : decode prog_14_method_29_code 119 = .ok (.iconst 1, 1) := by decide +kernel
theorem d_MO_house_120 : decode prog_14_method_29_code 120 = .ok (.isub, 1) := by decide +kernel
theorem d_MO_house_121 : decode prog_14_method_29_code 121 = .ok (.ireturn, 1) := by decide +kernel
def p_MO_house (Q : Int32 → AH → Prop) (x1 : Int32) (x2 : Int32) (x3 : Int32) (h : AH) : Prop := p_MO_in (fun r2 h1 => ((r2 = 0 → Q (-2) h1) ∧ (¬ r2 = 0 → p_MO_in (fun r4 h3 => ((r4 = 0 → Q (-2) h3) ∧ (¬ r4 = 0 → p_MO_in (fun r6 h5 => ((¬ r6 = 0 → ((¬ (h5.1 59 0) = 7 → inb (h5.1 59 0) 7 ∧ inb ((wI h5 60 (h5.1 59 0) x1).1 59 0) 7 ∧ inb ((wI (wI h5 60 (h5.1 59 0) x1) 61 ((wI h5 60 (h5.1 59 0) x1).1 59 0) x2).1 59 0) 7 ∧ inb ((wI (wI (wI h5 60 (h5.1 59 0) x1) 61 ((wI h5 60 (h5.1 59 0) x1).1 59 0) x2) 62 ((wI (wI h5 60 (h5.1 59 0) x1) 61 ((wI h5 60 (h5.1 59 0) x1).1 59 0) x2).1 59 0) x3).1 59 0) 7 ∧ inb ((wI (wI (wI (wI h5 60 (h5.1 59 0) x1) 61 ((wI h5 60 (h5.1 59 0) x1).1 59 0) x2) 62 ((wI (wI h5 60 (h5.1 59 0) x1) 61 ((wI h5 60 (h5.1 59 0) x1).1 59 0) x2).1 59 0) x3) 63 ((wI (wI (wI h5 60 (h5.1 59 0) x1) 61 ((wI h5 60 (h5.1 59 0) x1).1 59 0) x2) 62 ((wI (wI h5 60 (h5.1 59 0) x1) 61 ((wI h5 60 (h5.1 59 0) x1).1 59 0) x2).1 59 0) x3).1 59 0) 9).1 59 0) 7 ∧ inb ((wI (wI (wI (wI (wI h5 60 (h5.1 59 0) x1) 61 ((wI h5 60 (h5.1 59 0) x1).1 59 0) x2) 62 ((wI (wI h5 60 (h5.1 59 0) x1) 61 ((wI h5 60 (h5.1 59 0) x1).1 59 0) x2).1 59 0) x3) 63 ((wI (wI (wI h5 60 (h5.1 59 0) x1) 61 ((wI h5 60 (h5.1 59 0) x1).1 59 0) x2) 62 ((wI (wI h5 60 (h5.1 59 0) x1) 61 ((wI h5 60 (h5.1 59 0) x1).1 59 0) x2).1 59 0) x3).1 59 0) 9) 64 ((wI (wI (wI (wI h5 60 (h5.1 59 0) x1) 61 ((wI h5 60 (h5.1 59 0) x1).1 59 0) x2) 62 ((wI (wI h5 60 (h5.1 59 0) x1) 61 ((wI h5 60 (h5.1 59 0) x1).1 59 0) x2).1 59 0) x3) 63 ((wI (wI (wI h5 60 (h5.1 59 0) x1) 61 ((wI h5 60 (h5.1 59 0) x1).1 59 0) x2) 62 ((wI (wI h5 60 (h5.1 59 0) x1) 61 ((wI h5 60 (h5.1 59 0) x1).1 59 0) x2).1 59 0) x3).1 59 0) 9).1 59 0) 0).1 59 0) 7 ∧ Q (((wI (wI (wI (wI (wI (wI (wI h5 60 (h5.1 59 0) x1) 61 ((wI h5 60 (h5.1 59 0) x1).1 59 0) x2) 62 ((wI (wI h5 60 (h5.1 59 0) x1) 61 ((wI h5 60 (h5.1 59 0) x1).1 59 0) x2).1 59 0) x3) 63 ((wI (wI (wI h5 60 (h5.1 59 0) x1) 61 ((wI h5 60 (h5.1 59 0) x1).1 59 0) x2) 62 ((wI (wI h5 60 (h5.1 59 0) x1) 61 ((wI h5 60 (h5.1 59 0) x1).1 59 0) x2).1 59 0) x3).1 59 0) 9) 64 ((wI (wI (wI (wI h5 60 (h5.1 59 0) x1) 61 ((wI h5 60 (h5.1 59 0) x1).1 59 0) x2) 62 ((wI (wI h5 60 (h5.1 59 0) x1) 61 ((wI h5 60 (h5.1 59 0) x1).1 59 0) x2).1 59 0) x3) 63 ((wI (wI (wI h5 60 (h5.1 59 0) x1) 61 ((wI h5 60 (h5.1 59 0) x1).1 59 0) x2) 62 ((wI (wI h5 60 (h5.1 59 0) x1) 61 ((wI h5 60 (h5.1 59 0) x1).1 59 0) x2).1 59 0) x3).1 59 0) 9).1 59 0) 0) 65 ((wI (wI (wI (wI (wI h5 60 (h5.1 59 0) x1) 61 ((wI h5 60 (h5.1 59 0) x1).1 59 0) x2) 62 ((wI (wI h5 60 (h5.1 59 0) x1) 61 ((wI h5 60 (h5.1 59 0) x1).1 59 0) x2).1 59 0) x3) 63 ((wI (wI (wI h5 60 (h5.1 59 0) x1) 61 ((wI h5 60 (h5.1 59 0) x1).1 59 0) x2) 62 ((wI (wI h5 60 (h5.1 59 0) x1) 61 ((wI h5 60 (h5.1 59 0) x1).1 59 0) x2).1 59 0) x3).1 59 0) 9) 64 ((wI (wI (wI (wI h5 60 (h5.1 59 0) x1) 61 ((wI h5 60 (h5.1 59 0) x1).1 59 0) x2) 62 ((wI (wI h5 60 (h5.1 59 0) x1) 61 ((wI h5 60 (h5.1 59 0) x1).1 59 0) x2).1 59 0) x3) 63 ((wI (wI (wI h5 60 (h5.1 59 0) x1) 61 ((wI h5 60 (h5.1 59 0) x1).1 59 0) x2) 62 ((wI (wI h5 60 (h5.1 59 0) x1) 61 ((wI h5 60 (h5.1 59 0) x1).1 59 0) x2).1 59 0) x3).1 59 0) 9).1 59 0) 0).1 59 0) (-1)) 59 0 (((wI (wI (wI (wI (wI (wI h5 60 (h5.1 59 0) x1) 61 ((wI h5 60 (h5.1 59 0) x1).1 59 0) x2) 62 ((wI (wI h5 60 (h5.1 59 0) x1) 61 ((wI h5 60 (h5.1 59 0) x1).1 59 0) x2).1 59 0) x3) 63 ((wI (wI (wI h5 60 (h5.1 59 0) x1) 61 ((wI h5 60 (h5.1 59 0) x1).1 59 0) x2) 62 ((wI (wI h5 60 (h5.1 59 0) x1) 61 ((wI h5 60 (h5.1 59 0) x1).1 59 0) x2).1 59 0) x3).1 59 0) 9) 64 ((wI (wI (wI (wI h5 60 (h5.1 59 0) x1) 61 ((wI h5 60 (h5.1 59 0) x1).1 59 0) x2) 62 ((wI (wI h5 60 (h5.1 59 0) x1) 61 ((wI h5 60 (h5.1 59 0) x1).1 59 0) x2).1 59 0) x3) 63 ((wI (wI (wI h5 60 (h5.1 59 0) x1) 61 ((wI h5 60 (h5.1 59 0) x1).1 59 0) x2) 62 ((wI (wI h5 60 (h5.1 59 0) x1) 61 ((wI h5 60 (h5.1 59 0) x1).1 59 0) x2).1 59 0) x3).1 59 0) 9).1 59 0) 0) 65 ((wI (wI (wI (wI (wI h5 60 (h5.1 59 0) x1) 61 ((wI h5 60 (h5.1 59 0) x1).1 59 0) x2) 62 ((wI (wI h5 60 (h5.1 59 0) x1) 61 ((wI h5 60 (h5.1 59 0) x1).1 59 0) x2).1 59 0) x3) 63 ((wI (wI (wI h5 60 (h5.1 59 0) x1) 61 ((wI h5 60 (h5.1 59 0) x1).1 59 0) x2) 62 ((wI (wI h5 60 (h5.1 59 0) x1) 61 ((wI h5 60 (h5.1 59 0) x1).1 59 0) x2).1 59 0) x3).1 59 0) 9) 64 ((wI (wI (wI (wI h5 60 (h5.1 59 0) x1) 61 ((wI h5 60 (h5.1 59 0) x1).1 59 0) x2) 62 ((wI (wI h5 60 (h5.1 59 0) x1) 61 ((wI h5 60 (h5.1 59 0) x1).1 59 0) x2).1 59 0) x3) 63 ((wI (wI (wI h5 60 (h5.1 59 0) x1) 61 ((wI h5 60 (h5.1 59 0) x1).1 59 0) x2) 62 ((wI (wI h5 60 (h5.1 59 0) x1) 61 ((wI h5 60 (h5.1 59 0) x1).1 59 0) x2).1 59 0) x3).1 59 0) 9).1 59 0) 0).1 59 0) (-1)).1 59 0) + 1)).1 59 0) - 1) (wI (wI (wI (wI (wI (wI (wI h5 60 (h5.1 59 0) x1) 61 ((wI h5 60 (h5.1 59 0) x1).1 59 0) x2) 62 ((wI (wI h5 60 (h5.1 59 0) x1) 61 ((wI h5 60 (h5.1 59 0) x1).1 59 0) x2).1 59 0) x3) 63 ((wI (wI (wI h5 60 (h5.1 59 0) x1) 61 ((wI h5 60 (h5.1 59 0) x1).1 59 0) x2) 62 ((wI (wI h5 60 (h5.1 59 0) x1) 61 ((wI h5 60 (h5.1 59 0) x1).1 59 0) x2).1 59 0) x3).1 59 0) 9) 64 ((wI (wI (wI (wI h5 60 (h5.1 59 0) x1) 61 ((wI h5 60 (h5.1 59 0) x1).1 59 0) x2) 62 ((wI (wI h5 60 (h5.1 59 0) x1) 61 ((wI h5 60 (h5.1 59 0) x1).1 59 0) x2).1 59 0) x3) 63 ((wI (wI (wI h5 60 (h5.1 59 0) x1) 61 ((wI h5 60 (h5.1 59 0) x1).1 59 0) x2) 62 ((wI (wI h5 60 (h5.1 59 0) x1) 61 ((wI h5 60 (h5.1 59 0) x1).1 59 0) x2).1 59 0) x3).1 59 0) 9).1 59 0) 0) 65 ((wI (wI (wI (wI (wI h5 60 (h5.1 59 0) x1) 61 ((wI h5 60 (h5.1 59 0) x1).1 59 0) x2) 62 ((wI (wI h5 60 (h5.1 59 0) x1) 61 ((wI h5 60 (h5.1 59 0) x1).1 59 0) x2).1 59 0) x3) 63 ((wI (wI (wI h5 60 (h5.1 59 0) x1) 61 ((wI h5 60 (h5.1 59 0) x1).1 59 0) x2) 62 ((wI (wI h5 60 (h5.1 59 0) x1) 61 ((wI h5 60 (h5.1 59 0) x1).1 59 0) x2).1 59 0) x3).1 59 0) 9) 64 ((wI (wI (wI (wI h5 60 (h5.1 59 0) x1) 61 ((wI h5 60 (h5.1 59 0) x1).1 59 0) x2) 62 ((wI (wI h5 60 (h5.1 59 0) x1) 61 ((wI h5 60 (h5.1 59 0) x1).1 59 0) x2).1 59 0) x3) 63 ((wI (wI (wI h5 60 (h5.1 59 0) x1) 61 ((wI h5 60 (h5.1 59 0) x1).1 59 0) x2) 62 ((wI (wI h5 60 (h5.1 59 0) x1) 61 ((wI h5 60 (h5.1 59 0) x1).1 59 0) x2).1 59 0) x3).1 59 0) 9).1 59 0) 0).1 59 0) (-1)) 59 0 (((wI (wI (wI (wI (wI (wI h5 60 (h5.1 59 0) x1) 61 ((wI h5 60 (h5.1 59 0) x1).1 59 0) x2) 62 ((wI (wI h5 60 (h5.1 59 0) x1) 61 ((wI h5 60 (h5.1 59 0) x1).1 59 0) x2).1 59 0) x3) 63 ((wI (wI (wI h5 60 (h5.1 59 0) x1) 61 ((wI h5 60 (h5.1 59 0) x1).1 59 0) x2) 62 ((wI (wI h5 60 (h5.1 59 0) x1) 61 ((wI h5 60 (h5.1 59 0) x1).1 59 0) x2).1 59 0) x3).1 59 0) 9) 64 ((wI (wI (wI (wI h5 60 (h5.1 59 0) x1) 61 ((wI h5 60 (h5.1 59 0) x1).1 59 0) x2) 62 ((wI (wI h5 60 (h5.1 59 0) x1) 61 ((wI h5 60 (h5.1 59 0) x1).1 59 0) x2).1 59 0) x3) 63 ((wI (wI (wI h5 60 (h5.1 59 0) x1) 61 ((wI h5 60 (h5.1 59 0) x1).1 59 0) x2) 62 ((wI (wI h5 60 (h5.1 59 0) x1) 61 ((wI h5 60 (h5.1 59 0) x1).1 59 0) x2).1 59 0) x3).1 59 0) 9).1 59 0) 0) 65 ((wI (wI (wI (wI (wI h5 60 (h5.1 59 0) x1) 61 ((wI h5 60 (h5.1 59 0) x1).1 59 0) x2) 62 ((wI (wI h5 60 (h5.1 59 0) x1) 61 ((wI h5 60 (h5.1 59 0) x1).1 59 0) x2).1 59 0) x3) 63 ((wI (wI (wI h5 60 (h5.1 59 0) x1) 61 ((wI h5 60 (h5.1 59 0) x1).1 59 0) x2) 62 ((wI (wI h5 60 (h5.1 59 0) x1) 61 ((wI h5 60 (h5.1 59 0) x1).1 59 0) x2).1 59 0) x3).1 59 0) 9) 64 ((wI (wI (wI (wI h5 60 (h5.1 59 0) x1) 61 ((wI h5 60 (h5.1 59 0) x1).1 59 0) x2) 62 ((wI (wI h5 60 (h5.1 59 0) x1) 61 ((wI h5 60 (h5.1 59 0) x1).1 59 0) x2).1 59 0) x3) 63 ((wI (wI (wI h5 60 (h5.1 59 0) x1) 61 ((wI h5 60 (h5.1 59 0) x1).1 59 0) x2) 62 ((wI (wI h5 60 (h5.1 59 0) x1) 61 ((wI h5 60 (h5.1 59 0) x1).1 59 0) x2).1 59 0) x3).1 59 0) 9).1 59 0) 0).1 59 0) (-1)).1 59 0) + 1))) ∧ ((h5.1 59 0) = 7 → Q (-4) h5))) ∧ (r6 = 0 → Q (-2) h5))) x3 0 9 h3))) x2 0 99 h1))) x1 0 5 h
set_option maxRecDepth 20000 in
theorem r_MO_house_0 {G : GG} {d : Nat} {Q : Int32 → AH → Prop} (x1 : Int32) (x2 : Int32) (x3 : Int32) (h : AH) (H : p_MO_house Q x1 x2 x3 h) : Att G T1 m_MO_house (d + 1) 0 [some (.ref 59), some (.int x1), some (.int x2), some (.int x3)] [] h 0 0 (iQ Q) := by
  refine A_iload_n d_MO_house_0 rfl ?_
  refine A_iconst 0 (by decide) d_MO_house_1 ?_
  refine A_iconst 5 (by decide) d_MO_house_2 ?_
  refine A_cI [.int x1, .int 0, .int 5] [] (ct_MO_93 rfl) d_MO_house_3 rfl rfl (by decide) (Nat.le_of_ble_eq_true rfl) trivial (ok_MO_in (d := d) H) (fun r2 h1 H => ?_)
  refine A_if_eq 29 d_MO_house_6 (by decide) (fun z => ?_) (fun z => ?_)
  · have H := H.1 z
    refine A_bipush (-2) (by decide) d_MO_house_29 ?_
    exact A_iret d_MO_house_31 rfl rfl H
  · have H := H.2 z
    refine A_iload_n d_MO_house_9 rfl ?_
    refine A_iconst 0 (by decide) d_MO_house_10 ?_
    refine A_bipush 99 (by decide) d_MO_house_11 ?_
    refine A_cI [.int x2, .int 0, .int 99] [] (ct_MO_93 rfl) d_MO_house_13 rfl rfl (by decide) (Nat.le_of_ble_eq_true rfl) trivial (ok_MO_in (d := d) H) (fun r4 h3 H => ?_)
    refine A_if_eq 29 d_MO_house_16 (by decide) (fun z => ?_) (fun z => ?_)
    · have H := H.1 z
      refine A_bipush (-2) (by decide) d_MO_house_29 ?_
      exact A_iret d_MO_house_31 rfl rfl H
    · have H := H.2 z
      refine A_iload_n d_MO_house_19 rfl ?_
      refine A_iconst 0 (by decide) d_MO_house_20 ?_
      refine A_bipush 9 (by decide) d_MO_house_21 ?_
      refine A_cI [.int x3, .int 0, .int 9] [] (ct_MO_93 rfl) d_MO_house_23 rfl rfl (by decide) (Nat.le_of_ble_eq_true rfl) trivial (ok_MO_in (d := d) H) (fun r6 h5 H => ?_)
      refine A_if_ne 32 d_MO_house_26 (by decide) (fun z => ?_) (fun z => ?_)
      · have H := H.1 z
        refine A_aload_n d_MO_house_32 rfl ?_
        refine A_get (v := .int (h5.1 59 0)) d_MO_house_33 (fo_MO_90_12 rfl) (vA_s (by decide)) rfl rfl ?_
        refine A_bipush 7 (by decide) d_MO_house_36 ?_
        refine A_icmp_ne 44 d_MO_house_38 (by decide) (fun z => ?_) (fun z => ?_)
        · have H := H.1 z
          refine A_aload_n d_MO_house_44 rfl ?_
          refine A_get (v := .ref 60) d_MO_house_45 (fo_MO_7_12 rfl) (vA_s (by decide)) rfl rfl ?_
          refine A_aload_n d_MO_house_48 rfl ?_
          refine A_get (v := .int (h5.1 59 0)) d_MO_house_49 (fo_MO_90_12 rfl) (vA_s (by decide)) rfl rfl ?_
          refine A_iload_n d_MO_house_52 rfl ?_
          obtain ⟨c7, H⟩ := H
          refine A_iast (n := 7) d_MO_house_53 (vA_s (by decide)) rfl c7 ?_
          refine A_aload_n d_MO_house_54 rfl ?_
          refine A_get (v := .ref 61) d_MO_house_55 (fo_MO_13_12 rfl) (vA_s (by decide)) rfl rfl ?_
          refine A_aload_n d_MO_house_58 rfl ?_
          refine A_get (v := .int ((wI h5 60 (h5.1 59 0) x1).1 59 0)) d_MO_house_59 (fo_MO_90_12 rfl) (vA_s (by decide)) rfl rfl ?_
          refine A_iload_n d_MO_house_62 rfl ?_
          obtain ⟨c8, H⟩ := H
          refine A_iast (n := 7) d_MO_house_63 (vA_s (by decide)) rfl c8 ?_
          refine A_aload_n d_MO_house_64 rfl ?_
          refine A_get (v := .ref 62) d_MO_house_65 (fo_MO_16_12 rfl) (vA_s (by decide)) rfl rfl ?_
          refine A_aload_n d_MO_house_68 rfl ?_
          refine A_get (v := .int ((wI (wI h5 60 (h5.1 59 0) x1) 61 ((wI h5 60 (h5.1 59 0) x1).1 59 0) x2).1 59 0)) d_MO_house_69 (fo_MO_90_12 rfl) (vA_s (by decide)) rfl rfl ?_
          refine A_iload_n d_MO_house_72 rfl ?_
          obtain ⟨c9, H⟩ := H
          refine A_iast (n := 7) d_MO_house_73 (vA_s (by decide)) rfl c9 ?_
          refine A_aload_n d_MO_house_74 rfl ?_
          refine A_get (v := .ref 63) d_MO_house_75 (fo_MO_19_12 rfl) (vA_s (by decide)) rfl rfl ?_
          refine A_aload_n d_MO_house_78 rfl ?_
          refine A_get (v := .int ((wI (wI (wI h5 60 (h5.1 59 0) x1) 61 ((wI h5 60 (h5.1 59 0) x1).1 59 0) x2) 62 ((wI (wI h5 60 (h5.1 59 0) x1) 61 ((wI h5 60 (h5.1 59 0) x1).1 59 0) x2).1 59 0) x3).1 59 0)) d_MO_house_79 (fo_MO_90_12 rfl) (vA_s (by decide)) rfl rfl ?_
          refine A_bipush 9 (by decide) d_MO_house_82 ?_
          obtain ⟨c10, H⟩ := H
          refine A_iast (n := 7) d_MO_house_84 (vA_s (by decide)) rfl c10 ?_
          refine A_aload_n d_MO_house_85 rfl ?_
          refine A_get (v := .ref 64) d_MO_house_86 (fo_MO_22_12 rfl) (vA_s (by decide)) rfl rfl ?_
          refine A_aload_n d_MO_house_89 rfl ?_
          refine A_get (v := .int ((wI (wI (wI (wI h5 60 (h5.1 59 0) x1) 61 ((wI h5 60 (h5.1 59 0) x1).1 59 0) x2) 62 ((wI (wI h5 60 (h5.1 59 0) x1) 61 ((wI h5 60 (h5.1 59 0) x1).1 59 0) x2).1 59 0) x3) 63 ((wI (wI (wI h5 60 (h5.1 59 0) x1) 61 ((wI h5 60 (h5.1 59 0) x1).1 59 0) x2) 62 ((wI (wI h5 60 (h5.1 59 0) x1) 61 ((wI h5 60 (h5.1 59 0) x1).1 59 0) x2).1 59 0) x3).1 59 0) 9).1 59 0)) d_MO_house_90 (fo_MO_90_12 rfl) (vA_s (by decide)) rfl rfl ?_
          refine A_iconst 0 (by decide) d_MO_house_93 ?_
          obtain ⟨c11, H⟩ := H
          refine A_iast (n := 7) d_MO_house_94 (vA_s (by decide)) rfl c11 ?_
          refine A_aload_n d_MO_house_95 rfl ?_
          refine A_get (v := .ref 65) d_MO_house_96 (fo_MO_25_12 rfl) (vA_s (by decide)) rfl rfl ?_
          refine A_aload_n d_MO_house_99 rfl ?_
          refine A_get (v := .int ((wI (wI (wI (wI (wI h5 60 (h5.1 59 0) x1) 61 ((wI h5 60 (h5.1 59 0) x1).1 59 0) x2) 62 ((wI (wI h5 60 (h5.1 59 0) x1) 61 ((wI h5 60 (h5.1 59 0) x1).1 59 0) x2).1 59 0) x3) 63 ((wI (wI (wI h5 60 (h5.1 59 0) x1) 61 ((wI h5 60 (h5.1 59 0) x1).1 59 0) x2) 62 ((wI (wI h5 60 (h5.1 59 0) x1) 61 ((wI h5 60 (h5.1 59 0) x1).1 59 0) x2).1 59 0) x3).1 59 0) 9) 64 ((wI (wI (wI (wI h5 60 (h5.1 59 0) x1) 61 ((wI h5 60 (h5.1 59 0) x1).1 59 0) x2) 62 ((wI (wI h5 60 (h5.1 59 0) x1) 61 ((wI h5 60 (h5.1 59 0) x1).1 59 0) x2).1 59 0) x3) 63 ((wI (wI (wI h5 60 (h5.1 59 0) x1) 61 ((wI h5 60 (h5.1 59 0) x1).1 59 0) x2) 62 ((wI (wI h5 60 (h5.1 59 0) x1) 61 ((wI h5 60 (h5.1 59 0) x1).1 59 0) x2).1 59 0) x3).1 59 0) 9).1 59 0) 0).1 59 0)) d_MO_house_100 (fo_MO_90_12 rfl) (vA_s (by decide)) rfl rfl ?_
          refine A_iconst (-1) (by decide) d_MO_house_103 ?_
          obtain ⟨c12, H⟩ := H
          refine A_iast (n := 7) d_MO_house_104 (vA_s (by decide)) rfl c12 ?_
          refine A_aload_n d_MO_house_105 rfl ?_
          refine A_dup rfl d_MO_house_106 ?_
          refine A_get (v := .int ((wI (wI (wI (wI (wI (wI h5 60 (h5.1 59 0) x1) 61 ((wI h5 60 (h5.1 59 0) x1).1 59 0) x2) 62 ((wI (wI h5 60 (h5.1 59 0) x1) 61 ((wI h5 60 (h5.1 59 0) x1).1 59 0) x2).1 59 0) x3) 63 ((wI (wI (wI h5 60 (h5.1 59 0) x1) 61 ((wI h5 60 (h5.1 59 0) x1).1 59 0) x2) 62 ((wI (wI h5 60 (h5.1 59 0) x1) 61 ((wI h5 60 (h5.1 59 0) x1).1 59 0) x2).1 59 0) x3).1 59 0) 9) 64 ((wI (wI (wI (wI h5 60 (h5.1 59 0) x1) 61 ((wI h5 60 (h5.1 59 0) x1).1 59 0) x2) 62 ((wI (wI h5 60 (h5.1 59 0) x1) 61 ((wI h5 60 (h5.1 59 0) x1).1 59 0) x2).1 59 0) x3) 63 ((wI (wI (wI h5 60 (h5.1 59 0) x1) 61 ((wI h5 60 (h5.1 59 0) x1).1 59 0) x2) 62 ((wI (wI h5 60 (h5.1 59 0) x1) 61 ((wI h5 60 (h5.1 59 0) x1).1 59 0) x2).1 59 0) x3).1 59 0) 9).1 59 0) 0) 65 ((wI (wI (wI (wI (wI h5 60 (h5.1 59 0) x1) 61 ((wI h5 60 (h5.1 59 0) x1).1 59 0) x2) 62 ((wI (wI h5 60 (h5.1 59 0) x1) 61 ((wI h5 60 (h5.1 59 0) x1).1 59 0) x2).1 59 0) x3) 63 ((wI (wI (wI h5 60 (h5.1 59 0) x1) 61 ((wI h5 60 (h5.1 59 0) x1).1 59 0) x2) 62 ((wI (wI h5 60 (h5.1 59 0) x1) 61 ((wI h5 60 (h5.1 59 0) x1).1 59 0) x2).1 59 0) x3).1 59 0) 9) 64 ((wI (wI (wI (wI h5 60 (h5.1 59 0) x1) 61 ((wI h5 60 (h5.1 59 0) x1).1 59 0) x2) 62 ((wI (wI h5 60 (h5.1 59 0) x1) 61 ((wI h5 60 (h5.1 59 0) x1).1 59 0) x2).1 59 0) x3) 63 ((wI (wI (wI h5 60 (h5.1 59 0) x1) 61 ((wI h5 60 (h5.1 59 0) x1).1 59 0) x2) 62 ((wI (wI h5 60 (h5.1 59 0) x1) 61 ((wI h5 60 (h5.1 59 0) x1).1 59 0) x2).1 59 0) x3).1 59 0) 9).1 59 0) 0).1 59 0) (-1)).1 59 0)) d_MO_house_107 (fo_MO_90_12 rfl) (vA_s (by decide)) rfl rfl ?_
          refine A_iconst 1 (by decide) d_MO_house_110 ?_
          refine A_iadd d_MO_house_111 ?_
          refine A_putI (k := 0) d_MO_house_112 (fo_MO_90_12 rfl) (Or.inr ⟨rfl, _, ft_12_0⟩) (fun z => by cases z) rfl (vA_s (by decide)) rfl rfl rfl ?_
          refine A_aload_n d_MO_house_115 rfl ?_
          refine A_get (v := .int ((wI (wI (wI (wI (wI (wI (wI h5 60 (h5.1 59 0) x1) 61 ((wI h5 60 (h5.1 59 0) x1).1 59 0) x2) 62 ((wI (wI h5 60 (h5.1 59 0) x1) 61 ((wI h5 60 (h5.1 59 0) x1).1 59 0) x2).1 59 0) x3) 63 ((wI (wI (wI h5 60 (h5.1 59 0) x1) 61 ((wI h5 60 (h5.1 59 0) x1).1 59 0) x2) 62 ((wI (wI h5 60 (h5.1 59 0) x1) 61 ((wI h5 60 (h5.1 59 0) x1).1 59 0) x2).1 59 0) x3).1 59 0) 9) 64 ((wI (wI (wI (wI h5 60 (h5.1 59 0) x1) 61 ((wI h5 60 (h5.1 59 0) x1).1 59 0) x2) 62 ((wI (wI h5 60 (h5.1 59 0) x1) 61 ((wI h5 60 (h5.1 59 0) x1).1 59 0) x2).1 59 0) x3) 63 ((wI (wI (wI h5 60 (h5.1 59 0) x1) 61 ((wI h5 60 (h5.1 59 0) x1).1 59 0) x2) 62 ((wI (wI h5 60 (h5.1 59 0) x1) 61 ((wI h5 60 (h5.1 59 0) x1).1 59 0) x2).1 59 0) x3).1 59 0) 9).1 59 0) 0) 65 ((wI (wI (wI (wI (wI h5 60 (h5.1 59 0) x1) 61 ((wI h5 60 (h5.1 59 0) x1).1 59 0) x2) 62 ((wI (wI h5 60 (h5.1 59 0) x1) 61 ((wI h5 60 (h5.1 59 0) x1).1 59 0) x2).1 59 0) x3) 63 ((wI (wI (wI h5 60 (h5.1 59 0) x1) 61 ((wI h5 60 (h5.1 59 0) x1).1 59 0) x2) 62 ((wI (wI h5 60 (h5.1 59 0) x1) 61 ((wI h5 60 (h5.1 59 0) x1).1 59 0) x2).1 59 0) x3).1 59 0) 9) 64 ((wI (wI (wI (wI h5 60 (h5.1 59 0) x1) 61 ((wI h5 60 (h5.1 59 0) x1).1 59 0) x2) 62 ((wI (wI h5 60 (h5.1 59 0) x1) 61 ((wI h5 60 (h5.1 59 0) x1).1 59 0) x2).1 59 0) x3) 63 ((wI (wI (wI h5 60 (h5.1 59 0) x1) 61 ((wI h5 60 (h5.1 59 0) x1).1 59 0) x2) 62 ((wI (wI h5 60 (h5.1 59 0) x1) 61 ((wI h5 60 (h5.1 59 0) x1).1 59 0) x2).1 59 0) x3).1 59 0) 9).1 59 0) 0).1 59 0) (-1)) 59 0 (((wI (wI (wI (wI (wI (wI h5 60 (h5.1 59 0) x1) 61 ((wI h5 60 (h5.1 59 0) x1).1 59 0) x2) 62 ((wI (wI h5 60 (h5.1 59 0) x1) 61 ((wI h5 60 (h5.1 59 0) x1).1 59 0) x2).1 59 0) x3) 63 ((wI (wI (wI h5 60 (h5.1 59 0) x1) 61 ((wI h5 60 (h5.1 59 0) x1).1 59 0) x2) 62 ((wI (wI h5 60 (h5.1 59 0) x1) 61 ((wI h5 60 (h5.1 59 0) x1).1 59 0) x2).1 59 0) x3).1 59 0) 9) 64 ((wI (wI (wI (wI h5 60 (h5.1 59 0) x1) 61 ((wI h5 60 (h5.1 59 0) x1).1 59 0) x2) 62 ((wI (wI h5 60 (h5.1 59 0) x1) 61 ((wI h5 60 (h5.1 59 0) x1).1 59 0) x2).1 59 0) x3) 63 ((wI (wI (wI h5 60 (h5.1 59 0) x1) 61 ((wI h5 60 (h5.1 59 0) x1).1 59 0) x2) 62 ((wI (wI h5 60 (h5.1 59 0) x1) 61 ((wI h5 60 (h5.1 59 0) x1).1 59 0) x2).1 59 0) x3).1 59 0) 9).1 59 0) 0) 65 ((wI (wI (wI (wI (wI h5 60 (h5.1 59 0) x1) 61 ((wI h5 60 (h5.1 59 0) x1).1 59 0) x2) 62 ((wI (wI h5 60 (h5.1 59 0) x1) 61 ((wI h5 60 (h5.1 59 0) x1).1 59 0) x2).1 59 0) x3) 63 ((wI (wI (wI h5 60 (h5.1 59 0) x1) 61 ((wI h5 60 (h5.1 59 0) x1).1 59 0) x2) 62 ((wI (wI h5 60 (h5.1 59 0) x1) 61 ((wI h5 60 (h5.1 59 0) x1).1 59 0) x2).1 59 0) x3).1 59 0) 9) 64 ((wI (wI (wI (wI h5 60 (h5.1 59 0) x1) 61 ((wI h5 60 (h5.1 59 0) x1).1 59 0) x2) 62 ((wI (wI h5 60 (h5.1 59 0) x1) 61 ((wI h5 60 (h5.1 59 0) x1).1 59 0) x2).1 59 0) x3) 63 ((wI (wI (wI h5 60 (h5.1 59 0) x1) 61 ((wI h5 60 (h5.1 59 0) x1).1 59 0) x2) 62 ((wI (wI h5 60 (h5.1 59 0) x1) 61 ((wI h5 60 (h5.1 59 0) x1).1 59 0) x2).1 59 0) x3).1 59 0) 9).1 59 0) 0).1 59 0) (-1)).1 59 0) + 1)).1 59 0)) d_MO_house_116 (fo_MO_90_12 rfl) (vA_s (by decide)) rfl rfl ?_
          refine A_iconst 1 (by decide) d_MO_house_119 ?_
          refine A_isub d_MO_house_120 ?_
          exact A_iret d_MO_house_121 rfl rfl H
        · have H := H.2 z
          refine A_bipush (-4) (by decide) d_MO_house_41 ?_
          exact A_iret d_MO_house_43 rfl rfl H
      · have H := H.2 z
        refine A_bipush (-2) (by decide) d_MO_house_29 ?_
        exact A_iret d_MO_house_31 rfl rfl H
set_option maxRecDepth 20000 in
theorem ok_MO_house {G : GG} {d : Nat} {Q : Int32 → AH → Prop} {x1 : Int32} {x2 : Int32} {x3 : Int32} {h : AH} (H : p_MO_house Q x1 x2 x3 h) : WP G T1 m_MO_house (d + 1) [.ref 59, .int x1, .int x2, .int x3] h 0 0 (iQ Q) := by
  exact WP.enter 0 (by decide) rfl rfl (r_MO_house_0 x1 x2 x3 h H)
theorem d_MO_links_0 : decode prog_14_method_32_code 0 = .ok (.aload_n 0, 1) := by decide +kernel
theorem d_MO_links_1 : decode prog_14_method_32_code 1 = .ok (.iload_n 1, 1) := by decide +kernel
theorem d_MO_links_2 : decode prog_14_method_32_code 2 = .ok (.invokevirtual 192, 3) := by decide +kernel
theorem d_MO_links_5 : decode prog_14_method_32_code 5 = .ok (.aload_n 0, 1) := by decide +kernel
theorem d_MO_links_6 : decode prog_14_method_32_code 6 = .ok (.iload_n 2, 1) := by decide +kernel
theorem d_MO_links_7 : decode prog_14_method_32_code 7 = .ok (.invokevirtual 192, 3) := by decide +kernel
theorem d_MO_links_10 : decode prog_14_method_32_code 10 = .ok (.iload_n 1, 1) := by decide +kernel
theorem d_MO_links_11 : decode prog_14_method_32_code 11 = .ok (.iload_n 2, 1) := by decide +kernel
theorem d_MO_links_12 : decode prog_14_method_32_code 12 = .ok (.if_icmp .eq 17, 3) := by decide +kernel
theorem d_MO_links_15 : decode prog_14_method_32_code 15 = .ok (.aload_n 0, 1) := by decide +kernel
theorem d_MO_links_16 : decode prog_14_method_32_code 16 = .ok (.getfield 25, 3) := by decide +kernel
theorem d_MO_links_19 : decode prog_14_method_32_code 19 = .ok (.iload_n 1, 1) := by decide +kernel
theorem d_MO_links_20 : decode prog_14_method_32_code 20 = .ok (.iload_n 2, 1) := by decide +kernel
theorem d_MO_links_21 : decode prog_14_method_32_code 21 = .ok (.iastore, 1) := by decide +kernel
theorem d_MO_links_22 : decode prog_14_method_32_code 22 = .ok (.aload_n 0, 1) := by decide +kernel
theorem d_MO_links_23 : decode prog_14_method_32_code 23 = .ok (.getfield 25, 3) := by decide +kernel
theorem d_MO_links_26 : decode prog_14_method_32_code 26 = .ok (.iload_n 2, 1) := by decide +kernel
theorem d_MO_links_27 : decode prog_14_method_32_code 27 = .ok (.iload_n 1, 1) := by decide +kernel
theorem d_MO_links_28 : decode prog_14_method_32_code 28 = .ok (.iastore, 1) := by decide +kernel
theorem d_MO_links_29 : decode prog_14_method_32_code 29 = .ok (.return_, 1) := by decide +kernel
def p_MO_links (Q : AH → Prop) (x1 : Int32) (x2 : Int32) (h : AH) : Prop := p_MO_comesFree (fun h1 => p_MO_comesFree (fun h2 => ((x1 = x2 → Q h2) ∧ (¬ x1 = x2 → inb x1 7 ∧ inb x2 7 ∧ Q (wI (wI h2 65 x1 x2) 65 x2 x1)))) x2 h1) x1 h
set_option maxRecDepth 20000 in
theorem r_MO_links_0 {G : GG} {d : Nat} {Q : AH → Prop} (x1 : Int32) (x2 : Int32) (h : AH) (H : p_MO_links Q x1 x2 h) : Att G T1 m_MO_links (d + 1) 0 [some (.ref 59), some (.int x1), some (.int x2)] [] h 0 0 (vQ Q) := by
  refine A_aload_n d_MO_links_0 rfl ?_
  refine A_iload_n d_MO_links_1 rfl ?_
  refine A_cV [.ref 59, .int x1] [] (ct_MO_192 rfl) d_MO_links_2 rfl rfl (by decide) (Nat.le_of_ble_eq_true rfl) (rcA_o (c := 12) rfl (vA_s (by decide)) rfl (by decide) rfl) (ok_MO_comesFree (d := d) H) (fun h1 H => ?_)
  refine A_aload_n d_MO_links_5 rfl ?_
  refine A_iload_n d_MO_links_6 rfl ?_
  refine A_cV [.ref 59, .int x2] [] (ct_MO_192 rfl) d_MO_links_7 rfl rfl (by decide) (Nat.le_of_ble_eq_true rfl) (rcA_o (c := 12) rfl (vA_s (by decide)) rfl (by decide) rfl) (ok_MO_comesFree (d := d) H) (fun h2 H => ?_)
  refine A_iload_n d_MO_links_10 rfl ?_
  refine A_iload_n d_MO_links_11 rfl ?_
  refine A_icmp_eq 29 d_MO_links_12 (by decide) (fun z => ?_) (fun z => ?_)
  · have H := H.1 z
    exact A_ret d_MO_links_29 rfl H
  · have H := H.2 z
    refine A_aload_n d_MO_links_15 rfl ?_
    refine A_get (v := .ref 65) d_MO_links_16 (fo_MO_25_12 rfl) (vA_s (by decide)) rfl rfl ?_
    refine A_iload_n d_MO_links_19 rfl ?_
    refine A_iload_n d_MO_links_20 rfl ?_
    obtain ⟨c3, H⟩ := H
    refine A_iast (n := 7) d_MO_links_21 (vA_s (by decide)) rfl c3 ?_
    refine A_aload_n d_MO_links_22 rfl ?_
    refine A_get (v := .ref 65) d_MO_links_23 (fo_MO_25_12 rfl) (vA_s (by decide)) rfl rfl ?_
    refine A_iload_n d_MO_links_26 rfl ?_
    refine A_iload_n d_MO_links_27 rfl ?_
    obtain ⟨c4, H⟩ := H
    refine A_iast (n := 7) d_MO_links_28 (vA_s (by decide)) rfl c4 ?_
    exact A_ret d_MO_links_29 rfl H
set_option maxRecDepth 20000 in
theorem ok_MO_links {G : GG} {d : Nat} {Q : AH → Prop} {x1 : Int32} {x2 : Int32} {h : AH} (H : p_MO_links Q x1 x2 h) : WP G T1 m_MO_links (d + 1) [.ref 59, .int x1, .int x2] h 0 0 (vQ Q) := by
  exact WP.enter 0 (by decide) rfl rfl (r_MO_links_0 x1 x2 h H)
