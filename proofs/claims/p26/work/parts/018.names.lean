set_option maxRecDepth 20000 in
theorem ggL_isLeast_L_low : GoodIn wsL_isLeast wsL_low := goodIn_r _ [216, 217] (by decide +kernel) (by decide +kernel)
set_option maxRecDepth 20000 in
theorem gL_isLeast_L_low : GoodIn wsL_isLeast (va_wsS RL 80 yL_low wsL_low) := goodIn_app (goodIn_of _ (by decide +kernel)) ggL_isLeast_L_low
set_option maxRecDepth 20000 in
theorem ggL_isLeast_L_ancestors : GoodIn wsL_isLeast wsL_ancestors := goodIn_r _ [220] (by decide +kernel) (by decide +kernel)
set_option maxRecDepth 20000 in
theorem gL_isLeast_L_ancestors : GoodIn wsL_isLeast (va_wsS RL 43 yL_ancestors wsL_ancestors) := goodIn_app (goodIn_of _ (by decide +kernel)) ggL_isLeast_L_ancestors
set_option maxRecDepth 20000 in
theorem ggL_isLeast_X7_nearness : GoodIn wsL_isLeast wsX7_nearness := goodIn_ca (goodIn_r _ [224, 35, 36, 40, 225, 67, 68, 58, 69, 60, 226, 227, 228, 229, 230, 231, 232, 233, 234, 235, 236, 80, 81, 82, 83, 66, 237, 126, 127, 128, 88, 90, 91, 92, 93, 94, 238, 130, 131, 132, 89, 239, 56, 57, 59, 240, 62, 63, 64, 65, 241, 242, 243, 244, 245, 246, 247, 248, 262, 263, 264, 265, 266, 267, 268, 269, 270, 271] (by decide +kernel) (by decide +kernel)) (goodIn_sub (fun _ h => List.mem_cons_of_mem _ (List.mem_append_left _ (List.mem_append_right _ h))) (by decide +kernel))
set_option maxRecDepth 20000 in
theorem gL_isLeast_X7_nearness : GoodIn wsL_isLeast (wsV RL 83 RX7 yX7_nearness wsX7_nearness) := goodIn_app (goodIn_of _ (by decide +kernel)) ggL_isLeast_X7_nearness
theorem dL_isLeast_0 : decode cL_isLeast 0 = .ok (.bipush 24, 2) := by decide +kernel
theorem dL_isLeast_2 : decode cL_isLeast 2 = .ok (.newarray .int, 2) := by decide +kernel
theorem dL_isLeast_4 : decode cL_isLeast 4 = .ok (.astore 7, 2) := by decide +kernel
theorem dL_isLeast_6 : decode cL_isLeast 6 = .ok (.aload_n 3, 1) := by decide +kernel
theorem dL_isLeast_7 : decode cL_isLeast 7 = .ok (.aload 7, 2) := by decide +kernel
theorem dL_isLeast_9 : decode cL_isLeast 9 = .ok (.invokestatic 27, 3) := by decide +kernel
theorem dL_isLeast_12 : decode cL_isLeast 12 = .ok (.aload 7, 2) := by decide +kernel
theorem dL_isLeast_14 : decode cL_isLeast 14 = .ok (.aload 4, 2) := by decide +kernel
theorem dL_isLeast_16 : decode cL_isLeast 16 = .ok (.iload 5, 2) := by decide +kernel
theorem dL_isLeast_18 : decode cL_isLeast 18 = .ok (.aload_n 1, 1) := by decide +kernel
theorem dL_isLeast_19 : decode cL_isLeast 19 = .ok (.aload_n 2, 1) := by decide +kernel
theorem dL_isLeast_20 : decode cL_isLeast 20 = .ok (.aload_n 3, 1) := by decide +kernel
theorem dL_isLeast_21 : decode cL_isLeast 21 = .ok (.aload 4, 2) := by decide +kernel
theorem dL_isLeast_23 : decode cL_isLeast 23 = .ok (.iload 5, 2) := by decide +kernel
theorem dL_isLeast_25 : decode cL_isLeast 25 = .ok (.invokestatic 70, 3) := by decide +kernel
theorem dL_isLeast_28 : decode cL_isLeast 28 = .ok (.invokestatic 31, 3) := by decide +kernel
theorem dL_isLeast_31 : decode cL_isLeast 31 = .ok (.aload_n 1, 1) := by decide +kernel
theorem dL_isLeast_32 : decode cL_isLeast 32 = .ok (.aload_n 2, 1) := by decide +kernel
theorem dL_isLeast_33 : decode cL_isLeast 33 = .ok (.aload 7, 2) := by decide +kernel
theorem dL_isLeast_35 : decode cL_isLeast 35 = .ok (.aload 4, 2) := by decide +kernel
theorem dL_isLeast_37 : decode cL_isLeast 37 = .ok (.iload 5, 2) := by decide +kernel
theorem dL_isLeast_39 : decode cL_isLeast 39 = .ok (.invokestatic 35, 3) := by decide +kernel
theorem dL_isLeast_42 : decode cL_isLeast 42 = .ok (.istore 8, 2) := by decide +kernel
theorem dL_isLeast_44 : decode cL_isLeast 44 = .ok (.aload_n 1, 1) := by decide +kernel
theorem dL_isLeast_45 : decode cL_isLeast 45 = .ok (.aload_n 2, 1) := by decide +kernel
theorem dL_isLeast_46 : decode cL_isLeast 46 = .ok (.aload_n 3, 1) := by decide +kernel
theorem dL_isLeast_47 : decode cL_isLeast 47 = .ok (.aload 4, 2) := by decide +kernel
theorem dL_isLeast_49 : decode cL_isLeast 49 = .ok (.invokestatic 57, 3) := by decide +kernel
theorem dL_isLeast_52 : decode cL_isLeast 52 = .ok (.istore 9, 2) := by decide +kernel
theorem dL_isLeast_54 : decode cL_isLeast 54 = .ok (.iconst (-1), 1) := by decide +kernel
theorem dL_isLeast_55 : decode cL_isLeast 55 = .ok (.istore 10, 2) := by decide +kernel
theorem dL_isLeast_57 : decode cL_isLeast 57 = .ok (.aload_n 3, 1) := by decide +kernel
theorem dL_isLeast_58 : decode cL_isLeast 58 = .ok (.aload 7, 2) := by decide +kernel
theorem dL_isLeast_60 : decode cL_isLeast 60 = .ok (.invokestatic 27, 3) := by decide +kernel
theorem dL_isLeast_63 : decode cL_isLeast 63 = .ok (.iconst 0, 1) := by decide +kernel
theorem dL_isLeast_64 : decode cL_isLeast 64 = .ok (.istore 11, 2) := by decide +kernel
theorem dL_isLeast_66 : decode cL_isLeast 66 = .ok (.iload 11, 2) := by decide +kernel
theorem dL_isLeast_68 : decode cL_isLeast 68 = .ok (.bipush 24, 2) := by decide +kernel
theorem dL_isLeast_70 : decode cL_isLeast 70 = .ok (.if_icmp .ge 128, 3) := by decide +kernel
theorem dL_isLeast_73 : decode cL_isLeast 73 = .ok (.iload 11, 2) := by decide +kernel
theorem dL_isLeast_75 : decode cL_isLeast 75 = .ok (.bipush 6, 2) := by decide +kernel
theorem dL_isLeast_77 : decode cL_isLeast 77 = .ok (.irem, 1) := by decide +kernel
theorem dL_isLeast_78 : decode cL_isLeast 78 = .ok (.iconst 1, 1) := by decide +kernel
theorem dL_isLeast_79 : decode cL_isLeast 79 = .ok (.iadd, 1) := by decide +kernel
theorem dL_isLeast_80 : decode cL_isLeast 80 = .ok (.aload 4, 2) := by decide +kernel
theorem dL_isLeast_82 : decode cL_isLeast 82 = .ok (.iconst 3, 1) := by decide +kernel
theorem dL_isLeast_83 : decode cL_isLeast 83 = .ok (.iload 11, 2) := by decide +kernel
theorem dL_isLeast_85 : decode cL_isLeast 85 = .ok (.bipush 6, 2) := by decide +kernel
theorem dL_isLeast_87 : decode cL_isLeast 87 = .ok (.idiv, 1) := by decide +kernel
theorem dL_isLeast_88 : decode cL_isLeast 88 = .ok (.iadd, 1) := by decide +kernel
theorem dL_isLeast_89 : decode cL_isLeast 89 = .ok (.iaload, 1) := by decide +kernel
theorem dL_isLeast_90 : decode cL_isLeast 90 = .ok (.if_icmp .ge 102, 3) := by decide +kernel
theorem dL_isLeast_93 : decode cL_isLeast 93 = .ok (.aload 7, 2) := by decide +kernel
theorem dL_isLeast_95 : decode cL_isLeast 95 = .ok (.iload 11, 2) := by decide +kernel
theorem dL_isLeast_97 : decode cL_isLeast 97 = .ok (.aload_n 3, 1) := by decide +kernel
theorem dL_isLeast_98 : decode cL_isLeast 98 = .ok (.iload 11, 2) := by decide +kernel
theorem dL_isLeast_100 : decode cL_isLeast 100 = .ok (.iconst 1, 1) := by decide +kernel
theorem dL_isLeast_101 : decode cL_isLeast 101 = .ok (.iadd, 1) := by decide +kernel
theorem dL_isLeast_102 : decode cL_isLeast 102 = .ok (.iaload, 1) := by decide +kernel
theorem dL_isLeast_103 : decode cL_isLeast 103 = .ok (.iastore, 1) := by decide +kernel
theorem dL_isLeast_104 : decode cL_isLeast 104 = .ok (.aload 7, 2) := by decide +kernel
theorem dL_isLeast_106 : decode cL_isLeast 106 = .ok (.iload 11, 2) := by decide +kernel
theorem dL_isLeast_108 : decode cL_isLeast 108 = .ok (.iconst 1, 1) := by decide +kernel
theorem dL_isLeast_109 : decode cL_isLeast 109 = .ok (.iadd, 1) := by decide +kernel
theorem dL_isLeast_110 : decode cL_isLeast 110 = .ok (.aload_n 3, 1) := by decide +kernel
theorem dL_isLeast_111 : decode cL_isLeast 111 = .ok (.iload 11, 2) := by decide +kernel
theorem dL_isLeast_113 : decode cL_isLeast 113 = .ok (.iaload, 1) := by decide +kernel
theorem dL_isLeast_114 : decode cL_isLeast 114 = .ok (.iastore, 1) := by decide +kernel
theorem dL_isLeast_115 : decode cL_isLeast 115 = .ok (.aload_n 1, 1) := by decide +kernel
theorem dL_isLeast_116 : decode cL_isLeast 116 = .ok (.aload_n 2, 1) := by decide +kernel
theorem dL_isLeast_117 : decode cL_isLeast 117 = .ok (.aload 7, 2) := by decide +kernel
theorem dL_isLeast_119 : decode cL_isLeast 119 = .ok (.aload 4, 2) := by decide +kernel
theorem dL_isLeast_121 : decode cL_isLeast 121 = .ok (.invokestatic 57, 3) := by decide +kernel
theorem dL_isLeast_124 : decode cL_isLeast 124 = .ok (.istore 12, 2) := by decide +kernel
theorem dL_isLeast_126 : decode cL_isLeast 126 = .ok (.iload 12, 2) := by decide +kernel
theorem dL_isLeast_128 : decode cL_isLeast 128 = .ok (.iload 9, 2) := by decide +kernel
theorem dL_isLeast_130 : decode cL_isLeast 130 = .ok (.if_icmp .ge 20, 3) := by decide +kernel
theorem dL_isLeast_133 : decode cL_isLeast 133 = .ok (.bipush 10, 2) := by decide +kernel
theorem dL_isLeast_135 : decode cL_isLeast 135 = .ok (.iload 11, 2) := by decide +kernel
theorem dL_isLeast_137 : decode cL_isLeast 137 = .ok (.bipush 6, 2) := by decide +kernel
theorem dL_isLeast_139 : decode cL_isLeast 139 = .ok (.idiv, 1) := by decide +kernel
theorem dL_isLeast_140 : decode cL_isLeast 140 = .ok (.imul, 1) := by decide +kernel
theorem dL_isLeast_141 : decode cL_isLeast 141 = .ok (.iload 11, 2) := by decide +kernel
theorem dL_isLeast_143 : decode cL_isLeast 143 = .ok (.bipush 6, 2) := by decide +kernel
theorem dL_isLeast_145 : decode cL_isLeast 145 = .ok (.irem, 1) := by decide +kernel
theorem dL_isLeast_146 : decode cL_isLeast 146 = .ok (.iadd, 1) := by decide +kernel
theorem dL_isLeast_147 : decode cL_isLeast 147 = .ok (.goto 5, 3) := by decide +kernel
theorem dL_isLeast_150 : decode cL_isLeast 150 = .ok (.iload 10, 2) := by decide +kernel
theorem dL_isLeast_152 : decode cL_isLeast 152 = .ok (.istore 10, 2) := by decide +kernel
theorem dL_isLeast_154 : decode cL_isLeast 154 = .ok (.iload 12, 2) := by decide +kernel
theorem dL_isLeast_156 : decode cL_isLeast 156 = .ok (.iload 9, 2) := by decide +kernel
theorem dL_isLeast_158 : decode cL_isLeast 158 = .ok (.if_icmp .ge 8, 3) := by decide +kernel
theorem dL_isLeast_161 : decode cL_isLeast 161 = .ok (.iload 12, 2) := by decide +kernel
theorem dL_isLeast_163 : decode cL_isLeast 163 = .ok (.goto 5, 3) := by decide +kernel
theorem dL_isLeast_166 : decode cL_isLeast 166 = .ok (.iload 9, 2) := by decide +kernel
theorem dL_isLeast_168 : decode cL_isLeast 168 = .ok (.istore 9, 2) := by decide +kernel
theorem dL_isLeast_170 : decode cL_isLeast 170 = .ok (.aload 7, 2) := by decide +kernel
theorem dL_isLeast_172 : decode cL_isLeast 172 = .ok (.iload 11, 2) := by decide +kernel
theorem dL_isLeast_174 : decode cL_isLeast 174 = .ok (.aload_n 3, 1) := by decide +kernel
theorem dL_isLeast_175 : decode cL_isLeast 175 = .ok (.iload 11, 2) := by decide +kernel
theorem dL_isLeast_177 : decode cL_isLeast 177 = .ok (.iaload, 1) := by decide +kernel
theorem dL_isLeast_178 : decode cL_isLeast 178 = .ok (.iastore, 1) := by decide +kernel
theorem dL_isLeast_179 : decode cL_isLeast 179 = .ok (.aload 7, 2) := by decide +kernel
theorem dL_isLeast_181 : decode cL_isLeast 181 = .ok (.iload 11, 2) := by decide +kernel
theorem dL_isLeast_183 : decode cL_isLeast 183 = .ok (.iconst 1, 1) := by decide +kernel
theorem dL_isLeast_184 : decode cL_isLeast 184 = .ok (.iadd, 1) := by decide +kernel
theorem dL_isLeast_185 : decode cL_isLeast 185 = .ok (.aload_n 3, 1) := by decide +kernel
theorem dL_isLeast_186 : decode cL_isLeast 186 = .ok (.iload 11, 2) := by decide +kernel
theorem dL_isLeast_188 : decode cL_isLeast 188 = .ok (.iconst 1, 1) := by decide +kernel
theorem dL_isLeast_189 : decode cL_isLeast 189 = .ok (.iadd, 1) := by decide +kernel
theorem dL_isLeast_190 : decode cL_isLeast 190 = .ok (.iaload, 1) := by decide +kernel
theorem dL_isLeast_191 : decode cL_isLeast 191 = .ok (.iastore, 1) := by decide +kernel
theorem dL_isLeast_192 : decode cL_isLeast 192 = .ok (.iinc 11 1, 3) := by decide +kernel
theorem dL_isLeast_195 : decode cL_isLeast 195 = .ok (.goto (-129), 3) := by decide +kernel
theorem dL_isLeast_198 : decode cL_isLeast 198 = .ok (.aload_n 0, 1) := by decide +kernel
theorem dL_isLeast_199 : decode cL_isLeast 199 = .ok (.iload 5, 2) := by decide +kernel
theorem dL_isLeast_201 : decode cL_isLeast 201 = .ok (.iconst 0, 1) := by decide +kernel
theorem dL_isLeast_202 : decode cL_isLeast 202 = .ok (.invokevirtual 73, 3) := by decide +kernel
theorem dL_isLeast_205 : decode cL_isLeast 205 = .ok (.iload 8, 2) := by decide +kernel
theorem dL_isLeast_207 : decode cL_isLeast 207 = .ok (.if_icmp .ne 28, 3) := by decide +kernel
theorem dL_isLeast_210 : decode cL_isLeast 210 = .ok (.aload_n 0, 1) := by decide +kernel
theorem dL_isLeast_211 : decode cL_isLeast 211 = .ok (.iload 5, 2) := by decide +kernel
theorem dL_isLeast_213 : decode cL_isLeast 213 = .ok (.iconst 1, 1) := by decide +kernel
theorem dL_isLeast_214 : decode cL_isLeast 214 = .ok (.invokevirtual 73, 3) := by decide +kernel
theorem dL_isLeast_217 : decode cL_isLeast 217 = .ok (.iload 8, 2) := by decide +kernel
theorem dL_isLeast_219 : decode cL_isLeast 219 = .ok (.if_icmp .ne 16, 3) := by decide +kernel
theorem dL_isLeast_222 : decode cL_isLeast 222 = .ok (.aload_n 0, 1) := by decide +kernel
theorem dL_isLeast_223 : decode cL_isLeast 223 = .ok (.invokevirtual 76, 3) := by decide +kernel
theorem dL_isLeast_226 : decode cL_isLeast 226 = .ok (.iload 10, 2) := by decide +kernel
theorem dL_isLeast_228 : decode cL_isLeast 228 = .ok (.if_icmp .ne 7, 3) := by decide +kernel
theorem dL_isLeast_231 : decode cL_isLeast 231 = .ok (.iconst 1, 1) := by decide +kernel
theorem dL_isLeast_232 : decode cL_isLeast 232 = .ok (.goto 4, 3) := by decide +kernel
theorem dL_isLeast_235 : decode cL_isLeast 235 = .ok (.iconst 0, 1) := by decide +kernel
theorem dL_isLeast_236 : decode cL_isLeast 236 = .ok (.istore 11, 2) := by decide +kernel
theorem dL_isLeast_238 : decode cL_isLeast 238 = .ok (.iload 6, 2) := by decide +kernel
theorem dL_isLeast_240 : decode cL_isLeast 240 = .ok (.aload 4, 2) := by decide +kernel
theorem dL_isLeast_242 : decode cL_isLeast 242 = .ok (.iconst 0, 1) := by decide +kernel
theorem dL_isLeast_243 : decode cL_isLeast 243 = .ok (.iaload, 1) := by decide +kernel
theorem dL_isLeast_244 : decode cL_isLeast 244 = .ok (.invokestatic 80, 3) := by decide +kernel
theorem dL_isLeast_247 : decode cL_isLeast 247 = .ok (.istore 12, 2) := by decide +kernel
theorem dL_isLeast_249 : decode cL_isLeast 249 = .ok (.iconst 0, 1) := by decide +kernel
theorem dL_isLeast_250 : decode cL_isLeast 250 = .ok (.istore 13, 2) := by decide +kernel
theorem dL_isLeast_252 : decode cL_isLeast 252 = .ok (.iload 13, 2) := by decide +kernel
theorem dL_isLeast_254 : decode cL_isLeast 254 = .ok (.aload 4, 2) := by decide +kernel
theorem dL_isLeast_256 : decode cL_isLeast 256 = .ok (.iconst 0, 1) := by decide +kernel
theorem dL_isLeast_257 : decode cL_isLeast 257 = .ok (.iaload, 1) := by decide +kernel
theorem dL_isLeast_258 : decode cL_isLeast 258 = .ok (.if_icmp .ge 165, 3) := by decide +kernel
theorem dL_isLeast_261 : decode cL_isLeast 261 = .ok (.aload_n 1, 1) := by decide +kernel
theorem dL_isLeast_262 : decode cL_isLeast 262 = .ok (.aload_n 2, 1) := by decide +kernel
theorem dL_isLeast_263 : decode cL_isLeast 263 = .ok (.aload 4, 2) := by decide +kernel
theorem dL_isLeast_265 : decode cL_isLeast 265 = .ok (.iload 12, 2) := by decide +kernel
theorem dL_isLeast_267 : decode cL_isLeast 267 = .ok (.invokestatic 43, 3) := by decide +kernel
theorem dL_isLeast_270 : decode cL_isLeast 270 = .ok (.iconst 1, 1) := by decide +kernel
theorem dL_isLeast_271 : decode cL_isLeast 271 = .ok (.iload 12, 2) := by decide +kernel
theorem dL_isLeast_273 : decode cL_isLeast 273 = .ok (.ishl, 1) := by decide +kernel
theorem dL_isLeast_274 : decode cL_isLeast 274 = .ok (.ior, 1) := by decide +kernel
theorem dL_isLeast_275 : decode cL_isLeast 275 = .ok (.aload_n 1, 1) := by decide +kernel
theorem dL_isLeast_276 : decode cL_isLeast 276 = .ok (.aload_n 2, 1) := by decide +kernel
theorem dL_isLeast_277 : decode cL_isLeast 277 = .ok (.aload 4, 2) := by decide +kernel
theorem dL_isLeast_279 : decode cL_isLeast 279 = .ok (.iload 13, 2) := by decide +kernel
theorem dL_isLeast_281 : decode cL_isLeast 281 = .ok (.invokestatic 43, 3) := by decide +kernel
theorem dL_isLeast_284 : decode cL_isLeast 284 = .ok (.iconst 1, 1) := by decide +kernel
theorem dL_isLeast_285 : decode cL_isLeast 285 = .ok (.iload 13, 2) := by decide +kernel
theorem dL_isLeast_287 : decode cL_isLeast 287 = .ok (.ishl, 1) := by decide +kernel
theorem dL_isLeast_288 : decode cL_isLeast 288 = .ok (.ior, 1) := by decide +kernel
theorem dL_isLeast_289 : decode cL_isLeast 289 = .ok (.iand, 1) := by decide +kernel
theorem dL_isLeast_290 : decode cL_isLeast 290 = .ok (.istore 14, 2) := by decide +kernel
theorem dL_isLeast_292 : decode cL_isLeast 292 = .ok (.iconst (-1), 1) := by decide +kernel
theorem dL_isLeast_293 : decode cL_isLeast 293 = .ok (.istore 15, 2) := by decide +kernel
theorem dL_isLeast_295 : decode cL_isLeast 295 = .ok (.iconst 3, 1) := by decide +kernel
theorem dL_isLeast_296 : decode cL_isLeast 296 = .ok (.istore 16, 2) := by decide +kernel
theorem dL_isLeast_298 : decode cL_isLeast 298 = .ok (.iload 16, 2) := by decide +kernel
theorem dL_isLeast_300 : decode cL_isLeast 300 = .ok (.ifCond .lt 79, 3) := by decide +kernel
theorem dL_isLeast_303 : decode cL_isLeast 303 = .ok (.iload 15, 2) := by decide +kernel
theorem dL_isLeast_305 : decode cL_isLeast 305 = .ok (.ifCond .ge 74, 3) := by decide +kernel
theorem dL_isLeast_308 : decode cL_isLeast 308 = .ok (.iconst 0, 1) := by decide +kernel
theorem dL_isLeast_309 : decode cL_isLeast 309 = .ok (.istore 17, 2) := by decide +kernel
theorem dL_isLeast_311 : decode cL_isLeast 311 = .ok (.iload 17, 2) := by decide +kernel
theorem dL_isLeast_313 : decode cL_isLeast 313 = .ok (.aload 4, 2) := by decide +kernel
theorem dL_isLeast_315 : decode cL_isLeast 315 = .ok (.iconst 0, 1) := by decide +kernel
theorem dL_isLeast_316 : decode cL_isLeast 316 = .ok (.iaload, 1) := by decide +kernel
theorem dL_isLeast_317 : decode cL_isLeast 317 = .ok (.if_icmp .ge 56, 3) := by decide +kernel
theorem dL_isLeast_320 : decode cL_isLeast 320 = .ok (.aload_n 1, 1) := by decide +kernel
theorem dL_isLeast_321 : decode cL_isLeast 321 = .ok (.iconst 2, 1) := by decide +kernel
theorem dL_isLeast_322 : decode cL_isLeast 322 = .ok (.iload 17, 2) := by decide +kernel
theorem dL_isLeast_324 : decode cL_isLeast 324 = .ok (.imul, 1) := by decide +kernel
theorem dL_isLeast_325 : decode cL_isLeast 325 = .ok (.iaload, 1) := by decide +kernel
theorem dL_isLeast_326 : decode cL_isLeast 326 = .ok (.iload 16, 2) := by decide +kernel
theorem dL_isLeast_328 : decode cL_isLeast 328 = .ok (.if_icmp .ne 35, 3) := by decide +kernel
theorem dL_isLeast_331 : decode cL_isLeast 331 = .ok (.iload 14, 2) := by decide +kernel
theorem dL_isLeast_333 : decode cL_isLeast 333 = .ok (.iload 17, 2) := by decide +kernel
theorem dL_isLeast_335 : decode cL_isLeast 335 = .ok (.ishr, 1) := by decide +kernel
theorem dL_isLeast_336 : decode cL_isLeast 336 = .ok (.iconst 1, 1) := by decide +kernel
theorem dL_isLeast_337 : decode cL_isLeast 337 = .ok (.iand, 1) := by decide +kernel
theorem dL_isLeast_338 : decode cL_isLeast 338 = .ok (.iconst 1, 1) := by decide +kernel
theorem dL_isLeast_339 : decode cL_isLeast 339 = .ok (.if_icmp .ne 24, 3) := by decide +kernel
theorem dL_isLeast_342 : decode cL_isLeast 342 = .ok (.aload_n 1, 1) := by decide +kernel
theorem dL_isLeast_343 : decode cL_isLeast 343 = .ok (.iconst 2, 1) := by decide +kernel
theorem dL_isLeast_344 : decode cL_isLeast 344 = .ok (.iload 12, 2) := by decide +kernel
theorem dL_isLeast_346 : decode cL_isLeast 346 = .ok (.imul, 1) := by decide +kernel
theorem dL_isLeast_347 : decode cL_isLeast 347 = .ok (.iaload, 1) := by decide +kernel
theorem dL_isLeast_348 : decode cL_isLeast 348 = .ok (.aload_n 1, 1) := by decide +kernel
theorem dL_isLeast_349 : decode cL_isLeast 349 = .ok (.iconst 2, 1) := by decide +kernel
theorem dL_isLeast_350 : decode cL_isLeast 350 = .ok (.iload 13, 2) := by decide +kernel
theorem dL_isLeast_352 : decode cL_isLeast 352 = .ok (.imul, 1) := by decide +kernel
theorem dL_isLeast_353 : decode cL_isLeast 353 = .ok (.iaload, 1) := by decide +kernel
theorem dL_isLeast_354 : decode cL_isLeast 354 = .ok (.iadd, 1) := by decide +kernel
theorem dL_isLeast_355 : decode cL_isLeast 355 = .ok (.iconst 2, 1) := by decide +kernel
theorem dL_isLeast_356 : decode cL_isLeast 356 = .ok (.iload 16, 2) := by decide +kernel
theorem dL_isLeast_358 : decode cL_isLeast 358 = .ok (.imul, 1) := by decide +kernel
theorem dL_isLeast_359 : decode cL_isLeast 359 = .ok (.isub, 1) := by decide +kernel
theorem dL_isLeast_360 : decode cL_isLeast 360 = .ok (.goto 5, 3) := by decide +kernel
theorem dL_isLeast_363 : decode cL_isLeast 363 = .ok (.iload 15, 2) := by decide +kernel
theorem dL_isLeast_365 : decode cL_isLeast 365 = .ok (.istore 15, 2) := by decide +kernel
theorem dL_isLeast_367 : decode cL_isLeast 367 = .ok (.iinc 17 1, 3) := by decide +kernel
theorem dL_isLeast_370 : decode cL_isLeast 370 = .ok (.goto (-59), 3) := by decide +kernel
theorem dL_isLeast_373 : decode cL_isLeast 373 = .ok (.iinc 16 (-1), 3) := by decide +kernel
theorem dL_isLeast_376 : decode cL_isLeast 376 = .ok (.goto (-78), 3) := by decide +kernel
theorem dL_isLeast_379 : decode cL_isLeast 379 = .ok (.iload 11, 2) := by decide +kernel
theorem dL_isLeast_381 : decode cL_isLeast 381 = .ok (.ifCond .eq 33, 3) := by decide +kernel
theorem dL_isLeast_384 : decode cL_isLeast 384 = .ok (.aload_n 0, 1) := by decide +kernel
theorem dL_isLeast_385 : decode cL_isLeast 385 = .ok (.iload 12, 2) := by decide +kernel
theorem dL_isLeast_387 : decode cL_isLeast 387 = .ok (.iload 13, 2) := by decide +kernel
theorem dL_isLeast_389 : decode cL_isLeast 389 = .ok (.invokevirtual 83, 3) := by decide +kernel
theorem dL_isLeast_392 : decode cL_isLeast 392 = .ok (.iload 15, 2) := by decide +kernel
theorem dL_isLeast_394 : decode cL_isLeast 394 = .ok (.if_icmp .ne 20, 3) := by decide +kernel
theorem dL_isLeast_397 : decode cL_isLeast 397 = .ok (.aload_n 0, 1) := by decide +kernel
theorem dL_isLeast_398 : decode cL_isLeast 398 = .ok (.iload 13, 2) := by decide +kernel
theorem dL_isLeast_400 : decode cL_isLeast 400 = .ok (.iload 12, 2) := by decide +kernel
theorem dL_isLeast_402 : decode cL_isLeast 402 = .ok (.invokevirtual 83, 3) := by decide +kernel
theorem dL_isLeast_405 : decode cL_isLeast 405 = .ok (.iload 15, 2) := by decide +kernel
theorem dL_isLeast_407 : decode cL_isLeast 407 = .ok (.if_icmp .ne 7, 3) := by decide +kernel
theorem dL_isLeast_410 : decode cL_isLeast 410 = .ok (.iconst 1, 1) := by decide +kernel
theorem dL_isLeast_411 : decode cL_isLeast 411 = .ok (.goto 4, 3) := by decide +kernel
theorem dL_isLeast_414 : decode cL_isLeast 414 = .ok (.iconst 0, 1) := by decide +kernel
theorem dL_isLeast_415 : decode cL_isLeast 415 = .ok (.istore 11, 2) := by decide +kernel
theorem dL_isLeast_417 : decode cL_isLeast 417 = .ok (.iinc 13 1, 3) := by decide +kernel
theorem dL_isLeast_420 : decode cL_isLeast 420 = .ok (.goto (-168), 3) := by decide +kernel
theorem dL_isLeast_423 : decode cL_isLeast 423 = .ok (.iload 11, 2) := by decide +kernel
theorem dL_isLeast_425 : decode cL_isLeast 425 = .ok (.ireturn, 1) := by decide +kernel
theorem dL_comes_0 : decode cL_comes 0 = .ok (.aload_n 2, 1) := by decide +kernel
theorem dL_comes_1 : decode cL_comes 1 = .ok (.iconst 3, 1) := by decide +kernel
theorem dL_comes_2 : decode cL_comes 2 = .ok (.iload_n 3, 1) := by decide +kernel
theorem dL_comes_3 : decode cL_comes 3 = .ok (.iadd, 1) := by decide +kernel
theorem dL_comes_4 : decode cL_comes 4 = .ok (.iaload, 1) := by decide +kernel
theorem dL_comes_5 : decode cL_comes 5 = .ok (.bipush 6, 2) := by decide +kernel
theorem dL_comes_7 : decode cL_comes 7 = .ok (.if_icmp .eq 11, 3) := by decide +kernel
theorem dL_comes_10 : decode cL_comes 10 = .ok (.aload_n 2, 1) := by decide +kernel
theorem dL_comes_11 : decode cL_comes 11 = .ok (.iconst 0, 1) := by decide +kernel
theorem dL_comes_12 : decode cL_comes 12 = .ok (.iaload, 1) := by decide +kernel
theorem dL_comes_13 : decode cL_comes 13 = .ok (.bipush 20, 2) := by decide +kernel
theorem dL_comes_15 : decode cL_comes 15 = .ok (.if_icmp .ne 12, 3) := by decide +kernel
theorem dL_comes_18 : decode cL_comes 18 = .ok (.aload_n 2, 1) := by decide +kernel
theorem dL_comes_19 : decode cL_comes 19 = .ok (.iconst 2, 1) := by decide +kernel
theorem dL_comes_20 : decode cL_comes 20 = .ok (.dup2, 1) := by decide +kernel
theorem dL_comes_21 : decode cL_comes 21 = .ok (.iaload, 1) := by decide +kernel
theorem dL_comes_22 : decode cL_comes 22 = .ok (.iconst 1, 1) := by decide +kernel
theorem dL_comes_23 : decode cL_comes 23 = .ok (.iadd, 1) := by decide +kernel
theorem dL_comes_24 : decode cL_comes 24 = .ok (.iastore, 1) := by decide +kernel
theorem dL_comes_25 : decode cL_comes 25 = .ok (.iconst (-1), 1) := by decide +kernel
theorem dL_comes_26 : decode cL_comes 26 = .ok (.ireturn, 1) := by decide +kernel
theorem dL_comes_27 : decode cL_comes 27 = .ok (.aload_n 0, 1) := by decide +kernel
theorem dL_comes_28 : decode cL_comes 28 = .ok (.iconst 2, 1) := by decide +kernel
theorem dL_comes_29 : decode cL_comes 29 = .ok (.aload_n 2, 1) := by decide +kernel
theorem dL_comes_30 : decode cL_comes 30 = .ok (.iconst 0, 1) := by decide +kernel
theorem dL_comes_31 : decode cL_comes 31 = .ok (.iaload, 1) := by decide +kernel
theorem dL_comes_32 : decode cL_comes 32 = .ok (.imul, 1) := by decide +kernel
theorem dL_comes_33 : decode cL_comes 33 = .ok (.iload_n 3, 1) := by decide +kernel
theorem dL_comes_34 : decode cL_comes 34 = .ok (.iastore, 1) := by decide +kernel
theorem dL_comes_35 : decode cL_comes 35 = .ok (.aload_n 0, 1) := by decide +kernel
theorem dL_comes_36 : decode cL_comes 36 = .ok (.iconst 2, 1) := by decide +kernel
theorem dL_comes_37 : decode cL_comes 37 = .ok (.aload_n 2, 1) := by decide +kernel
theorem dL_comes_38 : decode cL_comes 38 = .ok (.iconst 0, 1) := by decide +kernel
theorem dL_comes_39 : decode cL_comes 39 = .ok (.iaload, 1) := by decide +kernel
theorem dL_comes_40 : decode cL_comes 40 = .ok (.imul, 1) := by decide +kernel
theorem dL_comes_41 : decode cL_comes 41 = .ok (.iconst 1, 1) := by decide +kernel
theorem dL_comes_42 : decode cL_comes 42 = .ok (.iadd, 1) := by decide +kernel
theorem dL_comes_43 : decode cL_comes 43 = .ok (.iload 4, 2) := by decide +kernel
theorem dL_comes_45 : decode cL_comes 45 = .ok (.iastore, 1) := by decide +kernel
theorem dL_comes_46 : decode cL_comes 46 = .ok (.aload_n 1, 1) := by decide +kernel
theorem dL_comes_47 : decode cL_comes 47 = .ok (.bipush 6, 2) := by decide +kernel
theorem dL_comes_49 : decode cL_comes 49 = .ok (.iload_n 3, 1) := by decide +kernel
theorem dL_comes_50 : decode cL_comes 50 = .ok (.imul, 1) := by decide +kernel
theorem dL_comes_51 : decode cL_comes 51 = .ok (.aload_n 2, 1) := by decide +kernel
theorem dL_comes_52 : decode cL_comes 52 = .ok (.iconst 3, 1) := by decide +kernel
theorem dL_comes_53 : decode cL_comes 53 = .ok (.iload_n 3, 1) := by decide +kernel
theorem dL_comes_54 : decode cL_comes 54 = .ok (.iadd, 1) := by decide +kernel
theorem dL_comes_55 : decode cL_comes 55 = .ok (.iaload, 1) := by decide +kernel
theorem dL_comes_56 : decode cL_comes 56 = .ok (.iadd, 1) := by decide +kernel
theorem dL_comes_57 : decode cL_comes 57 = .ok (.aload_n 2, 1) := by decide +kernel
theorem dL_comes_58 : decode cL_comes 58 = .ok (.iconst 0, 1) := by decide +kernel
theorem dL_comes_59 : decode cL_comes 59 = .ok (.iaload, 1) := by decide +kernel
theorem dL_comes_60 : decode cL_comes 60 = .ok (.iastore, 1) := by decide +kernel
theorem dL_comes_61 : decode cL_comes 61 = .ok (.aload_n 2, 1) := by decide +kernel
theorem dL_comes_62 : decode cL_comes 62 = .ok (.iconst 3, 1) := by decide +kernel
theorem dL_comes_63 : decode cL_comes 63 = .ok (.iload_n 3, 1) := by decide +kernel
theorem dL_comes_64 : decode cL_comes 64 = .ok (.iadd, 1) := by decide +kernel
theorem dL_comes_65 : decode cL_comes 65 = .ok (.dup2, 1) := by decide +kernel
theorem dL_comes_66 : decode cL_comes 66 = .ok (.iaload, 1) := by decide +kernel
theorem dL_comes_67 : decode cL_comes 67 = .ok (.iconst 1, 1) := by decide +kernel
theorem dL_comes_68 : decode cL_comes 68 = .ok (.iadd, 1) := by decide +kernel
theorem dL_comes_69 : decode cL_comes 69 = .ok (.iastore, 1) := by decide +kernel
theorem dL_comes_70 : decode cL_comes 70 = .ok (.aload_n 2, 1) := by decide +kernel
theorem dL_comes_71 : decode cL_comes 71 = .ok (.iconst 0, 1) := by decide +kernel
theorem dL_comes_72 : decode cL_comes 72 = .ok (.dup2, 1) := by decide +kernel
theorem dL_comes_73 : decode cL_comes 73 = .ok (.iaload, 1) := by decide +kernel
theorem dL_comes_74 : decode cL_comes 74 = .ok (.iconst 1, 1) := by decide +kernel
theorem dL_comes_75 : decode cL_comes 75 = .ok (.iadd, 1) := by decide +kernel
theorem dL_comes_76 : decode cL_comes 76 = .ok (.iastore, 1) := by decide +kernel
theorem dL_comes_77 : decode cL_comes 77 = .ok (.aload_n 2, 1) := by decide +kernel
theorem dL_comes_78 : decode cL_comes 78 = .ok (.iconst 0, 1) := by decide +kernel
theorem dL_comes_79 : decode cL_comes 79 = .ok (.iaload, 1) := by decide +kernel
theorem dL_comes_80 : decode cL_comes 80 = .ok (.iconst 1, 1) := by decide +kernel
theorem dL_comes_81 : decode cL_comes 81 = .ok (.isub, 1) := by decide +kernel
theorem dL_comes_82 : decode cL_comes 82 = .ok (.ireturn, 1) := by decide +kernel
set_option maxRecDepth 20000 in
theorem ggL_marries_L_couples : GoodIn wsL_marries wsL_couples := goodIn_r _ [4] (by decide +kernel) (by decide +kernel)
set_option maxRecDepth 20000 in
theorem gL_marries_L_couples : GoodIn wsL_marries (va_wsS RL 50 yL_couples wsL_couples) := goodIn_app (goodIn_of _ (by decide +kernel)) ggL_marries_L_couples
theorem dL_marries_0 : decode cL_marries 0 = .ok (.iload_n 3, 1) := by decide +kernel
theorem dL_marries_1 : decode cL_marries 1 = .ok (.iload 4, 2) := by decide +kernel
theorem dL_marries_3 : decode cL_marries 3 = .ok (.if_icmp .ge 7, 3) := by decide +kernel
theorem dL_marries_6 : decode cL_marries 6 = .ok (.iload_n 3, 1) := by decide +kernel
theorem dL_marries_7 : decode cL_marries 7 = .ok (.goto 5, 3) := by decide +kernel
theorem dL_marries_10 : decode cL_marries 10 = .ok (.iload 4, 2) := by decide +kernel
theorem dL_marries_12 : decode cL_marries 12 = .ok (.istore 5, 2) := by decide +kernel
theorem dL_marries_14 : decode cL_marries 14 = .ok (.iload_n 3, 1) := by decide +kernel
theorem dL_marries_15 : decode cL_marries 15 = .ok (.iload 4, 2) := by decide +kernel
theorem dL_marries_17 : decode cL_marries 17 = .ok (.iadd, 1) := by decide +kernel
theorem dL_marries_18 : decode cL_marries 18 = .ok (.iload 5, 2) := by decide +kernel
theorem dL_marries_20 : decode cL_marries 20 = .ok (.isub, 1) := by decide +kernel
theorem dL_marries_21 : decode cL_marries 21 = .ok (.istore 6, 2) := by decide +kernel
theorem dL_marries_23 : decode cL_marries 23 = .ok (.iconst 0, 1) := by decide +kernel
theorem dL_marries_24 : decode cL_marries 24 = .ok (.istore 7, 2) := by decide +kernel
theorem dL_marries_26 : decode cL_marries 26 = .ok (.iconst 0, 1) := by decide +kernel
theorem dL_marries_27 : decode cL_marries 27 = .ok (.istore 8, 2) := by decide +kernel
theorem dL_marries_29 : decode cL_marries 29 = .ok (.iload 8, 2) := by decide +kernel
theorem dL_marries_31 : decode cL_marries 31 = .ok (.aload_n 2, 1) := by decide +kernel
theorem dL_marries_32 : decode cL_marries 32 = .ok (.iconst 1, 1) := by decide +kernel
theorem dL_marries_33 : decode cL_marries 33 = .ok (.iaload, 1) := by decide +kernel
theorem dL_marries_34 : decode cL_marries 34 = .ok (.if_icmp .ge 45, 3) := by decide +kernel
theorem dL_marries_37 : decode cL_marries 37 = .ok (.iload 7, 2) := by decide +kernel
theorem dL_marries_39 : decode cL_marries 39 = .ok (.ifCond .ne 27, 3) := by decide +kernel
theorem dL_marries_42 : decode cL_marries 42 = .ok (.aload_n 1, 1) := by decide +kernel
theorem dL_marries_43 : decode cL_marries 43 = .ok (.iconst 2, 1) := by decide +kernel
theorem dL_marries_44 : decode cL_marries 44 = .ok (.iload 8, 2) := by decide +kernel
theorem dL_marries_46 : decode cL_marries 46 = .ok (.imul, 1) := by decide +kernel
theorem dL_marries_47 : decode cL_marries 47 = .ok (.iaload, 1) := by decide +kernel
theorem dL_marries_48 : decode cL_marries 48 = .ok (.iload 5, 2) := by decide +kernel
theorem dL_marries_50 : decode cL_marries 50 = .ok (.if_icmp .ne 20, 3) := by decide +kernel
theorem dL_marries_53 : decode cL_marries 53 = .ok (.aload_n 1, 1) := by decide +kernel
theorem dL_marries_54 : decode cL_marries 54 = .ok (.iconst 2, 1) := by decide +kernel
theorem dL_marries_55 : decode cL_marries 55 = .ok (.iload 8, 2) := by decide +kernel
theorem dL_marries_57 : decode cL_marries 57 = .ok (.imul, 1) := by decide +kernel
theorem dL_marries_58 : decode cL_marries 58 = .ok (.iconst 1, 1) := by decide +kernel
theorem dL_marries_59 : decode cL_marries 59 = .ok (.iadd, 1) := by decide +kernel
theorem dL_marries_60 : decode cL_marries 60 = .ok (.iaload, 1) := by decide +kernel
theorem dL_marries_61 : decode cL_marries 61 = .ok (.iload 6, 2) := by decide +kernel
theorem dL_marries_63 : decode cL_marries 63 = .ok (.if_icmp .ne 7, 3) := by decide +kernel
theorem dL_marries_66 : decode cL_marries 66 = .ok (.iconst 1, 1) := by decide +kernel
theorem dL_marries_67 : decode cL_marries 67 = .ok (.goto 4, 3) := by decide +kernel
theorem dL_marries_70 : decode cL_marries 70 = .ok (.iconst 0, 1) := by decide +kernel
theorem dL_marries_71 : decode cL_marries 71 = .ok (.istore 7, 2) := by decide +kernel
theorem dL_marries_73 : decode cL_marries 73 = .ok (.iinc 8 1, 3) := by decide +kernel
theorem dL_marries_76 : decode cL_marries 76 = .ok (.goto (-47), 3) := by decide +kernel
theorem dL_marries_79 : decode cL_marries 79 = .ok (.aload_n 2, 1) := by decide +kernel
theorem dL_marries_80 : decode cL_marries 80 = .ok (.iconst 1, 1) := by decide +kernel
theorem dL_marries_81 : decode cL_marries 81 = .ok (.iaload, 1) := by decide +kernel
theorem dL_marries_82 : decode cL_marries 82 = .ok (.bipush 10, 2) := by decide +kernel
theorem dL_marries_84 : decode cL_marries 84 = .ok (.if_icmp .ne 7, 3) := by decide +kernel
theorem dL_marries_87 : decode cL_marries 87 = .ok (.iconst 1, 1) := by decide +kernel
theorem dL_marries_88 : decode cL_marries 88 = .ok (.goto 68, 3) := by decide +kernel
theorem dL_marries_91 : decode cL_marries 91 = .ok (.aload_n 0, 1) := by decide +kernel
theorem dL_marries_92 : decode cL_marries 92 = .ok (.iconst 2, 1) := by decide +kernel
theorem dL_marries_93 : decode cL_marries 93 = .ok (.iload 5, 2) := by decide +kernel
theorem dL_marries_95 : decode cL_marries 95 = .ok (.imul, 1) := by decide +kernel
theorem dL_marries_96 : decode cL_marries 96 = .ok (.iaload, 1) := by decide +kernel
theorem dL_marries_97 : decode cL_marries 97 = .ok (.aload_n 0, 1) := by decide +kernel
theorem dL_marries_98 : decode cL_marries 98 = .ok (.iconst 2, 1) := by decide +kernel
theorem dL_marries_99 : decode cL_marries 99 = .ok (.iload 6, 2) := by decide +kernel
theorem dL_marries_101 : decode cL_marries 101 = .ok (.imul, 1) := by decide +kernel
theorem dL_marries_102 : decode cL_marries 102 = .ok (.iaload, 1) := by decide +kernel
theorem dL_marries_103 : decode cL_marries 103 = .ok (.if_icmp .ne 13, 3) := by decide +kernel
theorem dL_marries_106 : decode cL_marries 106 = .ok (.aload_n 0, 1) := by decide +kernel
theorem dL_marries_107 : decode cL_marries 107 = .ok (.iconst 2, 1) := by decide +kernel
theorem dL_marries_108 : decode cL_marries 108 = .ok (.iload 5, 2) := by decide +kernel
theorem dL_marries_110 : decode cL_marries 110 = .ok (.imul, 1) := by decide +kernel
theorem dL_marries_111 : decode cL_marries 111 = .ok (.iaload, 1) := by decide +kernel
theorem dL_marries_112 : decode cL_marries 112 = .ok (.iconst 3, 1) := by decide +kernel
theorem dL_marries_113 : decode cL_marries 113 = .ok (.if_icmp .ne 7, 3) := by decide +kernel
theorem dL_marries_116 : decode cL_marries 116 = .ok (.iconst 2, 1) := by decide +kernel
theorem dL_marries_117 : decode cL_marries 117 = .ok (.goto 39, 3) := by decide +kernel
theorem dL_marries_120 : decode cL_marries 120 = .ok (.iload 7, 2) := by decide +kernel
theorem dL_marries_122 : decode cL_marries 122 = .ok (.ifCond .eq 7, 3) := by decide +kernel
theorem dL_marries_125 : decode cL_marries 125 = .ok (.iconst 3, 1) := by decide +kernel
theorem dL_marries_126 : decode cL_marries 126 = .ok (.goto 30, 3) := by decide +kernel
theorem dL_marries_129 : decode cL_marries 129 = .ok (.aload_n 1, 1) := by decide +kernel
theorem dL_marries_130 : decode cL_marries 130 = .ok (.aload_n 2, 1) := by decide +kernel
theorem dL_marries_131 : decode cL_marries 131 = .ok (.iload 5, 2) := by decide +kernel
theorem dL_marries_133 : decode cL_marries 133 = .ok (.invokestatic 50, 3) := by decide +kernel
theorem dL_marries_136 : decode cL_marries 136 = .ok (.iconst 1, 1) := by decide +kernel
theorem dL_marries_137 : decode cL_marries 137 = .ok (.if_icmp .gt 14, 3) := by decide +kernel
theorem dL_marries_140 : decode cL_marries 140 = .ok (.aload_n 1, 1) := by decide +kernel
theorem dL_marries_141 : decode cL_marries 141 = .ok (.aload_n 2, 1) := by decide +kernel
theorem dL_marries_142 : decode cL_marries 142 = .ok (.iload 6, 2) := by decide +kernel
theorem dL_marries_144 : decode cL_marries 144 = .ok (.invokestatic 50, 3) := by decide +kernel
theorem dL_marries_147 : decode cL_marries 147 = .ok (.iconst 1, 1) := by decide +kernel
theorem dL_marries_148 : decode cL_marries 148 = .ok (.if_icmp .le 7, 3) := by decide +kernel
theorem dL_marries_151 : decode cL_marries 151 = .ok (.iconst 4, 1) := by decide +kernel
theorem dL_marries_152 : decode cL_marries 152 = .ok (.goto 4, 3) := by decide +kernel
theorem dL_marries_155 : decode cL_marries 155 = .ok (.iconst 0, 1) := by decide +kernel
theorem dL_marries_156 : decode cL_marries 156 = .ok (.istore 8, 2) := by decide +kernel
theorem dL_marries_158 : decode cL_marries 158 = .ok (.iload 8, 2) := by decide +kernel
theorem dL_marries_160 : decode cL_marries 160 = .ok (.ifCond .le 13, 3) := by decide +kernel
theorem dL_marries_163 : decode cL_marries 163 = .ok (.aload_n 2, 1) := by decide +kernel
theorem dL_marries_164 : decode cL_marries 164 = .ok (.iconst 2, 1) := by decide +kernel
theorem dL_marries_165 : decode cL_marries 165 = .ok (.dup2, 1) := by decide +kernel
theorem dL_marries_166 : decode cL_marries 166 = .ok (.iaload, 1) := by decide +kernel
theorem dL_marries_167 : decode cL_marries 167 = .ok (.iconst 1, 1) := by decide +kernel
theorem dL_marries_168 : decode cL_marries 168 = .ok (.iadd, 1) := by decide +kernel
theorem dL_marries_169 : decode cL_marries 169 = .ok (.iastore, 1) := by decide +kernel
theorem dL_marries_170 : decode cL_marries 170 = .ok (.iload 8, 2) := by decide +kernel
theorem dL_marries_172 : decode cL_marries 172 = .ok (.ireturn, 1) := by decide +kernel
theorem dL_marries_173 : decode cL_marries 173 = .ok (.aload_n 1, 1) := by decide +kernel
theorem dL_marries_174 : decode cL_marries 174 = .ok (.iconst 2, 1) := by decide +kernel
theorem dL_marries_175 : decode cL_marries 175 = .ok (.aload_n 2, 1) := by decide +kernel
theorem dL_marries_176 : decode cL_marries 176 = .ok (.iconst 1, 1) := by decide +kernel
theorem dL_marries_177 : decode cL_marries 177 = .ok (.iaload, 1) := by decide +kernel
theorem dL_marries_178 : decode cL_marries 178 = .ok (.imul, 1) := by decide +kernel
theorem dL_marries_179 : decode cL_marries 179 = .ok (.iload 5, 2) := by decide +kernel
theorem dL_marries_181 : decode cL_marries 181 = .ok (.iastore, 1) := by decide +kernel
theorem dL_marries_182 : decode cL_marries 182 = .ok (.aload_n 1, 1) := by decide +kernel
theorem dL_marries_183 : decode cL_marries 183 = .ok (.iconst 2, 1) := by decide +kernel
theorem dL_marries_184 : decode cL_marries 184 = .ok (.aload_n 2, 1) := by decide +kernel
theorem dL_marries_185 : decode cL_marries 185 = .ok (.iconst 1, 1) := by decide +kernel
theorem dL_marries_186 : decode cL_marries 186 = .ok (.iaload, 1) := by decide +kernel
theorem dL_marries_187 : decode cL_marries 187 = .ok (.imul, 1) := by decide +kernel
theorem dL_marries_188 : decode cL_marries 188 = .ok (.iconst 1, 1) := by decide +kernel
theorem dL_marries_189 : decode cL_marries 189 = .ok (.iadd, 1) := by decide +kernel
theorem dL_marries_190 : decode cL_marries 190 = .ok (.iload 6, 2) := by decide +kernel
theorem dL_marries_192 : decode cL_marries 192 = .ok (.iastore, 1) := by decide +kernel
theorem dL_marries_193 : decode cL_marries 193 = .ok (.aload_n 2, 1) := by decide +kernel
theorem dL_marries_194 : decode cL_marries 194 = .ok (.iconst 1, 1) := by decide +kernel
theorem dL_marries_195 : decode cL_marries 195 = .ok (.dup2, 1) := by decide +kernel
theorem dL_marries_196 : decode cL_marries 196 = .ok (.iaload, 1) := by decide +kernel
theorem dL_marries_197 : decode cL_marries 197 = .ok (.iconst 1, 1) := by decide +kernel
theorem dL_marries_198 : decode cL_marries 198 = .ok (.iadd, 1) := by decide +kernel
theorem dL_marries_199 : decode cL_marries 199 = .ok (.iastore, 1) := by decide +kernel
theorem dL_marries_200 : decode cL_marries 200 = .ok (.aload_n 2, 1) := by decide +kernel
theorem dL_marries_201 : decode cL_marries 201 = .ok (.iconst 1, 1) := by decide +kernel
theorem dL_marries_202 : decode cL_marries 202 = .ok (.iaload, 1) := by decide +kernel
theorem dL_marries_203 : decode cL_marries 203 = .ok (.bipush 9, 2) := by decide +kernel
theorem dL_marries_205 : decode cL_marries 205 = .ok (.iadd, 1) := by decide +kernel
theorem dL_marries_206 : decode cL_marries 206 = .ok (.ireturn, 1) := by decide +kernel
set_option maxRecDepth 20000 in
theorem ggL_acts_L_low : GoodIn wsL_acts wsL_low := goodIn_r _ [5, 6] (by decide +kernel) (by decide +kernel)
set_option maxRecDepth 20000 in
theorem gL_acts_L_low : GoodIn wsL_acts (va_wsS RL 80 yL_low wsL_low) := goodIn_app (goodIn_of _ (by decide +kernel)) ggL_acts_L_low
set_option maxRecDepth 20000 in
theorem ggL_acts_X7_person : GoodIn wsL_acts wsX7_person := goodIn_ca (goodIn_r _ [11, 12, 13, 14, 15, 16, 17, 10, 18, 19, 20, 21, 22, 23, 24, 25, 26, 27, 28, 29, 30, 31, 32, 33, 34, 35, 36, 37, 38, 39, 40, 41, 42, 43, 44, 45, 46, 47, 48, 49, 50, 51, 52, 53, 54, 55, 56, 57, 58, 59, 60, 61, 318, 319, 320, 321, 322, 323, 324, 325, 326, 327, 328, 329, 330, 331, 332, 333, 334, 335, 336, 337, 338] (by decide +kernel) (by decide +kernel)) (goodIn_sub (fun _ h => List.mem_cons_of_mem _ (List.mem_append_left _ (List.mem_append_right _ h))) (by decide +kernel))
set_option maxRecDepth 20000 in
theorem gL_acts_X7_person : GoodIn wsL_acts (wsV RL 86 RX7 yX7_person wsX7_person) := goodIn_app (goodIn_of _ (by decide +kernel)) ggL_acts_X7_person
set_option maxRecDepth 20000 in
theorem ggL_acts_L_comes : GoodIn wsL_acts wsL_comes := goodIn_r _ [64] (by decide +kernel) (by decide +kernel)
set_option maxRecDepth 20000 in
theorem gL_acts_L_comes : GoodIn wsL_acts (va_wsS RL 89 yL_comes wsL_comes) := goodIn_app (goodIn_of _ (by decide +kernel)) ggL_acts_L_comes
set_option maxRecDepth 20000 in
theorem ggL_acts_X7_marry : GoodIn wsL_acts wsX7_marry := goodIn_ca (goodIn_ca (goodIn_r _ [68, 12, 13, 69, 70, 15, 14, 71, 59, 60, 30, 61, 43, 19, 20, 21, 22, 23, 24, 25, 26, 27, 28, 29, 31, 32, 33, 34, 35, 36, 37, 38, 39, 40, 41, 42, 44, 45, 72, 73, 74, 75, 76, 77, 78, 79, 80, 81, 82, 83, 84, 85, 86, 87, 88, 89, 90, 58, 91, 92, 93, 94, 95, 96, 97, 98, 99, 100, 101, 102, 318, 319, 320, 321, 322, 323, 324, 325, 329, 330, 331, 332, 333, 334, 335, 336, 337, 338, 326, 327, 328] (by decide +kernel) (by decide +kernel)) (goodIn_sub (fun _ h => List.mem_cons_of_mem _ (List.mem_append_left _ (List.mem_append_right _ h))) (by decide +kernel))) (goodIn_sub (fun _ h => List.mem_cons_of_mem _ (List.mem_append_right _ h)) (by decide +kernel))
set_option maxRecDepth 20000 in
theorem gL_acts_X7_marry : GoodIn wsL_acts (wsV RL 93 RX7 yX7_marry wsX7_marry) := goodIn_app (goodIn_of _ (by decide +kernel)) ggL_acts_X7_marry
set_option maxRecDepth 20000 in
theorem ggL_acts_L_marries : GoodIn wsL_acts wsL_marries := goodIn_r _ [105, 106, 107, 4, 108] (by decide +kernel) (by decide +kernel)
set_option maxRecDepth 20000 in
theorem gL_acts_L_marries : GoodIn wsL_acts (va_wsS RL 96 yL_marries wsL_marries) := goodIn_app (goodIn_of _ (by decide +kernel)) ggL_acts_L_marries
set_option maxRecDepth 20000 in
theorem ggL_acts_X7_child : GoodIn wsL_acts wsX7_child := goodIn_ca (goodIn_r _ [112, 12, 13, 15, 14, 113, 114, 115, 30, 116, 44, 19, 20, 21, 22, 23, 24, 25, 26, 27, 28, 29, 31, 32, 33, 34, 35, 36, 37, 38, 39, 40, 41, 42, 43, 45, 117, 118, 119, 120, 121, 122, 123, 124, 125, 87, 88, 89, 90, 58, 59, 60, 61, 126, 47, 48, 49, 50, 51, 52, 53, 54, 55, 56, 57, 318, 319, 320, 321, 322, 323, 324, 325, 329, 330, 331, 332, 333, 334, 335, 336, 337, 338, 326, 327, 328] (by decide +kernel) (by decide +kernel)) (goodIn_sub (fun _ h => List.mem_cons_of_mem _ (List.mem_append_left _ (List.mem_append_right _ h))) (by decide +kernel))
set_option maxRecDepth 20000 in
theorem gL_acts_X7_child : GoodIn wsL_acts (wsV RL 99 RX7 yX7_child wsX7_child) := goodIn_app (goodIn_of _ (by decide +kernel)) ggL_acts_X7_child
set_option maxRecDepth 20000 in
theorem ggL_acts_X7_at : GoodIn wsL_acts wsX7_at := goodIn_ca (goodIn_ca (goodIn_r _ [130, 12, 13, 69, 70, 15, 16, 17, 10, 18, 131, 132, 133, 30, 134, 41, 50, 51, 52, 53, 42, 318, 319, 320, 321, 322, 323, 324, 325, 329, 330, 331, 332, 333, 334, 335, 336, 337, 338] (by decide +kernel) (by decide +kernel)) (goodIn_sub (fun _ h => List.mem_cons_of_mem _ (List.mem_append_left _ (List.mem_append_right _ h))) (by decide +kernel))) (goodIn_sub (fun _ h => List.mem_cons_of_mem _ (List.mem_append_right _ h)) (by decide +kernel))
set_option maxRecDepth 20000 in
theorem gL_acts_X7_at : GoodIn wsL_acts (wsV RL 67 RX7 yX7_at wsX7_at) := goodIn_app (goodIn_of _ (by decide +kernel)) ggL_acts_X7_at
set_option maxRecDepth 20000 in
theorem ggL_acts_L_all : GoodIn wsL_acts wsL_all := goodIn_r _ [137, 138, 139, 4, 140, 141, 142, 143, 144, 145, 146] (by decide +kernel) (by decide +kernel)
set_option maxRecDepth 20000 in
theorem gL_acts_L_all : GoodIn wsL_acts (va_wsS RL 57 yL_all wsL_all) := goodIn_app (goodIn_of _ (by decide +kernel)) ggL_acts_L_all
set_option maxRecDepth 20000 in
theorem ggL_acts_X7_swap : GoodIn wsL_acts wsX7_swap := goodIn_ca (goodIn_ca (goodIn_r _ [150, 12, 13, 69, 70, 15, 14, 16, 17, 10, 18, 151, 51, 52, 30, 53, 42, 19, 20, 21, 22, 23, 24, 25, 26, 27, 28, 29, 31, 32, 33, 34, 35, 36, 37, 38, 39, 40, 41, 43, 44, 45, 152, 153, 154, 155, 156, 157, 158, 159, 160, 161, 162, 163, 164, 165, 166, 132, 133, 134, 50, 167, 168, 169, 170, 171, 172, 173, 174, 58, 59, 60, 61, 175, 176, 177, 178, 125, 114, 115, 116, 179, 180, 181, 182, 183, 184, 185, 186, 187, 188, 189, 190, 191, 54, 55, 56, 57, 318, 319, 320, 321, 322, 323, 324, 325, 329, 330, 331, 332, 333, 334, 335, 336, 337, 338, 326, 327, 328, 339, 340, 341] (by decide +kernel) (by decide +kernel)) (goodIn_sub (fun _ h => List.mem_cons_of_mem _ (List.mem_append_left _ (List.mem_append_right _ h))) (by decide +kernel))) (goodIn_sub (fun _ h => List.mem_cons_of_mem _ (List.mem_append_right _ h)) (by decide +kernel))
set_option maxRecDepth 20000 in
theorem gL_acts_X7_swap : GoodIn wsL_acts (wsV RL 102 RX7 yX7_swap wsX7_swap) := goodIn_app (goodIn_of _ (by decide +kernel)) ggL_acts_X7_swap
set_option maxRecDepth 20000 in
theorem ggL_acts_L_copy : GoodIn wsL_acts wsL_copy := goodIn_r _ [194] (by decide +kernel) (by decide +kernel)
set_option maxRecDepth 20000 in
theorem gL_acts_L_copy : GoodIn wsL_acts (va_wsS RL 27 yL_copy wsL_copy) := goodIn_app (goodIn_of _ (by decide +kernel)) ggL_acts_L_copy
set_option maxRecDepth 20000 in
theorem ggL_acts_L_middle : GoodIn wsL_acts wsL_middle := goodIn_r _ [143, 144, 145, 4, 146] (by decide +kernel) (by decide +kernel)
set_option maxRecDepth 20000 in
theorem gL_acts_L_middle : GoodIn wsL_acts (va_wsS RL 15 yL_middle wsL_middle) := goodIn_app (goodIn_of _ (by decide +kernel)) ggL_acts_L_middle
set_option maxRecDepth 20000 in
theorem ggL_acts_X7_byParents : GoodIn wsL_acts wsX7_byParents := goodIn_ca (goodIn_r _ [198, 12, 13, 14, 15, 199, 16, 17, 10, 18, 19, 20, 21, 22, 23, 24, 25, 26, 27, 28, 29, 30, 31, 32, 33, 34, 35, 36, 37, 38, 39, 40, 41, 42, 43, 44, 45, 200, 201, 202, 203, 204, 205, 77, 78, 79, 206, 207, 208, 51, 52, 53, 209, 132, 133, 134, 50, 210, 168, 169, 170, 171, 172, 173, 174, 58, 59, 60, 61, 175, 176, 177, 178, 125, 114, 115, 116, 179, 180, 181, 182, 211, 212, 213, 214, 215, 55, 56, 57, 318, 319, 320, 321, 322, 323, 324, 325, 326, 327, 328, 329, 330, 331, 332, 333, 334, 335, 336, 337, 338, 342, 343] (by decide +kernel) (by decide +kernel)) (goodIn_sub (fun _ h => List.mem_cons_of_mem _ (List.mem_append_left _ (List.mem_append_right _ h))) (by decide +kernel))
set_option maxRecDepth 20000 in
theorem gL_acts_X7_byParents : GoodIn wsL_acts (wsV RL 105 RX7 yX7_byParents wsX7_byParents) := goodIn_app (goodIn_of _ (by decide +kernel)) ggL_acts_X7_byParents
set_option maxRecDepth 20000 in
theorem ggL_acts_L_best : GoodIn wsL_acts wsL_best := goodIn_r _ [218, 1, 192, 193, 4, 194, 219, 220, 221, 222, 223, 224, 225, 226, 227, 138, 139, 140, 141, 142, 143, 144, 145, 146] (by decide +kernel) (by decide +kernel)
set_option maxRecDepth 20000 in
theorem gL_acts_L_best : GoodIn wsL_acts (va_wsS RL 70 yL_best wsL_best) := goodIn_app (goodIn_of _ (by decide +kernel)) ggL_acts_L_best
set_option maxRecDepth 20000 in
theorem ggL_acts_L_lays : GoodIn wsL_acts wsL_lays := goodIn_r _ [221, 222, 223, 4, 224] (by decide +kernel) (by decide +kernel)
set_option maxRecDepth 20000 in
theorem gL_acts_L_lays : GoodIn wsL_acts (va_wsS RL 31 yL_lays wsL_lays) := goodIn_app (goodIn_of _ (by decide +kernel)) ggL_acts_L_lays
set_option maxRecDepth 20000 in
theorem ggL_acts_X7_untangle : GoodIn wsL_acts wsX7_untangle := goodIn_ca (goodIn_r _ [231, 12, 13, 14, 15, 232, 16, 17, 10, 18, 19, 20, 21, 22, 23, 24, 25, 26, 27, 28, 29, 30, 31, 32, 33, 34, 35, 36, 37, 38, 39, 40, 41, 42, 43, 44, 45, 233, 234, 235, 236, 237, 238, 239, 240, 241, 242, 243, 244, 245, 246, 247, 248, 88, 89, 90, 58, 59, 60, 61, 249, 250, 251, 252, 253, 254, 168, 169, 170, 171, 172, 173, 174, 175, 176, 177, 178, 125, 114, 115, 116, 179, 180, 181, 182, 255, 256, 257, 258, 259, 260, 261, 51, 52, 53, 262, 132, 133, 134, 50, 263, 264, 265, 266, 267, 268, 269, 270, 271, 122, 123, 124, 272, 273, 274, 275, 276, 277, 278, 279, 280, 281, 282, 283, 284, 285, 286, 287, 288, 289, 290, 291, 292, 293, 294, 295, 296, 297, 298, 299, 300, 301, 302, 303, 304, 305, 306, 307, 308, 309, 310, 311, 312, 313, 314, 315, 316, 317, 55, 56, 57, 318, 319, 320, 321, 322, 323, 324, 325, 326, 327, 328, 329, 330, 331, 332, 333, 334, 335, 336, 337, 338, 344, 345, 346, 347, 348, 349, 350, 351, 352, 353, 354, 355, 356] (by decide +kernel) (by decide +kernel)) (goodIn_sub (fun _ h => List.mem_cons_of_mem _ (List.mem_append_left _ (List.mem_append_right _ h))) (by decide +kernel))
set_option maxRecDepth 20000 in
theorem gL_acts_X7_untangle : GoodIn wsL_acts (wsV RL 108 RX7 yX7_untangle wsX7_untangle) := goodIn_app (goodIn_of _ (by decide +kernel)) ggL_acts_X7_untangle
set_option maxRecDepth 20000 in
theorem ggL_acts_L_ofTwo : GoodIn wsL_acts wsL_ofTwo := goodIn_r _ [227, 138, 139, 4, 140, 141, 142, 143, 144, 145, 146] (by decide +kernel) (by decide +kernel)
set_option maxRecDepth 20000 in
theorem gL_acts_L_ofTwo : GoodIn wsL_acts (va_wsS RL 35 yL_ofTwo wsL_ofTwo) := goodIn_app (goodIn_of _ (by decide +kernel)) ggL_acts_L_ofTwo
theorem dL_acts_0 : decode cL_acts 0 = .ok (.iload 6, 2) := by decide +kernel
theorem dL_acts_2 : decode cL_acts 2 = .ok (.iconst 4, 1) := by decide +kernel
theorem dL_acts_3 : decode cL_acts 3 = .ok (.invokestatic 80, 3) := by decide +kernel
theorem dL_acts_6 : decode cL_acts 6 = .ok (.istore 7, 2) := by decide +kernel
theorem dL_acts_8 : decode cL_acts 8 = .ok (.aload 4, 2) := by decide +kernel
theorem dL_acts_10 : decode cL_acts 10 = .ok (.iconst 0, 1) := by decide +kernel
theorem dL_acts_11 : decode cL_acts 11 = .ok (.iaload, 1) := by decide +kernel
theorem dL_acts_12 : decode cL_acts 12 = .ok (.iconst 2, 1) := by decide +kernel
theorem dL_acts_13 : decode cL_acts 13 = .ok (.if_icmp .ge 7, 3) := by decide +kernel
theorem dL_acts_16 : decode cL_acts 16 = .ok (.iconst 0, 1) := by decide +kernel
theorem dL_acts_17 : decode cL_acts 17 = .ok (.goto 5, 3) := by decide +kernel
theorem dL_acts_20 : decode cL_acts 20 = .ok (.iload 5, 2) := by decide +kernel
theorem dL_acts_22 : decode cL_acts 22 = .ok (.tableswitch 571 0 12 #[66, 66, 91, 91, 91, 91, 155, 155, 155, 155, 220, 220, 340], 66) := by decide +kernel
theorem dL_acts_88 : decode cL_acts 88 = .ok (.aload_n 0, 1) := by decide +kernel
theorem dL_acts_89 : decode cL_acts 89 = .ok (.iload 7, 2) := by decide +kernel
theorem dL_acts_91 : decode cL_acts 91 = .ok (.invokevirtual 86, 3) := by decide +kernel
theorem dL_acts_94 : decode cL_acts 94 = .ok (.aload_n 1, 1) := by decide +kernel
theorem dL_acts_95 : decode cL_acts 95 = .ok (.aload_n 3, 1) := by decide +kernel
theorem dL_acts_96 : decode cL_acts 96 = .ok (.aload 4, 2) := by decide +kernel
theorem dL_acts_98 : decode cL_acts 98 = .ok (.iload 7, 2) := by decide +kernel
theorem dL_acts_100 : decode cL_acts 100 = .ok (.iconst (-1), 1) := by decide +kernel
theorem dL_acts_101 : decode cL_acts 101 = .ok (.invokestatic 89, 3) := by decide +kernel
theorem dL_acts_104 : decode cL_acts 104 = .ok (.if_icmp .ne 7, 3) := by decide +kernel
theorem dL_acts_107 : decode cL_acts 107 = .ok (.iconst 1, 1) := by decide +kernel
theorem dL_acts_108 : decode cL_acts 108 = .ok (.goto 4, 3) := by decide +kernel
theorem dL_acts_111 : decode cL_acts 111 = .ok (.iconst 0, 1) := by decide +kernel
theorem dL_acts_112 : decode cL_acts 112 = .ok (.ireturn, 1) := by decide +kernel
theorem dL_acts_113 : decode cL_acts 113 = .ok (.iload 6, 2) := by decide +kernel
theorem dL_acts_115 : decode cL_acts 115 = .ok (.aload 4, 2) := by decide +kernel
theorem dL_acts_117 : decode cL_acts 117 = .ok (.iconst 0, 1) := by decide +kernel
theorem dL_acts_118 : decode cL_acts 118 = .ok (.iaload, 1) := by decide +kernel
theorem dL_acts_119 : decode cL_acts 119 = .ok (.invokestatic 80, 3) := by decide +kernel
theorem dL_acts_122 : decode cL_acts 122 = .ok (.istore 8, 2) := by decide +kernel
theorem dL_acts_124 : decode cL_acts 124 = .ok (.iload 8, 2) := by decide +kernel
theorem dL_acts_126 : decode cL_acts 126 = .ok (.iconst 1, 1) := by decide +kernel
theorem dL_acts_127 : decode cL_acts 127 = .ok (.iadd, 1) := by decide +kernel
theorem dL_acts_128 : decode cL_acts 128 = .ok (.iload 6, 2) := by decide +kernel
theorem dL_acts_130 : decode cL_acts 130 = .ok (.iconst 5, 1) := by decide +kernel
theorem dL_acts_131 : decode cL_acts 131 = .ok (.ishr, 1) := by decide +kernel
theorem dL_acts_132 : decode cL_acts 132 = .ok (.aload 4, 2) := by decide +kernel
theorem dL_acts_134 : decode cL_acts 134 = .ok (.iconst 0, 1) := by decide +kernel
theorem dL_acts_135 : decode cL_acts 135 = .ok (.iaload, 1) := by decide +kernel
theorem dL_acts_136 : decode cL_acts 136 = .ok (.iconst 1, 1) := by decide +kernel
theorem dL_acts_137 : decode cL_acts 137 = .ok (.isub, 1) := by decide +kernel
theorem dL_acts_138 : decode cL_acts 138 = .ok (.invokestatic 80, 3) := by decide +kernel
theorem dL_acts_141 : decode cL_acts 141 = .ok (.iadd, 1) := by decide +kernel
theorem dL_acts_142 : decode cL_acts 142 = .ok (.aload 4, 2) := by decide +kernel
theorem dL_acts_144 : decode cL_acts 144 = .ok (.iconst 0, 1) := by decide +kernel
theorem dL_acts_145 : decode cL_acts 145 = .ok (.iaload, 1) := by decide +kernel
theorem dL_acts_146 : decode cL_acts 146 = .ok (.irem, 1) := by decide +kernel
theorem dL_acts_147 : decode cL_acts 147 = .ok (.istore 9, 2) := by decide +kernel
theorem dL_acts_149 : decode cL_acts 149 = .ok (.aload_n 0, 1) := by decide +kernel
theorem dL_acts_150 : decode cL_acts 150 = .ok (.iload 8, 2) := by decide +kernel
theorem dL_acts_152 : decode cL_acts 152 = .ok (.iload 9, 2) := by decide +kernel
theorem dL_acts_154 : decode cL_acts 154 = .ok (.invokevirtual 93, 3) := by decide +kernel
theorem dL_acts_157 : decode cL_acts 157 = .ok (.aload_n 1, 1) := by decide +kernel
theorem dL_acts_158 : decode cL_acts 158 = .ok (.aload_n 2, 1) := by decide +kernel
theorem dL_acts_159 : decode cL_acts 159 = .ok (.aload 4, 2) := by decide +kernel
theorem dL_acts_161 : decode cL_acts 161 = .ok (.iload 8, 2) := by decide +kernel
theorem dL_acts_163 : decode cL_acts 163 = .ok (.iload 9, 2) := by decide +kernel
theorem dL_acts_165 : decode cL_acts 165 = .ok (.invokestatic 96, 3) := by decide +kernel
theorem dL_acts_168 : decode cL_acts 168 = .ok (.if_icmp .ne 7, 3) := by decide +kernel
theorem dL_acts_171 : decode cL_acts 171 = .ok (.iconst 1, 1) := by decide +kernel
theorem dL_acts_172 : decode cL_acts 172 = .ok (.goto 4, 3) := by decide +kernel
theorem dL_acts_175 : decode cL_acts 175 = .ok (.iconst 0, 1) := by decide +kernel
theorem dL_acts_176 : decode cL_acts 176 = .ok (.ireturn, 1) := by decide +kernel
theorem dL_acts_177 : decode cL_acts 177 = .ok (.aload 4, 2) := by decide +kernel
theorem dL_acts_179 : decode cL_acts 179 = .ok (.iconst 1, 1) := by decide +kernel
theorem dL_acts_180 : decode cL_acts 180 = .ok (.iaload, 1) := by decide +kernel
theorem dL_acts_181 : decode cL_acts 181 = .ok (.ifCond .ne 7, 3) := by decide +kernel
theorem dL_acts_184 : decode cL_acts 184 = .ok (.iconst 0, 1) := by decide +kernel
theorem dL_acts_185 : decode cL_acts 185 = .ok (.goto 12, 3) := by decide +kernel
theorem dL_acts_188 : decode cL_acts 188 = .ok (.iload 6, 2) := by decide +kernel
theorem dL_acts_190 : decode cL_acts 190 = .ok (.aload 4, 2) := by decide +kernel
theorem dL_acts_192 : decode cL_acts 192 = .ok (.iconst 1, 1) := by decide +kernel
theorem dL_acts_193 : decode cL_acts 193 = .ok (.iaload, 1) := by decide +kernel
theorem dL_acts_194 : decode cL_acts 194 = .ok (.invokestatic 80, 3) := by decide +kernel
theorem dL_acts_197 : decode cL_acts 197 = .ok (.istore 10, 2) := by decide +kernel
theorem dL_acts_199 : decode cL_acts 199 = .ok (.aload 4, 2) := by decide +kernel
theorem dL_acts_201 : decode cL_acts 201 = .ok (.iconst 1, 1) := by decide +kernel
theorem dL_acts_202 : decode cL_acts 202 = .ok (.iaload, 1) := by decide +kernel
theorem dL_acts_203 : decode cL_acts 203 = .ok (.ifCond .eq 33, 3) := by decide +kernel
theorem dL_acts_206 : decode cL_acts 206 = .ok (.aload_n 0, 1) := by decide +kernel
theorem dL_acts_207 : decode cL_acts 207 = .ok (.iload 10, 2) := by decide +kernel
theorem dL_acts_209 : decode cL_acts 209 = .ok (.invokevirtual 99, 3) := by decide +kernel
theorem dL_acts_212 : decode cL_acts 212 = .ok (.aload_n 1, 1) := by decide +kernel
theorem dL_acts_213 : decode cL_acts 213 = .ok (.aload_n 3, 1) := by decide +kernel
theorem dL_acts_214 : decode cL_acts 214 = .ok (.aload 4, 2) := by decide +kernel
theorem dL_acts_216 : decode cL_acts 216 = .ok (.aload_n 1, 1) := by decide +kernel
theorem dL_acts_217 : decode cL_acts 217 = .ok (.iconst 2, 1) := by decide +kernel
theorem dL_acts_218 : decode cL_acts 218 = .ok (.aload_n 2, 1) := by decide +kernel
theorem dL_acts_219 : decode cL_acts 219 = .ok (.iconst 2, 1) := by decide +kernel
theorem dL_acts_220 : decode cL_acts 220 = .ok (.iload 10, 2) := by decide +kernel
theorem dL_acts_222 : decode cL_acts 222 = .ok (.imul, 1) := by decide +kernel
theorem dL_acts_223 : decode cL_acts 223 = .ok (.iaload, 1) := by decide +kernel
theorem dL_acts_224 : decode cL_acts 224 = .ok (.imul, 1) := by decide +kernel
theorem dL_acts_225 : decode cL_acts 225 = .ok (.iaload, 1) := by decide +kernel
theorem dL_acts_226 : decode cL_acts 226 = .ok (.iconst 1, 1) := by decide +kernel
theorem dL_acts_227 : decode cL_acts 227 = .ok (.iadd, 1) := by decide +kernel
theorem dL_acts_228 : decode cL_acts 228 = .ok (.iload 10, 2) := by decide +kernel
theorem dL_acts_230 : decode cL_acts 230 = .ok (.invokestatic 89, 3) := by decide +kernel
theorem dL_acts_233 : decode cL_acts 233 = .ok (.if_icmp .ne 7, 3) := by decide +kernel
theorem dL_acts_236 : decode cL_acts 236 = .ok (.iconst 1, 1) := by decide +kernel
theorem dL_acts_237 : decode cL_acts 237 = .ok (.goto 4, 3) := by decide +kernel
theorem dL_acts_240 : decode cL_acts 240 = .ok (.iconst 0, 1) := by decide +kernel
theorem dL_acts_241 : decode cL_acts 241 = .ok (.ireturn, 1) := by decide +kernel
theorem dL_acts_242 : decode cL_acts 242 = .ok (.aload 4, 2) := by decide +kernel
theorem dL_acts_244 : decode cL_acts 244 = .ok (.iconst 3, 1) := by decide +kernel
theorem dL_acts_245 : decode cL_acts 245 = .ok (.iload 7, 2) := by decide +kernel
theorem dL_acts_247 : decode cL_acts 247 = .ok (.iadd, 1) := by decide +kernel
theorem dL_acts_248 : decode cL_acts 248 = .ok (.iaload, 1) := by decide +kernel
theorem dL_acts_249 : decode cL_acts 249 = .ok (.iconst 2, 1) := by decide +kernel
theorem dL_acts_250 : decode cL_acts 250 = .ok (.if_icmp .ge 20, 3) := by decide +kernel
theorem dL_acts_253 : decode cL_acts 253 = .ok (.aload_n 0, 1) := by decide +kernel
theorem dL_acts_254 : decode cL_acts 254 = .ok (.iload 7, 2) := by decide +kernel
theorem dL_acts_256 : decode cL_acts 256 = .ok (.iconst 1, 1) := by decide +kernel
theorem dL_acts_257 : decode cL_acts 257 = .ok (.invokevirtual 67, 3) := by decide +kernel
theorem dL_acts_260 : decode cL_acts 260 = .ok (.iconst (-1), 1) := by decide +kernel
theorem dL_acts_261 : decode cL_acts 261 = .ok (.if_icmp .ne 7, 3) := by decide +kernel
theorem dL_acts_264 : decode cL_acts 264 = .ok (.iconst 1, 1) := by decide +kernel
theorem dL_acts_265 : decode cL_acts 265 = .ok (.goto 4, 3) := by decide +kernel
theorem dL_acts_268 : decode cL_acts 268 = .ok (.iconst 0, 1) := by decide +kernel
theorem dL_acts_269 : decode cL_acts 269 = .ok (.ireturn, 1) := by decide +kernel
theorem dL_acts_270 : decode cL_acts 270 = .ok (.bipush 6, 2) := by decide +kernel
theorem dL_acts_272 : decode cL_acts 272 = .ok (.iload 7, 2) := by decide +kernel
theorem dL_acts_274 : decode cL_acts 274 = .ok (.imul, 1) := by decide +kernel
theorem dL_acts_275 : decode cL_acts 275 = .ok (.iload 6, 2) := by decide +kernel
theorem dL_acts_277 : decode cL_acts 277 = .ok (.iconst 2, 1) := by decide +kernel
theorem dL_acts_278 : decode cL_acts 278 = .ok (.ishr, 1) := by decide +kernel
theorem dL_acts_279 : decode cL_acts 279 = .ok (.aload 4, 2) := by decide +kernel
theorem dL_acts_281 : decode cL_acts 281 = .ok (.iconst 3, 1) := by decide +kernel
theorem dL_acts_282 : decode cL_acts 282 = .ok (.iload 7, 2) := by decide +kernel
theorem dL_acts_284 : decode cL_acts 284 = .ok (.iadd, 1) := by decide +kernel
theorem dL_acts_285 : decode cL_acts 285 = .ok (.iaload, 1) := by decide +kernel
theorem dL_acts_286 : decode cL_acts 286 = .ok (.iconst 1, 1) := by decide +kernel
theorem dL_acts_287 : decode cL_acts 287 = .ok (.isub, 1) := by decide +kernel
theorem dL_acts_288 : decode cL_acts 288 = .ok (.invokestatic 80, 3) := by decide +kernel
theorem dL_acts_291 : decode cL_acts 291 = .ok (.iadd, 1) := by decide +kernel
theorem dL_acts_292 : decode cL_acts 292 = .ok (.istore 11, 2) := by decide +kernel
theorem dL_acts_294 : decode cL_acts 294 = .ok (.aload_n 1, 1) := by decide +kernel
theorem dL_acts_295 : decode cL_acts 295 = .ok (.aload_n 2, 1) := by decide +kernel
theorem dL_acts_296 : decode cL_acts 296 = .ok (.aload_n 3, 1) := by decide +kernel
theorem dL_acts_297 : decode cL_acts 297 = .ok (.aload 4, 2) := by decide +kernel
theorem dL_acts_299 : decode cL_acts 299 = .ok (.invokestatic 57, 3) := by decide +kernel
theorem dL_acts_302 : decode cL_acts 302 = .ok (.istore 12, 2) := by decide +kernel
theorem dL_acts_304 : decode cL_acts 304 = .ok (.aload_n 3, 1) := by decide +kernel
theorem dL_acts_305 : decode cL_acts 305 = .ok (.iload 11, 2) := by decide +kernel
theorem dL_acts_307 : decode cL_acts 307 = .ok (.iaload, 1) := by decide +kernel
theorem dL_acts_308 : decode cL_acts 308 = .ok (.istore 13, 2) := by decide +kernel
theorem dL_acts_310 : decode cL_acts 310 = .ok (.aload_n 3, 1) := by decide +kernel
theorem dL_acts_311 : decode cL_acts 311 = .ok (.iload 11, 2) := by decide +kernel
theorem dL_acts_313 : decode cL_acts 313 = .ok (.aload_n 3, 1) := by decide +kernel
theorem dL_acts_314 : decode cL_acts 314 = .ok (.iload 11, 2) := by decide +kernel
theorem dL_acts_316 : decode cL_acts 316 = .ok (.iconst 1, 1) := by decide +kernel
theorem dL_acts_317 : decode cL_acts 317 = .ok (.iadd, 1) := by decide +kernel
theorem dL_acts_318 : decode cL_acts 318 = .ok (.iaload, 1) := by decide +kernel
theorem dL_acts_319 : decode cL_acts 319 = .ok (.iastore, 1) := by decide +kernel
theorem dL_acts_320 : decode cL_acts 320 = .ok (.aload_n 3, 1) := by decide +kernel
theorem dL_acts_321 : decode cL_acts 321 = .ok (.iload 11, 2) := by decide +kernel
theorem dL_acts_323 : decode cL_acts 323 = .ok (.iconst 1, 1) := by decide +kernel
theorem dL_acts_324 : decode cL_acts 324 = .ok (.iadd, 1) := by decide +kernel
theorem dL_acts_325 : decode cL_acts 325 = .ok (.iload 13, 2) := by decide +kernel
theorem dL_acts_327 : decode cL_acts 327 = .ok (.iastore, 1) := by decide +kernel
theorem dL_acts_328 : decode cL_acts 328 = .ok (.aload_n 0, 1) := by decide +kernel
theorem dL_acts_329 : decode cL_acts 329 = .ok (.iload 7, 2) := by decide +kernel
theorem dL_acts_331 : decode cL_acts 331 = .ok (.iload 11, 2) := by decide +kernel
theorem dL_acts_333 : decode cL_acts 333 = .ok (.bipush 6, 2) := by decide +kernel
theorem dL_acts_335 : decode cL_acts 335 = .ok (.irem, 1) := by decide +kernel
theorem dL_acts_336 : decode cL_acts 336 = .ok (.invokevirtual 102, 3) := by decide +kernel
theorem dL_acts_339 : decode cL_acts 339 = .ok (.aload_n 1, 1) := by decide +kernel
theorem dL_acts_340 : decode cL_acts 340 = .ok (.aload_n 2, 1) := by decide +kernel
theorem dL_acts_341 : decode cL_acts 341 = .ok (.aload_n 3, 1) := by decide +kernel
theorem dL_acts_342 : decode cL_acts 342 = .ok (.aload 4, 2) := by decide +kernel
theorem dL_acts_344 : decode cL_acts 344 = .ok (.invokestatic 57, 3) := by decide +kernel
theorem dL_acts_347 : decode cL_acts 347 = .ok (.iload 12, 2) := by decide +kernel
theorem dL_acts_349 : decode cL_acts 349 = .ok (.isub, 1) := by decide +kernel
theorem dL_acts_350 : decode cL_acts 350 = .ok (.bipush 100, 2) := by decide +kernel
theorem dL_acts_352 : decode cL_acts 352 = .ok (.iadd, 1) := by decide +kernel
theorem dL_acts_353 : decode cL_acts 353 = .ok (.if_icmp .ne 7, 3) := by decide +kernel
theorem dL_acts_356 : decode cL_acts 356 = .ok (.iconst 1, 1) := by decide +kernel
theorem dL_acts_357 : decode cL_acts 357 = .ok (.goto 4, 3) := by decide +kernel
theorem dL_acts_360 : decode cL_acts 360 = .ok (.iconst 0, 1) := by decide +kernel
theorem dL_acts_361 : decode cL_acts 361 = .ok (.ireturn, 1) := by decide +kernel
theorem dL_acts_362 : decode cL_acts 362 = .ok (.bipush 24, 2) := by decide +kernel
theorem dL_acts_364 : decode cL_acts 364 = .ok (.newarray .int, 2) := by decide +kernel
theorem dL_acts_366 : decode cL_acts 366 = .ok (.astore 14, 2) := by decide +kernel
theorem dL_acts_368 : decode cL_acts 368 = .ok (.aload_n 3, 1) := by decide +kernel
theorem dL_acts_369 : decode cL_acts 369 = .ok (.aload 14, 2) := by decide +kernel
theorem dL_acts_371 : decode cL_acts 371 = .ok (.invokestatic 27, 3) := by decide +kernel
theorem dL_acts_374 : decode cL_acts 374 = .ok (.iconst 0, 1) := by decide +kernel
theorem dL_acts_375 : decode cL_acts 375 = .ok (.istore 15, 2) := by decide +kernel
theorem dL_acts_377 : decode cL_acts 377 = .ok (.iconst 0, 1) := by decide +kernel
theorem dL_acts_378 : decode cL_acts 378 = .ok (.istore 16, 2) := by decide +kernel
theorem dL_acts_380 : decode cL_acts 380 = .ok (.iconst 0, 1) := by decide +kernel
theorem dL_acts_381 : decode cL_acts 381 = .ok (.istore 17, 2) := by decide +kernel
theorem dL_acts_383 : decode cL_acts 383 = .ok (.iload 17, 2) := by decide +kernel
theorem dL_acts_385 : decode cL_acts 385 = .ok (.aload 4, 2) := by decide +kernel
theorem dL_acts_387 : decode cL_acts 387 = .ok (.iconst 3, 1) := by decide +kernel
theorem dL_acts_388 : decode cL_acts 388 = .ok (.iload 7, 2) := by decide +kernel
theorem dL_acts_390 : decode cL_acts 390 = .ok (.iadd, 1) := by decide +kernel
theorem dL_acts_391 : decode cL_acts 391 = .ok (.iaload, 1) := by decide +kernel
theorem dL_acts_392 : decode cL_acts 392 = .ok (.if_icmp .ge 178, 3) := by decide +kernel
theorem dL_acts_395 : decode cL_acts 395 = .ok (.iconst (-1), 1) := by decide +kernel
theorem dL_acts_396 : decode cL_acts 396 = .ok (.istore 18, 2) := by decide +kernel
theorem dL_acts_398 : decode cL_acts 398 = .ok (.iconst 0, 1) := by decide +kernel
theorem dL_acts_399 : decode cL_acts 399 = .ok (.istore 19, 2) := by decide +kernel
theorem dL_acts_401 : decode cL_acts 401 = .ok (.iconst 0, 1) := by decide +kernel
theorem dL_acts_402 : decode cL_acts 402 = .ok (.istore 20, 2) := by decide +kernel
theorem dL_acts_404 : decode cL_acts 404 = .ok (.iload 20, 2) := by decide +kernel
theorem dL_acts_406 : decode cL_acts 406 = .ok (.aload 4, 2) := by decide +kernel
theorem dL_acts_408 : decode cL_acts 408 = .ok (.iconst 3, 1) := by decide +kernel
theorem dL_acts_409 : decode cL_acts 409 = .ok (.iload 7, 2) := by decide +kernel
theorem dL_acts_411 : decode cL_acts 411 = .ok (.iadd, 1) := by decide +kernel
theorem dL_acts_412 : decode cL_acts 412 = .ok (.iaload, 1) := by decide +kernel
theorem dL_acts_413 : decode cL_acts 413 = .ok (.if_icmp .ge 104, 3) := by decide +kernel
theorem dL_acts_416 : decode cL_acts 416 = .ok (.aload_n 1, 1) := by decide +kernel
theorem dL_acts_417 : decode cL_acts 417 = .ok (.iconst 2, 1) := by decide +kernel
theorem dL_acts_418 : decode cL_acts 418 = .ok (.aload_n 3, 1) := by decide +kernel
theorem dL_acts_419 : decode cL_acts 419 = .ok (.bipush 6, 2) := by decide +kernel
theorem dL_acts_421 : decode cL_acts 421 = .ok (.iload 7, 2) := by decide +kernel
theorem dL_acts_423 : decode cL_acts 423 = .ok (.imul, 1) := by decide +kernel
theorem dL_acts_424 : decode cL_acts 424 = .ok (.iload 20, 2) := by decide +kernel
theorem dL_acts_426 : decode cL_acts 426 = .ok (.iadd, 1) := by decide +kernel
theorem dL_acts_427 : decode cL_acts 427 = .ok (.iaload, 1) := by decide +kernel
theorem dL_acts_428 : decode cL_acts 428 = .ok (.imul, 1) := by decide +kernel
theorem dL_acts_429 : decode cL_acts 429 = .ok (.iconst 1, 1) := by decide +kernel
theorem dL_acts_430 : decode cL_acts 430 = .ok (.iadd, 1) := by decide +kernel
theorem dL_acts_431 : decode cL_acts 431 = .ok (.iaload, 1) := by decide +kernel
theorem dL_acts_432 : decode cL_acts 432 = .ok (.istore 21, 2) := by decide +kernel
theorem dL_acts_434 : decode cL_acts 434 = .ok (.iload 21, 2) := by decide +kernel
theorem dL_acts_436 : decode cL_acts 436 = .ok (.ifCond .ge 8, 3) := by decide +kernel
theorem dL_acts_439 : decode cL_acts 439 = .ok (.bipush 99, 2) := by decide +kernel
theorem dL_acts_441 : decode cL_acts 441 = .ok (.goto 11, 3) := by decide +kernel
theorem dL_acts_444 : decode cL_acts 444 = .ok (.aload_n 1, 1) := by decide +kernel
theorem dL_acts_445 : decode cL_acts 445 = .ok (.aload_n 2, 1) := by decide +kernel
theorem dL_acts_446 : decode cL_acts 446 = .ok (.aload_n 3, 1) := by decide +kernel
theorem dL_acts_447 : decode cL_acts 447 = .ok (.iload 21, 2) := by decide +kernel
theorem dL_acts_449 : decode cL_acts 449 = .ok (.invokestatic 15, 3) := by decide +kernel
theorem dL_acts_452 : decode cL_acts 452 = .ok (.istore 22, 2) := by decide +kernel
theorem dL_acts_454 : decode cL_acts 454 = .ok (.iload 16, 2) := by decide +kernel
theorem dL_acts_456 : decode cL_acts 456 = .ok (.iload 20, 2) := by decide +kernel
theorem dL_acts_458 : decode cL_acts 458 = .ok (.ishr, 1) := by decide +kernel
theorem dL_acts_459 : decode cL_acts 459 = .ok (.iconst 1, 1) := by decide +kernel
theorem dL_acts_460 : decode cL_acts 460 = .ok (.iand, 1) := by decide +kernel
theorem dL_acts_461 : decode cL_acts 461 = .ok (.ifCond .ne 19, 3) := by decide +kernel
theorem dL_acts_464 : decode cL_acts 464 = .ok (.iload 18, 2) := by decide +kernel
theorem dL_acts_466 : decode cL_acts 466 = .ok (.ifCond .lt 10, 3) := by decide +kernel
theorem dL_acts_469 : decode cL_acts 469 = .ok (.iload 22, 2) := by decide +kernel
theorem dL_acts_471 : decode cL_acts 471 = .ok (.iload 19, 2) := by decide +kernel
theorem dL_acts_473 : decode cL_acts 473 = .ok (.if_icmp .ge 7, 3) := by decide +kernel
theorem dL_acts_476 : decode cL_acts 476 = .ok (.iconst 1, 1) := by decide +kernel
theorem dL_acts_477 : decode cL_acts 477 = .ok (.goto 4, 3) := by decide +kernel
theorem dL_acts_480 : decode cL_acts 480 = .ok (.iconst 0, 1) := by decide +kernel
theorem dL_acts_481 : decode cL_acts 481 = .ok (.istore 23, 2) := by decide +kernel
theorem dL_acts_483 : decode cL_acts 483 = .ok (.iload 23, 2) := by decide +kernel
theorem dL_acts_485 : decode cL_acts 485 = .ok (.ifCond .eq 8, 3) := by decide +kernel
theorem dL_acts_488 : decode cL_acts 488 = .ok (.iload 20, 2) := by decide +kernel
theorem dL_acts_490 : decode cL_acts 490 = .ok (.goto 5, 3) := by decide +kernel
theorem dL_acts_493 : decode cL_acts 493 = .ok (.iload 18, 2) := by decide +kernel
theorem dL_acts_495 : decode cL_acts 495 = .ok (.istore 18, 2) := by decide +kernel
theorem dL_acts_497 : decode cL_acts 497 = .ok (.iload 23, 2) := by decide +kernel
theorem dL_acts_499 : decode cL_acts 499 = .ok (.ifCond .eq 8, 3) := by decide +kernel
theorem dL_acts_502 : decode cL_acts 502 = .ok (.iload 22, 2) := by decide +kernel
theorem dL_acts_504 : decode cL_acts 504 = .ok (.goto 5, 3) := by decide +kernel
theorem dL_acts_507 : decode cL_acts 507 = .ok (.iload 19, 2) := by decide +kernel
theorem dL_acts_509 : decode cL_acts 509 = .ok (.istore 19, 2) := by decide +kernel
theorem dL_acts_511 : decode cL_acts 511 = .ok (.iinc 20 1, 3) := by decide +kernel
theorem dL_acts_514 : decode cL_acts 514 = .ok (.goto (-110), 3) := by decide +kernel
theorem dL_acts_517 : decode cL_acts 517 = .ok (.iload 16, 2) := by decide +kernel
theorem dL_acts_519 : decode cL_acts 519 = .ok (.iconst 1, 1) := by decide +kernel
