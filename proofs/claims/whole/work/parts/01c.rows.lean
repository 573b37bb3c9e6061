theorem dX6_init_0 : decode cX6_init 0 = .ok (.aload_n 0, 1) := by decide +kernel
theorem dX6_init_1 : decode cX6_init 1 = .ok (.invokespecial 1, 3) := by decide +kernel
theorem dX6_init_4 : decode cX6_init 4 = .ok (.aload_n 0, 1) := by decide +kernel
theorem dX6_init_5 : decode cX6_init 5 = .ok (.bipush 8, 2) := by decide +kernel
theorem dX6_init_7 : decode cX6_init 7 = .ok (.newarray .int, 2) := by decide +kernel
theorem dX6_init_9 : decode cX6_init 9 = .ok (.putfield 7, 3) := by decide +kernel
theorem dX6_init_12 : decode cX6_init 12 = .ok (.aload_n 0, 1) := by decide +kernel
theorem dX6_init_13 : decode cX6_init 13 = .ok (.bipush 8, 2) := by decide +kernel
theorem dX6_init_15 : decode cX6_init 15 = .ok (.newarray .int, 2) := by decide +kernel
theorem dX6_init_17 : decode cX6_init 17 = .ok (.putfield 13, 3) := by decide +kernel
theorem dX6_init_20 : decode cX6_init 20 = .ok (.aload_n 0, 1) := by decide +kernel
theorem dX6_init_21 : decode cX6_init 21 = .ok (.bipush 8, 2) := by decide +kernel
theorem dX6_init_23 : decode cX6_init 23 = .ok (.newarray .int, 2) := by decide +kernel
theorem dX6_init_25 : decode cX6_init 25 = .ok (.putfield 16, 3) := by decide +kernel
theorem dX6_init_28 : decode cX6_init 28 = .ok (.aload_n 0, 1) := by decide +kernel
theorem dX6_init_29 : decode cX6_init 29 = .ok (.bipush 8, 2) := by decide +kernel
theorem dX6_init_31 : decode cX6_init 31 = .ok (.newarray .boolean, 2) := by decide +kernel
theorem dX6_init_33 : decode cX6_init 33 = .ok (.putfield 19, 3) := by decide +kernel
theorem dX6_init_36 : decode cX6_init 36 = .ok (.aload_n 0, 1) := by decide +kernel
theorem dX6_init_37 : decode cX6_init 37 = .ok (.bipush 8, 2) := by decide +kernel
theorem dX6_init_39 : decode cX6_init 39 = .ok (.newarray .int, 2) := by decide +kernel
theorem dX6_init_41 : decode cX6_init 41 = .ok (.putfield 23, 3) := by decide +kernel
theorem dX6_init_44 : decode cX6_init 44 = .ok (.aload_n 0, 1) := by decide +kernel
theorem dX6_init_45 : decode cX6_init 45 = .ok (.bipush 8, 2) := by decide +kernel
theorem dX6_init_47 : decode cX6_init 47 = .ok (.newarray .int, 2) := by decide +kernel
theorem dX6_init_49 : decode cX6_init 49 = .ok (.putfield 26, 3) := by decide +kernel
theorem dX6_init_52 : decode cX6_init 52 = .ok (.aload_n 0, 1) := by decide +kernel
theorem dX6_init_53 : decode cX6_init 53 = .ok (.bipush 8, 2) := by decide +kernel
theorem dX6_init_55 : decode cX6_init 55 = .ok (.newarray .int, 2) := by decide +kernel
theorem dX6_init_57 : decode cX6_init 57 = .ok (.putfield 29, 3) := by decide +kernel
theorem dX6_init_60 : decode cX6_init 60 = .ok (.aload_n 0, 1) := by decide +kernel
theorem dX6_init_61 : decode cX6_init 61 = .ok (.bipush 8, 2) := by decide +kernel
theorem dX6_init_63 : decode cX6_init 63 = .ok (.newarray .int, 2) := by decide +kernel
theorem dX6_init_65 : decode cX6_init 65 = .ok (.putfield 32, 3) := by decide +kernel
theorem dX6_init_68 : decode cX6_init 68 = .ok (.aload_n 0, 1) := by decide +kernel
theorem dX6_init_69 : decode cX6_init 69 = .ok (.bipush 8, 2) := by decide +kernel
theorem dX6_init_71 : decode cX6_init 71 = .ok (.newarray .int, 2) := by decide +kernel
theorem dX6_init_73 : decode cX6_init 73 = .ok (.putfield 35, 3) := by decide +kernel
theorem dX6_init_76 : decode cX6_init 76 = .ok (.aload_n 0, 1) := by decide +kernel
theorem dX6_init_77 : decode cX6_init 77 = .ok (.bipush 6, 2) := by decide +kernel
theorem dX6_init_79 : decode cX6_init 79 = .ok (.newarray .int, 2) := by decide +kernel
theorem dX6_init_81 : decode cX6_init 81 = .ok (.putfield 38, 3) := by decide +kernel
theorem dX6_init_84 : decode cX6_init 84 = .ok (.aload_n 0, 1) := by decide +kernel
theorem dX6_init_85 : decode cX6_init 85 = .ok (.bipush 6, 2) := by decide +kernel
theorem dX6_init_87 : decode cX6_init 87 = .ok (.newarray .int, 2) := by decide +kernel
theorem dX6_init_89 : decode cX6_init 89 = .ok (.putfield 41, 3) := by decide +kernel
theorem dX6_init_92 : decode cX6_init 92 = .ok (.aload_n 0, 1) := by decide +kernel
theorem dX6_init_93 : decode cX6_init 93 = .ok (.bipush 6, 2) := by decide +kernel
theorem dX6_init_95 : decode cX6_init 95 = .ok (.newarray .int, 2) := by decide +kernel
theorem dX6_init_97 : decode cX6_init 97 = .ok (.putfield 44, 3) := by decide +kernel
theorem dX6_init_100 : decode cX6_init 100 = .ok (.aload_n 0, 1) := by decide +kernel
theorem dX6_init_101 : decode cX6_init 101 = .ok (.bipush 6, 2) := by decide +kernel
theorem dX6_init_103 : decode cX6_init 103 = .ok (.newarray .int, 2) := by decide +kernel
theorem dX6_init_105 : decode cX6_init 105 = .ok (.putfield 47, 3) := by decide +kernel
theorem dX6_init_108 : decode cX6_init 108 = .ok (.aload_n 0, 1) := by decide +kernel
theorem dX6_init_109 : decode cX6_init 109 = .ok (.bipush 6, 2) := by decide +kernel
theorem dX6_init_111 : decode cX6_init 111 = .ok (.newarray .int, 2) := by decide +kernel
theorem dX6_init_113 : decode cX6_init 113 = .ok (.putfield 50, 3) := by decide +kernel
theorem dX6_init_116 : decode cX6_init 116 = .ok (.aload_n 0, 1) := by decide +kernel
theorem dX6_init_117 : decode cX6_init 117 = .ok (.bipush 6, 2) := by decide +kernel
theorem dX6_init_119 : decode cX6_init 119 = .ok (.newarray .int, 2) := by decide +kernel
theorem dX6_init_121 : decode cX6_init 121 = .ok (.putfield 53, 3) := by decide +kernel
theorem dX6_init_124 : decode cX6_init 124 = .ok (.aload_n 0, 1) := by decide +kernel
theorem dX6_init_125 : decode cX6_init 125 = .ok (.bipush 6, 2) := by decide +kernel
theorem dX6_init_127 : decode cX6_init 127 = .ok (.newarray .int, 2) := by decide +kernel
theorem dX6_init_129 : decode cX6_init 129 = .ok (.putfield 56, 3) := by decide +kernel
theorem dX6_init_132 : decode cX6_init 132 = .ok (.aload_n 0, 1) := by decide +kernel
theorem dX6_init_133 : decode cX6_init 133 = .ok (.bipush 6, 2) := by decide +kernel
theorem dX6_init_135 : decode cX6_init 135 = .ok (.newarray .boolean, 2) := by decide +kernel
theorem dX6_init_137 : decode cX6_init 137 = .ok (.putfield 59, 3) := by decide +kernel
theorem dX6_init_140 : decode cX6_init 140 = .ok (.aload_n 0, 1) := by decide +kernel
theorem dX6_init_141 : decode cX6_init 141 = .ok (.bipush 60, 2) := by decide +kernel
theorem dX6_init_143 : decode cX6_init 143 = .ok (.newarray .int, 2) := by decide +kernel
theorem dX6_init_145 : decode cX6_init 145 = .ok (.putfield 62, 3) := by decide +kernel
theorem dX6_init_148 : decode cX6_init 148 = .ok (.aload_n 0, 1) := by decide +kernel
theorem dX6_init_149 : decode cX6_init 149 = .ok (.bipush 60, 2) := by decide +kernel
theorem dX6_init_151 : decode cX6_init 151 = .ok (.newarray .int, 2) := by decide +kernel
theorem dX6_init_153 : decode cX6_init 153 = .ok (.putfield 65, 3) := by decide +kernel
theorem dX6_init_156 : decode cX6_init 156 = .ok (.aload_n 0, 1) := by decide +kernel
theorem dX6_init_157 : decode cX6_init 157 = .ok (.bipush 60, 2) := by decide +kernel
theorem dX6_init_159 : decode cX6_init 159 = .ok (.newarray .int, 2) := by decide +kernel
theorem dX6_init_161 : decode cX6_init 161 = .ok (.putfield 68, 3) := by decide +kernel
theorem dX6_init_164 : decode cX6_init 164 = .ok (.aload_n 0, 1) := by decide +kernel
theorem dX6_init_165 : decode cX6_init 165 = .ok (.bipush 60, 2) := by decide +kernel
theorem dX6_init_167 : decode cX6_init 167 = .ok (.newarray .int, 2) := by decide +kernel
theorem dX6_init_169 : decode cX6_init 169 = .ok (.putfield 71, 3) := by decide +kernel
theorem dX6_init_172 : decode cX6_init 172 = .ok (.aload_n 0, 1) := by decide +kernel
theorem dX6_init_173 : decode cX6_init 173 = .ok (.bipush 60, 2) := by decide +kernel
theorem dX6_init_175 : decode cX6_init 175 = .ok (.newarray .int, 2) := by decide +kernel
theorem dX6_init_177 : decode cX6_init 177 = .ok (.putfield 74, 3) := by decide +kernel
theorem dX6_init_180 : decode cX6_init 180 = .ok (.aload_n 0, 1) := by decide +kernel
theorem dX6_init_181 : decode cX6_init 181 = .ok (.bipush 60, 2) := by decide +kernel
theorem dX6_init_183 : decode cX6_init 183 = .ok (.newarray .int, 2) := by decide +kernel
theorem dX6_init_185 : decode cX6_init 185 = .ok (.putfield 77, 3) := by decide +kernel
theorem dX6_init_188 : decode cX6_init 188 = .ok (.aload_n 0, 1) := by decide +kernel
theorem dX6_init_189 : decode cX6_init 189 = .ok (.bipush 60, 2) := by decide +kernel
theorem dX6_init_191 : decode cX6_init 191 = .ok (.newarray .boolean, 2) := by decide +kernel
theorem dX6_init_193 : decode cX6_init 193 = .ok (.putfield 80, 3) := by decide +kernel
theorem dX6_init_196 : decode cX6_init 196 = .ok (.aload_n 0, 1) := by decide +kernel
theorem dX6_init_197 : decode cX6_init 197 = .ok (.bipush 60, 2) := by decide +kernel
theorem dX6_init_199 : decode cX6_init 199 = .ok (.newarray .int, 2) := by decide +kernel
theorem dX6_init_201 : decode cX6_init 201 = .ok (.putfield 83, 3) := by decide +kernel
theorem dX6_init_204 : decode cX6_init 204 = .ok (.aload_n 0, 1) := by decide +kernel
theorem dX6_init_205 : decode cX6_init 205 = .ok (.bipush 60, 2) := by decide +kernel
theorem dX6_init_207 : decode cX6_init 207 = .ok (.newarray .int, 2) := by decide +kernel
theorem dX6_init_209 : decode cX6_init 209 = .ok (.putfield 86, 3) := by decide +kernel
theorem dX6_init_212 : decode cX6_init 212 = .ok (.aload_n 0, 1) := by decide +kernel
theorem dX6_init_213 : decode cX6_init 213 = .ok (.bipush 60, 2) := by decide +kernel
theorem dX6_init_215 : decode cX6_init 215 = .ok (.newarray .int, 2) := by decide +kernel
theorem dX6_init_217 : decode cX6_init 217 = .ok (.putfield 89, 3) := by decide +kernel
theorem dX6_init_220 : decode cX6_init 220 = .ok (.aload_n 0, 1) := by decide +kernel
theorem dX6_init_221 : decode cX6_init 221 = .ok (.bipush 120, 2) := by decide +kernel
theorem dX6_init_223 : decode cX6_init 223 = .ok (.newarray .int, 2) := by decide +kernel
theorem dX6_init_225 : decode cX6_init 225 = .ok (.putfield 92, 3) := by decide +kernel
theorem dX6_init_228 : decode cX6_init 228 = .ok (.aload_n 0, 1) := by decide +kernel
theorem dX6_init_229 : decode cX6_init 229 = .ok (.bipush 120, 2) := by decide +kernel
theorem dX6_init_231 : decode cX6_init 231 = .ok (.newarray .int, 2) := by decide +kernel
theorem dX6_init_233 : decode cX6_init 233 = .ok (.putfield 95, 3) := by decide +kernel
theorem dX6_init_236 : decode cX6_init 236 = .ok (.aload_n 0, 1) := by decide +kernel
theorem dX6_init_237 : decode cX6_init 237 = .ok (.bipush 100, 2) := by decide +kernel
theorem dX6_init_239 : decode cX6_init 239 = .ok (.newarray .int, 2) := by decide +kernel
theorem dX6_init_241 : decode cX6_init 241 = .ok (.putfield 98, 3) := by decide +kernel
theorem dX6_init_244 : decode cX6_init 244 = .ok (.aload_n 0, 1) := by decide +kernel
theorem dX6_init_245 : decode cX6_init 245 = .ok (.bipush 100, 2) := by decide +kernel
theorem dX6_init_247 : decode cX6_init 247 = .ok (.newarray .int, 2) := by decide +kernel
theorem dX6_init_249 : decode cX6_init 249 = .ok (.putfield 101, 3) := by decide +kernel
theorem dX6_init_252 : decode cX6_init 252 = .ok (.aload_n 0, 1) := by decide +kernel
theorem dX6_init_253 : decode cX6_init 253 = .ok (.bipush 100, 2) := by decide +kernel
theorem dX6_init_255 : decode cX6_init 255 = .ok (.newarray .int, 2) := by decide +kernel
theorem dX6_init_257 : decode cX6_init 257 = .ok (.putfield 104, 3) := by decide +kernel
theorem dX6_init_260 : decode cX6_init 260 = .ok (.aload_n 0, 1) := by decide +kernel
theorem dX6_init_261 : decode cX6_init 261 = .ok (.bipush 100, 2) := by decide +kernel
theorem dX6_init_263 : decode cX6_init 263 = .ok (.newarray .int, 2) := by decide +kernel
theorem dX6_init_265 : decode cX6_init 265 = .ok (.putfield 107, 3) := by decide +kernel
theorem dX6_init_268 : decode cX6_init 268 = .ok (.aload_n 0, 1) := by decide +kernel
theorem dX6_init_269 : decode cX6_init 269 = .ok (.bipush 100, 2) := by decide +kernel
theorem dX6_init_271 : decode cX6_init 271 = .ok (.newarray .int, 2) := by decide +kernel
theorem dX6_init_273 : decode cX6_init 273 = .ok (.putfield 110, 3) := by decide +kernel
theorem dX6_init_276 : decode cX6_init 276 = .ok (.aload_n 0, 1) := by decide +kernel
theorem dX6_init_277 : decode cX6_init 277 = .ok (.bipush 100, 2) := by decide +kernel
theorem dX6_init_279 : decode cX6_init 279 = .ok (.newarray .int, 2) := by decide +kernel
theorem dX6_init_281 : decode cX6_init 281 = .ok (.putfield 113, 3) := by decide +kernel
theorem dX6_init_284 : decode cX6_init 284 = .ok (.aload_n 0, 1) := by decide +kernel
theorem dX6_init_285 : decode cX6_init 285 = .ok (.bipush 100, 2) := by decide +kernel
theorem dX6_init_287 : decode cX6_init 287 = .ok (.newarray .boolean, 2) := by decide +kernel
theorem dX6_init_289 : decode cX6_init 289 = .ok (.putfield 116, 3) := by decide +kernel
theorem dX6_init_292 : decode cX6_init 292 = .ok (.aload_n 0, 1) := by decide +kernel
theorem dX6_init_293 : decode cX6_init 293 = .ok (.bipush 100, 2) := by decide +kernel
theorem dX6_init_295 : decode cX6_init 295 = .ok (.newarray .boolean, 2) := by decide +kernel
theorem dX6_init_297 : decode cX6_init 297 = .ok (.putfield 119, 3) := by decide +kernel
theorem dX6_init_300 : decode cX6_init 300 = .ok (.aload_n 0, 1) := by decide +kernel
theorem dX6_init_301 : decode cX6_init 301 = .ok (.bipush 100, 2) := by decide +kernel
theorem dX6_init_303 : decode cX6_init 303 = .ok (.newarray .int, 2) := by decide +kernel
theorem dX6_init_305 : decode cX6_init 305 = .ok (.putfield 122, 3) := by decide +kernel
theorem dX6_init_308 : decode cX6_init 308 = .ok (.aload_n 0, 1) := by decide +kernel
theorem dX6_init_309 : decode cX6_init 309 = .ok (.bipush 100, 2) := by decide +kernel
theorem dX6_init_311 : decode cX6_init 311 = .ok (.newarray .int, 2) := by decide +kernel
theorem dX6_init_313 : decode cX6_init 313 = .ok (.putfield 125, 3) := by decide +kernel
theorem dX6_init_316 : decode cX6_init 316 = .ok (.aload_n 0, 1) := by decide +kernel
theorem dX6_init_317 : decode cX6_init 317 = .ok (.bipush 100, 2) := by decide +kernel
theorem dX6_init_319 : decode cX6_init 319 = .ok (.newarray .int, 2) := by decide +kernel
theorem dX6_init_321 : decode cX6_init 321 = .ok (.putfield 128, 3) := by decide +kernel
theorem dX6_init_324 : decode cX6_init 324 = .ok (.aload_n 0, 1) := by decide +kernel
theorem dX6_init_325 : decode cX6_init 325 = .ok (.bipush 100, 2) := by decide +kernel
theorem dX6_init_327 : decode cX6_init 327 = .ok (.newarray .int, 2) := by decide +kernel
theorem dX6_init_329 : decode cX6_init 329 = .ok (.putfield 131, 3) := by decide +kernel
theorem dX6_init_332 : decode cX6_init 332 = .ok (.aload_n 0, 1) := by decide +kernel
theorem dX6_init_333 : decode cX6_init 333 = .ok (.bipush 100, 2) := by decide +kernel
theorem dX6_init_335 : decode cX6_init 335 = .ok (.newarray .boolean, 2) := by decide +kernel
theorem dX6_init_337 : decode cX6_init 337 = .ok (.putfield 134, 3) := by decide +kernel
theorem dX6_init_340 : decode cX6_init 340 = .ok (.aload_n 0, 1) := by decide +kernel
theorem dX6_init_341 : decode cX6_init 341 = .ok (.iconst 3, 1) := by decide +kernel
theorem dX6_init_342 : decode cX6_init 342 = .ok (.newarray .int, 2) := by decide +kernel
theorem dX6_init_344 : decode cX6_init 344 = .ok (.dup, 1) := by decide +kernel
theorem dX6_init_345 : decode cX6_init 345 = .ok (.iconst 0, 1) := by decide +kernel
theorem dX6_init_346 : decode cX6_init 346 = .ok (.bipush 100, 2) := by decide +kernel
theorem dX6_init_348 : decode cX6_init 348 = .ok (.iastore, 1) := by decide +kernel
theorem dX6_init_349 : decode cX6_init 349 = .ok (.dup, 1) := by decide +kernel
theorem dX6_init_350 : decode cX6_init 350 = .ok (.iconst 1, 1) := by decide +kernel
theorem dX6_init_351 : decode cX6_init 351 = .ok (.bipush 100, 2) := by decide +kernel
theorem dX6_init_353 : decode cX6_init 353 = .ok (.iastore, 1) := by decide +kernel
theorem dX6_init_354 : decode cX6_init 354 = .ok (.dup, 1) := by decide +kernel
theorem dX6_init_355 : decode cX6_init 355 = .ok (.iconst 2, 1) := by decide +kernel
theorem dX6_init_356 : decode cX6_init 356 = .ok (.bipush 100, 2) := by decide +kernel
theorem dX6_init_358 : decode cX6_init 358 = .ok (.iastore, 1) := by decide +kernel
theorem dX6_init_359 : decode cX6_init 359 = .ok (.putfield 137, 3) := by decide +kernel
theorem dX6_init_362 : decode cX6_init 362 = .ok (.return_, 1) := by decide +kernel
theorem dX6_thrown_0 : decode cX6_thrown 0 = .ok (.aload_n 0, 1) := by decide +kernel
theorem dX6_thrown_1 : decode cX6_thrown 1 = .ok (.getfield 140, 3) := by decide +kernel
theorem dX6_thrown_4 : decode cX6_thrown 4 = .ok (.ireturn, 1) := by decide +kernel
theorem dX6_in_0 : decode cX6_in 0 = .ok (.iload_n 0, 1) := by decide +kernel
theorem dX6_in_1 : decode cX6_in 1 = .ok (.iload_n 1, 1) := by decide +kernel
theorem dX6_in_2 : decode cX6_in 2 = .ok (.if_icmp .lt 12, 3) := by decide +kernel
theorem dX6_in_5 : decode cX6_in 5 = .ok (.iload_n 0, 1) := by decide +kernel
theorem dX6_in_6 : decode cX6_in 6 = .ok (.iload_n 2, 1) := by decide +kernel
theorem dX6_in_7 : decode cX6_in 7 = .ok (.if_icmp .gt 7, 3) := by decide +kernel
theorem dX6_in_10 : decode cX6_in 10 = .ok (.iconst 1, 1) := by decide +kernel
theorem dX6_in_11 : decode cX6_in 11 = .ok (.goto 4, 3) := by decide +kernel
theorem dX6_in_14 : decode cX6_in 14 = .ok (.iconst 0, 1) := by decide +kernel
theorem dX6_in_15 : decode cX6_in 15 = .ok (.ireturn, 1) := by decide +kernel
theorem dX6_refused_0 : decode cX6_refused 0 = .ok (.aload_n 0, 1) := by decide +kernel
theorem dX6_refused_1 : decode cX6_refused 1 = .ok (.iload_n 1, 1) := by decide +kernel
theorem dX6_refused_2 : decode cX6_refused 2 = .ok (.putfield 140, 3) := by decide +kernel
theorem dX6_refused_5 : decode cX6_refused 5 = .ok (.iload_n 1, 1) := by decide +kernel
theorem dX6_refused_6 : decode cX6_refused 6 = .ok (.ifCond .eq 7, 3) := by decide +kernel
theorem dX6_refused_9 : decode cX6_refused 9 = .ok (.iconst 1, 1) := by decide +kernel
theorem dX6_refused_10 : decode cX6_refused 10 = .ok (.goto 4, 3) := by decide +kernel
theorem dX6_refused_13 : decode cX6_refused 13 = .ok (.iconst 0, 1) := by decide +kernel
theorem dX6_refused_14 : decode cX6_refused 14 = .ok (.ireturn, 1) := by decide +kernel
set_option maxRecDepth 20000 in
theorem ggX6_isPier_X6_in : GoodIn wsX6_isPier wsX6_in := goodIn_r _ [5] (by decide +kernel) (by decide +kernel)
set_option maxRecDepth 20000 in
theorem gX6_isPier_X6_in : GoodIn wsX6_isPier (va_wsS RX6 147 yX6_in wsX6_in) := goodIn_app (goodIn_of _ (by decide +kernel)) ggX6_isPier_X6_in
theorem dX6_isPier_0 : decode cX6_isPier 0 = .ok (.iload_n 1, 1) := by decide +kernel
theorem dX6_isPier_1 : decode cX6_isPier 1 = .ok (.iconst 0, 1) := by decide +kernel
theorem dX6_isPier_2 : decode cX6_isPier 2 = .ok (.aload_n 0, 1) := by decide +kernel
theorem dX6_isPier_3 : decode cX6_isPier 3 = .ok (.getfield 144, 3) := by decide +kernel
theorem dX6_isPier_6 : decode cX6_isPier 6 = .ok (.iconst 1, 1) := by decide +kernel
theorem dX6_isPier_7 : decode cX6_isPier 7 = .ok (.isub, 1) := by decide +kernel
theorem dX6_isPier_8 : decode cX6_isPier 8 = .ok (.invokestatic 147, 3) := by decide +kernel
theorem dX6_isPier_11 : decode cX6_isPier 11 = .ok (.ireturn, 1) := by decide +kernel
set_option maxRecDepth 20000 in
theorem ggX6_isBoat_X6_in : GoodIn wsX6_isBoat wsX6_in := goodIn_r _ [5] (by decide +kernel) (by decide +kernel)
set_option maxRecDepth 20000 in
theorem gX6_isBoat_X6_in : GoodIn wsX6_isBoat (va_wsS RX6 147 yX6_in wsX6_in) := goodIn_app (goodIn_of _ (by decide +kernel)) ggX6_isBoat_X6_in
theorem dX6_isBoat_0 : decode cX6_isBoat 0 = .ok (.iload_n 1, 1) := by decide +kernel
theorem dX6_isBoat_1 : decode cX6_isBoat 1 = .ok (.iconst 0, 1) := by decide +kernel
theorem dX6_isBoat_2 : decode cX6_isBoat 2 = .ok (.aload_n 0, 1) := by decide +kernel
theorem dX6_isBoat_3 : decode cX6_isBoat 3 = .ok (.getfield 151, 3) := by decide +kernel
theorem dX6_isBoat_6 : decode cX6_isBoat 6 = .ok (.iconst 1, 1) := by decide +kernel
theorem dX6_isBoat_7 : decode cX6_isBoat 7 = .ok (.isub, 1) := by decide +kernel
theorem dX6_isBoat_8 : decode cX6_isBoat 8 = .ok (.invokestatic 147, 3) := by decide +kernel
theorem dX6_isBoat_11 : decode cX6_isBoat 11 = .ok (.ireturn, 1) := by decide +kernel
set_option maxRecDepth 20000 in
theorem ggX6_isSailing_X6_in : GoodIn wsX6_isSailing wsX6_in := goodIn_r _ [5] (by decide +kernel) (by decide +kernel)
set_option maxRecDepth 20000 in
theorem gX6_isSailing_X6_in : GoodIn wsX6_isSailing (va_wsS RX6 147 yX6_in wsX6_in) := goodIn_app (goodIn_of _ (by decide +kernel)) ggX6_isSailing_X6_in
theorem dX6_isSailing_0 : decode cX6_isSailing 0 = .ok (.iload_n 1, 1) := by decide +kernel
theorem dX6_isSailing_1 : decode cX6_isSailing 1 = .ok (.iconst 0, 1) := by decide +kernel
theorem dX6_isSailing_2 : decode cX6_isSailing 2 = .ok (.aload_n 0, 1) := by decide +kernel
theorem dX6_isSailing_3 : decode cX6_isSailing 3 = .ok (.getfield 154, 3) := by decide +kernel
theorem dX6_isSailing_6 : decode cX6_isSailing 6 = .ok (.iconst 1, 1) := by decide +kernel
theorem dX6_isSailing_7 : decode cX6_isSailing 7 = .ok (.isub, 1) := by decide +kernel
theorem dX6_isSailing_8 : decode cX6_isSailing 8 = .ok (.invokestatic 147, 3) := by decide +kernel
theorem dX6_isSailing_11 : decode cX6_isSailing 11 = .ok (.ireturn, 1) := by decide +kernel
set_option maxRecDepth 20000 in
theorem ggX6_pier_X6_in : GoodIn wsX6_pier wsX6_in := goodIn_r _ [9] (by decide +kernel) (by decide +kernel)
set_option maxRecDepth 20000 in
theorem gX6_pier_X6_in : GoodIn wsX6_pier (va_wsS RX6 147 yX6_in wsX6_in) := goodIn_app (goodIn_of _ (by decide +kernel)) ggX6_pier_X6_in
set_option maxRecDepth 20000 in
theorem ggX6_pier_X6_refused : GoodIn wsX6_pier wsX6_refused := goodIn_r _ [13, 14, 15, 16, 17, 18, 19, 20, 21, 22, 23, 24, 25, 26, 27, 28, 29, 30, 31, 32, 33, 34, 35, 36, 37, 38, 39, 40, 41, 42, 43, 44, 45, 46, 47, 48, 49, 50, 51, 52, 53, 54, 55, 56, 57, 58, 59, 60, 61, 62, 63] (by decide +kernel) (by decide +kernel)
set_option maxRecDepth 20000 in
theorem gX6_pier_X6_refused : GoodIn wsX6_pier (wsV RX6 157 RX6 yX6_refused wsX6_refused) := goodIn_app (goodIn_of _ (by decide +kernel)) ggX6_pier_X6_refused
theorem dX6_pier_0 : decode cX6_pier 0 = .ok (.iload_n 1, 1) := by decide +kernel
theorem dX6_pier_1 : decode cX6_pier 1 = .ok (.iconst 0, 1) := by decide +kernel
theorem dX6_pier_2 : decode cX6_pier 2 = .ok (.sipush 500, 3) := by decide +kernel
theorem dX6_pier_5 : decode cX6_pier 5 = .ok (.invokestatic 147, 3) := by decide +kernel
theorem dX6_pier_8 : decode cX6_pier 8 = .ok (.ifCond .eq 29, 3) := by decide +kernel
theorem dX6_pier_11 : decode cX6_pier 11 = .ok (.iload_n 2, 1) := by decide +kernel
theorem dX6_pier_12 : decode cX6_pier 12 = .ok (.iconst 0, 1) := by decide +kernel
theorem dX6_pier_13 : decode cX6_pier 13 = .ok (.sipush 200, 3) := by decide +kernel
theorem dX6_pier_16 : decode cX6_pier 16 = .ok (.invokestatic 147, 3) := by decide +kernel
theorem dX6_pier_19 : decode cX6_pier 19 = .ok (.ifCond .eq 18, 3) := by decide +kernel
theorem dX6_pier_22 : decode cX6_pier 22 = .ok (.iload_n 3, 1) := by decide +kernel
theorem dX6_pier_23 : decode cX6_pier 23 = .ok (.iconst 0, 1) := by decide +kernel
theorem dX6_pier_24 : decode cX6_pier 24 = .ok (.sipush 719, 3) := by decide +kernel
theorem dX6_pier_27 : decode cX6_pier 27 = .ok (.invokestatic 147, 3) := by decide +kernel
theorem dX6_pier_30 : decode cX6_pier 30 = .ok (.ifCond .eq 7, 3) := by decide +kernel
theorem dX6_pier_33 : decode cX6_pier 33 = .ok (.iconst 1, 1) := by decide +kernel
theorem dX6_pier_34 : decode cX6_pier 34 = .ok (.goto 4, 3) := by decide +kernel
theorem dX6_pier_37 : decode cX6_pier 37 = .ok (.iconst 0, 1) := by decide +kernel
theorem dX6_pier_38 : decode cX6_pier 38 = .ok (.istore 5, 2) := by decide +kernel
theorem dX6_pier_40 : decode cX6_pier 40 = .ok (.aload_n 0, 1) := by decide +kernel
theorem dX6_pier_41 : decode cX6_pier 41 = .ok (.iload 5, 2) := by decide +kernel
theorem dX6_pier_43 : decode cX6_pier 43 = .ok (.ifCond .ne 7, 3) := by decide +kernel
theorem dX6_pier_46 : decode cX6_pier 46 = .ok (.iconst 1, 1) := by decide +kernel
theorem dX6_pier_47 : decode cX6_pier 47 = .ok (.goto 17, 3) := by decide +kernel
theorem dX6_pier_50 : decode cX6_pier 50 = .ok (.aload_n 0, 1) := by decide +kernel
theorem dX6_pier_51 : decode cX6_pier 51 = .ok (.getfield 144, 3) := by decide +kernel
theorem dX6_pier_54 : decode cX6_pier 54 = .ok (.bipush 8, 2) := by decide +kernel
theorem dX6_pier_56 : decode cX6_pier 56 = .ok (.if_icmp .ne 7, 3) := by decide +kernel
theorem dX6_pier_59 : decode cX6_pier 59 = .ok (.iconst 2, 1) := by decide +kernel
theorem dX6_pier_60 : decode cX6_pier 60 = .ok (.goto 4, 3) := by decide +kernel
theorem dX6_pier_63 : decode cX6_pier 63 = .ok (.iconst 0, 1) := by decide +kernel
theorem dX6_pier_64 : decode cX6_pier 64 = .ok (.invokevirtual 157, 3) := by decide +kernel
theorem dX6_pier_67 : decode cX6_pier 67 = .ok (.ifCond .eq 5, 3) := by decide +kernel
theorem dX6_pier_70 : decode cX6_pier 70 = .ok (.iconst 0, 1) := by decide +kernel
theorem dX6_pier_71 : decode cX6_pier 71 = .ok (.ireturn, 1) := by decide +kernel
theorem dX6_pier_72 : decode cX6_pier 72 = .ok (.aload_n 0, 1) := by decide +kernel
theorem dX6_pier_73 : decode cX6_pier 73 = .ok (.getfield 7, 3) := by decide +kernel
theorem dX6_pier_76 : decode cX6_pier 76 = .ok (.aload_n 0, 1) := by decide +kernel
theorem dX6_pier_77 : decode cX6_pier 77 = .ok (.getfield 144, 3) := by decide +kernel
theorem dX6_pier_80 : decode cX6_pier 80 = .ok (.iload_n 1, 1) := by decide +kernel
theorem dX6_pier_81 : decode cX6_pier 81 = .ok (.iastore, 1) := by decide +kernel
theorem dX6_pier_82 : decode cX6_pier 82 = .ok (.aload_n 0, 1) := by decide +kernel
theorem dX6_pier_83 : decode cX6_pier 83 = .ok (.getfield 13, 3) := by decide +kernel
theorem dX6_pier_86 : decode cX6_pier 86 = .ok (.aload_n 0, 1) := by decide +kernel
theorem dX6_pier_87 : decode cX6_pier 87 = .ok (.getfield 144, 3) := by decide +kernel
theorem dX6_pier_90 : decode cX6_pier 90 = .ok (.iload_n 2, 1) := by decide +kernel
theorem dX6_pier_91 : decode cX6_pier 91 = .ok (.iastore, 1) := by decide +kernel
theorem dX6_pier_92 : decode cX6_pier 92 = .ok (.aload_n 0, 1) := by decide +kernel
theorem dX6_pier_93 : decode cX6_pier 93 = .ok (.getfield 16, 3) := by decide +kernel
theorem dX6_pier_96 : decode cX6_pier 96 = .ok (.aload_n 0, 1) := by decide +kernel
theorem dX6_pier_97 : decode cX6_pier 97 = .ok (.getfield 144, 3) := by decide +kernel
theorem dX6_pier_100 : decode cX6_pier 100 = .ok (.iload_n 3, 1) := by decide +kernel
theorem dX6_pier_101 : decode cX6_pier 101 = .ok (.iastore, 1) := by decide +kernel
theorem dX6_pier_102 : decode cX6_pier 102 = .ok (.aload_n 0, 1) := by decide +kernel
theorem dX6_pier_103 : decode cX6_pier 103 = .ok (.getfield 19, 3) := by decide +kernel
theorem dX6_pier_106 : decode cX6_pier 106 = .ok (.aload_n 0, 1) := by decide +kernel
theorem dX6_pier_107 : decode cX6_pier 107 = .ok (.getfield 144, 3) := by decide +kernel
theorem dX6_pier_110 : decode cX6_pier 110 = .ok (.iload 4, 2) := by decide +kernel
theorem dX6_pier_112 : decode cX6_pier 112 = .ok (.bastore, 1) := by decide +kernel
theorem dX6_pier_113 : decode cX6_pier 113 = .ok (.aload_n 0, 1) := by decide +kernel
theorem dX6_pier_114 : decode cX6_pier 114 = .ok (.dup, 1) := by decide +kernel
theorem dX6_pier_115 : decode cX6_pier 115 = .ok (.getfield 144, 3) := by decide +kernel
theorem dX6_pier_118 : decode cX6_pier 118 = .ok (.iconst 1, 1) := by decide +kernel
theorem dX6_pier_119 : decode cX6_pier 119 = .ok (.iadd, 1) := by decide +kernel
theorem dX6_pier_120 : decode cX6_pier 120 = .ok (.putfield 144, 3) := by decide +kernel
theorem dX6_pier_123 : decode cX6_pier 123 = .ok (.aload_n 0, 1) := by decide +kernel
theorem dX6_pier_124 : decode cX6_pier 124 = .ok (.getfield 144, 3) := by decide +kernel
theorem dX6_pier_127 : decode cX6_pier 127 = .ok (.iconst 1, 1) := by decide +kernel
theorem dX6_pier_128 : decode cX6_pier 128 = .ok (.isub, 1) := by decide +kernel
theorem dX6_pier_129 : decode cX6_pier 129 = .ok (.ireturn, 1) := by decide +kernel
set_option maxRecDepth 20000 in
theorem ggX6_boat_X6_in : GoodIn wsX6_boat wsX6_in := goodIn_r _ [12] (by decide +kernel) (by decide +kernel)
set_option maxRecDepth 20000 in
theorem gX6_boat_X6_in : GoodIn wsX6_boat (va_wsS RX6 147 yX6_in wsX6_in) := goodIn_app (goodIn_of _ (by decide +kernel)) ggX6_boat_X6_in
set_option maxRecDepth 20000 in
theorem ggX6_boat_X6_isPier : GoodIn wsX6_boat wsX6_isPier := goodIn_r _ [16, 17, 9, 10, 11, 12, 23, 24, 25, 26, 27, 28, 29, 30, 31, 32, 33, 34, 35, 36, 37, 38, 39, 40, 41, 42, 43, 44, 45, 46, 47, 48, 49, 50, 51, 52, 53, 54, 55, 56, 57, 58, 59, 60, 61, 62, 63, 64, 65, 66, 67, 68, 69, 70, 71] (by decide +kernel) (by decide +kernel)
set_option maxRecDepth 20000 in
theorem gX6_boat_X6_isPier : GoodIn wsX6_boat (wsV RX6 161 RX6 yX6_isPier wsX6_isPier) := goodIn_app (goodIn_of _ (by decide +kernel)) ggX6_boat_X6_isPier
set_option maxRecDepth 20000 in
theorem ggX6_boat_X6_refused : GoodIn wsX6_boat wsX6_refused := goodIn_r _ [21, 22, 23, 24, 25, 26, 27, 28, 29, 30, 31, 32, 33, 34, 35, 36, 37, 38, 39, 40, 41, 42, 43, 44, 45, 46, 47, 48, 49, 50, 51, 52, 53, 54, 55, 56, 57, 58, 59, 60, 61, 62, 63, 64, 65, 66, 67, 68, 69, 70, 71] (by decide +kernel) (by decide +kernel)
set_option maxRecDepth 20000 in
theorem gX6_boat_X6_refused : GoodIn wsX6_boat (wsV RX6 157 RX6 yX6_refused wsX6_refused) := goodIn_app (goodIn_of _ (by decide +kernel)) ggX6_boat_X6_refused
theorem dX6_boat_0 : decode cX6_boat 0 = .ok (.iload_n 1, 1) := by decide +kernel
theorem dX6_boat_1 : decode cX6_boat 1 = .ok (.iconst 1, 1) := by decide +kernel
theorem dX6_boat_2 : decode cX6_boat 2 = .ok (.sipush 500, 3) := by decide +kernel
theorem dX6_boat_5 : decode cX6_boat 5 = .ok (.invokestatic 147, 3) := by decide +kernel
theorem dX6_boat_8 : decode cX6_boat 8 = .ok (.ifCond .eq 64, 3) := by decide +kernel
theorem dX6_boat_11 : decode cX6_boat 11 = .ok (.iload_n 2, 1) := by decide +kernel
theorem dX6_boat_12 : decode cX6_boat 12 = .ok (.iconst 1, 1) := by decide +kernel
theorem dX6_boat_13 : decode cX6_boat 13 = .ok (.sipush 200, 3) := by decide +kernel
theorem dX6_boat_16 : decode cX6_boat 16 = .ok (.invokestatic 147, 3) := by decide +kernel
theorem dX6_boat_19 : decode cX6_boat 19 = .ok (.ifCond .eq 53, 3) := by decide +kernel
theorem dX6_boat_22 : decode cX6_boat 22 = .ok (.iload_n 3, 1) := by decide +kernel
theorem dX6_boat_23 : decode cX6_boat 23 = .ok (.iconst 1, 1) := by decide +kernel
theorem dX6_boat_24 : decode cX6_boat 24 = .ok (.sipush 10000, 3) := by decide +kernel
theorem dX6_boat_27 : decode cX6_boat 27 = .ok (.invokestatic 147, 3) := by decide +kernel
theorem dX6_boat_30 : decode cX6_boat 30 = .ok (.ifCond .eq 42, 3) := by decide +kernel
theorem dX6_boat_33 : decode cX6_boat 33 = .ok (.iload 4, 2) := by decide +kernel
theorem dX6_boat_35 : decode cX6_boat 35 = .ok (.iconst 0, 1) := by decide +kernel
theorem dX6_boat_36 : decode cX6_boat 36 = .ok (.sipush 10000, 3) := by decide +kernel
theorem dX6_boat_39 : decode cX6_boat 39 = .ok (.invokestatic 147, 3) := by decide +kernel
theorem dX6_boat_42 : decode cX6_boat 42 = .ok (.ifCond .eq 30, 3) := by decide +kernel
theorem dX6_boat_45 : decode cX6_boat 45 = .ok (.iload 5, 2) := by decide +kernel
theorem dX6_boat_47 : decode cX6_boat 47 = .ok (.iconst 0, 1) := by decide +kernel
theorem dX6_boat_48 : decode cX6_boat 48 = .ok (.bipush 9, 2) := by decide +kernel
theorem dX6_boat_50 : decode cX6_boat 50 = .ok (.invokestatic 147, 3) := by decide +kernel
theorem dX6_boat_53 : decode cX6_boat 53 = .ok (.ifCond .eq 19, 3) := by decide +kernel
theorem dX6_boat_56 : decode cX6_boat 56 = .ok (.iload 6, 2) := by decide +kernel
theorem dX6_boat_58 : decode cX6_boat 58 = .ok (.iconst 0, 1) := by decide +kernel
theorem dX6_boat_59 : decode cX6_boat 59 = .ok (.sipush 255, 3) := by decide +kernel
theorem dX6_boat_62 : decode cX6_boat 62 = .ok (.invokestatic 147, 3) := by decide +kernel
theorem dX6_boat_65 : decode cX6_boat 65 = .ok (.ifCond .eq 7, 3) := by decide +kernel
theorem dX6_boat_68 : decode cX6_boat 68 = .ok (.iconst 1, 1) := by decide +kernel
theorem dX6_boat_69 : decode cX6_boat 69 = .ok (.goto 4, 3) := by decide +kernel
theorem dX6_boat_72 : decode cX6_boat 72 = .ok (.iconst 0, 1) := by decide +kernel
theorem dX6_boat_73 : decode cX6_boat 73 = .ok (.istore 8, 2) := by decide +kernel
theorem dX6_boat_75 : decode cX6_boat 75 = .ok (.aload_n 0, 1) := by decide +kernel
theorem dX6_boat_76 : decode cX6_boat 76 = .ok (.aload_n 0, 1) := by decide +kernel
theorem dX6_boat_77 : decode cX6_boat 77 = .ok (.iload 7, 2) := by decide +kernel
theorem dX6_boat_79 : decode cX6_boat 79 = .ok (.invokevirtual 161, 3) := by decide +kernel
theorem dX6_boat_82 : decode cX6_boat 82 = .ok (.ifCond .ne 7, 3) := by decide +kernel
theorem dX6_boat_85 : decode cX6_boat 85 = .ok (.iconst 1, 1) := by decide +kernel
theorem dX6_boat_86 : decode cX6_boat 86 = .ok (.goto 26, 3) := by decide +kernel
theorem dX6_boat_89 : decode cX6_boat 89 = .ok (.iload 8, 2) := by decide +kernel
theorem dX6_boat_91 : decode cX6_boat 91 = .ok (.ifCond .ne 7, 3) := by decide +kernel
theorem dX6_boat_94 : decode cX6_boat 94 = .ok (.iconst 2, 1) := by decide +kernel
theorem dX6_boat_95 : decode cX6_boat 95 = .ok (.goto 17, 3) := by decide +kernel
theorem dX6_boat_98 : decode cX6_boat 98 = .ok (.aload_n 0, 1) := by decide +kernel
theorem dX6_boat_99 : decode cX6_boat 99 = .ok (.getfield 151, 3) := by decide +kernel
theorem dX6_boat_102 : decode cX6_boat 102 = .ok (.bipush 6, 2) := by decide +kernel
theorem dX6_boat_104 : decode cX6_boat 104 = .ok (.if_icmp .ne 7, 3) := by decide +kernel
theorem dX6_boat_107 : decode cX6_boat 107 = .ok (.iconst 3, 1) := by decide +kernel
theorem dX6_boat_108 : decode cX6_boat 108 = .ok (.goto 4, 3) := by decide +kernel
theorem dX6_boat_111 : decode cX6_boat 111 = .ok (.iconst 0, 1) := by decide +kernel
theorem dX6_boat_112 : decode cX6_boat 112 = .ok (.invokevirtual 157, 3) := by decide +kernel
theorem dX6_boat_115 : decode cX6_boat 115 = .ok (.ifCond .eq 5, 3) := by decide +kernel
theorem dX6_boat_118 : decode cX6_boat 118 = .ok (.iconst 0, 1) := by decide +kernel
theorem dX6_boat_119 : decode cX6_boat 119 = .ok (.ireturn, 1) := by decide +kernel
theorem dX6_boat_120 : decode cX6_boat 120 = .ok (.aload_n 0, 1) := by decide +kernel
theorem dX6_boat_121 : decode cX6_boat 121 = .ok (.getfield 38, 3) := by decide +kernel
theorem dX6_boat_124 : decode cX6_boat 124 = .ok (.aload_n 0, 1) := by decide +kernel
theorem dX6_boat_125 : decode cX6_boat 125 = .ok (.getfield 151, 3) := by decide +kernel
theorem dX6_boat_128 : decode cX6_boat 128 = .ok (.iload_n 1, 1) := by decide +kernel
theorem dX6_boat_129 : decode cX6_boat 129 = .ok (.iastore, 1) := by decide +kernel
theorem dX6_boat_130 : decode cX6_boat 130 = .ok (.aload_n 0, 1) := by decide +kernel
theorem dX6_boat_131 : decode cX6_boat 131 = .ok (.getfield 41, 3) := by decide +kernel
theorem dX6_boat_134 : decode cX6_boat 134 = .ok (.aload_n 0, 1) := by decide +kernel
theorem dX6_boat_135 : decode cX6_boat 135 = .ok (.getfield 151, 3) := by decide +kernel
theorem dX6_boat_138 : decode cX6_boat 138 = .ok (.iload_n 2, 1) := by decide +kernel
theorem dX6_boat_139 : decode cX6_boat 139 = .ok (.iastore, 1) := by decide +kernel
theorem dX6_boat_140 : decode cX6_boat 140 = .ok (.aload_n 0, 1) := by decide +kernel
theorem dX6_boat_141 : decode cX6_boat 141 = .ok (.getfield 44, 3) := by decide +kernel
theorem dX6_boat_144 : decode cX6_boat 144 = .ok (.aload_n 0, 1) := by decide +kernel
theorem dX6_boat_145 : decode cX6_boat 145 = .ok (.getfield 151, 3) := by decide +kernel
theorem dX6_boat_148 : decode cX6_boat 148 = .ok (.iload_n 3, 1) := by decide +kernel
theorem dX6_boat_149 : decode cX6_boat 149 = .ok (.iastore, 1) := by decide +kernel
theorem dX6_boat_150 : decode cX6_boat 150 = .ok (.aload_n 0, 1) := by decide +kernel
theorem dX6_boat_151 : decode cX6_boat 151 = .ok (.getfield 47, 3) := by decide +kernel
theorem dX6_boat_154 : decode cX6_boat 154 = .ok (.aload_n 0, 1) := by decide +kernel
theorem dX6_boat_155 : decode cX6_boat 155 = .ok (.getfield 151, 3) := by decide +kernel
theorem dX6_boat_158 : decode cX6_boat 158 = .ok (.iload 4, 2) := by decide +kernel
theorem dX6_boat_160 : decode cX6_boat 160 = .ok (.iastore, 1) := by decide +kernel
theorem dX6_boat_161 : decode cX6_boat 161 = .ok (.aload_n 0, 1) := by decide +kernel
theorem dX6_boat_162 : decode cX6_boat 162 = .ok (.getfield 50, 3) := by decide +kernel
theorem dX6_boat_165 : decode cX6_boat 165 = .ok (.aload_n 0, 1) := by decide +kernel
theorem dX6_boat_166 : decode cX6_boat 166 = .ok (.getfield 151, 3) := by decide +kernel
theorem dX6_boat_169 : decode cX6_boat 169 = .ok (.iload 5, 2) := by decide +kernel
theorem dX6_boat_171 : decode cX6_boat 171 = .ok (.iastore, 1) := by decide +kernel
theorem dX6_boat_172 : decode cX6_boat 172 = .ok (.aload_n 0, 1) := by decide +kernel
theorem dX6_boat_173 : decode cX6_boat 173 = .ok (.getfield 53, 3) := by decide +kernel
theorem dX6_boat_176 : decode cX6_boat 176 = .ok (.aload_n 0, 1) := by decide +kernel
theorem dX6_boat_177 : decode cX6_boat 177 = .ok (.getfield 151, 3) := by decide +kernel
theorem dX6_boat_180 : decode cX6_boat 180 = .ok (.iload 6, 2) := by decide +kernel
theorem dX6_boat_182 : decode cX6_boat 182 = .ok (.iastore, 1) := by decide +kernel
theorem dX6_boat_183 : decode cX6_boat 183 = .ok (.aload_n 0, 1) := by decide +kernel
theorem dX6_boat_184 : decode cX6_boat 184 = .ok (.getfield 56, 3) := by decide +kernel
theorem dX6_boat_187 : decode cX6_boat 187 = .ok (.aload_n 0, 1) := by decide +kernel
theorem dX6_boat_188 : decode cX6_boat 188 = .ok (.getfield 151, 3) := by decide +kernel
theorem dX6_boat_191 : decode cX6_boat 191 = .ok (.iload 7, 2) := by decide +kernel
theorem dX6_boat_193 : decode cX6_boat 193 = .ok (.iastore, 1) := by decide +kernel
theorem dX6_boat_194 : decode cX6_boat 194 = .ok (.aload_n 0, 1) := by decide +kernel
theorem dX6_boat_195 : decode cX6_boat 195 = .ok (.dup, 1) := by decide +kernel
theorem dX6_boat_196 : decode cX6_boat 196 = .ok (.getfield 151, 3) := by decide +kernel
theorem dX6_boat_199 : decode cX6_boat 199 = .ok (.iconst 1, 1) := by decide +kernel
theorem dX6_boat_200 : decode cX6_boat 200 = .ok (.iadd, 1) := by decide +kernel
theorem dX6_boat_201 : decode cX6_boat 201 = .ok (.putfield 151, 3) := by decide +kernel
theorem dX6_boat_204 : decode cX6_boat 204 = .ok (.aload_n 0, 1) := by decide +kernel
theorem dX6_boat_205 : decode cX6_boat 205 = .ok (.getfield 151, 3) := by decide +kernel
theorem dX6_boat_208 : decode cX6_boat 208 = .ok (.iconst 1, 1) := by decide +kernel
theorem dX6_boat_209 : decode cX6_boat 209 = .ok (.isub, 1) := by decide +kernel
theorem dX6_boat_210 : decode cX6_boat 210 = .ok (.ireturn, 1) := by decide +kernel
set_option maxRecDepth 20000 in
theorem ggX6_swell_X6_isPier : GoodIn wsX6_swell wsX6_isPier := goodIn_r _ [6, 7, 8, 9, 5, 10, 16, 17, 18, 19, 20, 21, 22, 23, 24, 25, 26, 27, 28, 29, 30, 31, 32, 33, 34, 35, 36, 37, 38, 39, 40, 41, 42, 43, 44, 45, 46, 47, 48, 49, 50, 51, 52, 53, 54, 55, 56, 57, 58, 59, 60, 61, 62, 63, 64] (by decide +kernel) (by decide +kernel)
set_option maxRecDepth 20000 in
theorem gX6_swell_X6_isPier : GoodIn wsX6_swell (wsV RX6 161 RX6 yX6_isPier wsX6_isPier) := goodIn_app (goodIn_of _ (by decide +kernel)) ggX6_swell_X6_isPier
set_option maxRecDepth 20000 in
theorem ggX6_swell_X6_in : GoodIn wsX6_swell wsX6_in := goodIn_r _ [10] (by decide +kernel) (by decide +kernel)
set_option maxRecDepth 20000 in
theorem gX6_swell_X6_in : GoodIn wsX6_swell (va_wsS RX6 147 yX6_in wsX6_in) := goodIn_app (goodIn_of _ (by decide +kernel)) ggX6_swell_X6_in
set_option maxRecDepth 20000 in
theorem ggX6_swell_X6_refused : GoodIn wsX6_swell wsX6_refused := goodIn_r _ [14, 15, 16, 17, 18, 19, 20, 21, 22, 23, 24, 25, 26, 27, 28, 29, 30, 31, 32, 33, 34, 35, 36, 37, 38, 39, 40, 41, 42, 43, 44, 45, 46, 47, 48, 49, 50, 51, 52, 53, 54, 55, 56, 57, 58, 59, 60, 61, 62, 63, 64] (by decide +kernel) (by decide +kernel)
set_option maxRecDepth 20000 in
theorem gX6_swell_X6_refused : GoodIn wsX6_swell (wsV RX6 157 RX6 yX6_refused wsX6_refused) := goodIn_app (goodIn_of _ (by decide +kernel)) ggX6_swell_X6_refused
theorem dX6_swell_0 : decode cX6_swell 0 = .ok (.aload_n 0, 1) := by decide +kernel
theorem dX6_swell_1 : decode cX6_swell 1 = .ok (.aload_n 0, 1) := by decide +kernel
theorem dX6_swell_2 : decode cX6_swell 2 = .ok (.iload_n 1, 1) := by decide +kernel
theorem dX6_swell_3 : decode cX6_swell 3 = .ok (.invokevirtual 161, 3) := by decide +kernel
theorem dX6_swell_6 : decode cX6_swell 6 = .ok (.ifCond .ne 7, 3) := by decide +kernel
theorem dX6_swell_9 : decode cX6_swell 9 = .ok (.iconst 1, 1) := by decide +kernel
theorem dX6_swell_10 : decode cX6_swell 10 = .ok (.goto 18, 3) := by decide +kernel
theorem dX6_swell_13 : decode cX6_swell 13 = .ok (.iload_n 2, 1) := by decide +kernel
theorem dX6_swell_14 : decode cX6_swell 14 = .ok (.iconst 0, 1) := by decide +kernel
theorem dX6_swell_15 : decode cX6_swell 15 = .ok (.bipush 9, 2) := by decide +kernel
theorem dX6_swell_17 : decode cX6_swell 17 = .ok (.invokestatic 147, 3) := by decide +kernel
theorem dX6_swell_20 : decode cX6_swell 20 = .ok (.ifCond .ne 7, 3) := by decide +kernel
theorem dX6_swell_23 : decode cX6_swell 23 = .ok (.iconst 2, 1) := by decide +kernel
theorem dX6_swell_24 : decode cX6_swell 24 = .ok (.goto 4, 3) := by decide +kernel
theorem dX6_swell_27 : decode cX6_swell 27 = .ok (.iconst 0, 1) := by decide +kernel
theorem dX6_swell_28 : decode cX6_swell 28 = .ok (.invokevirtual 157, 3) := by decide +kernel
theorem dX6_swell_31 : decode cX6_swell 31 = .ok (.ifCond .eq 5, 3) := by decide +kernel
theorem dX6_swell_34 : decode cX6_swell 34 = .ok (.iconst 0, 1) := by decide +kernel
theorem dX6_swell_35 : decode cX6_swell 35 = .ok (.ireturn, 1) := by decide +kernel
theorem dX6_swell_36 : decode cX6_swell 36 = .ok (.aload_n 0, 1) := by decide +kernel
theorem dX6_swell_37 : decode cX6_swell 37 = .ok (.getfield 23, 3) := by decide +kernel
theorem dX6_swell_40 : decode cX6_swell 40 = .ok (.iload_n 1, 1) := by decide +kernel
theorem dX6_swell_41 : decode cX6_swell 41 = .ok (.iaload, 1) := by decide +kernel
theorem dX6_swell_42 : decode cX6_swell 42 = .ok (.istore_n 3, 1) := by decide +kernel
theorem dX6_swell_43 : decode cX6_swell 43 = .ok (.aload_n 0, 1) := by decide +kernel
theorem dX6_swell_44 : decode cX6_swell 44 = .ok (.getfield 23, 3) := by decide +kernel
theorem dX6_swell_47 : decode cX6_swell 47 = .ok (.iload_n 1, 1) := by decide +kernel
theorem dX6_swell_48 : decode cX6_swell 48 = .ok (.iload_n 2, 1) := by decide +kernel
theorem dX6_swell_49 : decode cX6_swell 49 = .ok (.iastore, 1) := by decide +kernel
theorem dX6_swell_50 : decode cX6_swell 50 = .ok (.iload_n 3, 1) := by decide +kernel
theorem dX6_swell_51 : decode cX6_swell 51 = .ok (.ireturn, 1) := by decide +kernel
set_option maxRecDepth 20000 in
theorem ggX6_breakDown_X6_isBoat : GoodIn wsX6_breakDown wsX6_isBoat := goodIn_r _ [6, 7, 8, 9, 5, 10, 16, 17, 18, 19, 20, 21, 22, 23, 24, 25, 26, 27, 28, 29, 30, 31, 32, 33, 34, 35, 36, 37, 38, 39, 40, 41, 42, 43, 44, 45, 46, 47, 48, 49, 50, 51, 52, 53, 54, 55, 56, 57, 58, 59, 60, 61, 62, 63, 64] (by decide +kernel) (by decide +kernel)
set_option maxRecDepth 20000 in
theorem gX6_breakDown_X6_isBoat : GoodIn wsX6_breakDown (wsV RX6 164 RX6 yX6_isBoat wsX6_isBoat) := goodIn_app (goodIn_of _ (by decide +kernel)) ggX6_breakDown_X6_isBoat
set_option maxRecDepth 20000 in
theorem ggX6_breakDown_X6_refused : GoodIn wsX6_breakDown wsX6_refused := goodIn_r _ [14, 15, 16, 17, 18, 19, 20, 21, 22, 23, 24, 25, 26, 27, 28, 29, 30, 31, 32, 33, 34, 35, 36, 37, 38, 39, 40, 41, 42, 43, 44, 45, 46, 47, 48, 49, 50, 51, 52, 53, 54, 55, 56, 57, 58, 59, 60, 61, 62, 63, 64] (by decide +kernel) (by decide +kernel)
set_option maxRecDepth 20000 in
theorem gX6_breakDown_X6_refused : GoodIn wsX6_breakDown (wsV RX6 157 RX6 yX6_refused wsX6_refused) := goodIn_app (goodIn_of _ (by decide +kernel)) ggX6_breakDown_X6_refused
theorem dX6_breakDown_0 : decode cX6_breakDown 0 = .ok (.aload_n 0, 1) := by decide +kernel
theorem dX6_breakDown_1 : decode cX6_breakDown 1 = .ok (.aload_n 0, 1) := by decide +kernel
theorem dX6_breakDown_2 : decode cX6_breakDown 2 = .ok (.iload_n 1, 1) := by decide +kernel
theorem dX6_breakDown_3 : decode cX6_breakDown 3 = .ok (.invokevirtual 164, 3) := by decide +kernel
theorem dX6_breakDown_6 : decode cX6_breakDown 6 = .ok (.ifCond .eq 7, 3) := by decide +kernel
theorem dX6_breakDown_9 : decode cX6_breakDown 9 = .ok (.iconst 0, 1) := by decide +kernel
theorem dX6_breakDown_10 : decode cX6_breakDown 10 = .ok (.goto 4, 3) := by decide +kernel
theorem dX6_breakDown_13 : decode cX6_breakDown 13 = .ok (.iconst 1, 1) := by decide +kernel
theorem dX6_breakDown_14 : decode cX6_breakDown 14 = .ok (.invokevirtual 157, 3) := by decide +kernel
theorem dX6_breakDown_17 : decode cX6_breakDown 17 = .ok (.ifCond .eq 5, 3) := by decide +kernel
theorem dX6_breakDown_20 : decode cX6_breakDown 20 = .ok (.iconst 0, 1) := by decide +kernel
theorem dX6_breakDown_21 : decode cX6_breakDown 21 = .ok (.ireturn, 1) := by decide +kernel
theorem dX6_breakDown_22 : decode cX6_breakDown 22 = .ok (.aload_n 0, 1) := by decide +kernel
theorem dX6_breakDown_23 : decode cX6_breakDown 23 = .ok (.getfield 59, 3) := by decide +kernel
theorem dX6_breakDown_26 : decode cX6_breakDown 26 = .ok (.iload_n 1, 1) := by decide +kernel
theorem dX6_breakDown_27 : decode cX6_breakDown 27 = .ok (.aload_n 0, 1) := by decide +kernel
theorem dX6_breakDown_28 : decode cX6_breakDown 28 = .ok (.getfield 59, 3) := by decide +kernel
theorem dX6_breakDown_31 : decode cX6_breakDown 31 = .ok (.iload_n 1, 1) := by decide +kernel
theorem dX6_breakDown_32 : decode cX6_breakDown 32 = .ok (.baload, 1) := by decide +kernel
theorem dX6_breakDown_33 : decode cX6_breakDown 33 = .ok (.ifCond .ne 7, 3) := by decide +kernel
theorem dX6_breakDown_36 : decode cX6_breakDown 36 = .ok (.iconst 1, 1) := by decide +kernel
theorem dX6_breakDown_37 : decode cX6_breakDown 37 = .ok (.goto 4, 3) := by decide +kernel
theorem dX6_breakDown_40 : decode cX6_breakDown 40 = .ok (.iconst 0, 1) := by decide +kernel
theorem dX6_breakDown_41 : decode cX6_breakDown 41 = .ok (.bastore, 1) := by decide +kernel
theorem dX6_breakDown_42 : decode cX6_breakDown 42 = .ok (.aload_n 0, 1) := by decide +kernel
theorem dX6_breakDown_43 : decode cX6_breakDown 43 = .ok (.getfield 59, 3) := by decide +kernel
theorem dX6_breakDown_46 : decode cX6_breakDown 46 = .ok (.iload_n 1, 1) := by decide +kernel
theorem dX6_breakDown_47 : decode cX6_breakDown 47 = .ok (.baload, 1) := by decide +kernel
theorem dX6_breakDown_48 : decode cX6_breakDown 48 = .ok (.ireturn, 1) := by decide +kernel
set_option maxRecDepth 20000 in
theorem ggX6_relieve_X6_isBoat : GoodIn wsX6_relieve wsX6_isBoat := goodIn_r _ [8, 9, 10, 11, 7, 12, 18, 19, 20, 21, 22, 23, 24, 25, 26, 27, 28, 29, 30, 31, 32, 33, 34, 35, 36, 37, 38, 39, 40, 41, 42, 43, 44, 45, 46, 47, 48, 49, 50, 51, 52, 53, 54, 55, 56, 57, 58, 59, 60, 61, 62, 63, 64, 65, 66] (by decide +kernel) (by decide +kernel)
set_option maxRecDepth 20000 in
theorem gX6_relieve_X6_isBoat : GoodIn wsX6_relieve (wsV RX6 164 RX6 yX6_isBoat wsX6_isBoat) := goodIn_app (goodIn_of _ (by decide +kernel)) ggX6_relieve_X6_isBoat
set_option maxRecDepth 20000 in
theorem ggX6_relieve_X6_refused : GoodIn wsX6_relieve wsX6_refused := goodIn_r _ [16, 17, 18, 19, 20, 21, 22, 23, 24, 25, 26, 27, 28, 29, 30, 31, 32, 33, 34, 35, 36, 37, 38, 39, 40, 41, 42, 43, 44, 45, 46, 47, 48, 49, 50, 51, 52, 53, 54, 55, 56, 57, 58, 59, 60, 61, 62, 63, 64, 65, 66] (by decide +kernel) (by decide +kernel)
set_option maxRecDepth 20000 in
theorem gX6_relieve_X6_refused : GoodIn wsX6_relieve (wsV RX6 157 RX6 yX6_refused wsX6_refused) := goodIn_app (goodIn_of _ (by decide +kernel)) ggX6_relieve_X6_refused
theorem dX6_relieve_0 : decode cX6_relieve 0 = .ok (.aload_n 0, 1) := by decide +kernel
theorem dX6_relieve_1 : decode cX6_relieve 1 = .ok (.iload_n 1, 1) := by decide +kernel
theorem dX6_relieve_2 : decode cX6_relieve 2 = .ok (.invokevirtual 164, 3) := by decide +kernel
theorem dX6_relieve_5 : decode cX6_relieve 5 = .ok (.ifCond .eq 15, 3) := by decide +kernel
theorem dX6_relieve_8 : decode cX6_relieve 8 = .ok (.aload_n 0, 1) := by decide +kernel
theorem dX6_relieve_9 : decode cX6_relieve 9 = .ok (.iload_n 2, 1) := by decide +kernel
theorem dX6_relieve_10 : decode cX6_relieve 10 = .ok (.invokevirtual 164, 3) := by decide +kernel
theorem dX6_relieve_13 : decode cX6_relieve 13 = .ok (.ifCond .eq 7, 3) := by decide +kernel
theorem dX6_relieve_16 : decode cX6_relieve 16 = .ok (.iconst 1, 1) := by decide +kernel
theorem dX6_relieve_17 : decode cX6_relieve 17 = .ok (.goto 4, 3) := by decide +kernel
theorem dX6_relieve_20 : decode cX6_relieve 20 = .ok (.iconst 0, 1) := by decide +kernel
theorem dX6_relieve_21 : decode cX6_relieve 21 = .ok (.istore_n 3, 1) := by decide +kernel
theorem dX6_relieve_22 : decode cX6_relieve 22 = .ok (.aload_n 0, 1) := by decide +kernel
theorem dX6_relieve_23 : decode cX6_relieve 23 = .ok (.iload_n 3, 1) := by decide +kernel
theorem dX6_relieve_24 : decode cX6_relieve 24 = .ok (.ifCond .ne 7, 3) := by decide +kernel
theorem dX6_relieve_27 : decode cX6_relieve 27 = .ok (.iconst 1, 1) := by decide +kernel
theorem dX6_relieve_28 : decode cX6_relieve 28 = .ok (.goto 13, 3) := by decide +kernel
theorem dX6_relieve_31 : decode cX6_relieve 31 = .ok (.iload_n 1, 1) := by decide +kernel
theorem dX6_relieve_32 : decode cX6_relieve 32 = .ok (.iload_n 2, 1) := by decide +kernel
theorem dX6_relieve_33 : decode cX6_relieve 33 = .ok (.if_icmp .ne 7, 3) := by decide +kernel
theorem dX6_relieve_36 : decode cX6_relieve 36 = .ok (.iconst 2, 1) := by decide +kernel
theorem dX6_relieve_37 : decode cX6_relieve 37 = .ok (.goto 4, 3) := by decide +kernel
theorem dX6_relieve_40 : decode cX6_relieve 40 = .ok (.iconst 0, 1) := by decide +kernel
theorem dX6_relieve_41 : decode cX6_relieve 41 = .ok (.invokevirtual 157, 3) := by decide +kernel
theorem dX6_relieve_44 : decode cX6_relieve 44 = .ok (.ifCond .eq 5, 3) := by decide +kernel
theorem dX6_relieve_47 : decode cX6_relieve 47 = .ok (.iconst 0, 1) := by decide +kernel
theorem dX6_relieve_48 : decode cX6_relieve 48 = .ok (.ireturn, 1) := by decide +kernel
theorem dX6_relieve_49 : decode cX6_relieve 49 = .ok (.iconst 0, 1) := by decide +kernel
theorem dX6_relieve_50 : decode cX6_relieve 50 = .ok (.istore 4, 2) := by decide +kernel
theorem dX6_relieve_52 : decode cX6_relieve 52 = .ok (.iconst 0, 1) := by decide +kernel
theorem dX6_relieve_53 : decode cX6_relieve 53 = .ok (.istore 5, 2) := by decide +kernel
theorem dX6_relieve_55 : decode cX6_relieve 55 = .ok (.iload 5, 2) := by decide +kernel
theorem dX6_relieve_57 : decode cX6_relieve 57 = .ok (.aload_n 0, 1) := by decide +kernel
theorem dX6_relieve_58 : decode cX6_relieve 58 = .ok (.getfield 154, 3) := by decide +kernel
theorem dX6_relieve_61 : decode cX6_relieve 61 = .ok (.if_icmp .ge 75, 3) := by decide +kernel
theorem dX6_relieve_64 : decode cX6_relieve 64 = .ok (.aload_n 0, 1) := by decide +kernel
theorem dX6_relieve_65 : decode cX6_relieve 65 = .ok (.getfield 62, 3) := by decide +kernel
theorem dX6_relieve_68 : decode cX6_relieve 68 = .ok (.iload 5, 2) := by decide +kernel
theorem dX6_relieve_70 : decode cX6_relieve 70 = .ok (.iaload, 1) := by decide +kernel
theorem dX6_relieve_71 : decode cX6_relieve 71 = .ok (.ifCond .ne 18, 3) := by decide +kernel
theorem dX6_relieve_74 : decode cX6_relieve 74 = .ok (.aload_n 0, 1) := by decide +kernel
theorem dX6_relieve_75 : decode cX6_relieve 75 = .ok (.getfield 65, 3) := by decide +kernel
theorem dX6_relieve_78 : decode cX6_relieve 78 = .ok (.iload 5, 2) := by decide +kernel
theorem dX6_relieve_80 : decode cX6_relieve 80 = .ok (.iaload, 1) := by decide +kernel
theorem dX6_relieve_81 : decode cX6_relieve 81 = .ok (.iload_n 1, 1) := by decide +kernel
theorem dX6_relieve_82 : decode cX6_relieve 82 = .ok (.if_icmp .ne 7, 3) := by decide +kernel
theorem dX6_relieve_85 : decode cX6_relieve 85 = .ok (.iconst 1, 1) := by decide +kernel
theorem dX6_relieve_86 : decode cX6_relieve 86 = .ok (.goto 4, 3) := by decide +kernel
theorem dX6_relieve_89 : decode cX6_relieve 89 = .ok (.iconst 0, 1) := by decide +kernel
theorem dX6_relieve_90 : decode cX6_relieve 90 = .ok (.istore 6, 2) := by decide +kernel
theorem dX6_relieve_92 : decode cX6_relieve 92 = .ok (.aload_n 0, 1) := by decide +kernel
theorem dX6_relieve_93 : decode cX6_relieve 93 = .ok (.getfield 65, 3) := by decide +kernel
theorem dX6_relieve_96 : decode cX6_relieve 96 = .ok (.iload 5, 2) := by decide +kernel
theorem dX6_relieve_98 : decode cX6_relieve 98 = .ok (.iload 6, 2) := by decide +kernel
theorem dX6_relieve_100 : decode cX6_relieve 100 = .ok (.ifCond .eq 7, 3) := by decide +kernel
theorem dX6_relieve_103 : decode cX6_relieve 103 = .ok (.iload_n 2, 1) := by decide +kernel
theorem dX6_relieve_104 : decode cX6_relieve 104 = .ok (.goto 10, 3) := by decide +kernel
theorem dX6_relieve_107 : decode cX6_relieve 107 = .ok (.aload_n 0, 1) := by decide +kernel
theorem dX6_relieve_108 : decode cX6_relieve 108 = .ok (.getfield 65, 3) := by decide +kernel
theorem dX6_relieve_111 : decode cX6_relieve 111 = .ok (.iload 5, 2) := by decide +kernel
theorem dX6_relieve_113 : decode cX6_relieve 113 = .ok (.iaload, 1) := by decide +kernel
theorem dX6_relieve_114 : decode cX6_relieve 114 = .ok (.iastore, 1) := by decide +kernel
theorem dX6_relieve_115 : decode cX6_relieve 115 = .ok (.iload 4, 2) := by decide +kernel
theorem dX6_relieve_117 : decode cX6_relieve 117 = .ok (.iload 6, 2) := by decide +kernel
theorem dX6_relieve_119 : decode cX6_relieve 119 = .ok (.ifCond .eq 7, 3) := by decide +kernel
theorem dX6_relieve_122 : decode cX6_relieve 122 = .ok (.iconst 1, 1) := by decide +kernel
theorem dX6_relieve_123 : decode cX6_relieve 123 = .ok (.goto 4, 3) := by decide +kernel
theorem dX6_relieve_126 : decode cX6_relieve 126 = .ok (.iconst 0, 1) := by decide +kernel
theorem dX6_relieve_127 : decode cX6_relieve 127 = .ok (.iadd, 1) := by decide +kernel
theorem dX6_relieve_128 : decode cX6_relieve 128 = .ok (.istore 4, 2) := by decide +kernel
theorem dX6_relieve_130 : decode cX6_relieve 130 = .ok (.iinc 5 1, 3) := by decide +kernel
theorem dX6_relieve_133 : decode cX6_relieve 133 = .ok (.goto (-78), 3) := by decide +kernel
theorem dX6_relieve_136 : decode cX6_relieve 136 = .ok (.iload 4, 2) := by decide +kernel
theorem dX6_relieve_138 : decode cX6_relieve 138 = .ok (.ireturn, 1) := by decide +kernel
set_option maxRecDepth 20000 in
theorem ggX6_sailing_X6_isBoat : GoodIn wsX6_sailing wsX6_isBoat := goodIn_r _ [13, 14, 15, 16, 12, 17, 28, 29, 30, 31, 32, 33, 34, 35, 36, 37, 38, 39, 40, 41, 42, 43, 44, 45, 46, 47, 48, 49, 50, 51, 52, 53, 54, 55, 56, 57, 58, 59, 60, 61, 62, 63, 64, 65, 66, 67, 68, 69, 70, 71, 72, 73, 74, 75, 76] (by decide +kernel) (by decide +kernel)
set_option maxRecDepth 20000 in
theorem gX6_sailing_X6_isBoat : GoodIn wsX6_sailing (wsV RX6 164 RX6 yX6_isBoat wsX6_isBoat) := goodIn_app (goodIn_of _ (by decide +kernel)) ggX6_sailing_X6_isBoat
set_option maxRecDepth 20000 in
theorem ggX6_sailing_X6_isPier : GoodIn wsX6_sailing wsX6_isPier := goodIn_r _ [21, 22, 15, 16, 12, 17, 28, 29, 30, 31, 32, 33, 34, 35, 36, 37, 38, 39, 40, 41, 42, 43, 44, 45, 46, 47, 48, 49, 50, 51, 52, 53, 54, 55, 56, 57, 58, 59, 60, 61, 62, 63, 64, 65, 66, 67, 68, 69, 70, 71, 72, 73, 74, 75, 76] (by decide +kernel) (by decide +kernel)
set_option maxRecDepth 20000 in
theorem gX6_sailing_X6_isPier : GoodIn wsX6_sailing (wsV RX6 161 RX6 yX6_isPier wsX6_isPier) := goodIn_app (goodIn_of _ (by decide +kernel)) ggX6_sailing_X6_isPier
set_option maxRecDepth 20000 in
theorem ggX6_sailing_X6_in : GoodIn wsX6_sailing wsX6_in := goodIn_r _ [17] (by decide +kernel) (by decide +kernel)
set_option maxRecDepth 20000 in
theorem gX6_sailing_X6_in : GoodIn wsX6_sailing (va_wsS RX6 147 yX6_in wsX6_in) := goodIn_app (goodIn_of _ (by decide +kernel)) ggX6_sailing_X6_in
set_option maxRecDepth 20000 in
theorem ggX6_sailing_X6_refused : GoodIn wsX6_sailing wsX6_refused := goodIn_r _ [26, 27, 28, 29, 30, 31, 32, 33, 34, 35, 36, 37, 38, 39, 40, 41, 42, 43, 44, 45, 46, 47, 48, 49, 50, 51, 52, 53, 54, 55, 56, 57, 58, 59, 60, 61, 62, 63, 64, 65, 66, 67, 68, 69, 70, 71, 72, 73, 74, 75, 76] (by decide +kernel) (by decide +kernel)
set_option maxRecDepth 20000 in
theorem gX6_sailing_X6_refused : GoodIn wsX6_sailing (wsV RX6 157 RX6 yX6_refused wsX6_refused) := goodIn_app (goodIn_of _ (by decide +kernel)) ggX6_sailing_X6_refused
theorem dX6_sailing_0 : decode cX6_sailing 0 = .ok (.aload_n 0, 1) := by decide +kernel
theorem dX6_sailing_1 : decode cX6_sailing 1 = .ok (.iload_n 1, 1) := by decide +kernel
theorem dX6_sailing_2 : decode cX6_sailing 2 = .ok (.invokevirtual 164, 3) := by decide +kernel
theorem dX6_sailing_5 : decode cX6_sailing 5 = .ok (.ifCond .eq 23, 3) := by decide +kernel
theorem dX6_sailing_8 : decode cX6_sailing 8 = .ok (.aload_n 0, 1) := by decide +kernel
theorem dX6_sailing_9 : decode cX6_sailing 9 = .ok (.iload_n 2, 1) := by decide +kernel
theorem dX6_sailing_10 : decode cX6_sailing 10 = .ok (.invokevirtual 161, 3) := by decide +kernel
theorem dX6_sailing_13 : decode cX6_sailing 13 = .ok (.ifCond .eq 15, 3) := by decide +kernel
theorem dX6_sailing_16 : decode cX6_sailing 16 = .ok (.aload_n 0, 1) := by decide +kernel
theorem dX6_sailing_17 : decode cX6_sailing 17 = .ok (.iload_n 3, 1) := by decide +kernel
theorem dX6_sailing_18 : decode cX6_sailing 18 = .ok (.invokevirtual 161, 3) := by decide +kernel
theorem dX6_sailing_21 : decode cX6_sailing 21 = .ok (.ifCond .eq 7, 3) := by decide +kernel
theorem dX6_sailing_24 : decode cX6_sailing 24 = .ok (.iconst 1, 1) := by decide +kernel
theorem dX6_sailing_25 : decode cX6_sailing 25 = .ok (.goto 4, 3) := by decide +kernel
theorem dX6_sailing_28 : decode cX6_sailing 28 = .ok (.iconst 0, 1) := by decide +kernel
theorem dX6_sailing_29 : decode cX6_sailing 29 = .ok (.istore 7, 2) := by decide +kernel
theorem dX6_sailing_31 : decode cX6_sailing 31 = .ok (.iload_n 2, 1) := by decide +kernel
theorem dX6_sailing_32 : decode cX6_sailing 32 = .ok (.iload_n 3, 1) := by decide +kernel
theorem dX6_sailing_33 : decode cX6_sailing 33 = .ok (.if_icmp .eq 31, 3) := by decide +kernel
theorem dX6_sailing_36 : decode cX6_sailing 36 = .ok (.iload 4, 2) := by decide +kernel
theorem dX6_sailing_38 : decode cX6_sailing 38 = .ok (.iconst 1, 1) := by decide +kernel
theorem dX6_sailing_39 : decode cX6_sailing 39 = .ok (.sipush 20000, 3) := by decide +kernel
theorem dX6_sailing_42 : decode cX6_sailing 42 = .ok (.invokestatic 147, 3) := by decide +kernel
theorem dX6_sailing_45 : decode cX6_sailing 45 = .ok (.ifCond .eq 19, 3) := by decide +kernel
theorem dX6_sailing_48 : decode cX6_sailing 48 = .ok (.iload 5, 2) := by decide +kernel
theorem dX6_sailing_50 : decode cX6_sailing 50 = .ok (.iconst 1, 1) := by decide +kernel
theorem dX6_sailing_51 : decode cX6_sailing 51 = .ok (.sipush 700, 3) := by decide +kernel
theorem dX6_sailing_54 : decode cX6_sailing 54 = .ok (.invokestatic 147, 3) := by decide +kernel
theorem dX6_sailing_57 : decode cX6_sailing 57 = .ok (.ifCond .eq 7, 3) := by decide +kernel
theorem dX6_sailing_60 : decode cX6_sailing 60 = .ok (.iconst 1, 1) := by decide +kernel
theorem dX6_sailing_61 : decode cX6_sailing 61 = .ok (.goto 4, 3) := by decide +kernel
theorem dX6_sailing_64 : decode cX6_sailing 64 = .ok (.iconst 0, 1) := by decide +kernel
theorem dX6_sailing_65 : decode cX6_sailing 65 = .ok (.istore 8, 2) := by decide +kernel
theorem dX6_sailing_67 : decode cX6_sailing 67 = .ok (.aload_n 0, 1) := by decide +kernel
theorem dX6_sailing_68 : decode cX6_sailing 68 = .ok (.iload 7, 2) := by decide +kernel
theorem dX6_sailing_70 : decode cX6_sailing 70 = .ok (.ifCond .ne 7, 3) := by decide +kernel
theorem dX6_sailing_73 : decode cX6_sailing 73 = .ok (.iconst 1, 1) := by decide +kernel
theorem dX6_sailing_74 : decode cX6_sailing 74 = .ok (.goto 26, 3) := by decide +kernel
theorem dX6_sailing_77 : decode cX6_sailing 77 = .ok (.iload 8, 2) := by decide +kernel
theorem dX6_sailing_79 : decode cX6_sailing 79 = .ok (.ifCond .ne 7, 3) := by decide +kernel
theorem dX6_sailing_82 : decode cX6_sailing 82 = .ok (.iconst 2, 1) := by decide +kernel
theorem dX6_sailing_83 : decode cX6_sailing 83 = .ok (.goto 17, 3) := by decide +kernel
theorem dX6_sailing_86 : decode cX6_sailing 86 = .ok (.aload_n 0, 1) := by decide +kernel
theorem dX6_sailing_87 : decode cX6_sailing 87 = .ok (.getfield 154, 3) := by decide +kernel
theorem dX6_sailing_90 : decode cX6_sailing 90 = .ok (.bipush 60, 2) := by decide +kernel
theorem dX6_sailing_92 : decode cX6_sailing 92 = .ok (.if_icmp .ne 7, 3) := by decide +kernel
theorem dX6_sailing_95 : decode cX6_sailing 95 = .ok (.iconst 3, 1) := by decide +kernel
theorem dX6_sailing_96 : decode cX6_sailing 96 = .ok (.goto 4, 3) := by decide +kernel
theorem dX6_sailing_99 : decode cX6_sailing 99 = .ok (.iconst 0, 1) := by decide +kernel
theorem dX6_sailing_100 : decode cX6_sailing 100 = .ok (.invokevirtual 157, 3) := by decide +kernel
theorem dX6_sailing_103 : decode cX6_sailing 103 = .ok (.ifCond .eq 5, 3) := by decide +kernel
theorem dX6_sailing_106 : decode cX6_sailing 106 = .ok (.iconst 0, 1) := by decide +kernel
theorem dX6_sailing_107 : decode cX6_sailing 107 = .ok (.ireturn, 1) := by decide +kernel
theorem dX6_sailing_108 : decode cX6_sailing 108 = .ok (.aload_n 0, 1) := by decide +kernel
theorem dX6_sailing_109 : decode cX6_sailing 109 = .ok (.getfield 65, 3) := by decide +kernel
theorem dX6_sailing_112 : decode cX6_sailing 112 = .ok (.aload_n 0, 1) := by decide +kernel
theorem dX6_sailing_113 : decode cX6_sailing 113 = .ok (.getfield 154, 3) := by decide +kernel
theorem dX6_sailing_116 : decode cX6_sailing 116 = .ok (.iload_n 1, 1) := by decide +kernel
theorem dX6_sailing_117 : decode cX6_sailing 117 = .ok (.iastore, 1) := by decide +kernel
theorem dX6_sailing_118 : decode cX6_sailing 118 = .ok (.aload_n 0, 1) := by decide +kernel
theorem dX6_sailing_119 : decode cX6_sailing 119 = .ok (.getfield 68, 3) := by decide +kernel
theorem dX6_sailing_122 : decode cX6_sailing 122 = .ok (.aload_n 0, 1) := by decide +kernel
theorem dX6_sailing_123 : decode cX6_sailing 123 = .ok (.getfield 154, 3) := by decide +kernel
theorem dX6_sailing_126 : decode cX6_sailing 126 = .ok (.iload_n 2, 1) := by decide +kernel
theorem dX6_sailing_127 : decode cX6_sailing 127 = .ok (.iastore, 1) := by decide +kernel
theorem dX6_sailing_128 : decode cX6_sailing 128 = .ok (.aload_n 0, 1) := by decide +kernel
theorem dX6_sailing_129 : decode cX6_sailing 129 = .ok (.getfield 71, 3) := by decide +kernel
theorem dX6_sailing_132 : decode cX6_sailing 132 = .ok (.aload_n 0, 1) := by decide +kernel
theorem dX6_sailing_133 : decode cX6_sailing 133 = .ok (.getfield 154, 3) := by decide +kernel
theorem dX6_sailing_136 : decode cX6_sailing 136 = .ok (.iload_n 3, 1) := by decide +kernel
theorem dX6_sailing_137 : decode cX6_sailing 137 = .ok (.iastore, 1) := by decide +kernel
theorem dX6_sailing_138 : decode cX6_sailing 138 = .ok (.aload_n 0, 1) := by decide +kernel
theorem dX6_sailing_139 : decode cX6_sailing 139 = .ok (.getfield 74, 3) := by decide +kernel
theorem dX6_sailing_142 : decode cX6_sailing 142 = .ok (.aload_n 0, 1) := by decide +kernel
theorem dX6_sailing_143 : decode cX6_sailing 143 = .ok (.getfield 154, 3) := by decide +kernel
theorem dX6_sailing_146 : decode cX6_sailing 146 = .ok (.aload_n 0, 1) := by decide +kernel
theorem dX6_sailing_147 : decode cX6_sailing 147 = .ok (.getfield 167, 3) := by decide +kernel
theorem dX6_sailing_150 : decode cX6_sailing 150 = .ok (.iload 4, 2) := by decide +kernel
theorem dX6_sailing_152 : decode cX6_sailing 152 = .ok (.iadd, 1) := by decide +kernel
theorem dX6_sailing_153 : decode cX6_sailing 153 = .ok (.iastore, 1) := by decide +kernel
theorem dX6_sailing_154 : decode cX6_sailing 154 = .ok (.aload_n 0, 1) := by decide +kernel
theorem dX6_sailing_155 : decode cX6_sailing 155 = .ok (.getfield 77, 3) := by decide +kernel
theorem dX6_sailing_158 : decode cX6_sailing 158 = .ok (.aload_n 0, 1) := by decide +kernel
theorem dX6_sailing_159 : decode cX6_sailing 159 = .ok (.getfield 154, 3) := by decide +kernel
theorem dX6_sailing_162 : decode cX6_sailing 162 = .ok (.iload 5, 2) := by decide +kernel
theorem dX6_sailing_164 : decode cX6_sailing 164 = .ok (.iastore, 1) := by decide +kernel
theorem dX6_sailing_165 : decode cX6_sailing 165 = .ok (.aload_n 0, 1) := by decide +kernel
theorem dX6_sailing_166 : decode cX6_sailing 166 = .ok (.getfield 80, 3) := by decide +kernel
theorem dX6_sailing_169 : decode cX6_sailing 169 = .ok (.aload_n 0, 1) := by decide +kernel
theorem dX6_sailing_170 : decode cX6_sailing 170 = .ok (.getfield 154, 3) := by decide +kernel
theorem dX6_sailing_173 : decode cX6_sailing 173 = .ok (.iload 6, 2) := by decide +kernel
theorem dX6_sailing_175 : decode cX6_sailing 175 = .ok (.bastore, 1) := by decide +kernel
theorem dX6_sailing_176 : decode cX6_sailing 176 = .ok (.aload_n 0, 1) := by decide +kernel
theorem dX6_sailing_177 : decode cX6_sailing 177 = .ok (.dup, 1) := by decide +kernel
theorem dX6_sailing_178 : decode cX6_sailing 178 = .ok (.getfield 154, 3) := by decide +kernel
theorem dX6_sailing_181 : decode cX6_sailing 181 = .ok (.iconst 1, 1) := by decide +kernel
theorem dX6_sailing_182 : decode cX6_sailing 182 = .ok (.iadd, 1) := by decide +kernel
theorem dX6_sailing_183 : decode cX6_sailing 183 = .ok (.putfield 154, 3) := by decide +kernel
theorem dX6_sailing_186 : decode cX6_sailing 186 = .ok (.aload_n 0, 1) := by decide +kernel
theorem dX6_sailing_187 : decode cX6_sailing 187 = .ok (.getfield 154, 3) := by decide +kernel
theorem dX6_sailing_190 : decode cX6_sailing 190 = .ok (.iconst 1, 1) := by decide +kernel
theorem dX6_sailing_191 : decode cX6_sailing 191 = .ok (.isub, 1) := by decide +kernel
theorem dX6_sailing_192 : decode cX6_sailing 192 = .ok (.ireturn, 1) := by decide +kernel
set_option maxRecDepth 20000 in
theorem ggX6_book_X6_isSailing : GoodIn wsX6_book wsX6_isSailing := goodIn_r _ [15, 16, 17, 18, 14, 19, 25, 26, 27, 28, 29, 30, 31, 32, 33, 34, 35, 36, 37, 38, 39, 40, 41, 42, 43, 44, 45, 46, 47, 48, 49, 50, 51, 52, 53, 54, 55, 56, 57, 58, 59, 60, 61, 62, 63, 64, 65, 66, 67, 68, 69, 70, 71, 72, 73] (by decide +kernel) (by decide +kernel)
set_option maxRecDepth 20000 in
theorem gX6_book_X6_isSailing : GoodIn wsX6_book (wsV RX6 170 RX6 yX6_isSailing wsX6_isSailing) := goodIn_app (goodIn_of _ (by decide +kernel)) ggX6_book_X6_isSailing
set_option maxRecDepth 20000 in
theorem ggX6_book_X6_in : GoodIn wsX6_book wsX6_in := goodIn_r _ [19] (by decide +kernel) (by decide +kernel)
set_option maxRecDepth 20000 in
theorem gX6_book_X6_in : GoodIn wsX6_book (va_wsS RX6 147 yX6_in wsX6_in) := goodIn_app (goodIn_of _ (by decide +kernel)) ggX6_book_X6_in
set_option maxRecDepth 20000 in
theorem ggX6_book_X6_refused : GoodIn wsX6_book wsX6_refused := goodIn_r _ [23, 24, 25, 26, 27, 28, 29, 30, 31, 32, 33, 34, 35, 36, 37, 38, 39, 40, 41, 42, 43, 44, 45, 46, 47, 48, 49, 50, 51, 52, 53, 54, 55, 56, 57, 58, 59, 60, 61, 62, 63, 64, 65, 66, 67, 68, 69, 70, 71, 72, 73] (by decide +kernel) (by decide +kernel)
set_option maxRecDepth 20000 in
theorem gX6_book_X6_refused : GoodIn wsX6_book (wsV RX6 157 RX6 yX6_refused wsX6_refused) := goodIn_app (goodIn_of _ (by decide +kernel)) ggX6_book_X6_refused
theorem dX6_book_0 : decode cX6_book 0 = .ok (.aload_n 0, 1) := by decide +kernel
theorem dX6_book_1 : decode cX6_book 1 = .ok (.iload_n 1, 1) := by decide +kernel
theorem dX6_book_2 : decode cX6_book 2 = .ok (.invokevirtual 170, 3) := by decide +kernel
theorem dX6_book_5 : decode cX6_book 5 = .ok (.ifCond .eq 16, 3) := by decide +kernel
theorem dX6_book_8 : decode cX6_book 8 = .ok (.iload_n 2, 1) := by decide +kernel
theorem dX6_book_9 : decode cX6_book 9 = .ok (.iconst 0, 1) := by decide +kernel
theorem dX6_book_10 : decode cX6_book 10 = .ok (.iconst 2, 1) := by decide +kernel
theorem dX6_book_11 : decode cX6_book 11 = .ok (.invokestatic 147, 3) := by decide +kernel
theorem dX6_book_14 : decode cX6_book 14 = .ok (.ifCond .eq 7, 3) := by decide +kernel
theorem dX6_book_17 : decode cX6_book 17 = .ok (.iconst 1, 1) := by decide +kernel
theorem dX6_book_18 : decode cX6_book 18 = .ok (.goto 4, 3) := by decide +kernel
theorem dX6_book_21 : decode cX6_book 21 = .ok (.iconst 0, 1) := by decide +kernel
theorem dX6_book_22 : decode cX6_book 22 = .ok (.istore 8, 2) := by decide +kernel
theorem dX6_book_24 : decode cX6_book 24 = .ok (.iload_n 3, 1) := by decide +kernel
theorem dX6_book_25 : decode cX6_book 25 = .ok (.iconst 1, 1) := by decide +kernel
theorem dX6_book_26 : decode cX6_book 26 = .ok (.bipush 30, 2) := by decide +kernel
theorem dX6_book_28 : decode cX6_book 28 = .ok (.invokestatic 147, 3) := by decide +kernel
theorem dX6_book_31 : decode cX6_book 31 = .ok (.ifCond .eq 29, 3) := by decide +kernel
theorem dX6_book_34 : decode cX6_book 34 = .ok (.iload 4, 2) := by decide +kernel
theorem dX6_book_36 : decode cX6_book 36 = .ok (.iconst 1, 1) := by decide +kernel
theorem dX6_book_37 : decode cX6_book 37 = .ok (.sipush 1000, 3) := by decide +kernel
theorem dX6_book_40 : decode cX6_book 40 = .ok (.invokestatic 147, 3) := by decide +kernel
theorem dX6_book_43 : decode cX6_book 43 = .ok (.ifCond .eq 17, 3) := by decide +kernel
theorem dX6_book_46 : decode cX6_book 46 = .ok (.iload 5, 2) := by decide +kernel
theorem dX6_book_48 : decode cX6_book 48 = .ok (.iconst 0, 1) := by decide +kernel
theorem dX6_book_49 : decode cX6_book 49 = .ok (.iconst 3, 1) := by decide +kernel
theorem dX6_book_50 : decode cX6_book 50 = .ok (.invokestatic 147, 3) := by decide +kernel
theorem dX6_book_53 : decode cX6_book 53 = .ok (.ifCond .eq 7, 3) := by decide +kernel
theorem dX6_book_56 : decode cX6_book 56 = .ok (.iconst 1, 1) := by decide +kernel
theorem dX6_book_57 : decode cX6_book 57 = .ok (.goto 4, 3) := by decide +kernel
theorem dX6_book_60 : decode cX6_book 60 = .ok (.iconst 0, 1) := by decide +kernel
theorem dX6_book_61 : decode cX6_book 61 = .ok (.istore 9, 2) := by decide +kernel
theorem dX6_book_63 : decode cX6_book 63 = .ok (.aload_n 0, 1) := by decide +kernel
theorem dX6_book_64 : decode cX6_book 64 = .ok (.iload 8, 2) := by decide +kernel
theorem dX6_book_66 : decode cX6_book 66 = .ok (.ifCond .ne 7, 3) := by decide +kernel
theorem dX6_book_69 : decode cX6_book 69 = .ok (.iconst 1, 1) := by decide +kernel
theorem dX6_book_70 : decode cX6_book 70 = .ok (.goto 35, 3) := by decide +kernel
theorem dX6_book_73 : decode cX6_book 73 = .ok (.iload 9, 2) := by decide +kernel
theorem dX6_book_75 : decode cX6_book 75 = .ok (.ifCond .ne 7, 3) := by decide +kernel
theorem dX6_book_78 : decode cX6_book 78 = .ok (.iconst 2, 1) := by decide +kernel
theorem dX6_book_79 : decode cX6_book 79 = .ok (.goto 26, 3) := by decide +kernel
theorem dX6_book_82 : decode cX6_book 82 = .ok (.aload_n 0, 1) := by decide +kernel
theorem dX6_book_83 : decode cX6_book 83 = .ok (.getfield 173, 3) := by decide +kernel
theorem dX6_book_86 : decode cX6_book 86 = .ok (.bipush 100, 2) := by decide +kernel
theorem dX6_book_88 : decode cX6_book 88 = .ok (.if_icmp .eq 12, 3) := by decide +kernel
theorem dX6_book_91 : decode cX6_book 91 = .ok (.aload_n 0, 1) := by decide +kernel
theorem dX6_book_92 : decode cX6_book 92 = .ok (.getfield 62, 3) := by decide +kernel
theorem dX6_book_95 : decode cX6_book 95 = .ok (.iload_n 1, 1) := by decide +kernel
theorem dX6_book_96 : decode cX6_book 96 = .ok (.iaload, 1) := by decide +kernel
theorem dX6_book_97 : decode cX6_book 97 = .ok (.ifCond .eq 7, 3) := by decide +kernel
theorem dX6_book_100 : decode cX6_book 100 = .ok (.iconst 3, 1) := by decide +kernel
theorem dX6_book_101 : decode cX6_book 101 = .ok (.goto 4, 3) := by decide +kernel
theorem dX6_book_104 : decode cX6_book 104 = .ok (.iconst 0, 1) := by decide +kernel
theorem dX6_book_105 : decode cX6_book 105 = .ok (.invokevirtual 157, 3) := by decide +kernel
theorem dX6_book_108 : decode cX6_book 108 = .ok (.ifCond .eq 5, 3) := by decide +kernel
theorem dX6_book_111 : decode cX6_book 111 = .ok (.iconst 0, 1) := by decide +kernel
theorem dX6_book_112 : decode cX6_book 112 = .ok (.ireturn, 1) := by decide +kernel
theorem dX6_book_113 : decode cX6_book 113 = .ok (.aload_n 0, 1) := by decide +kernel
theorem dX6_book_114 : decode cX6_book 114 = .ok (.getfield 101, 3) := by decide +kernel
theorem dX6_book_117 : decode cX6_book 117 = .ok (.aload_n 0, 1) := by decide +kernel
theorem dX6_book_118 : decode cX6_book 118 = .ok (.getfield 173, 3) := by decide +kernel
theorem dX6_book_121 : decode cX6_book 121 = .ok (.iload_n 1, 1) := by decide +kernel
theorem dX6_book_122 : decode cX6_book 122 = .ok (.iastore, 1) := by decide +kernel
theorem dX6_book_123 : decode cX6_book 123 = .ok (.aload_n 0, 1) := by decide +kernel
theorem dX6_book_124 : decode cX6_book 124 = .ok (.getfield 104, 3) := by decide +kernel
theorem dX6_book_127 : decode cX6_book 127 = .ok (.aload_n 0, 1) := by decide +kernel
theorem dX6_book_128 : decode cX6_book 128 = .ok (.getfield 173, 3) := by decide +kernel
theorem dX6_book_131 : decode cX6_book 131 = .ok (.iload_n 2, 1) := by decide +kernel
theorem dX6_book_132 : decode cX6_book 132 = .ok (.iastore, 1) := by decide +kernel
theorem dX6_book_133 : decode cX6_book 133 = .ok (.aload_n 0, 1) := by decide +kernel
theorem dX6_book_134 : decode cX6_book 134 = .ok (.getfield 107, 3) := by decide +kernel
theorem dX6_book_137 : decode cX6_book 137 = .ok (.aload_n 0, 1) := by decide +kernel
theorem dX6_book_138 : decode cX6_book 138 = .ok (.getfield 173, 3) := by decide +kernel
theorem dX6_book_141 : decode cX6_book 141 = .ok (.iload_n 3, 1) := by decide +kernel
theorem dX6_book_142 : decode cX6_book 142 = .ok (.iastore, 1) := by decide +kernel
theorem dX6_book_143 : decode cX6_book 143 = .ok (.aload_n 0, 1) := by decide +kernel
theorem dX6_book_144 : decode cX6_book 144 = .ok (.getfield 110, 3) := by decide +kernel
theorem dX6_book_147 : decode cX6_book 147 = .ok (.aload_n 0, 1) := by decide +kernel
theorem dX6_book_148 : decode cX6_book 148 = .ok (.getfield 173, 3) := by decide +kernel
theorem dX6_book_151 : decode cX6_book 151 = .ok (.iload 4, 2) := by decide +kernel
theorem dX6_book_153 : decode cX6_book 153 = .ok (.iastore, 1) := by decide +kernel
theorem dX6_book_154 : decode cX6_book 154 = .ok (.aload_n 0, 1) := by decide +kernel
theorem dX6_book_155 : decode cX6_book 155 = .ok (.getfield 113, 3) := by decide +kernel
theorem dX6_book_158 : decode cX6_book 158 = .ok (.aload_n 0, 1) := by decide +kernel
theorem dX6_book_159 : decode cX6_book 159 = .ok (.getfield 173, 3) := by decide +kernel
theorem dX6_book_162 : decode cX6_book 162 = .ok (.iload 5, 2) := by decide +kernel
theorem dX6_book_164 : decode cX6_book 164 = .ok (.iastore, 1) := by decide +kernel
theorem dX6_book_165 : decode cX6_book 165 = .ok (.aload_n 0, 1) := by decide +kernel
theorem dX6_book_166 : decode cX6_book 166 = .ok (.getfield 116, 3) := by decide +kernel
theorem dX6_book_169 : decode cX6_book 169 = .ok (.aload_n 0, 1) := by decide +kernel
theorem dX6_book_170 : decode cX6_book 170 = .ok (.getfield 173, 3) := by decide +kernel
theorem dX6_book_173 : decode cX6_book 173 = .ok (.iload 6, 2) := by decide +kernel
theorem dX6_book_175 : decode cX6_book 175 = .ok (.bastore, 1) := by decide +kernel
theorem dX6_book_176 : decode cX6_book 176 = .ok (.aload_n 0, 1) := by decide +kernel
theorem dX6_book_177 : decode cX6_book 177 = .ok (.getfield 119, 3) := by decide +kernel
theorem dX6_book_180 : decode cX6_book 180 = .ok (.aload_n 0, 1) := by decide +kernel
theorem dX6_book_181 : decode cX6_book 181 = .ok (.getfield 173, 3) := by decide +kernel
theorem dX6_book_184 : decode cX6_book 184 = .ok (.iload 7, 2) := by decide +kernel
theorem dX6_book_186 : decode cX6_book 186 = .ok (.bastore, 1) := by decide +kernel
theorem dX6_book_187 : decode cX6_book 187 = .ok (.aload_n 0, 1) := by decide +kernel
theorem dX6_book_188 : decode cX6_book 188 = .ok (.getfield 128, 3) := by decide +kernel
theorem dX6_book_191 : decode cX6_book 191 = .ok (.aload_n 0, 1) := by decide +kernel
theorem dX6_book_192 : decode cX6_book 192 = .ok (.getfield 173, 3) := by decide +kernel
theorem dX6_book_195 : decode cX6_book 195 = .ok (.iconst (-1), 1) := by decide +kernel
theorem dX6_book_196 : decode cX6_book 196 = .ok (.iastore, 1) := by decide +kernel
theorem dX6_book_197 : decode cX6_book 197 = .ok (.aload_n 0, 1) := by decide +kernel
theorem dX6_book_198 : decode cX6_book 198 = .ok (.dup, 1) := by decide +kernel
theorem dX6_book_199 : decode cX6_book 199 = .ok (.getfield 173, 3) := by decide +kernel
theorem dX6_book_202 : decode cX6_book 202 = .ok (.iconst 1, 1) := by decide +kernel
theorem dX6_book_203 : decode cX6_book 203 = .ok (.iadd, 1) := by decide +kernel
theorem dX6_book_204 : decode cX6_book 204 = .ok (.putfield 173, 3) := by decide +kernel
theorem dX6_book_207 : decode cX6_book 207 = .ok (.aload_n 0, 1) := by decide +kernel
theorem dX6_book_208 : decode cX6_book 208 = .ok (.getfield 173, 3) := by decide +kernel
theorem dX6_book_211 : decode cX6_book 211 = .ok (.iconst 1, 1) := by decide +kernel
theorem dX6_book_212 : decode cX6_book 212 = .ok (.isub, 1) := by decide +kernel
theorem dX6_book_213 : decode cX6_book 213 = .ok (.ireturn, 1) := by decide +kernel
set_option maxRecDepth 20000 in
theorem ggX6_rate_X6_in : GoodIn wsX6_rate wsX6_in := goodIn_r _ [5] (by decide +kernel) (by decide +kernel)
set_option maxRecDepth 20000 in
theorem gX6_rate_X6_in : GoodIn wsX6_rate (va_wsS RX6 147 yX6_in wsX6_in) := goodIn_app (goodIn_of _ (by decide +kernel)) ggX6_rate_X6_in
set_option maxRecDepth 20000 in
theorem ggX6_rate_X6_refused : GoodIn wsX6_rate wsX6_refused := goodIn_r _ [9, 10, 11, 12, 13, 14, 15, 16, 17, 18, 19, 20, 21, 22, 23, 24, 25, 26, 27, 28, 29, 30, 31, 32, 33, 34, 35, 36, 37, 38, 39, 40, 41, 42, 43, 44, 45, 46, 47, 48, 49, 50, 51, 52, 53, 54, 55, 56, 57, 58, 59] (by decide +kernel) (by decide +kernel)
set_option maxRecDepth 20000 in
theorem gX6_rate_X6_refused : GoodIn wsX6_rate (wsV RX6 157 RX6 yX6_refused wsX6_refused) := goodIn_app (goodIn_of _ (by decide +kernel)) ggX6_rate_X6_refused
theorem dX6_rate_0 : decode cX6_rate 0 = .ok (.aload_n 0, 1) := by decide +kernel
theorem dX6_rate_1 : decode cX6_rate 1 = .ok (.iload_n 1, 1) := by decide +kernel
theorem dX6_rate_2 : decode cX6_rate 2 = .ok (.iconst 0, 1) := by decide +kernel
theorem dX6_rate_3 : decode cX6_rate 3 = .ok (.iconst 2, 1) := by decide +kernel
theorem dX6_rate_4 : decode cX6_rate 4 = .ok (.invokestatic 147, 3) := by decide +kernel
theorem dX6_rate_7 : decode cX6_rate 7 = .ok (.ifCond .ne 7, 3) := by decide +kernel
theorem dX6_rate_10 : decode cX6_rate 10 = .ok (.iconst 1, 1) := by decide +kernel
theorem dX6_rate_11 : decode cX6_rate 11 = .ok (.goto 19, 3) := by decide +kernel
theorem dX6_rate_14 : decode cX6_rate 14 = .ok (.iload_n 2, 1) := by decide +kernel
theorem dX6_rate_15 : decode cX6_rate 15 = .ok (.iconst 0, 1) := by decide +kernel
theorem dX6_rate_16 : decode cX6_rate 16 = .ok (.sipush 10000, 3) := by decide +kernel
theorem dX6_rate_19 : decode cX6_rate 19 = .ok (.invokestatic 147, 3) := by decide +kernel
theorem dX6_rate_22 : decode cX6_rate 22 = .ok (.ifCond .ne 7, 3) := by decide +kernel
theorem dX6_rate_25 : decode cX6_rate 25 = .ok (.iconst 2, 1) := by decide +kernel
theorem dX6_rate_26 : decode cX6_rate 26 = .ok (.goto 4, 3) := by decide +kernel
theorem dX6_rate_29 : decode cX6_rate 29 = .ok (.iconst 0, 1) := by decide +kernel
theorem dX6_rate_30 : decode cX6_rate 30 = .ok (.invokevirtual 157, 3) := by decide +kernel
theorem dX6_rate_33 : decode cX6_rate 33 = .ok (.ifCond .eq 5, 3) := by decide +kernel
theorem dX6_rate_36 : decode cX6_rate 36 = .ok (.iconst 0, 1) := by decide +kernel
theorem dX6_rate_37 : decode cX6_rate 37 = .ok (.ireturn, 1) := by decide +kernel
theorem dX6_rate_38 : decode cX6_rate 38 = .ok (.aload_n 0, 1) := by decide +kernel
theorem dX6_rate_39 : decode cX6_rate 39 = .ok (.getfield 137, 3) := by decide +kernel
theorem dX6_rate_42 : decode cX6_rate 42 = .ok (.iload_n 1, 1) := by decide +kernel
theorem dX6_rate_43 : decode cX6_rate 43 = .ok (.iaload, 1) := by decide +kernel
theorem dX6_rate_44 : decode cX6_rate 44 = .ok (.istore_n 3, 1) := by decide +kernel
theorem dX6_rate_45 : decode cX6_rate 45 = .ok (.aload_n 0, 1) := by decide +kernel
theorem dX6_rate_46 : decode cX6_rate 46 = .ok (.getfield 137, 3) := by decide +kernel
theorem dX6_rate_49 : decode cX6_rate 49 = .ok (.iload_n 1, 1) := by decide +kernel
theorem dX6_rate_50 : decode cX6_rate 50 = .ok (.iload_n 2, 1) := by decide +kernel
theorem dX6_rate_51 : decode cX6_rate 51 = .ok (.iastore, 1) := by decide +kernel
theorem dX6_rate_52 : decode cX6_rate 52 = .ok (.iload_n 3, 1) := by decide +kernel
theorem dX6_rate_53 : decode cX6_rate 53 = .ok (.ireturn, 1) := by decide +kernel
theorem dX6_tideOf_0 : decode cX6_tideOf 0 = .ok (.iload_n 2, 1) := by decide +kernel
theorem dX6_tideOf_1 : decode cX6_tideOf 1 = .ok (.aload_n 0, 1) := by decide +kernel
theorem dX6_tideOf_2 : decode cX6_tideOf 2 = .ok (.getfield 16, 3) := by decide +kernel
theorem dX6_tideOf_5 : decode cX6_tideOf 5 = .ok (.iload_n 1, 1) := by decide +kernel
theorem dX6_tideOf_6 : decode cX6_tideOf 6 = .ok (.iaload, 1) := by decide +kernel
theorem dX6_tideOf_7 : decode cX6_tideOf 7 = .ok (.iadd, 1) := by decide +kernel
theorem dX6_tideOf_8 : decode cX6_tideOf 8 = .ok (.sipush 720, 3) := by decide +kernel
theorem dX6_tideOf_11 : decode cX6_tideOf 11 = .ok (.irem, 1) := by decide +kernel
theorem dX6_tideOf_12 : decode cX6_tideOf 12 = .ok (.sipush 360, 3) := by decide +kernel
theorem dX6_tideOf_15 : decode cX6_tideOf 15 = .ok (.isub, 1) := by decide +kernel
theorem dX6_tideOf_16 : decode cX6_tideOf 16 = .ok (.istore_n 3, 1) := by decide +kernel
theorem dX6_tideOf_17 : decode cX6_tideOf 17 = .ok (.aload_n 0, 1) := by decide +kernel
theorem dX6_tideOf_18 : decode cX6_tideOf 18 = .ok (.getfield 13, 3) := by decide +kernel
theorem dX6_tideOf_21 : decode cX6_tideOf 21 = .ok (.iload_n 1, 1) := by decide +kernel
theorem dX6_tideOf_22 : decode cX6_tideOf 22 = .ok (.iaload, 1) := by decide +kernel
theorem dX6_tideOf_23 : decode cX6_tideOf 23 = .ok (.iload_n 3, 1) := by decide +kernel
theorem dX6_tideOf_24 : decode cX6_tideOf 24 = .ok (.ifCond .ge 8, 3) := by decide +kernel
theorem dX6_tideOf_27 : decode cX6_tideOf 27 = .ok (.iload_n 3, 1) := by decide +kernel
theorem dX6_tideOf_28 : decode cX6_tideOf 28 = .ok (.ineg, 1) := by decide +kernel
theorem dX6_tideOf_29 : decode cX6_tideOf 29 = .ok (.goto 4, 3) := by decide +kernel
theorem dX6_tideOf_32 : decode cX6_tideOf 32 = .ok (.iload_n 3, 1) := by decide +kernel
theorem dX6_tideOf_33 : decode cX6_tideOf 33 = .ok (.sipush 180, 3) := by decide +kernel
theorem dX6_tideOf_36 : decode cX6_tideOf 36 = .ok (.isub, 1) := by decide +kernel
theorem dX6_tideOf_37 : decode cX6_tideOf 37 = .ok (.imul, 1) := by decide +kernel
theorem dX6_tideOf_38 : decode cX6_tideOf 38 = .ok (.sipush 180, 3) := by decide +kernel
theorem dX6_tideOf_41 : decode cX6_tideOf 41 = .ok (.idiv, 1) := by decide +kernel
theorem dX6_tideOf_42 : decode cX6_tideOf 42 = .ok (.ireturn, 1) := by decide +kernel
set_option maxRecDepth 20000 in
theorem ggX6_hoursOf_X6_in : GoodIn wsX6_hoursOf wsX6_in := goodIn_r _ [9] (by decide +kernel) (by decide +kernel)
set_option maxRecDepth 20000 in
theorem gX6_hoursOf_X6_in : GoodIn wsX6_hoursOf (va_wsS RX6 147 yX6_in wsX6_in) := goodIn_app (goodIn_of _ (by decide +kernel)) ggX6_hoursOf_X6_in
theorem dX6_hoursOf_0 : decode cX6_hoursOf 0 = .ok (.iconst 0, 1) := by decide +kernel
theorem dX6_hoursOf_1 : decode cX6_hoursOf 1 = .ok (.istore_n 3, 1) := by decide +kernel
theorem dX6_hoursOf_2 : decode cX6_hoursOf 2 = .ok (.iconst 0, 1) := by decide +kernel
theorem dX6_hoursOf_3 : decode cX6_hoursOf 3 = .ok (.istore 4, 2) := by decide +kernel
theorem dX6_hoursOf_5 : decode cX6_hoursOf 5 = .ok (.iload 4, 2) := by decide +kernel
theorem dX6_hoursOf_7 : decode cX6_hoursOf 7 = .ok (.aload_n 0, 1) := by decide +kernel
theorem dX6_hoursOf_8 : decode cX6_hoursOf 8 = .ok (.getfield 154, 3) := by decide +kernel
theorem dX6_hoursOf_11 : decode cX6_hoursOf 11 = .ok (.if_icmp .ge 64, 3) := by decide +kernel
theorem dX6_hoursOf_14 : decode cX6_hoursOf 14 = .ok (.iload_n 3, 1) := by decide +kernel
theorem dX6_hoursOf_15 : decode cX6_hoursOf 15 = .ok (.aload_n 0, 1) := by decide +kernel
theorem dX6_hoursOf_16 : decode cX6_hoursOf 16 = .ok (.getfield 65, 3) := by decide +kernel
theorem dX6_hoursOf_19 : decode cX6_hoursOf 19 = .ok (.iload 4, 2) := by decide +kernel
theorem dX6_hoursOf_21 : decode cX6_hoursOf 21 = .ok (.iaload, 1) := by decide +kernel
theorem dX6_hoursOf_22 : decode cX6_hoursOf 22 = .ok (.iload_n 1, 1) := by decide +kernel
theorem dX6_hoursOf_23 : decode cX6_hoursOf 23 = .ok (.if_icmp .ne 43, 3) := by decide +kernel
theorem dX6_hoursOf_26 : decode cX6_hoursOf 26 = .ok (.aload_n 0, 1) := by decide +kernel
theorem dX6_hoursOf_27 : decode cX6_hoursOf 27 = .ok (.getfield 62, 3) := by decide +kernel
theorem dX6_hoursOf_30 : decode cX6_hoursOf 30 = .ok (.iload 4, 2) := by decide +kernel
theorem dX6_hoursOf_32 : decode cX6_hoursOf 32 = .ok (.iaload, 1) := by decide +kernel
theorem dX6_hoursOf_33 : decode cX6_hoursOf 33 = .ok (.iconst 1, 1) := by decide +kernel
theorem dX6_hoursOf_34 : decode cX6_hoursOf 34 = .ok (.iconst 2, 1) := by decide +kernel
theorem dX6_hoursOf_35 : decode cX6_hoursOf 35 = .ok (.invokestatic 147, 3) := by decide +kernel
theorem dX6_hoursOf_38 : decode cX6_hoursOf 38 = .ok (.ifCond .eq 28, 3) := by decide +kernel
theorem dX6_hoursOf_41 : decode cX6_hoursOf 41 = .ok (.aload_n 0, 1) := by decide +kernel
theorem dX6_hoursOf_42 : decode cX6_hoursOf 42 = .ok (.getfield 74, 3) := by decide +kernel
theorem dX6_hoursOf_45 : decode cX6_hoursOf 45 = .ok (.iload 4, 2) := by decide +kernel
theorem dX6_hoursOf_47 : decode cX6_hoursOf 47 = .ok (.iaload, 1) := by decide +kernel
theorem dX6_hoursOf_48 : decode cX6_hoursOf 48 = .ok (.sipush 1440, 3) := by decide +kernel
theorem dX6_hoursOf_51 : decode cX6_hoursOf 51 = .ok (.idiv, 1) := by decide +kernel
theorem dX6_hoursOf_52 : decode cX6_hoursOf 52 = .ok (.iload_n 2, 1) := by decide +kernel
theorem dX6_hoursOf_53 : decode cX6_hoursOf 53 = .ok (.if_icmp .ne 13, 3) := by decide +kernel
theorem dX6_hoursOf_56 : decode cX6_hoursOf 56 = .ok (.aload_n 0, 1) := by decide +kernel
theorem dX6_hoursOf_57 : decode cX6_hoursOf 57 = .ok (.getfield 77, 3) := by decide +kernel
theorem dX6_hoursOf_60 : decode cX6_hoursOf 60 = .ok (.iload 4, 2) := by decide +kernel
theorem dX6_hoursOf_62 : decode cX6_hoursOf 62 = .ok (.iaload, 1) := by decide +kernel
theorem dX6_hoursOf_63 : decode cX6_hoursOf 63 = .ok (.goto 4, 3) := by decide +kernel
theorem dX6_hoursOf_66 : decode cX6_hoursOf 66 = .ok (.iconst 0, 1) := by decide +kernel
theorem dX6_hoursOf_67 : decode cX6_hoursOf 67 = .ok (.iadd, 1) := by decide +kernel
theorem dX6_hoursOf_68 : decode cX6_hoursOf 68 = .ok (.istore_n 3, 1) := by decide +kernel
theorem dX6_hoursOf_69 : decode cX6_hoursOf 69 = .ok (.iinc 4 1, 3) := by decide +kernel
theorem dX6_hoursOf_72 : decode cX6_hoursOf 72 = .ok (.goto (-67), 3) := by decide +kernel
theorem dX6_hoursOf_75 : decode cX6_hoursOf 75 = .ok (.iload_n 3, 1) := by decide +kernel
theorem dX6_hoursOf_76 : decode cX6_hoursOf 76 = .ok (.ireturn, 1) := by decide +kernel
theorem dX6_isBarred_0 : decode cX6_isBarred 0 = .ok (.aload_n 0, 1) := by decide +kernel
theorem dX6_isBarred_1 : decode cX6_isBarred 1 = .ok (.getfield 59, 3) := by decide +kernel
theorem dX6_isBarred_4 : decode cX6_isBarred 4 = .ok (.iload_n 1, 1) := by decide +kernel
theorem dX6_isBarred_5 : decode cX6_isBarred 5 = .ok (.baload, 1) := by decide +kernel
theorem dX6_isBarred_6 : decode cX6_isBarred 6 = .ok (.ifCond .ne 35, 3) := by decide +kernel
theorem dX6_isBarred_9 : decode cX6_isBarred 9 = .ok (.aload_n 0, 1) := by decide +kernel
theorem dX6_isBarred_10 : decode cX6_isBarred 10 = .ok (.getfield 56, 3) := by decide +kernel
theorem dX6_isBarred_13 : decode cX6_isBarred 13 = .ok (.iload_n 1, 1) := by decide +kernel
theorem dX6_isBarred_14 : decode cX6_isBarred 14 = .ok (.iaload, 1) := by decide +kernel
theorem dX6_isBarred_15 : decode cX6_isBarred 15 = .ok (.iload_n 2, 1) := by decide +kernel
theorem dX6_isBarred_16 : decode cX6_isBarred 16 = .ok (.if_icmp .ne 25, 3) := by decide +kernel
theorem dX6_isBarred_19 : decode cX6_isBarred 19 = .ok (.aload_n 0, 1) := by decide +kernel
theorem dX6_isBarred_20 : decode cX6_isBarred 20 = .ok (.getfield 53, 3) := by decide +kernel
theorem dX6_isBarred_23 : decode cX6_isBarred 23 = .ok (.iload_n 1, 1) := by decide +kernel
theorem dX6_isBarred_24 : decode cX6_isBarred 24 = .ok (.iaload, 1) := by decide +kernel
theorem dX6_isBarred_25 : decode cX6_isBarred 25 = .ok (.iload_n 2, 1) := by decide +kernel
theorem dX6_isBarred_26 : decode cX6_isBarred 26 = .ok (.ishr, 1) := by decide +kernel
theorem dX6_isBarred_27 : decode cX6_isBarred 27 = .ok (.aload_n 0, 1) := by decide +kernel
theorem dX6_isBarred_28 : decode cX6_isBarred 28 = .ok (.getfield 53, 3) := by decide +kernel
theorem dX6_isBarred_31 : decode cX6_isBarred 31 = .ok (.iload_n 1, 1) := by decide +kernel
theorem dX6_isBarred_32 : decode cX6_isBarred 32 = .ok (.iaload, 1) := by decide +kernel
theorem dX6_isBarred_33 : decode cX6_isBarred 33 = .ok (.iload_n 3, 1) := by decide +kernel
theorem dX6_isBarred_34 : decode cX6_isBarred 34 = .ok (.ishr, 1) := by decide +kernel
theorem dX6_isBarred_35 : decode cX6_isBarred 35 = .ok (.iand, 1) := by decide +kernel
theorem dX6_isBarred_36 : decode cX6_isBarred 36 = .ok (.iconst 1, 1) := by decide +kernel
theorem dX6_isBarred_37 : decode cX6_isBarred 37 = .ok (.iand, 1) := by decide +kernel
theorem dX6_isBarred_38 : decode cX6_isBarred 38 = .ok (.ifCond .ne 7, 3) := by decide +kernel
theorem dX6_isBarred_41 : decode cX6_isBarred 41 = .ok (.iconst 1, 1) := by decide +kernel
theorem dX6_isBarred_42 : decode cX6_isBarred 42 = .ok (.goto 4, 3) := by decide +kernel
theorem dX6_isBarred_45 : decode cX6_isBarred 45 = .ok (.iconst 0, 1) := by decide +kernel
theorem dX6_isBarred_46 : decode cX6_isBarred 46 = .ok (.ireturn, 1) := by decide +kernel
set_option maxRecDepth 20000 in
theorem ggX6_isShallow_X6_tideOf : GoodIn wsX6_isShallow wsX6_tideOf := goodIn_r _ [7, 8, 9, 10, 11, 12, 13, 14, 15, 16, 17, 18, 19, 20, 21, 22, 23, 24, 25, 26, 27, 28, 29, 30, 31, 32, 33, 34, 35, 36, 37, 38, 39, 40, 41, 42, 43, 44, 45, 46, 47, 48, 49, 50, 51, 52, 53, 54, 55, 56, 57, 58] (by decide +kernel) (by decide +kernel)
set_option maxRecDepth 20000 in
theorem gX6_isShallow_X6_tideOf : GoodIn wsX6_isShallow (wsV RX6 176 RX6 yX6_tideOf wsX6_tideOf) := goodIn_app (goodIn_of _ (by decide +kernel)) ggX6_isShallow_X6_tideOf
theorem dX6_isShallow_0 : decode cX6_isShallow 0 = .ok (.aload_n 0, 1) := by decide +kernel
theorem dX6_isShallow_1 : decode cX6_isShallow 1 = .ok (.getfield 7, 3) := by decide +kernel
theorem dX6_isShallow_4 : decode cX6_isShallow 4 = .ok (.iload_n 2, 1) := by decide +kernel
theorem dX6_isShallow_5 : decode cX6_isShallow 5 = .ok (.iaload, 1) := by decide +kernel
theorem dX6_isShallow_6 : decode cX6_isShallow 6 = .ok (.aload_n 0, 1) := by decide +kernel
theorem dX6_isShallow_7 : decode cX6_isShallow 7 = .ok (.iload_n 2, 1) := by decide +kernel
theorem dX6_isShallow_8 : decode cX6_isShallow 8 = .ok (.iload_n 3, 1) := by decide +kernel
theorem dX6_isShallow_9 : decode cX6_isShallow 9 = .ok (.invokevirtual 176, 3) := by decide +kernel
theorem dX6_isShallow_12 : decode cX6_isShallow 12 = .ok (.iadd, 1) := by decide +kernel
theorem dX6_isShallow_13 : decode cX6_isShallow 13 = .ok (.aload_n 0, 1) := by decide +kernel
theorem dX6_isShallow_14 : decode cX6_isShallow 14 = .ok (.getfield 38, 3) := by decide +kernel
theorem dX6_isShallow_17 : decode cX6_isShallow 17 = .ok (.iload_n 1, 1) := by decide +kernel
theorem dX6_isShallow_18 : decode cX6_isShallow 18 = .ok (.iaload, 1) := by decide +kernel
theorem dX6_isShallow_19 : decode cX6_isShallow 19 = .ok (.if_icmp .ge 7, 3) := by decide +kernel
theorem dX6_isShallow_22 : decode cX6_isShallow 22 = .ok (.iconst 1, 1) := by decide +kernel
theorem dX6_isShallow_23 : decode cX6_isShallow 23 = .ok (.goto 4, 3) := by decide +kernel
theorem dX6_isShallow_26 : decode cX6_isShallow 26 = .ok (.iconst 0, 1) := by decide +kernel
theorem dX6_isShallow_27 : decode cX6_isShallow 27 = .ok (.ireturn, 1) := by decide +kernel
theorem dX6_isDark_0 : decode cX6_isDark 0 = .ok (.iload_n 2, 1) := by decide +kernel
theorem dX6_isDark_1 : decode cX6_isDark 1 = .ok (.sipush 1440, 3) := by decide +kernel
theorem dX6_isDark_4 : decode cX6_isDark 4 = .ok (.irem, 1) := by decide +kernel
theorem dX6_isDark_5 : decode cX6_isDark 5 = .ok (.istore_n 3, 1) := by decide +kernel
theorem dX6_isDark_6 : decode cX6_isDark 6 = .ok (.aload_n 0, 1) := by decide +kernel
theorem dX6_isDark_7 : decode cX6_isDark 7 = .ok (.getfield 19, 3) := by decide +kernel
theorem dX6_isDark_10 : decode cX6_isDark 10 = .ok (.aload_n 0, 1) := by decide +kernel
theorem dX6_isDark_11 : decode cX6_isDark 11 = .ok (.getfield 71, 3) := by decide +kernel
theorem dX6_isDark_14 : decode cX6_isDark 14 = .ok (.iload_n 1, 1) := by decide +kernel
theorem dX6_isDark_15 : decode cX6_isDark 15 = .ok (.iaload, 1) := by decide +kernel
theorem dX6_isDark_16 : decode cX6_isDark 16 = .ok (.baload, 1) := by decide +kernel
theorem dX6_isDark_17 : decode cX6_isDark 17 = .ok (.ifCond .ne 21, 3) := by decide +kernel
theorem dX6_isDark_20 : decode cX6_isDark 20 = .ok (.iload_n 3, 1) := by decide +kernel
theorem dX6_isDark_21 : decode cX6_isDark 21 = .ok (.sipush 360, 3) := by decide +kernel
theorem dX6_isDark_24 : decode cX6_isDark 24 = .ok (.if_icmp .lt 10, 3) := by decide +kernel
theorem dX6_isDark_27 : decode cX6_isDark 27 = .ok (.iload_n 3, 1) := by decide +kernel
theorem dX6_isDark_28 : decode cX6_isDark 28 = .ok (.sipush 1320, 3) := by decide +kernel
theorem dX6_isDark_31 : decode cX6_isDark 31 = .ok (.if_icmp .lt 7, 3) := by decide +kernel
theorem dX6_isDark_34 : decode cX6_isDark 34 = .ok (.iconst 1, 1) := by decide +kernel
theorem dX6_isDark_35 : decode cX6_isDark 35 = .ok (.goto 4, 3) := by decide +kernel
theorem dX6_isDark_38 : decode cX6_isDark 38 = .ok (.iconst 0, 1) := by decide +kernel
theorem dX6_isDark_39 : decode cX6_isDark 39 = .ok (.ireturn, 1) := by decide +kernel
theorem dX6_isRough_0 : decode cX6_isRough 0 = .ok (.aload_n 0, 1) := by decide +kernel
theorem dX6_isRough_1 : decode cX6_isRough 1 = .ok (.getfield 23, 3) := by decide +kernel
theorem dX6_isRough_4 : decode cX6_isRough 4 = .ok (.aload_n 0, 1) := by decide +kernel
theorem dX6_isRough_5 : decode cX6_isRough 5 = .ok (.getfield 68, 3) := by decide +kernel
theorem dX6_isRough_8 : decode cX6_isRough 8 = .ok (.iload_n 1, 1) := by decide +kernel
theorem dX6_isRough_9 : decode cX6_isRough 9 = .ok (.iaload, 1) := by decide +kernel
theorem dX6_isRough_10 : decode cX6_isRough 10 = .ok (.iaload, 1) := by decide +kernel
theorem dX6_isRough_11 : decode cX6_isRough 11 = .ok (.aload_n 0, 1) := by decide +kernel
theorem dX6_isRough_12 : decode cX6_isRough 12 = .ok (.getfield 23, 3) := by decide +kernel
theorem dX6_isRough_15 : decode cX6_isRough 15 = .ok (.aload_n 0, 1) := by decide +kernel
theorem dX6_isRough_16 : decode cX6_isRough 16 = .ok (.getfield 71, 3) := by decide +kernel
theorem dX6_isRough_19 : decode cX6_isRough 19 = .ok (.iload_n 1, 1) := by decide +kernel
theorem dX6_isRough_20 : decode cX6_isRough 20 = .ok (.iaload, 1) := by decide +kernel
theorem dX6_isRough_21 : decode cX6_isRough 21 = .ok (.iaload, 1) := by decide +kernel
theorem dX6_isRough_22 : decode cX6_isRough 22 = .ok (.if_icmp .le 17, 3) := by decide +kernel
theorem dX6_isRough_25 : decode cX6_isRough 25 = .ok (.aload_n 0, 1) := by decide +kernel
theorem dX6_isRough_26 : decode cX6_isRough 26 = .ok (.getfield 23, 3) := by decide +kernel
theorem dX6_isRough_29 : decode cX6_isRough 29 = .ok (.aload_n 0, 1) := by decide +kernel
theorem dX6_isRough_30 : decode cX6_isRough 30 = .ok (.getfield 68, 3) := by decide +kernel
theorem dX6_isRough_33 : decode cX6_isRough 33 = .ok (.iload_n 1, 1) := by decide +kernel
theorem dX6_isRough_34 : decode cX6_isRough 34 = .ok (.iaload, 1) := by decide +kernel
theorem dX6_isRough_35 : decode cX6_isRough 35 = .ok (.iaload, 1) := by decide +kernel
theorem dX6_isRough_36 : decode cX6_isRough 36 = .ok (.goto 14, 3) := by decide +kernel
theorem dX6_isRough_39 : decode cX6_isRough 39 = .ok (.aload_n 0, 1) := by decide +kernel
theorem dX6_isRough_40 : decode cX6_isRough 40 = .ok (.getfield 23, 3) := by decide +kernel
theorem dX6_isRough_43 : decode cX6_isRough 43 = .ok (.aload_n 0, 1) := by decide +kernel
theorem dX6_isRough_44 : decode cX6_isRough 44 = .ok (.getfield 71, 3) := by decide +kernel
theorem dX6_isRough_47 : decode cX6_isRough 47 = .ok (.iload_n 1, 1) := by decide +kernel
theorem dX6_isRough_48 : decode cX6_isRough 48 = .ok (.iaload, 1) := by decide +kernel
theorem dX6_isRough_49 : decode cX6_isRough 49 = .ok (.iaload, 1) := by decide +kernel
theorem dX6_isRough_50 : decode cX6_isRough 50 = .ok (.istore_n 2, 1) := by decide +kernel
theorem dX6_isRough_51 : decode cX6_isRough 51 = .ok (.iload_n 2, 1) := by decide +kernel
theorem dX6_isRough_52 : decode cX6_isRough 52 = .ok (.aload_n 0, 1) := by decide +kernel
theorem dX6_isRough_53 : decode cX6_isRough 53 = .ok (.getfield 50, 3) := by decide +kernel
theorem dX6_isRough_56 : decode cX6_isRough 56 = .ok (.aload_n 0, 1) := by decide +kernel
theorem dX6_isRough_57 : decode cX6_isRough 57 = .ok (.getfield 65, 3) := by decide +kernel
theorem dX6_isRough_60 : decode cX6_isRough 60 = .ok (.iload_n 1, 1) := by decide +kernel
theorem dX6_isRough_61 : decode cX6_isRough 61 = .ok (.iaload, 1) := by decide +kernel
theorem dX6_isRough_62 : decode cX6_isRough 62 = .ok (.iaload, 1) := by decide +kernel
theorem dX6_isRough_63 : decode cX6_isRough 63 = .ok (.if_icmp .le 7, 3) := by decide +kernel
theorem dX6_isRough_66 : decode cX6_isRough 66 = .ok (.iconst 1, 1) := by decide +kernel
theorem dX6_isRough_67 : decode cX6_isRough 67 = .ok (.goto 4, 3) := by decide +kernel
theorem dX6_isRough_70 : decode cX6_isRough 70 = .ok (.iconst 0, 1) := by decide +kernel
theorem dX6_isRough_71 : decode cX6_isRough 71 = .ok (.ireturn, 1) := by decide +kernel
set_option maxRecDepth 20000 in
theorem ggX6_reasonOf_X6_isBarred : GoodIn wsX6_reasonOf wsX6_isBarred := goodIn_r _ [9, 10, 11, 12, 46, 47, 48, 49, 50, 51, 52, 53, 54, 55, 56, 57, 58, 59, 60, 61, 62, 63, 64, 65, 66, 67, 68, 69, 70, 71, 72, 73, 74, 75, 76, 77, 78, 79, 80, 81, 82, 83, 84, 85, 86, 87, 88, 89, 90, 91, 92, 93, 94] (by decide +kernel) (by decide +kernel)
set_option maxRecDepth 20000 in
theorem gX6_reasonOf_X6_isBarred : GoodIn wsX6_reasonOf (wsV RX6 180 RX6 yX6_isBarred wsX6_isBarred) := goodIn_app (goodIn_of _ (by decide +kernel)) ggX6_reasonOf_X6_isBarred
set_option maxRecDepth 20000 in
theorem ggX6_reasonOf_X6_hoursOf : GoodIn wsX6_reasonOf wsX6_hoursOf := goodIn_r _ [16, 17, 1, 18, 19, 2, 20, 21, 8, 22, 46, 47, 48, 49, 50, 51, 52, 53, 54, 55, 56, 57, 58, 59, 60, 61, 62, 63, 64, 65, 66, 67, 68, 69, 70, 71, 72, 73, 74, 75, 76, 77, 78, 79, 80, 81, 82, 83, 84, 85, 86, 87, 88, 89, 90, 91, 92, 93, 94] (by decide +kernel) (by decide +kernel)
set_option maxRecDepth 20000 in
theorem gX6_reasonOf_X6_hoursOf : GoodIn wsX6_reasonOf (wsV RX6 183 RX6 yX6_hoursOf wsX6_hoursOf) := goodIn_app (goodIn_of _ (by decide +kernel)) ggX6_reasonOf_X6_hoursOf
set_option maxRecDepth 20000 in
theorem ggX6_reasonOf_X6_isShallow : GoodIn wsX6_reasonOf wsX6_isShallow := goodIn_r _ [26, 27, 28, 29, 30, 31, 8, 32, 33, 34, 46, 47, 48, 49, 50, 51, 52, 53, 54, 55, 56, 57, 58, 59, 60, 61, 62, 63, 64, 65, 66, 67, 68, 69, 70, 71, 72, 73, 74, 75, 76, 77, 78, 79, 80, 81, 82, 83, 84, 85, 86, 87, 88, 89, 90, 91, 92, 93, 94] (by decide +kernel) (by decide +kernel)
set_option maxRecDepth 20000 in
theorem gX6_reasonOf_X6_isShallow : GoodIn wsX6_reasonOf (wsV RX6 186 RX6 yX6_isShallow wsX6_isShallow) := goodIn_app (goodIn_of _ (by decide +kernel)) ggX6_reasonOf_X6_isShallow
set_option maxRecDepth 20000 in
theorem ggX6_reasonOf_X6_isDark : GoodIn wsX6_reasonOf wsX6_isDark := goodIn_r _ [38, 39, 4, 46, 47, 48, 49, 50, 51, 52, 53, 54, 55, 56, 57, 58, 59, 60, 61, 62, 63, 64, 65, 66, 67, 68, 69, 70, 71, 72, 73, 74, 75, 76, 77, 78, 79, 80, 81, 82, 83, 84, 85, 86, 87, 88, 89, 90, 91, 92, 93, 94] (by decide +kernel) (by decide +kernel)
set_option maxRecDepth 20000 in
theorem gX6_reasonOf_X6_isDark : GoodIn wsX6_reasonOf (wsV RX6 189 RX6 yX6_isDark wsX6_isDark) := goodIn_app (goodIn_of _ (by decide +kernel)) ggX6_reasonOf_X6_isDark
set_option maxRecDepth 20000 in
theorem ggX6_reasonOf_X6_isRough : GoodIn wsX6_reasonOf wsX6_isRough := goodIn_r _ [43, 44, 3, 4, 45, 1, 46, 47, 48, 49, 50, 51, 52, 53, 54, 55, 56, 57, 58, 59, 60, 61, 62, 63, 64, 65, 66, 67, 68, 69, 70, 71, 72, 73, 74, 75, 76, 77, 78, 79, 80, 81, 82, 83, 84, 85, 86, 87, 88, 89, 90, 91, 92, 93, 94] (by decide +kernel) (by decide +kernel)
set_option maxRecDepth 20000 in
theorem gX6_reasonOf_X6_isRough : GoodIn wsX6_reasonOf (wsV RX6 193 RX6 yX6_isRough wsX6_isRough) := goodIn_app (goodIn_of _ (by decide +kernel)) ggX6_reasonOf_X6_isRough
theorem dX6_reasonOf_0 : decode cX6_reasonOf 0 = .ok (.aload_n 0, 1) := by decide +kernel
theorem dX6_reasonOf_1 : decode cX6_reasonOf 1 = .ok (.getfield 65, 3) := by decide +kernel
theorem dX6_reasonOf_4 : decode cX6_reasonOf 4 = .ok (.iload_n 1, 1) := by decide +kernel
theorem dX6_reasonOf_5 : decode cX6_reasonOf 5 = .ok (.iaload, 1) := by decide +kernel
theorem dX6_reasonOf_6 : decode cX6_reasonOf 6 = .ok (.istore_n 3, 1) := by decide +kernel
theorem dX6_reasonOf_7 : decode cX6_reasonOf 7 = .ok (.iload_n 2, 1) := by decide +kernel
theorem dX6_reasonOf_8 : decode cX6_reasonOf 8 = .ok (.aload_n 0, 1) := by decide +kernel
theorem dX6_reasonOf_9 : decode cX6_reasonOf 9 = .ok (.getfield 77, 3) := by decide +kernel
theorem dX6_reasonOf_12 : decode cX6_reasonOf 12 = .ok (.iload_n 1, 1) := by decide +kernel
theorem dX6_reasonOf_13 : decode cX6_reasonOf 13 = .ok (.iaload, 1) := by decide +kernel
theorem dX6_reasonOf_14 : decode cX6_reasonOf 14 = .ok (.iadd, 1) := by decide +kernel
theorem dX6_reasonOf_15 : decode cX6_reasonOf 15 = .ok (.istore 4, 2) := by decide +kernel
theorem dX6_reasonOf_17 : decode cX6_reasonOf 17 = .ok (.aload_n 0, 1) := by decide +kernel
theorem dX6_reasonOf_18 : decode cX6_reasonOf 18 = .ok (.iload_n 3, 1) := by decide +kernel
theorem dX6_reasonOf_19 : decode cX6_reasonOf 19 = .ok (.aload_n 0, 1) := by decide +kernel
theorem dX6_reasonOf_20 : decode cX6_reasonOf 20 = .ok (.getfield 68, 3) := by decide +kernel
theorem dX6_reasonOf_23 : decode cX6_reasonOf 23 = .ok (.iload_n 1, 1) := by decide +kernel
theorem dX6_reasonOf_24 : decode cX6_reasonOf 24 = .ok (.iaload, 1) := by decide +kernel
theorem dX6_reasonOf_25 : decode cX6_reasonOf 25 = .ok (.aload_n 0, 1) := by decide +kernel
theorem dX6_reasonOf_26 : decode cX6_reasonOf 26 = .ok (.getfield 71, 3) := by decide +kernel
theorem dX6_reasonOf_29 : decode cX6_reasonOf 29 = .ok (.iload_n 1, 1) := by decide +kernel
theorem dX6_reasonOf_30 : decode cX6_reasonOf 30 = .ok (.iaload, 1) := by decide +kernel
theorem dX6_reasonOf_31 : decode cX6_reasonOf 31 = .ok (.invokevirtual 180, 3) := by decide +kernel
theorem dX6_reasonOf_34 : decode cX6_reasonOf 34 = .ok (.ifCond .eq 5, 3) := by decide +kernel
theorem dX6_reasonOf_37 : decode cX6_reasonOf 37 = .ok (.iconst 1, 1) := by decide +kernel
theorem dX6_reasonOf_38 : decode cX6_reasonOf 38 = .ok (.ireturn, 1) := by decide +kernel
theorem dX6_reasonOf_39 : decode cX6_reasonOf 39 = .ok (.aload_n 0, 1) := by decide +kernel
theorem dX6_reasonOf_40 : decode cX6_reasonOf 40 = .ok (.iload_n 3, 1) := by decide +kernel
theorem dX6_reasonOf_41 : decode cX6_reasonOf 41 = .ok (.iload_n 2, 1) := by decide +kernel
theorem dX6_reasonOf_42 : decode cX6_reasonOf 42 = .ok (.sipush 1440, 3) := by decide +kernel
theorem dX6_reasonOf_45 : decode cX6_reasonOf 45 = .ok (.idiv, 1) := by decide +kernel
theorem dX6_reasonOf_46 : decode cX6_reasonOf 46 = .ok (.invokevirtual 183, 3) := by decide +kernel
theorem dX6_reasonOf_49 : decode cX6_reasonOf 49 = .ok (.aload_n 0, 1) := by decide +kernel
theorem dX6_reasonOf_50 : decode cX6_reasonOf 50 = .ok (.getfield 77, 3) := by decide +kernel
theorem dX6_reasonOf_53 : decode cX6_reasonOf 53 = .ok (.iload_n 1, 1) := by decide +kernel
theorem dX6_reasonOf_54 : decode cX6_reasonOf 54 = .ok (.iaload, 1) := by decide +kernel
theorem dX6_reasonOf_55 : decode cX6_reasonOf 55 = .ok (.iadd, 1) := by decide +kernel
theorem dX6_reasonOf_56 : decode cX6_reasonOf 56 = .ok (.sipush 720, 3) := by decide +kernel
theorem dX6_reasonOf_59 : decode cX6_reasonOf 59 = .ok (.if_icmp .le 5, 3) := by decide +kernel
theorem dX6_reasonOf_62 : decode cX6_reasonOf 62 = .ok (.iconst 2, 1) := by decide +kernel
theorem dX6_reasonOf_63 : decode cX6_reasonOf 63 = .ok (.ireturn, 1) := by decide +kernel
theorem dX6_reasonOf_64 : decode cX6_reasonOf 64 = .ok (.aload_n 0, 1) := by decide +kernel
theorem dX6_reasonOf_65 : decode cX6_reasonOf 65 = .ok (.iload_n 3, 1) := by decide +kernel
theorem dX6_reasonOf_66 : decode cX6_reasonOf 66 = .ok (.aload_n 0, 1) := by decide +kernel
theorem dX6_reasonOf_67 : decode cX6_reasonOf 67 = .ok (.getfield 68, 3) := by decide +kernel
theorem dX6_reasonOf_70 : decode cX6_reasonOf 70 = .ok (.iload_n 1, 1) := by decide +kernel
theorem dX6_reasonOf_71 : decode cX6_reasonOf 71 = .ok (.iaload, 1) := by decide +kernel
theorem dX6_reasonOf_72 : decode cX6_reasonOf 72 = .ok (.iload_n 2, 1) := by decide +kernel
theorem dX6_reasonOf_73 : decode cX6_reasonOf 73 = .ok (.invokevirtual 186, 3) := by decide +kernel
theorem dX6_reasonOf_76 : decode cX6_reasonOf 76 = .ok (.ifCond .ne 19, 3) := by decide +kernel
theorem dX6_reasonOf_79 : decode cX6_reasonOf 79 = .ok (.aload_n 0, 1) := by decide +kernel
theorem dX6_reasonOf_80 : decode cX6_reasonOf 80 = .ok (.iload_n 3, 1) := by decide +kernel
theorem dX6_reasonOf_81 : decode cX6_reasonOf 81 = .ok (.aload_n 0, 1) := by decide +kernel
theorem dX6_reasonOf_82 : decode cX6_reasonOf 82 = .ok (.getfield 71, 3) := by decide +kernel
theorem dX6_reasonOf_85 : decode cX6_reasonOf 85 = .ok (.iload_n 1, 1) := by decide +kernel
theorem dX6_reasonOf_86 : decode cX6_reasonOf 86 = .ok (.iaload, 1) := by decide +kernel
theorem dX6_reasonOf_87 : decode cX6_reasonOf 87 = .ok (.iload 4, 2) := by decide +kernel
theorem dX6_reasonOf_89 : decode cX6_reasonOf 89 = .ok (.invokevirtual 186, 3) := by decide +kernel
theorem dX6_reasonOf_92 : decode cX6_reasonOf 92 = .ok (.ifCond .eq 5, 3) := by decide +kernel
theorem dX6_reasonOf_95 : decode cX6_reasonOf 95 = .ok (.iconst 3, 1) := by decide +kernel
theorem dX6_reasonOf_96 : decode cX6_reasonOf 96 = .ok (.ireturn, 1) := by decide +kernel
theorem dX6_reasonOf_97 : decode cX6_reasonOf 97 = .ok (.aload_n 0, 1) := by decide +kernel
theorem dX6_reasonOf_98 : decode cX6_reasonOf 98 = .ok (.iload_n 1, 1) := by decide +kernel
theorem dX6_reasonOf_99 : decode cX6_reasonOf 99 = .ok (.iload 4, 2) := by decide +kernel
theorem dX6_reasonOf_101 : decode cX6_reasonOf 101 = .ok (.invokevirtual 189, 3) := by decide +kernel
theorem dX6_reasonOf_104 : decode cX6_reasonOf 104 = .ok (.ifCond .eq 7, 3) := by decide +kernel
theorem dX6_reasonOf_107 : decode cX6_reasonOf 107 = .ok (.iconst 4, 1) := by decide +kernel
theorem dX6_reasonOf_108 : decode cX6_reasonOf 108 = .ok (.goto 16, 3) := by decide +kernel
theorem dX6_reasonOf_111 : decode cX6_reasonOf 111 = .ok (.aload_n 0, 1) := by decide +kernel
theorem dX6_reasonOf_112 : decode cX6_reasonOf 112 = .ok (.iload_n 1, 1) := by decide +kernel
theorem dX6_reasonOf_113 : decode cX6_reasonOf 113 = .ok (.invokevirtual 193, 3) := by decide +kernel
theorem dX6_reasonOf_116 : decode cX6_reasonOf 116 = .ok (.ifCond .eq 7, 3) := by decide +kernel
theorem dX6_reasonOf_119 : decode cX6_reasonOf 119 = .ok (.iconst 5, 1) := by decide +kernel
theorem dX6_reasonOf_120 : decode cX6_reasonOf 120 = .ok (.goto 4, 3) := by decide +kernel
theorem dX6_reasonOf_123 : decode cX6_reasonOf 123 = .ok (.iconst 0, 1) := by decide +kernel
theorem dX6_reasonOf_124 : decode cX6_reasonOf 124 = .ok (.ireturn, 1) := by decide +kernel
theorem dX6_isAhead_0 : decode cX6_isAhead 0 = .ok (.aload_n 0, 1) := by decide +kernel
theorem dX6_isAhead_1 : decode cX6_isAhead 1 = .ok (.getfield 116, 3) := by decide +kernel
theorem dX6_isAhead_4 : decode cX6_isAhead 4 = .ok (.iload_n 1, 1) := by decide +kernel
theorem dX6_isAhead_5 : decode cX6_isAhead 5 = .ok (.baload, 1) := by decide +kernel
theorem dX6_isAhead_6 : decode cX6_isAhead 6 = .ok (.aload_n 0, 1) := by decide +kernel
theorem dX6_isAhead_7 : decode cX6_isAhead 7 = .ok (.getfield 116, 3) := by decide +kernel
theorem dX6_isAhead_10 : decode cX6_isAhead 10 = .ok (.iload_n 2, 1) := by decide +kernel
theorem dX6_isAhead_11 : decode cX6_isAhead 11 = .ok (.baload, 1) := by decide +kernel
theorem dX6_isAhead_12 : decode cX6_isAhead 12 = .ok (.if_icmp .eq 10, 3) := by decide +kernel
theorem dX6_isAhead_15 : decode cX6_isAhead 15 = .ok (.aload_n 0, 1) := by decide +kernel
theorem dX6_isAhead_16 : decode cX6_isAhead 16 = .ok (.getfield 116, 3) := by decide +kernel
theorem dX6_isAhead_19 : decode cX6_isAhead 19 = .ok (.iload_n 1, 1) := by decide +kernel
theorem dX6_isAhead_20 : decode cX6_isAhead 20 = .ok (.baload, 1) := by decide +kernel
theorem dX6_isAhead_21 : decode cX6_isAhead 21 = .ok (.ireturn, 1) := by decide +kernel
theorem dX6_isAhead_22 : decode cX6_isAhead 22 = .ok (.aload_n 0, 1) := by decide +kernel
theorem dX6_isAhead_23 : decode cX6_isAhead 23 = .ok (.getfield 104, 3) := by decide +kernel
theorem dX6_isAhead_26 : decode cX6_isAhead 26 = .ok (.iload_n 1, 1) := by decide +kernel
theorem dX6_isAhead_27 : decode cX6_isAhead 27 = .ok (.iaload, 1) := by decide +kernel
theorem dX6_isAhead_28 : decode cX6_isAhead 28 = .ok (.aload_n 0, 1) := by decide +kernel
theorem dX6_isAhead_29 : decode cX6_isAhead 29 = .ok (.getfield 104, 3) := by decide +kernel
theorem dX6_isAhead_32 : decode cX6_isAhead 32 = .ok (.iload_n 2, 1) := by decide +kernel
theorem dX6_isAhead_33 : decode cX6_isAhead 33 = .ok (.iaload, 1) := by decide +kernel
theorem dX6_isAhead_34 : decode cX6_isAhead 34 = .ok (.if_icmp .eq 24, 3) := by decide +kernel
theorem dX6_isAhead_37 : decode cX6_isAhead 37 = .ok (.aload_n 0, 1) := by decide +kernel
theorem dX6_isAhead_38 : decode cX6_isAhead 38 = .ok (.getfield 104, 3) := by decide +kernel
theorem dX6_isAhead_41 : decode cX6_isAhead 41 = .ok (.iload_n 1, 1) := by decide +kernel
theorem dX6_isAhead_42 : decode cX6_isAhead 42 = .ok (.iaload, 1) := by decide +kernel
theorem dX6_isAhead_43 : decode cX6_isAhead 43 = .ok (.aload_n 0, 1) := by decide +kernel
theorem dX6_isAhead_44 : decode cX6_isAhead 44 = .ok (.getfield 104, 3) := by decide +kernel
theorem dX6_isAhead_47 : decode cX6_isAhead 47 = .ok (.iload_n 2, 1) := by decide +kernel
theorem dX6_isAhead_48 : decode cX6_isAhead 48 = .ok (.iaload, 1) := by decide +kernel
theorem dX6_isAhead_49 : decode cX6_isAhead 49 = .ok (.if_icmp .ge 7, 3) := by decide +kernel
theorem dX6_isAhead_52 : decode cX6_isAhead 52 = .ok (.iconst 1, 1) := by decide +kernel
theorem dX6_isAhead_53 : decode cX6_isAhead 53 = .ok (.goto 4, 3) := by decide +kernel
theorem dX6_isAhead_56 : decode cX6_isAhead 56 = .ok (.iconst 0, 1) := by decide +kernel
theorem dX6_isAhead_57 : decode cX6_isAhead 57 = .ok (.ireturn, 1) := by decide +kernel
theorem dX6_isAhead_58 : decode cX6_isAhead 58 = .ok (.aload_n 0, 1) := by decide +kernel
theorem dX6_isAhead_59 : decode cX6_isAhead 59 = .ok (.getfield 122, 3) := by decide +kernel
theorem dX6_isAhead_62 : decode cX6_isAhead 62 = .ok (.iload_n 1, 1) := by decide +kernel
theorem dX6_isAhead_63 : decode cX6_isAhead 63 = .ok (.iaload, 1) := by decide +kernel
theorem dX6_isAhead_64 : decode cX6_isAhead 64 = .ok (.aload_n 0, 1) := by decide +kernel
theorem dX6_isAhead_65 : decode cX6_isAhead 65 = .ok (.getfield 122, 3) := by decide +kernel
theorem dX6_isAhead_68 : decode cX6_isAhead 68 = .ok (.iload_n 2, 1) := by decide +kernel
theorem dX6_isAhead_69 : decode cX6_isAhead 69 = .ok (.iaload, 1) := by decide +kernel
theorem dX6_isAhead_70 : decode cX6_isAhead 70 = .ok (.if_icmp .eq 26, 3) := by decide +kernel
theorem dX6_isAhead_73 : decode cX6_isAhead 73 = .ok (.aload_n 0, 1) := by decide +kernel
theorem dX6_isAhead_74 : decode cX6_isAhead 74 = .ok (.getfield 122, 3) := by decide +kernel
theorem dX6_isAhead_77 : decode cX6_isAhead 77 = .ok (.iload_n 1, 1) := by decide +kernel
theorem dX6_isAhead_78 : decode cX6_isAhead 78 = .ok (.iaload, 1) := by decide +kernel
theorem dX6_isAhead_79 : decode cX6_isAhead 79 = .ok (.aload_n 0, 1) := by decide +kernel
theorem dX6_isAhead_80 : decode cX6_isAhead 80 = .ok (.getfield 122, 3) := by decide +kernel
theorem dX6_isAhead_83 : decode cX6_isAhead 83 = .ok (.iload_n 2, 1) := by decide +kernel
theorem dX6_isAhead_84 : decode cX6_isAhead 84 = .ok (.iaload, 1) := by decide +kernel
theorem dX6_isAhead_85 : decode cX6_isAhead 85 = .ok (.if_icmp .le 7, 3) := by decide +kernel
theorem dX6_isAhead_88 : decode cX6_isAhead 88 = .ok (.iconst 1, 1) := by decide +kernel
theorem dX6_isAhead_89 : decode cX6_isAhead 89 = .ok (.goto 17, 3) := by decide +kernel
theorem dX6_isAhead_92 : decode cX6_isAhead 92 = .ok (.iconst 0, 1) := by decide +kernel
theorem dX6_isAhead_93 : decode cX6_isAhead 93 = .ok (.goto 13, 3) := by decide +kernel
theorem dX6_isAhead_96 : decode cX6_isAhead 96 = .ok (.iload_n 1, 1) := by decide +kernel
theorem dX6_isAhead_97 : decode cX6_isAhead 97 = .ok (.iload_n 2, 1) := by decide +kernel
theorem dX6_isAhead_98 : decode cX6_isAhead 98 = .ok (.if_icmp .ge 7, 3) := by decide +kernel
theorem dX6_isAhead_101 : decode cX6_isAhead 101 = .ok (.iconst 1, 1) := by decide +kernel
theorem dX6_isAhead_102 : decode cX6_isAhead 102 = .ok (.goto 4, 3) := by decide +kernel
theorem dX6_isAhead_105 : decode cX6_isAhead 105 = .ok (.iconst 0, 1) := by decide +kernel
theorem dX6_isAhead_106 : decode cX6_isAhead 106 = .ok (.ireturn, 1) := by decide +kernel
set_option maxRecDepth 20000 in
theorem ggX6_nextOf_X6_isAhead : GoodIn wsX6_nextOf wsX6_isAhead := goodIn_r _ [9, 10, 11, 12, 13, 14, 15, 16, 17, 18, 19, 20, 21, 22, 23, 24, 25, 26, 27, 28, 29, 30, 31, 32, 33, 34, 35, 36, 37, 38, 39, 40, 41, 42, 43, 44, 45, 46, 47, 48, 49, 50, 51, 52, 53, 54, 55, 56, 57, 58, 59, 60, 61] (by decide +kernel) (by decide +kernel)
set_option maxRecDepth 20000 in
theorem gX6_nextOf_X6_isAhead : GoodIn wsX6_nextOf (wsV RX6 196 RX6 yX6_isAhead wsX6_isAhead) := goodIn_app (goodIn_of _ (by decide +kernel)) ggX6_nextOf_X6_isAhead
theorem dX6_nextOf_0 : decode cX6_nextOf 0 = .ok (.iconst (-1), 1) := by decide +kernel
theorem dX6_nextOf_1 : decode cX6_nextOf 1 = .ok (.istore_n 2, 1) := by decide +kernel
theorem dX6_nextOf_2 : decode cX6_nextOf 2 = .ok (.iconst 0, 1) := by decide +kernel
theorem dX6_nextOf_3 : decode cX6_nextOf 3 = .ok (.istore_n 3, 1) := by decide +kernel
theorem dX6_nextOf_4 : decode cX6_nextOf 4 = .ok (.iload_n 3, 1) := by decide +kernel
theorem dX6_nextOf_5 : decode cX6_nextOf 5 = .ok (.aload_n 0, 1) := by decide +kernel
theorem dX6_nextOf_6 : decode cX6_nextOf 6 = .ok (.getfield 173, 3) := by decide +kernel
theorem dX6_nextOf_9 : decode cX6_nextOf 9 = .ok (.if_icmp .ge 69, 3) := by decide +kernel
theorem dX6_nextOf_12 : decode cX6_nextOf 12 = .ok (.aload_n 0, 1) := by decide +kernel
theorem dX6_nextOf_13 : decode cX6_nextOf 13 = .ok (.getfield 101, 3) := by decide +kernel
theorem dX6_nextOf_16 : decode cX6_nextOf 16 = .ok (.iload_n 3, 1) := by decide +kernel
theorem dX6_nextOf_17 : decode cX6_nextOf 17 = .ok (.iaload, 1) := by decide +kernel
theorem dX6_nextOf_18 : decode cX6_nextOf 18 = .ok (.iload_n 1, 1) := by decide +kernel
theorem dX6_nextOf_19 : decode cX6_nextOf 19 = .ok (.if_icmp .ne 25, 3) := by decide +kernel
theorem dX6_nextOf_22 : decode cX6_nextOf 22 = .ok (.aload_n 0, 1) := by decide +kernel
theorem dX6_nextOf_23 : decode cX6_nextOf 23 = .ok (.getfield 98, 3) := by decide +kernel
theorem dX6_nextOf_26 : decode cX6_nextOf 26 = .ok (.iload_n 3, 1) := by decide +kernel
theorem dX6_nextOf_27 : decode cX6_nextOf 27 = .ok (.iaload, 1) := by decide +kernel
theorem dX6_nextOf_28 : decode cX6_nextOf 28 = .ok (.ifCond .ne 16, 3) := by decide +kernel
theorem dX6_nextOf_31 : decode cX6_nextOf 31 = .ok (.aload_n 0, 1) := by decide +kernel
theorem dX6_nextOf_32 : decode cX6_nextOf 32 = .ok (.getfield 134, 3) := by decide +kernel
theorem dX6_nextOf_35 : decode cX6_nextOf 35 = .ok (.iload_n 3, 1) := by decide +kernel
theorem dX6_nextOf_36 : decode cX6_nextOf 36 = .ok (.baload, 1) := by decide +kernel
theorem dX6_nextOf_37 : decode cX6_nextOf 37 = .ok (.ifCond .ne 7, 3) := by decide +kernel
theorem dX6_nextOf_40 : decode cX6_nextOf 40 = .ok (.iconst 1, 1) := by decide +kernel
theorem dX6_nextOf_41 : decode cX6_nextOf 41 = .ok (.goto 4, 3) := by decide +kernel
theorem dX6_nextOf_44 : decode cX6_nextOf 44 = .ok (.iconst 0, 1) := by decide +kernel
theorem dX6_nextOf_45 : decode cX6_nextOf 45 = .ok (.istore 4, 2) := by decide +kernel
theorem dX6_nextOf_47 : decode cX6_nextOf 47 = .ok (.iload 4, 2) := by decide +kernel
theorem dX6_nextOf_49 : decode cX6_nextOf 49 = .ok (.ifCond .eq 21, 3) := by decide +kernel
theorem dX6_nextOf_52 : decode cX6_nextOf 52 = .ok (.iload_n 2, 1) := by decide +kernel
theorem dX6_nextOf_53 : decode cX6_nextOf 53 = .ok (.iconst (-1), 1) := by decide +kernel
theorem dX6_nextOf_54 : decode cX6_nextOf 54 = .ok (.if_icmp .eq 12, 3) := by decide +kernel
theorem dX6_nextOf_57 : decode cX6_nextOf 57 = .ok (.aload_n 0, 1) := by decide +kernel
theorem dX6_nextOf_58 : decode cX6_nextOf 58 = .ok (.iload_n 3, 1) := by decide +kernel
theorem dX6_nextOf_59 : decode cX6_nextOf 59 = .ok (.iload_n 2, 1) := by decide +kernel
theorem dX6_nextOf_60 : decode cX6_nextOf 60 = .ok (.invokevirtual 196, 3) := by decide +kernel
theorem dX6_nextOf_63 : decode cX6_nextOf 63 = .ok (.ifCond .eq 7, 3) := by decide +kernel
theorem dX6_nextOf_66 : decode cX6_nextOf 66 = .ok (.iload_n 3, 1) := by decide +kernel
theorem dX6_nextOf_67 : decode cX6_nextOf 67 = .ok (.goto 4, 3) := by decide +kernel
theorem dX6_nextOf_70 : decode cX6_nextOf 70 = .ok (.iload_n 2, 1) := by decide +kernel
theorem dX6_nextOf_71 : decode cX6_nextOf 71 = .ok (.istore_n 2, 1) := by decide +kernel
theorem dX6_nextOf_72 : decode cX6_nextOf 72 = .ok (.iinc 3 1, 3) := by decide +kernel
theorem dX6_nextOf_75 : decode cX6_nextOf 75 = .ok (.goto (-71), 3) := by decide +kernel
theorem dX6_nextOf_78 : decode cX6_nextOf 78 = .ok (.iload_n 2, 1) := by decide +kernel
theorem dX6_nextOf_79 : decode cX6_nextOf 79 = .ok (.ireturn, 1) := by decide +kernel
theorem dX6_hasLength_0 : decode cX6_hasLength 0 = .ok (.aload_n 0, 1) := by decide +kernel
theorem dX6_hasLength_1 : decode cX6_hasLength 1 = .ok (.getfield 95, 3) := by decide +kernel
theorem dX6_hasLength_4 : decode cX6_hasLength 4 = .ok (.iconst 2, 1) := by decide +kernel
theorem dX6_hasLength_5 : decode cX6_hasLength 5 = .ok (.iload_n 1, 1) := by decide +kernel
theorem dX6_hasLength_6 : decode cX6_hasLength 6 = .ok (.imul, 1) := by decide +kernel
theorem dX6_hasLength_7 : decode cX6_hasLength 7 = .ok (.iload_n 2, 1) := by decide +kernel
theorem dX6_hasLength_8 : decode cX6_hasLength 8 = .ok (.iadd, 1) := by decide +kernel
theorem dX6_hasLength_9 : decode cX6_hasLength 9 = .ok (.iaload, 1) := by decide +kernel
theorem dX6_hasLength_10 : decode cX6_hasLength 10 = .ok (.aload_n 0, 1) := by decide +kernel
theorem dX6_hasLength_11 : decode cX6_hasLength 11 = .ok (.getfield 107, 3) := by decide +kernel
theorem dX6_hasLength_14 : decode cX6_hasLength 14 = .ok (.iload_n 3, 1) := by decide +kernel
theorem dX6_hasLength_15 : decode cX6_hasLength 15 = .ok (.iaload, 1) := by decide +kernel
theorem dX6_hasLength_16 : decode cX6_hasLength 16 = .ok (.iadd, 1) := by decide +kernel
theorem dX6_hasLength_17 : decode cX6_hasLength 17 = .ok (.aload_n 0, 1) := by decide +kernel
theorem dX6_hasLength_18 : decode cX6_hasLength 18 = .ok (.getfield 41, 3) := by decide +kernel
theorem dX6_hasLength_21 : decode cX6_hasLength 21 = .ok (.aload_n 0, 1) := by decide +kernel
theorem dX6_hasLength_22 : decode cX6_hasLength 22 = .ok (.getfield 65, 3) := by decide +kernel
theorem dX6_hasLength_25 : decode cX6_hasLength 25 = .ok (.iload_n 1, 1) := by decide +kernel
theorem dX6_hasLength_26 : decode cX6_hasLength 26 = .ok (.iaload, 1) := by decide +kernel
theorem dX6_hasLength_27 : decode cX6_hasLength 27 = .ok (.iaload, 1) := by decide +kernel
theorem dX6_hasLength_28 : decode cX6_hasLength 28 = .ok (.if_icmp .gt 7, 3) := by decide +kernel
theorem dX6_hasLength_31 : decode cX6_hasLength 31 = .ok (.iconst 1, 1) := by decide +kernel
theorem dX6_hasLength_32 : decode cX6_hasLength 32 = .ok (.goto 4, 3) := by decide +kernel
theorem dX6_hasLength_35 : decode cX6_hasLength 35 = .ok (.iconst 0, 1) := by decide +kernel
theorem dX6_hasLength_36 : decode cX6_hasLength 36 = .ok (.ireturn, 1) := by decide +kernel
set_option maxRecDepth 20000 in
theorem ggX6_canBe_X6_hasLength : GoodIn wsX6_canBe wsX6_hasLength := goodIn_r _ [9, 10, 11, 12, 4, 13, 14, 15, 16, 17, 18, 19, 20, 21, 22, 23, 24, 25, 26, 27, 28, 29, 30, 31, 32, 33, 34, 35, 36, 37, 38, 39, 40, 41, 42, 43, 44, 45, 46, 47, 48, 49, 50, 51, 52, 53, 54, 55, 56, 57, 58, 59, 60, 61] (by decide +kernel) (by decide +kernel)
set_option maxRecDepth 20000 in
theorem gX6_canBe_X6_hasLength : GoodIn wsX6_canBe (wsV RX6 199 RX6 yX6_hasLength wsX6_hasLength) := goodIn_app (goodIn_of _ (by decide +kernel)) ggX6_canBe_X6_hasLength
theorem dX6_canBe_0 : decode cX6_canBe 0 = .ok (.aload_n 0, 1) := by decide +kernel
theorem dX6_canBe_1 : decode cX6_canBe 1 = .ok (.getfield 92, 3) := by decide +kernel
theorem dX6_canBe_4 : decode cX6_canBe 4 = .ok (.iconst 2, 1) := by decide +kernel
theorem dX6_canBe_5 : decode cX6_canBe 5 = .ok (.iload_n 1, 1) := by decide +kernel
theorem dX6_canBe_6 : decode cX6_canBe 6 = .ok (.imul, 1) := by decide +kernel
theorem dX6_canBe_7 : decode cX6_canBe 7 = .ok (.iload_n 2, 1) := by decide +kernel
theorem dX6_canBe_8 : decode cX6_canBe 8 = .ok (.iadd, 1) := by decide +kernel
theorem dX6_canBe_9 : decode cX6_canBe 9 = .ok (.iaload, 1) := by decide +kernel
theorem dX6_canBe_10 : decode cX6_canBe 10 = .ok (.aload_n 0, 1) := by decide +kernel
theorem dX6_canBe_11 : decode cX6_canBe 11 = .ok (.getfield 110, 3) := by decide +kernel
theorem dX6_canBe_14 : decode cX6_canBe 14 = .ok (.iload_n 3, 1) := by decide +kernel
theorem dX6_canBe_15 : decode cX6_canBe 15 = .ok (.iaload, 1) := by decide +kernel
theorem dX6_canBe_16 : decode cX6_canBe 16 = .ok (.iadd, 1) := by decide +kernel
theorem dX6_canBe_17 : decode cX6_canBe 17 = .ok (.aload_n 0, 1) := by decide +kernel
theorem dX6_canBe_18 : decode cX6_canBe 18 = .ok (.getfield 92, 3) := by decide +kernel
theorem dX6_canBe_21 : decode cX6_canBe 21 = .ok (.iconst 2, 1) := by decide +kernel
theorem dX6_canBe_22 : decode cX6_canBe 22 = .ok (.iload_n 1, 1) := by decide +kernel
theorem dX6_canBe_23 : decode cX6_canBe 23 = .ok (.imul, 1) := by decide +kernel
theorem dX6_canBe_24 : decode cX6_canBe 24 = .ok (.iconst 1, 1) := by decide +kernel
theorem dX6_canBe_25 : decode cX6_canBe 25 = .ok (.iadd, 1) := by decide +kernel
theorem dX6_canBe_26 : decode cX6_canBe 26 = .ok (.iload_n 2, 1) := by decide +kernel
theorem dX6_canBe_27 : decode cX6_canBe 27 = .ok (.isub, 1) := by decide +kernel
theorem dX6_canBe_28 : decode cX6_canBe 28 = .ok (.iaload, 1) := by decide +kernel
theorem dX6_canBe_29 : decode cX6_canBe 29 = .ok (.isub, 1) := by decide +kernel
theorem dX6_canBe_30 : decode cX6_canBe 30 = .ok (.istore 4, 2) := by decide +kernel
theorem dX6_canBe_32 : decode cX6_canBe 32 = .ok (.aload_n 0, 1) := by decide +kernel
theorem dX6_canBe_33 : decode cX6_canBe 33 = .ok (.iload_n 1, 1) := by decide +kernel
theorem dX6_canBe_34 : decode cX6_canBe 34 = .ok (.iload_n 2, 1) := by decide +kernel
theorem dX6_canBe_35 : decode cX6_canBe 35 = .ok (.iload_n 3, 1) := by decide +kernel
theorem dX6_canBe_36 : decode cX6_canBe 36 = .ok (.invokevirtual 199, 3) := by decide +kernel
theorem dX6_canBe_39 : decode cX6_canBe 39 = .ok (.ifCond .eq 34, 3) := by decide +kernel
theorem dX6_canBe_42 : decode cX6_canBe 42 = .ok (.iload 4, 2) := by decide +kernel
theorem dX6_canBe_44 : decode cX6_canBe 44 = .ok (.ifCond .ge 9, 3) := by decide +kernel
theorem dX6_canBe_47 : decode cX6_canBe 47 = .ok (.iload 4, 2) := by decide +kernel
theorem dX6_canBe_49 : decode cX6_canBe 49 = .ok (.ineg, 1) := by decide +kernel
theorem dX6_canBe_50 : decode cX6_canBe 50 = .ok (.goto 5, 3) := by decide +kernel
theorem dX6_canBe_53 : decode cX6_canBe 53 = .ok (.iload 4, 2) := by decide +kernel
theorem dX6_canBe_55 : decode cX6_canBe 55 = .ok (.aload_n 0, 1) := by decide +kernel
theorem dX6_canBe_56 : decode cX6_canBe 56 = .ok (.getfield 47, 3) := by decide +kernel
theorem dX6_canBe_59 : decode cX6_canBe 59 = .ok (.aload_n 0, 1) := by decide +kernel
theorem dX6_canBe_60 : decode cX6_canBe 60 = .ok (.getfield 65, 3) := by decide +kernel
theorem dX6_canBe_63 : decode cX6_canBe 63 = .ok (.iload_n 1, 1) := by decide +kernel
theorem dX6_canBe_64 : decode cX6_canBe 64 = .ok (.iaload, 1) := by decide +kernel
theorem dX6_canBe_65 : decode cX6_canBe 65 = .ok (.iaload, 1) := by decide +kernel
theorem dX6_canBe_66 : decode cX6_canBe 66 = .ok (.if_icmp .gt 7, 3) := by decide +kernel
theorem dX6_canBe_69 : decode cX6_canBe 69 = .ok (.iconst 1, 1) := by decide +kernel
theorem dX6_canBe_70 : decode cX6_canBe 70 = .ok (.goto 4, 3) := by decide +kernel
theorem dX6_canBe_73 : decode cX6_canBe 73 = .ok (.iconst 0, 1) := by decide +kernel
theorem dX6_canBe_74 : decode cX6_canBe 74 = .ok (.ireturn, 1) := by decide +kernel
set_option maxRecDepth 20000 in
theorem ggX6_whyNot_X6_hasLength : GoodIn wsX6_whyNot wsX6_hasLength := goodIn_r _ [13, 14, 15, 16, 8, 22, 23, 24, 25, 26, 27, 28, 29, 30, 31, 32, 33, 34, 35, 36, 37, 38, 39, 40, 41, 42, 43, 44, 45, 46, 47, 48, 49, 50, 51, 52, 53, 54, 55, 56, 57, 58, 59, 60, 61, 62, 63, 64, 65, 66, 67, 68, 69, 70] (by decide +kernel) (by decide +kernel)
set_option maxRecDepth 20000 in
theorem gX6_whyNot_X6_hasLength : GoodIn wsX6_whyNot (wsV RX6 199 RX6 yX6_hasLength wsX6_hasLength) := goodIn_app (goodIn_of _ (by decide +kernel)) ggX6_whyNot_X6_hasLength
set_option maxRecDepth 20000 in
theorem ggX6_whyNot_X6_canBe : GoodIn wsX6_whyNot wsX6_canBe := goodIn_r _ [20, 5, 6, 21, 8, 9, 10, 11, 12, 13, 14, 15, 16, 22, 23, 24, 25, 26, 27, 28, 29, 30, 31, 32, 33, 34, 35, 36, 37, 38, 39, 40, 41, 42, 43, 44, 45, 46, 47, 48, 49, 50, 51, 52, 53, 54, 55, 56, 57, 58, 59, 60, 61, 62, 63, 64, 65, 66, 67, 68, 69, 70] (by decide +kernel) (by decide +kernel)
set_option maxRecDepth 20000 in
theorem gX6_whyNot_X6_canBe : GoodIn wsX6_whyNot (wsV RX6 202 RX6 yX6_canBe wsX6_canBe) := goodIn_app (goodIn_of _ (by decide +kernel)) ggX6_whyNot_X6_canBe
theorem dX6_whyNot_0 : decode cX6_whyNot 0 = .ok (.iconst 0, 1) := by decide +kernel
theorem dX6_whyNot_1 : decode cX6_whyNot 1 = .ok (.istore_n 3, 1) := by decide +kernel
theorem dX6_whyNot_2 : decode cX6_whyNot 2 = .ok (.iconst 0, 1) := by decide +kernel
theorem dX6_whyNot_3 : decode cX6_whyNot 3 = .ok (.istore 4, 2) := by decide +kernel
theorem dX6_whyNot_5 : decode cX6_whyNot 5 = .ok (.iload 4, 2) := by decide +kernel
theorem dX6_whyNot_7 : decode cX6_whyNot 7 = .ok (.aload_n 0, 1) := by decide +kernel
theorem dX6_whyNot_8 : decode cX6_whyNot 8 = .ok (.getfield 173, 3) := by decide +kernel
theorem dX6_whyNot_11 : decode cX6_whyNot 11 = .ok (.if_icmp .ge 67, 3) := by decide +kernel
theorem dX6_whyNot_14 : decode cX6_whyNot 14 = .ok (.iload_n 3, 1) := by decide +kernel
theorem dX6_whyNot_15 : decode cX6_whyNot 15 = .ok (.ifCond .ne 51, 3) := by decide +kernel
theorem dX6_whyNot_18 : decode cX6_whyNot 18 = .ok (.aload_n 0, 1) := by decide +kernel
theorem dX6_whyNot_19 : decode cX6_whyNot 19 = .ok (.getfield 101, 3) := by decide +kernel
theorem dX6_whyNot_22 : decode cX6_whyNot 22 = .ok (.iload 4, 2) := by decide +kernel
theorem dX6_whyNot_24 : decode cX6_whyNot 24 = .ok (.iaload, 1) := by decide +kernel
theorem dX6_whyNot_25 : decode cX6_whyNot 25 = .ok (.iload_n 1, 1) := by decide +kernel
theorem dX6_whyNot_26 : decode cX6_whyNot 26 = .ok (.if_icmp .ne 44, 3) := by decide +kernel
theorem dX6_whyNot_29 : decode cX6_whyNot 29 = .ok (.aload_n 0, 1) := by decide +kernel
theorem dX6_whyNot_30 : decode cX6_whyNot 30 = .ok (.getfield 98, 3) := by decide +kernel
theorem dX6_whyNot_33 : decode cX6_whyNot 33 = .ok (.iload 4, 2) := by decide +kernel
theorem dX6_whyNot_35 : decode cX6_whyNot 35 = .ok (.iaload, 1) := by decide +kernel
theorem dX6_whyNot_36 : decode cX6_whyNot 36 = .ok (.iconst 1, 1) := by decide +kernel
theorem dX6_whyNot_37 : decode cX6_whyNot 37 = .ok (.if_icmp .ne 33, 3) := by decide +kernel
theorem dX6_whyNot_40 : decode cX6_whyNot 40 = .ok (.aload_n 0, 1) := by decide +kernel
theorem dX6_whyNot_41 : decode cX6_whyNot 41 = .ok (.getfield 113, 3) := by decide +kernel
theorem dX6_whyNot_44 : decode cX6_whyNot 44 = .ok (.iload 4, 2) := by decide +kernel
theorem dX6_whyNot_46 : decode cX6_whyNot 46 = .ok (.iaload, 1) := by decide +kernel
theorem dX6_whyNot_47 : decode cX6_whyNot 47 = .ok (.ifCond .le 23, 3) := by decide +kernel
theorem dX6_whyNot_50 : decode cX6_whyNot 50 = .ok (.aload_n 0, 1) := by decide +kernel
theorem dX6_whyNot_51 : decode cX6_whyNot 51 = .ok (.getfield 113, 3) := by decide +kernel
theorem dX6_whyNot_54 : decode cX6_whyNot 54 = .ok (.iload 4, 2) := by decide +kernel
theorem dX6_whyNot_56 : decode cX6_whyNot 56 = .ok (.iaload, 1) := by decide +kernel
theorem dX6_whyNot_57 : decode cX6_whyNot 57 = .ok (.aload_n 0, 1) := by decide +kernel
theorem dX6_whyNot_58 : decode cX6_whyNot 58 = .ok (.getfield 113, 3) := by decide +kernel
theorem dX6_whyNot_61 : decode cX6_whyNot 61 = .ok (.iload_n 2, 1) := by decide +kernel
theorem dX6_whyNot_62 : decode cX6_whyNot 62 = .ok (.iaload, 1) := by decide +kernel
theorem dX6_whyNot_63 : decode cX6_whyNot 63 = .ok (.if_icmp .eq 7, 3) := by decide +kernel
theorem dX6_whyNot_66 : decode cX6_whyNot 66 = .ok (.iconst 1, 1) := by decide +kernel
theorem dX6_whyNot_67 : decode cX6_whyNot 67 = .ok (.goto 4, 3) := by decide +kernel
theorem dX6_whyNot_70 : decode cX6_whyNot 70 = .ok (.iconst 0, 1) := by decide +kernel
theorem dX6_whyNot_71 : decode cX6_whyNot 71 = .ok (.istore_n 3, 1) := by decide +kernel
theorem dX6_whyNot_72 : decode cX6_whyNot 72 = .ok (.iinc 4 1, 3) := by decide +kernel
theorem dX6_whyNot_75 : decode cX6_whyNot 75 = .ok (.goto (-70), 3) := by decide +kernel
theorem dX6_whyNot_78 : decode cX6_whyNot 78 = .ok (.aload_n 0, 1) := by decide +kernel
theorem dX6_whyNot_79 : decode cX6_whyNot 79 = .ok (.getfield 113, 3) := by decide +kernel
theorem dX6_whyNot_82 : decode cX6_whyNot 82 = .ok (.iload_n 2, 1) := by decide +kernel
theorem dX6_whyNot_83 : decode cX6_whyNot 83 = .ok (.iaload, 1) := by decide +kernel
theorem dX6_whyNot_84 : decode cX6_whyNot 84 = .ok (.ifCond .le 9, 3) := by decide +kernel
theorem dX6_whyNot_87 : decode cX6_whyNot 87 = .ok (.iload_n 3, 1) := by decide +kernel
theorem dX6_whyNot_88 : decode cX6_whyNot 88 = .ok (.ifCond .eq 5, 3) := by decide +kernel
theorem dX6_whyNot_91 : decode cX6_whyNot 91 = .ok (.iconst 1, 1) := by decide +kernel
theorem dX6_whyNot_92 : decode cX6_whyNot 92 = .ok (.ireturn, 1) := by decide +kernel
theorem dX6_whyNot_93 : decode cX6_whyNot 93 = .ok (.aload_n 0, 1) := by decide +kernel
theorem dX6_whyNot_94 : decode cX6_whyNot 94 = .ok (.getfield 92, 3) := by decide +kernel
theorem dX6_whyNot_97 : decode cX6_whyNot 97 = .ok (.iconst 2, 1) := by decide +kernel
theorem dX6_whyNot_98 : decode cX6_whyNot 98 = .ok (.iload_n 1, 1) := by decide +kernel
theorem dX6_whyNot_99 : decode cX6_whyNot 99 = .ok (.imul, 1) := by decide +kernel
theorem dX6_whyNot_100 : decode cX6_whyNot 100 = .ok (.iaload, 1) := by decide +kernel
theorem dX6_whyNot_101 : decode cX6_whyNot 101 = .ok (.aload_n 0, 1) := by decide +kernel
theorem dX6_whyNot_102 : decode cX6_whyNot 102 = .ok (.getfield 92, 3) := by decide +kernel
theorem dX6_whyNot_105 : decode cX6_whyNot 105 = .ok (.iconst 2, 1) := by decide +kernel
theorem dX6_whyNot_106 : decode cX6_whyNot 106 = .ok (.iload_n 1, 1) := by decide +kernel
theorem dX6_whyNot_107 : decode cX6_whyNot 107 = .ok (.imul, 1) := by decide +kernel
theorem dX6_whyNot_108 : decode cX6_whyNot 108 = .ok (.iconst 1, 1) := by decide +kernel
theorem dX6_whyNot_109 : decode cX6_whyNot 109 = .ok (.iadd, 1) := by decide +kernel
theorem dX6_whyNot_110 : decode cX6_whyNot 110 = .ok (.iaload, 1) := by decide +kernel
theorem dX6_whyNot_111 : decode cX6_whyNot 111 = .ok (.iadd, 1) := by decide +kernel
theorem dX6_whyNot_112 : decode cX6_whyNot 112 = .ok (.aload_n 0, 1) := by decide +kernel
theorem dX6_whyNot_113 : decode cX6_whyNot 113 = .ok (.getfield 110, 3) := by decide +kernel
theorem dX6_whyNot_116 : decode cX6_whyNot 116 = .ok (.iload_n 2, 1) := by decide +kernel
theorem dX6_whyNot_117 : decode cX6_whyNot 117 = .ok (.iaload, 1) := by decide +kernel
theorem dX6_whyNot_118 : decode cX6_whyNot 118 = .ok (.iadd, 1) := by decide +kernel
theorem dX6_whyNot_119 : decode cX6_whyNot 119 = .ok (.aload_n 0, 1) := by decide +kernel
theorem dX6_whyNot_120 : decode cX6_whyNot 120 = .ok (.getfield 44, 3) := by decide +kernel
theorem dX6_whyNot_123 : decode cX6_whyNot 123 = .ok (.aload_n 0, 1) := by decide +kernel
theorem dX6_whyNot_124 : decode cX6_whyNot 124 = .ok (.getfield 65, 3) := by decide +kernel
theorem dX6_whyNot_127 : decode cX6_whyNot 127 = .ok (.iload_n 1, 1) := by decide +kernel
theorem dX6_whyNot_128 : decode cX6_whyNot 128 = .ok (.iaload, 1) := by decide +kernel
theorem dX6_whyNot_129 : decode cX6_whyNot 129 = .ok (.iaload, 1) := by decide +kernel
theorem dX6_whyNot_130 : decode cX6_whyNot 130 = .ok (.if_icmp .le 5, 3) := by decide +kernel
theorem dX6_whyNot_133 : decode cX6_whyNot 133 = .ok (.iconst 2, 1) := by decide +kernel
theorem dX6_whyNot_134 : decode cX6_whyNot 134 = .ok (.ireturn, 1) := by decide +kernel
theorem dX6_whyNot_135 : decode cX6_whyNot 135 = .ok (.aload_n 0, 1) := by decide +kernel
theorem dX6_whyNot_136 : decode cX6_whyNot 136 = .ok (.iload_n 1, 1) := by decide +kernel
theorem dX6_whyNot_137 : decode cX6_whyNot 137 = .ok (.iconst 0, 1) := by decide +kernel
theorem dX6_whyNot_138 : decode cX6_whyNot 138 = .ok (.iload_n 2, 1) := by decide +kernel
theorem dX6_whyNot_139 : decode cX6_whyNot 139 = .ok (.invokevirtual 199, 3) := by decide +kernel
theorem dX6_whyNot_142 : decode cX6_whyNot 142 = .ok (.ifCond .ne 15, 3) := by decide +kernel
theorem dX6_whyNot_145 : decode cX6_whyNot 145 = .ok (.aload_n 0, 1) := by decide +kernel
theorem dX6_whyNot_146 : decode cX6_whyNot 146 = .ok (.iload_n 1, 1) := by decide +kernel
theorem dX6_whyNot_147 : decode cX6_whyNot 147 = .ok (.iconst 1, 1) := by decide +kernel
theorem dX6_whyNot_148 : decode cX6_whyNot 148 = .ok (.iload_n 2, 1) := by decide +kernel
theorem dX6_whyNot_149 : decode cX6_whyNot 149 = .ok (.invokevirtual 199, 3) := by decide +kernel
theorem dX6_whyNot_152 : decode cX6_whyNot 152 = .ok (.ifCond .ne 5, 3) := by decide +kernel
theorem dX6_whyNot_155 : decode cX6_whyNot 155 = .ok (.iconst 3, 1) := by decide +kernel
theorem dX6_whyNot_156 : decode cX6_whyNot 156 = .ok (.ireturn, 1) := by decide +kernel
theorem dX6_whyNot_157 : decode cX6_whyNot 157 = .ok (.aload_n 0, 1) := by decide +kernel
theorem dX6_whyNot_158 : decode cX6_whyNot 158 = .ok (.iload_n 1, 1) := by decide +kernel
theorem dX6_whyNot_159 : decode cX6_whyNot 159 = .ok (.iconst 0, 1) := by decide +kernel
theorem dX6_whyNot_160 : decode cX6_whyNot 160 = .ok (.iload_n 2, 1) := by decide +kernel
theorem dX6_whyNot_161 : decode cX6_whyNot 161 = .ok (.invokevirtual 202, 3) := by decide +kernel
theorem dX6_whyNot_164 : decode cX6_whyNot 164 = .ok (.ifCond .ne 13, 3) := by decide +kernel
theorem dX6_whyNot_167 : decode cX6_whyNot 167 = .ok (.aload_n 0, 1) := by decide +kernel
theorem dX6_whyNot_168 : decode cX6_whyNot 168 = .ok (.iload_n 1, 1) := by decide +kernel
theorem dX6_whyNot_169 : decode cX6_whyNot 169 = .ok (.iconst 1, 1) := by decide +kernel
theorem dX6_whyNot_170 : decode cX6_whyNot 170 = .ok (.iload_n 2, 1) := by decide +kernel
theorem dX6_whyNot_171 : decode cX6_whyNot 171 = .ok (.invokevirtual 202, 3) := by decide +kernel
theorem dX6_whyNot_174 : decode cX6_whyNot 174 = .ok (.ifCond .eq 7, 3) := by decide +kernel
theorem dX6_whyNot_177 : decode cX6_whyNot 177 = .ok (.iconst 0, 1) := by decide +kernel
theorem dX6_whyNot_178 : decode cX6_whyNot 178 = .ok (.goto 4, 3) := by decide +kernel
theorem dX6_whyNot_181 : decode cX6_whyNot 181 = .ok (.iconst 4, 1) := by decide +kernel
theorem dX6_whyNot_182 : decode cX6_whyNot 182 = .ok (.ireturn, 1) := by decide +kernel
set_option maxRecDepth 20000 in
theorem ggX6_comes_X6_canBe : GoodIn wsX6_comes wsX6_canBe := goodIn_r _ [13, 1, 6, 14, 15, 16, 17, 18, 12, 19, 7, 8, 20, 21, 22, 23, 24, 25, 26, 27, 28, 29, 30, 31, 32, 33, 34, 35, 36, 37, 38, 39, 40, 41, 42, 43, 44, 45, 46, 47, 48, 49, 50, 51, 52, 53, 54, 55, 56, 57, 58, 59, 60, 61, 62, 63, 64, 65, 66, 67, 68, 69] (by decide +kernel) (by decide +kernel)
set_option maxRecDepth 20000 in
theorem gX6_comes_X6_canBe : GoodIn wsX6_comes (wsV RX6 202 RX6 yX6_canBe wsX6_canBe) := goodIn_app (goodIn_of _ (by decide +kernel)) ggX6_comes_X6_canBe
theorem dX6_comes_0 : decode cX6_comes 0 = .ok (.aload_n 0, 1) := by decide +kernel
theorem dX6_comes_1 : decode cX6_comes 1 = .ok (.getfield 92, 3) := by decide +kernel
theorem dX6_comes_4 : decode cX6_comes 4 = .ok (.iconst 2, 1) := by decide +kernel
theorem dX6_comes_5 : decode cX6_comes 5 = .ok (.iload_n 1, 1) := by decide +kernel
theorem dX6_comes_6 : decode cX6_comes 6 = .ok (.imul, 1) := by decide +kernel
theorem dX6_comes_7 : decode cX6_comes 7 = .ok (.iconst 1, 1) := by decide +kernel
theorem dX6_comes_8 : decode cX6_comes 8 = .ok (.iadd, 1) := by decide +kernel
theorem dX6_comes_9 : decode cX6_comes 9 = .ok (.iaload, 1) := by decide +kernel
theorem dX6_comes_10 : decode cX6_comes 10 = .ok (.aload_n 0, 1) := by decide +kernel
theorem dX6_comes_11 : decode cX6_comes 11 = .ok (.getfield 92, 3) := by decide +kernel
theorem dX6_comes_14 : decode cX6_comes 14 = .ok (.iconst 2, 1) := by decide +kernel
theorem dX6_comes_15 : decode cX6_comes 15 = .ok (.iload_n 1, 1) := by decide +kernel
theorem dX6_comes_16 : decode cX6_comes 16 = .ok (.imul, 1) := by decide +kernel
theorem dX6_comes_17 : decode cX6_comes 17 = .ok (.iaload, 1) := by decide +kernel
theorem dX6_comes_18 : decode cX6_comes 18 = .ok (.if_icmp .ge 7, 3) := by decide +kernel
theorem dX6_comes_21 : decode cX6_comes 21 = .ok (.iconst 1, 1) := by decide +kernel
theorem dX6_comes_22 : decode cX6_comes 22 = .ok (.goto 4, 3) := by decide +kernel
theorem dX6_comes_25 : decode cX6_comes 25 = .ok (.iconst 0, 1) := by decide +kernel
theorem dX6_comes_26 : decode cX6_comes 26 = .ok (.istore_n 3, 1) := by decide +kernel
theorem dX6_comes_27 : decode cX6_comes 27 = .ok (.aload_n 0, 1) := by decide +kernel
theorem dX6_comes_28 : decode cX6_comes 28 = .ok (.iload_n 1, 1) := by decide +kernel
theorem dX6_comes_29 : decode cX6_comes 29 = .ok (.iload_n 3, 1) := by decide +kernel
theorem dX6_comes_30 : decode cX6_comes 30 = .ok (.iload_n 2, 1) := by decide +kernel
theorem dX6_comes_31 : decode cX6_comes 31 = .ok (.invokevirtual 202, 3) := by decide +kernel
theorem dX6_comes_34 : decode cX6_comes 34 = .ok (.ifCond .eq 7, 3) := by decide +kernel
theorem dX6_comes_37 : decode cX6_comes 37 = .ok (.iload_n 3, 1) := by decide +kernel
theorem dX6_comes_38 : decode cX6_comes 38 = .ok (.goto 6, 3) := by decide +kernel
theorem dX6_comes_41 : decode cX6_comes 41 = .ok (.iconst 1, 1) := by decide +kernel
theorem dX6_comes_42 : decode cX6_comes 42 = .ok (.iload_n 3, 1) := by decide +kernel
theorem dX6_comes_43 : decode cX6_comes 43 = .ok (.isub, 1) := by decide +kernel
theorem dX6_comes_44 : decode cX6_comes 44 = .ok (.istore_n 3, 1) := by decide +kernel
theorem dX6_comes_45 : decode cX6_comes 45 = .ok (.aload_n 0, 1) := by decide +kernel
theorem dX6_comes_46 : decode cX6_comes 46 = .ok (.getfield 98, 3) := by decide +kernel
theorem dX6_comes_49 : decode cX6_comes 49 = .ok (.iload_n 2, 1) := by decide +kernel
theorem dX6_comes_50 : decode cX6_comes 50 = .ok (.iconst 1, 1) := by decide +kernel
theorem dX6_comes_51 : decode cX6_comes 51 = .ok (.iastore, 1) := by decide +kernel
theorem dX6_comes_52 : decode cX6_comes 52 = .ok (.aload_n 0, 1) := by decide +kernel
theorem dX6_comes_53 : decode cX6_comes 53 = .ok (.getfield 128, 3) := by decide +kernel
theorem dX6_comes_56 : decode cX6_comes 56 = .ok (.iload_n 2, 1) := by decide +kernel
theorem dX6_comes_57 : decode cX6_comes 57 = .ok (.iload_n 3, 1) := by decide +kernel
theorem dX6_comes_58 : decode cX6_comes 58 = .ok (.iastore, 1) := by decide +kernel
theorem dX6_comes_59 : decode cX6_comes 59 = .ok (.aload_n 0, 1) := by decide +kernel
theorem dX6_comes_60 : decode cX6_comes 60 = .ok (.getfield 131, 3) := by decide +kernel
theorem dX6_comes_63 : decode cX6_comes 63 = .ok (.iload_n 2, 1) := by decide +kernel
theorem dX6_comes_64 : decode cX6_comes 64 = .ok (.aload_n 0, 1) := by decide +kernel
theorem dX6_comes_65 : decode cX6_comes 65 = .ok (.getfield 86, 3) := by decide +kernel
theorem dX6_comes_68 : decode cX6_comes 68 = .ok (.iload_n 1, 1) := by decide +kernel
theorem dX6_comes_69 : decode cX6_comes 69 = .ok (.iaload, 1) := by decide +kernel
theorem dX6_comes_70 : decode cX6_comes 70 = .ok (.iastore, 1) := by decide +kernel
theorem dX6_comes_71 : decode cX6_comes 71 = .ok (.aload_n 0, 1) := by decide +kernel
theorem dX6_comes_72 : decode cX6_comes 72 = .ok (.getfield 92, 3) := by decide +kernel
theorem dX6_comes_75 : decode cX6_comes 75 = .ok (.iconst 2, 1) := by decide +kernel
theorem dX6_comes_76 : decode cX6_comes 76 = .ok (.iload_n 1, 1) := by decide +kernel
theorem dX6_comes_77 : decode cX6_comes 77 = .ok (.imul, 1) := by decide +kernel
theorem dX6_comes_78 : decode cX6_comes 78 = .ok (.iload_n 3, 1) := by decide +kernel
theorem dX6_comes_79 : decode cX6_comes 79 = .ok (.iadd, 1) := by decide +kernel
theorem dX6_comes_80 : decode cX6_comes 80 = .ok (.dup2, 1) := by decide +kernel
theorem dX6_comes_81 : decode cX6_comes 81 = .ok (.iaload, 1) := by decide +kernel
theorem dX6_comes_82 : decode cX6_comes 82 = .ok (.aload_n 0, 1) := by decide +kernel
theorem dX6_comes_83 : decode cX6_comes 83 = .ok (.getfield 110, 3) := by decide +kernel
theorem dX6_comes_86 : decode cX6_comes 86 = .ok (.iload_n 2, 1) := by decide +kernel
theorem dX6_comes_87 : decode cX6_comes 87 = .ok (.iaload, 1) := by decide +kernel
theorem dX6_comes_88 : decode cX6_comes 88 = .ok (.iadd, 1) := by decide +kernel
theorem dX6_comes_89 : decode cX6_comes 89 = .ok (.iastore, 1) := by decide +kernel
theorem dX6_comes_90 : decode cX6_comes 90 = .ok (.aload_n 0, 1) := by decide +kernel
theorem dX6_comes_91 : decode cX6_comes 91 = .ok (.getfield 95, 3) := by decide +kernel
theorem dX6_comes_94 : decode cX6_comes 94 = .ok (.iconst 2, 1) := by decide +kernel
theorem dX6_comes_95 : decode cX6_comes 95 = .ok (.iload_n 1, 1) := by decide +kernel
theorem dX6_comes_96 : decode cX6_comes 96 = .ok (.imul, 1) := by decide +kernel
theorem dX6_comes_97 : decode cX6_comes 97 = .ok (.iload_n 3, 1) := by decide +kernel
theorem dX6_comes_98 : decode cX6_comes 98 = .ok (.iadd, 1) := by decide +kernel
theorem dX6_comes_99 : decode cX6_comes 99 = .ok (.dup2, 1) := by decide +kernel
theorem dX6_comes_100 : decode cX6_comes 100 = .ok (.iaload, 1) := by decide +kernel
theorem dX6_comes_101 : decode cX6_comes 101 = .ok (.aload_n 0, 1) := by decide +kernel
theorem dX6_comes_102 : decode cX6_comes 102 = .ok (.getfield 107, 3) := by decide +kernel
theorem dX6_comes_105 : decode cX6_comes 105 = .ok (.iload_n 2, 1) := by decide +kernel
theorem dX6_comes_106 : decode cX6_comes 106 = .ok (.iaload, 1) := by decide +kernel
theorem dX6_comes_107 : decode cX6_comes 107 = .ok (.iadd, 1) := by decide +kernel
theorem dX6_comes_108 : decode cX6_comes 108 = .ok (.iastore, 1) := by decide +kernel
theorem dX6_comes_109 : decode cX6_comes 109 = .ok (.aload_n 0, 1) := by decide +kernel
theorem dX6_comes_110 : decode cX6_comes 110 = .ok (.getfield 86, 3) := by decide +kernel
theorem dX6_comes_113 : decode cX6_comes 113 = .ok (.iload_n 1, 1) := by decide +kernel
theorem dX6_comes_114 : decode cX6_comes 114 = .ok (.dup2, 1) := by decide +kernel
theorem dX6_comes_115 : decode cX6_comes 115 = .ok (.iaload, 1) := by decide +kernel
theorem dX6_comes_116 : decode cX6_comes 116 = .ok (.iconst 1, 1) := by decide +kernel
theorem dX6_comes_117 : decode cX6_comes 117 = .ok (.iadd, 1) := by decide +kernel
theorem dX6_comes_118 : decode cX6_comes 118 = .ok (.iastore, 1) := by decide +kernel
theorem dX6_comes_119 : decode cX6_comes 119 = .ok (.return_, 1) := by decide +kernel
theorem dX6_goesOver_0 : decode cX6_goesOver 0 = .ok (.aload_n 0, 1) := by decide +kernel
theorem dX6_goesOver_1 : decode cX6_goesOver 1 = .ok (.getfield 101, 3) := by decide +kernel
theorem dX6_goesOver_4 : decode cX6_goesOver 4 = .ok (.iload_n 1, 1) := by decide +kernel
theorem dX6_goesOver_5 : decode cX6_goesOver 5 = .ok (.iaload, 1) := by decide +kernel
theorem dX6_goesOver_6 : decode cX6_goesOver 6 = .ok (.istore_n 3, 1) := by decide +kernel
theorem dX6_goesOver_7 : decode cX6_goesOver 7 = .ok (.iconst (-1), 1) := by decide +kernel
theorem dX6_goesOver_8 : decode cX6_goesOver 8 = .ok (.istore 4, 2) := by decide +kernel
theorem dX6_goesOver_10 : decode cX6_goesOver 10 = .ok (.iconst 0, 1) := by decide +kernel
theorem dX6_goesOver_11 : decode cX6_goesOver 11 = .ok (.istore 5, 2) := by decide +kernel
theorem dX6_goesOver_13 : decode cX6_goesOver 13 = .ok (.iload 5, 2) := by decide +kernel
theorem dX6_goesOver_15 : decode cX6_goesOver 15 = .ok (.aload_n 0, 1) := by decide +kernel
theorem dX6_goesOver_16 : decode cX6_goesOver 16 = .ok (.getfield 154, 3) := by decide +kernel
theorem dX6_goesOver_19 : decode cX6_goesOver 19 = .ok (.if_icmp .ge 109, 3) := by decide +kernel
theorem dX6_goesOver_22 : decode cX6_goesOver 22 = .ok (.aload_n 0, 1) := by decide +kernel
theorem dX6_goesOver_23 : decode cX6_goesOver 23 = .ok (.getfield 62, 3) := by decide +kernel
theorem dX6_goesOver_26 : decode cX6_goesOver 26 = .ok (.iload 5, 2) := by decide +kernel
theorem dX6_goesOver_28 : decode cX6_goesOver 28 = .ok (.iaload, 1) := by decide +kernel
theorem dX6_goesOver_29 : decode cX6_goesOver 29 = .ok (.ifCond .ne 53, 3) := by decide +kernel
theorem dX6_goesOver_32 : decode cX6_goesOver 32 = .ok (.aload_n 0, 1) := by decide +kernel
theorem dX6_goesOver_33 : decode cX6_goesOver 33 = .ok (.getfield 68, 3) := by decide +kernel
theorem dX6_goesOver_36 : decode cX6_goesOver 36 = .ok (.iload 5, 2) := by decide +kernel
theorem dX6_goesOver_38 : decode cX6_goesOver 38 = .ok (.iaload, 1) := by decide +kernel
theorem dX6_goesOver_39 : decode cX6_goesOver 39 = .ok (.aload_n 0, 1) := by decide +kernel
theorem dX6_goesOver_40 : decode cX6_goesOver 40 = .ok (.getfield 68, 3) := by decide +kernel
theorem dX6_goesOver_43 : decode cX6_goesOver 43 = .ok (.iload_n 3, 1) := by decide +kernel
theorem dX6_goesOver_44 : decode cX6_goesOver 44 = .ok (.iaload, 1) := by decide +kernel
theorem dX6_goesOver_45 : decode cX6_goesOver 45 = .ok (.if_icmp .ne 37, 3) := by decide +kernel
theorem dX6_goesOver_48 : decode cX6_goesOver 48 = .ok (.aload_n 0, 1) := by decide +kernel
theorem dX6_goesOver_49 : decode cX6_goesOver 49 = .ok (.getfield 71, 3) := by decide +kernel
theorem dX6_goesOver_52 : decode cX6_goesOver 52 = .ok (.iload 5, 2) := by decide +kernel
theorem dX6_goesOver_54 : decode cX6_goesOver 54 = .ok (.iaload, 1) := by decide +kernel
theorem dX6_goesOver_55 : decode cX6_goesOver 55 = .ok (.aload_n 0, 1) := by decide +kernel
theorem dX6_goesOver_56 : decode cX6_goesOver 56 = .ok (.getfield 71, 3) := by decide +kernel
theorem dX6_goesOver_59 : decode cX6_goesOver 59 = .ok (.iload_n 3, 1) := by decide +kernel
theorem dX6_goesOver_60 : decode cX6_goesOver 60 = .ok (.iaload, 1) := by decide +kernel
theorem dX6_goesOver_61 : decode cX6_goesOver 61 = .ok (.if_icmp .ne 21, 3) := by decide +kernel
theorem dX6_goesOver_64 : decode cX6_goesOver 64 = .ok (.aload_n 0, 1) := by decide +kernel
theorem dX6_goesOver_65 : decode cX6_goesOver 65 = .ok (.getfield 74, 3) := by decide +kernel
theorem dX6_goesOver_68 : decode cX6_goesOver 68 = .ok (.iload 5, 2) := by decide +kernel
theorem dX6_goesOver_70 : decode cX6_goesOver 70 = .ok (.iaload, 1) := by decide +kernel
theorem dX6_goesOver_71 : decode cX6_goesOver 71 = .ok (.aload_n 0, 1) := by decide +kernel
theorem dX6_goesOver_72 : decode cX6_goesOver 72 = .ok (.getfield 167, 3) := by decide +kernel
theorem dX6_goesOver_75 : decode cX6_goesOver 75 = .ok (.if_icmp .lt 7, 3) := by decide +kernel
theorem dX6_goesOver_78 : decode cX6_goesOver 78 = .ok (.iconst 1, 1) := by decide +kernel
theorem dX6_goesOver_79 : decode cX6_goesOver 79 = .ok (.goto 4, 3) := by decide +kernel
theorem dX6_goesOver_82 : decode cX6_goesOver 82 = .ok (.iconst 0, 1) := by decide +kernel
theorem dX6_goesOver_83 : decode cX6_goesOver 83 = .ok (.istore 6, 2) := by decide +kernel
theorem dX6_goesOver_85 : decode cX6_goesOver 85 = .ok (.iload 6, 2) := by decide +kernel
theorem dX6_goesOver_87 : decode cX6_goesOver 87 = .ok (.ifCond .eq 31, 3) := by decide +kernel
theorem dX6_goesOver_90 : decode cX6_goesOver 90 = .ok (.iload 4, 2) := by decide +kernel
theorem dX6_goesOver_92 : decode cX6_goesOver 92 = .ok (.iconst (-1), 1) := by decide +kernel
theorem dX6_goesOver_93 : decode cX6_goesOver 93 = .ok (.if_icmp .eq 20, 3) := by decide +kernel
theorem dX6_goesOver_96 : decode cX6_goesOver 96 = .ok (.aload_n 0, 1) := by decide +kernel
theorem dX6_goesOver_97 : decode cX6_goesOver 97 = .ok (.getfield 74, 3) := by decide +kernel
theorem dX6_goesOver_100 : decode cX6_goesOver 100 = .ok (.iload 5, 2) := by decide +kernel
theorem dX6_goesOver_102 : decode cX6_goesOver 102 = .ok (.iaload, 1) := by decide +kernel
theorem dX6_goesOver_103 : decode cX6_goesOver 103 = .ok (.aload_n 0, 1) := by decide +kernel
theorem dX6_goesOver_104 : decode cX6_goesOver 104 = .ok (.getfield 74, 3) := by decide +kernel
theorem dX6_goesOver_107 : decode cX6_goesOver 107 = .ok (.iload 4, 2) := by decide +kernel
theorem dX6_goesOver_109 : decode cX6_goesOver 109 = .ok (.iaload, 1) := by decide +kernel
theorem dX6_goesOver_110 : decode cX6_goesOver 110 = .ok (.if_icmp .ge 8, 3) := by decide +kernel
theorem dX6_goesOver_113 : decode cX6_goesOver 113 = .ok (.iload 5, 2) := by decide +kernel
theorem dX6_goesOver_115 : decode cX6_goesOver 115 = .ok (.goto 5, 3) := by decide +kernel
theorem dX6_goesOver_118 : decode cX6_goesOver 118 = .ok (.iload 4, 2) := by decide +kernel
theorem dX6_goesOver_120 : decode cX6_goesOver 120 = .ok (.istore 4, 2) := by decide +kernel
theorem dX6_goesOver_122 : decode cX6_goesOver 122 = .ok (.iinc 5 1, 3) := by decide +kernel
theorem dX6_goesOver_125 : decode cX6_goesOver 125 = .ok (.goto (-112), 3) := by decide +kernel
theorem dX6_goesOver_128 : decode cX6_goesOver 128 = .ok (.aload_n 0, 1) := by decide +kernel
theorem dX6_goesOver_129 : decode cX6_goesOver 129 = .ok (.getfield 125, 3) := by decide +kernel
theorem dX6_goesOver_132 : decode cX6_goesOver 132 = .ok (.iload_n 1, 1) := by decide +kernel
theorem dX6_goesOver_133 : decode cX6_goesOver 133 = .ok (.iload_n 2, 1) := by decide +kernel
theorem dX6_goesOver_134 : decode cX6_goesOver 134 = .ok (.iastore, 1) := by decide +kernel
theorem dX6_goesOver_135 : decode cX6_goesOver 135 = .ok (.aload_n 0, 1) := by decide +kernel
theorem dX6_goesOver_136 : decode cX6_goesOver 136 = .ok (.getfield 122, 3) := by decide +kernel
theorem dX6_goesOver_139 : decode cX6_goesOver 139 = .ok (.iload_n 1, 1) := by decide +kernel
theorem dX6_goesOver_140 : decode cX6_goesOver 140 = .ok (.dup2, 1) := by decide +kernel
theorem dX6_goesOver_141 : decode cX6_goesOver 141 = .ok (.iaload, 1) := by decide +kernel
theorem dX6_goesOver_142 : decode cX6_goesOver 142 = .ok (.iconst 1, 1) := by decide +kernel
theorem dX6_goesOver_143 : decode cX6_goesOver 143 = .ok (.iadd, 1) := by decide +kernel
theorem dX6_goesOver_144 : decode cX6_goesOver 144 = .ok (.iastore, 1) := by decide +kernel
theorem dX6_goesOver_145 : decode cX6_goesOver 145 = .ok (.iload 4, 2) := by decide +kernel
theorem dX6_goesOver_147 : decode cX6_goesOver 147 = .ok (.iconst (-1), 1) := by decide +kernel
theorem dX6_goesOver_148 : decode cX6_goesOver 148 = .ok (.if_icmp .ne 13, 3) := by decide +kernel
theorem dX6_goesOver_151 : decode cX6_goesOver 151 = .ok (.aload_n 0, 1) := by decide +kernel
theorem dX6_goesOver_152 : decode cX6_goesOver 152 = .ok (.getfield 98, 3) := by decide +kernel
theorem dX6_goesOver_155 : decode cX6_goesOver 155 = .ok (.iload_n 1, 1) := by decide +kernel
theorem dX6_goesOver_156 : decode cX6_goesOver 156 = .ok (.iconst 3, 1) := by decide +kernel
theorem dX6_goesOver_157 : decode cX6_goesOver 157 = .ok (.iastore, 1) := by decide +kernel
theorem dX6_goesOver_158 : decode cX6_goesOver 158 = .ok (.goto 11, 3) := by decide +kernel
theorem dX6_goesOver_161 : decode cX6_goesOver 161 = .ok (.aload_n 0, 1) := by decide +kernel
theorem dX6_goesOver_162 : decode cX6_goesOver 162 = .ok (.getfield 101, 3) := by decide +kernel
theorem dX6_goesOver_165 : decode cX6_goesOver 165 = .ok (.iload_n 1, 1) := by decide +kernel
theorem dX6_goesOver_166 : decode cX6_goesOver 166 = .ok (.iload 4, 2) := by decide +kernel
theorem dX6_goesOver_168 : decode cX6_goesOver 168 = .ok (.iastore, 1) := by decide +kernel
theorem dX6_goesOver_169 : decode cX6_goesOver 169 = .ok (.return_, 1) := by decide +kernel
set_option maxRecDepth 20000 in
theorem ggX6_cancel_X6_goesOver : GoodIn wsX6_cancel wsX6_goesOver := goodIn_r _ [12, 6, 13, 1, 14, 4, 15, 16, 17, 18, 7, 19, 20, 21, 22, 23, 24, 25, 26, 27, 28, 29, 30, 31, 32, 33, 34, 35, 36, 37, 38, 39, 40, 41, 42, 43, 44, 45, 46, 47, 48, 49, 50, 51, 52, 53, 54, 55, 56, 57, 58, 59, 60, 61, 62, 63, 64, 65, 66, 67] (by decide +kernel) (by decide +kernel)
set_option maxRecDepth 20000 in
theorem gX6_cancel_X6_goesOver : GoodIn wsX6_cancel (wsV RX6 205 RX6 yX6_goesOver wsX6_goesOver) := goodIn_app (goodIn_of _ (by decide +kernel)) ggX6_cancel_X6_goesOver
theorem dX6_cancel_0 : decode cX6_cancel 0 = .ok (.aload_n 0, 1) := by decide +kernel
theorem dX6_cancel_1 : decode cX6_cancel 1 = .ok (.getfield 62, 3) := by decide +kernel
theorem dX6_cancel_4 : decode cX6_cancel 4 = .ok (.iload_n 1, 1) := by decide +kernel
theorem dX6_cancel_5 : decode cX6_cancel 5 = .ok (.iconst 3, 1) := by decide +kernel
theorem dX6_cancel_6 : decode cX6_cancel 6 = .ok (.iastore, 1) := by decide +kernel
theorem dX6_cancel_7 : decode cX6_cancel 7 = .ok (.aload_n 0, 1) := by decide +kernel
theorem dX6_cancel_8 : decode cX6_cancel 8 = .ok (.getfield 83, 3) := by decide +kernel
theorem dX6_cancel_11 : decode cX6_cancel 11 = .ok (.iload_n 1, 1) := by decide +kernel
theorem dX6_cancel_12 : decode cX6_cancel 12 = .ok (.iload_n 2, 1) := by decide +kernel
theorem dX6_cancel_13 : decode cX6_cancel 13 = .ok (.iastore, 1) := by decide +kernel
theorem dX6_cancel_14 : decode cX6_cancel 14 = .ok (.aload_n 0, 1) := by decide +kernel
theorem dX6_cancel_15 : decode cX6_cancel 15 = .ok (.getfield 29, 3) := by decide +kernel
theorem dX6_cancel_18 : decode cX6_cancel 18 = .ok (.aload_n 0, 1) := by decide +kernel
theorem dX6_cancel_19 : decode cX6_cancel 19 = .ok (.getfield 71, 3) := by decide +kernel
theorem dX6_cancel_22 : decode cX6_cancel 22 = .ok (.iload_n 1, 1) := by decide +kernel
theorem dX6_cancel_23 : decode cX6_cancel 23 = .ok (.iaload, 1) := by decide +kernel
theorem dX6_cancel_24 : decode cX6_cancel 24 = .ok (.aload_n 0, 1) := by decide +kernel
theorem dX6_cancel_25 : decode cX6_cancel 25 = .ok (.getfield 29, 3) := by decide +kernel
theorem dX6_cancel_28 : decode cX6_cancel 28 = .ok (.aload_n 0, 1) := by decide +kernel
theorem dX6_cancel_29 : decode cX6_cancel 29 = .ok (.getfield 71, 3) := by decide +kernel
theorem dX6_cancel_32 : decode cX6_cancel 32 = .ok (.iload_n 1, 1) := by decide +kernel
theorem dX6_cancel_33 : decode cX6_cancel 33 = .ok (.iaload, 1) := by decide +kernel
theorem dX6_cancel_34 : decode cX6_cancel 34 = .ok (.iaload, 1) := by decide +kernel
theorem dX6_cancel_35 : decode cX6_cancel 35 = .ok (.ifCond .ne 7, 3) := by decide +kernel
theorem dX6_cancel_38 : decode cX6_cancel 38 = .ok (.iload_n 2, 1) := by decide +kernel
theorem dX6_cancel_39 : decode cX6_cancel 39 = .ok (.goto 14, 3) := by decide +kernel
theorem dX6_cancel_42 : decode cX6_cancel 42 = .ok (.aload_n 0, 1) := by decide +kernel
theorem dX6_cancel_43 : decode cX6_cancel 43 = .ok (.getfield 29, 3) := by decide +kernel
theorem dX6_cancel_46 : decode cX6_cancel 46 = .ok (.aload_n 0, 1) := by decide +kernel
theorem dX6_cancel_47 : decode cX6_cancel 47 = .ok (.getfield 71, 3) := by decide +kernel
theorem dX6_cancel_50 : decode cX6_cancel 50 = .ok (.iload_n 1, 1) := by decide +kernel
theorem dX6_cancel_51 : decode cX6_cancel 51 = .ok (.iaload, 1) := by decide +kernel
theorem dX6_cancel_52 : decode cX6_cancel 52 = .ok (.iaload, 1) := by decide +kernel
theorem dX6_cancel_53 : decode cX6_cancel 53 = .ok (.iastore, 1) := by decide +kernel
theorem dX6_cancel_54 : decode cX6_cancel 54 = .ok (.iconst 0, 1) := by decide +kernel
theorem dX6_cancel_55 : decode cX6_cancel 55 = .ok (.istore_n 3, 1) := by decide +kernel
theorem dX6_cancel_56 : decode cX6_cancel 56 = .ok (.iload_n 3, 1) := by decide +kernel
theorem dX6_cancel_57 : decode cX6_cancel 57 = .ok (.aload_n 0, 1) := by decide +kernel
theorem dX6_cancel_58 : decode cX6_cancel 58 = .ok (.getfield 173, 3) := by decide +kernel
theorem dX6_cancel_61 : decode cX6_cancel 61 = .ok (.if_icmp .ge 34, 3) := by decide +kernel
theorem dX6_cancel_64 : decode cX6_cancel 64 = .ok (.aload_n 0, 1) := by decide +kernel
theorem dX6_cancel_65 : decode cX6_cancel 65 = .ok (.getfield 101, 3) := by decide +kernel
theorem dX6_cancel_68 : decode cX6_cancel 68 = .ok (.iload_n 3, 1) := by decide +kernel
theorem dX6_cancel_69 : decode cX6_cancel 69 = .ok (.iaload, 1) := by decide +kernel
theorem dX6_cancel_70 : decode cX6_cancel 70 = .ok (.iload_n 1, 1) := by decide +kernel
theorem dX6_cancel_71 : decode cX6_cancel 71 = .ok (.if_icmp .ne 18, 3) := by decide +kernel
theorem dX6_cancel_74 : decode cX6_cancel 74 = .ok (.aload_n 0, 1) := by decide +kernel
theorem dX6_cancel_75 : decode cX6_cancel 75 = .ok (.getfield 98, 3) := by decide +kernel
theorem dX6_cancel_78 : decode cX6_cancel 78 = .ok (.iload_n 3, 1) := by decide +kernel
theorem dX6_cancel_79 : decode cX6_cancel 79 = .ok (.iaload, 1) := by decide +kernel
theorem dX6_cancel_80 : decode cX6_cancel 80 = .ok (.ifCond .ne 9, 3) := by decide +kernel
theorem dX6_cancel_83 : decode cX6_cancel 83 = .ok (.aload_n 0, 1) := by decide +kernel
theorem dX6_cancel_84 : decode cX6_cancel 84 = .ok (.iload_n 3, 1) := by decide +kernel
theorem dX6_cancel_85 : decode cX6_cancel 85 = .ok (.iconst 5, 1) := by decide +kernel
theorem dX6_cancel_86 : decode cX6_cancel 86 = .ok (.invokevirtual 205, 3) := by decide +kernel
theorem dX6_cancel_89 : decode cX6_cancel 89 = .ok (.iinc 3 1, 3) := by decide +kernel
theorem dX6_cancel_92 : decode cX6_cancel 92 = .ok (.goto (-36), 3) := by decide +kernel
theorem dX6_cancel_95 : decode cX6_cancel 95 = .ok (.return_, 1) := by decide +kernel
set_option maxRecDepth 20000 in
theorem ggX6_depart_X6_reasonOf : GoodIn wsX6_depart wsX6_reasonOf := goodIn_r _ [12, 4, 13, 14, 15, 16, 17, 18, 11, 19, 20, 3, 21, 22, 23, 24, 25, 26, 2, 27, 28, 29, 30, 31, 32, 33, 34, 35, 36, 37, 38, 39, 40, 41, 42, 43, 44, 45, 46, 47, 48, 49, 50, 51, 52, 53, 105, 106, 107, 108, 109, 110, 111, 112, 113, 114, 115, 116, 117, 118, 119, 120, 121, 122, 123, 124, 125, 126, 127, 128, 129, 130, 131, 132, 133, 134, 135, 136, 137, 138, 139, 140, 141, 142, 143, 144, 145, 146, 147, 148, 149, 150, 151, 152, 153] (by decide +kernel) (by decide +kernel)
set_option maxRecDepth 20000 in
theorem gX6_depart_X6_reasonOf : GoodIn wsX6_depart (wsV RX6 209 RX6 yX6_reasonOf wsX6_reasonOf) := goodIn_app (goodIn_of _ (by decide +kernel)) ggX6_depart_X6_reasonOf
set_option maxRecDepth 20000 in
theorem ggX6_depart_X6_cancel : GoodIn wsX6_depart wsX6_cancel := goodIn_r _ [57, 2, 58, 59, 15, 5, 60, 61, 62, 63, 64, 11, 65, 26, 14, 27, 1, 66, 67, 105, 106, 107, 108, 109, 110, 111, 112, 113, 114, 115, 116, 117, 118, 119, 120, 121, 122, 123, 124, 125, 126, 127, 128, 129, 130, 131, 132, 133, 134, 135, 136, 137, 138, 139, 140, 141, 142, 143, 144, 145, 146, 147, 148, 149, 150, 151, 152, 153] (by decide +kernel) (by decide +kernel)
set_option maxRecDepth 20000 in
theorem gX6_depart_X6_cancel : GoodIn wsX6_depart (wsV RX6 212 RX6 yX6_cancel wsX6_cancel) := goodIn_app (goodIn_of _ (by decide +kernel)) ggX6_depart_X6_cancel
set_option maxRecDepth 20000 in
theorem ggX6_depart_X6_nextOf : GoodIn wsX6_depart wsX6_nextOf := goodIn_r _ [71, 5, 60, 61, 6, 72, 73, 74, 11, 75, 76, 77, 67, 105, 106, 107, 108, 109, 110, 111, 112, 113, 114, 115, 116, 117, 118, 119, 120, 121, 122, 123, 124, 125, 126, 127, 128, 129, 130, 131, 132, 133, 134, 135, 136, 137, 138, 139, 140, 141, 142, 143, 144, 145, 146, 147, 148, 149, 150, 151, 152, 153] (by decide +kernel) (by decide +kernel)
set_option maxRecDepth 20000 in
theorem gX6_depart_X6_nextOf : GoodIn wsX6_depart (wsV RX6 215 RX6 yX6_nextOf wsX6_nextOf) := goodIn_app (goodIn_of _ (by decide +kernel)) ggX6_depart_X6_nextOf
set_option maxRecDepth 20000 in
theorem ggX6_depart_X6_whyNot : GoodIn wsX6_depart wsX6_whyNot := goodIn_r _ [81, 5, 60, 61, 82, 83, 84, 85, 4, 86, 87, 88, 11, 89, 90, 91, 92, 93, 94, 95, 96, 97, 105, 106, 107, 108, 109, 110, 111, 112, 113, 114, 115, 116, 117, 118, 119, 120, 121, 122, 123, 124, 125, 126, 127, 128, 129, 130, 131, 132, 133, 134, 135, 136, 137, 138, 139, 140, 141, 142, 143, 144, 145, 146, 147, 148, 149, 150, 151, 152, 153] (by decide +kernel) (by decide +kernel)
set_option maxRecDepth 20000 in
theorem gX6_depart_X6_whyNot : GoodIn wsX6_depart (wsV RX6 219 RX6 yX6_whyNot wsX6_whyNot) := goodIn_app (goodIn_of _ (by decide +kernel)) ggX6_depart_X6_whyNot
set_option maxRecDepth 20000 in
theorem ggX6_depart_X6_goesOver : GoodIn wsX6_depart wsX6_goesOver := goodIn_r _ [65, 60, 26, 2, 14, 15, 27, 1, 66, 67, 61, 105, 106, 107, 108, 109, 110, 111, 112, 113, 114, 115, 116, 117, 118, 119, 120, 121, 122, 123, 124, 125, 126, 127, 128, 129, 130, 131, 132, 133, 134, 135, 136, 137, 138, 139, 140, 141, 142, 143, 144, 145, 146, 147, 148, 149, 150, 151, 152, 153] (by decide +kernel) (by decide +kernel)
set_option maxRecDepth 20000 in
theorem gX6_depart_X6_goesOver : GoodIn wsX6_depart (wsV RX6 205 RX6 yX6_goesOver wsX6_goesOver) := goodIn_app (goodIn_of _ (by decide +kernel)) ggX6_depart_X6_goesOver
set_option maxRecDepth 20000 in
theorem ggX6_depart_X6_comes : GoodIn wsX6_depart wsX6_comes := goodIn_r _ [101, 83, 61, 102, 103, 104, 84, 90, 91, 93, 94, 95, 11, 96, 97, 4, 86, 87, 88, 89, 92, 105, 106, 107, 108, 109, 110, 111, 112, 113, 114, 115, 116, 117, 118, 119, 120, 121, 122, 123, 124, 125, 126, 127, 128, 129, 130, 131, 132, 133, 134, 135, 136, 137, 138, 139, 140, 141, 142, 143, 144, 145, 146, 147, 148, 149, 150, 151, 152, 153] (by decide +kernel) (by decide +kernel)
set_option maxRecDepth 20000 in
theorem gX6_depart_X6_comes : GoodIn wsX6_depart (wsV RX6 222 RX6 yX6_comes wsX6_comes) := goodIn_app (goodIn_of _ (by decide +kernel)) ggX6_depart_X6_comes
theorem dX6_depart_0 : decode cX6_depart 0 = .ok (.aload_n 0, 1) := by decide +kernel
theorem dX6_depart_1 : decode cX6_depart 1 = .ok (.iload_n 1, 1) := by decide +kernel
theorem dX6_depart_2 : decode cX6_depart 2 = .ok (.aload_n 0, 1) := by decide +kernel
theorem dX6_depart_3 : decode cX6_depart 3 = .ok (.getfield 167, 3) := by decide +kernel
theorem dX6_depart_6 : decode cX6_depart 6 = .ok (.invokevirtual 209, 3) := by decide +kernel
theorem dX6_depart_9 : decode cX6_depart 9 = .ok (.istore_n 2, 1) := by decide +kernel
theorem dX6_depart_10 : decode cX6_depart 10 = .ok (.iload_n 2, 1) := by decide +kernel
theorem dX6_depart_11 : decode cX6_depart 11 = .ok (.ifCond .le 10, 3) := by decide +kernel
theorem dX6_depart_14 : decode cX6_depart 14 = .ok (.aload_n 0, 1) := by decide +kernel
theorem dX6_depart_15 : decode cX6_depart 15 = .ok (.iload_n 1, 1) := by decide +kernel
theorem dX6_depart_16 : decode cX6_depart 16 = .ok (.iload_n 2, 1) := by decide +kernel
theorem dX6_depart_17 : decode cX6_depart 17 = .ok (.invokevirtual 212, 3) := by decide +kernel
theorem dX6_depart_20 : decode cX6_depart 20 = .ok (.return_, 1) := by decide +kernel
theorem dX6_depart_21 : decode cX6_depart 21 = .ok (.aload_n 0, 1) := by decide +kernel
theorem dX6_depart_22 : decode cX6_depart 22 = .ok (.getfield 62, 3) := by decide +kernel
theorem dX6_depart_25 : decode cX6_depart 25 = .ok (.iload_n 1, 1) := by decide +kernel
theorem dX6_depart_26 : decode cX6_depart 26 = .ok (.iconst 1, 1) := by decide +kernel
theorem dX6_depart_27 : decode cX6_depart 27 = .ok (.iastore, 1) := by decide +kernel
theorem dX6_depart_28 : decode cX6_depart 28 = .ok (.aload_n 0, 1) := by decide +kernel
theorem dX6_depart_29 : decode cX6_depart 29 = .ok (.getfield 56, 3) := by decide +kernel
theorem dX6_depart_32 : decode cX6_depart 32 = .ok (.aload_n 0, 1) := by decide +kernel
theorem dX6_depart_33 : decode cX6_depart 33 = .ok (.getfield 65, 3) := by decide +kernel
theorem dX6_depart_36 : decode cX6_depart 36 = .ok (.iload_n 1, 1) := by decide +kernel
theorem dX6_depart_37 : decode cX6_depart 37 = .ok (.iaload, 1) := by decide +kernel
theorem dX6_depart_38 : decode cX6_depart 38 = .ok (.iconst (-1), 1) := by decide +kernel
theorem dX6_depart_39 : decode cX6_depart 39 = .ok (.iastore, 1) := by decide +kernel
theorem dX6_depart_40 : decode cX6_depart 40 = .ok (.iconst 0, 1) := by decide +kernel
theorem dX6_depart_41 : decode cX6_depart 41 = .ok (.istore_n 3, 1) := by decide +kernel
theorem dX6_depart_42 : decode cX6_depart 42 = .ok (.iload_n 3, 1) := by decide +kernel
theorem dX6_depart_43 : decode cX6_depart 43 = .ok (.aload_n 0, 1) := by decide +kernel
theorem dX6_depart_44 : decode cX6_depart 44 = .ok (.getfield 173, 3) := by decide +kernel
theorem dX6_depart_47 : decode cX6_depart 47 = .ok (.if_icmp .ge 16, 3) := by decide +kernel
theorem dX6_depart_50 : decode cX6_depart 50 = .ok (.aload_n 0, 1) := by decide +kernel
theorem dX6_depart_51 : decode cX6_depart 51 = .ok (.getfield 134, 3) := by decide +kernel
theorem dX6_depart_54 : decode cX6_depart 54 = .ok (.iload_n 3, 1) := by decide +kernel
theorem dX6_depart_55 : decode cX6_depart 55 = .ok (.iconst 0, 1) := by decide +kernel
theorem dX6_depart_56 : decode cX6_depart 56 = .ok (.bastore, 1) := by decide +kernel
theorem dX6_depart_57 : decode cX6_depart 57 = .ok (.iinc 3 1, 3) := by decide +kernel
theorem dX6_depart_60 : decode cX6_depart 60 = .ok (.goto (-18), 3) := by decide +kernel
theorem dX6_depart_63 : decode cX6_depart 63 = .ok (.aload_n 0, 1) := by decide +kernel
theorem dX6_depart_64 : decode cX6_depart 64 = .ok (.iload_n 1, 1) := by decide +kernel
theorem dX6_depart_65 : decode cX6_depart 65 = .ok (.invokevirtual 215, 3) := by decide +kernel
theorem dX6_depart_68 : decode cX6_depart 68 = .ok (.istore_n 3, 1) := by decide +kernel
theorem dX6_depart_69 : decode cX6_depart 69 = .ok (.iload_n 3, 1) := by decide +kernel
theorem dX6_depart_70 : decode cX6_depart 70 = .ok (.iconst (-1), 1) := by decide +kernel
theorem dX6_depart_71 : decode cX6_depart 71 = .ok (.if_icmp .eq 58, 3) := by decide +kernel
theorem dX6_depart_74 : decode cX6_depart 74 = .ok (.aload_n 0, 1) := by decide +kernel
theorem dX6_depart_75 : decode cX6_depart 75 = .ok (.getfield 134, 3) := by decide +kernel
theorem dX6_depart_78 : decode cX6_depart 78 = .ok (.iload_n 3, 1) := by decide +kernel
theorem dX6_depart_79 : decode cX6_depart 79 = .ok (.iconst 1, 1) := by decide +kernel
theorem dX6_depart_80 : decode cX6_depart 80 = .ok (.bastore, 1) := by decide +kernel
theorem dX6_depart_81 : decode cX6_depart 81 = .ok (.aload_n 0, 1) := by decide +kernel
theorem dX6_depart_82 : decode cX6_depart 82 = .ok (.iload_n 1, 1) := by decide +kernel
theorem dX6_depart_83 : decode cX6_depart 83 = .ok (.iload_n 3, 1) := by decide +kernel
theorem dX6_depart_84 : decode cX6_depart 84 = .ok (.invokevirtual 219, 3) := by decide +kernel
theorem dX6_depart_87 : decode cX6_depart 87 = .ok (.istore 4, 2) := by decide +kernel
theorem dX6_depart_89 : decode cX6_depart 89 = .ok (.iload 4, 2) := by decide +kernel
theorem dX6_depart_91 : decode cX6_depart 91 = .ok (.ifCond .le 23, 3) := by decide +kernel
theorem dX6_depart_94 : decode cX6_depart 94 = .ok (.aload_n 0, 1) := by decide +kernel
theorem dX6_depart_95 : decode cX6_depart 95 = .ok (.getfield 89, 3) := by decide +kernel
theorem dX6_depart_98 : decode cX6_depart 98 = .ok (.iload_n 1, 1) := by decide +kernel
theorem dX6_depart_99 : decode cX6_depart 99 = .ok (.dup2, 1) := by decide +kernel
theorem dX6_depart_100 : decode cX6_depart 100 = .ok (.iaload, 1) := by decide +kernel
theorem dX6_depart_101 : decode cX6_depart 101 = .ok (.iconst 1, 1) := by decide +kernel
theorem dX6_depart_102 : decode cX6_depart 102 = .ok (.iadd, 1) := by decide +kernel
theorem dX6_depart_103 : decode cX6_depart 103 = .ok (.iastore, 1) := by decide +kernel
theorem dX6_depart_104 : decode cX6_depart 104 = .ok (.aload_n 0, 1) := by decide +kernel
theorem dX6_depart_105 : decode cX6_depart 105 = .ok (.iload_n 3, 1) := by decide +kernel
theorem dX6_depart_106 : decode cX6_depart 106 = .ok (.iload 4, 2) := by decide +kernel
theorem dX6_depart_108 : decode cX6_depart 108 = .ok (.invokevirtual 205, 3) := by decide +kernel
theorem dX6_depart_111 : decode cX6_depart 111 = .ok (.goto 9, 3) := by decide +kernel
theorem dX6_depart_114 : decode cX6_depart 114 = .ok (.aload_n 0, 1) := by decide +kernel
theorem dX6_depart_115 : decode cX6_depart 115 = .ok (.iload_n 1, 1) := by decide +kernel
theorem dX6_depart_116 : decode cX6_depart 116 = .ok (.iload_n 3, 1) := by decide +kernel
theorem dX6_depart_117 : decode cX6_depart 117 = .ok (.invokevirtual 222, 3) := by decide +kernel
theorem dX6_depart_120 : decode cX6_depart 120 = .ok (.aload_n 0, 1) := by decide +kernel
theorem dX6_depart_121 : decode cX6_depart 121 = .ok (.iload_n 1, 1) := by decide +kernel
theorem dX6_depart_122 : decode cX6_depart 122 = .ok (.invokevirtual 215, 3) := by decide +kernel
theorem dX6_depart_125 : decode cX6_depart 125 = .ok (.istore_n 3, 1) := by decide +kernel
theorem dX6_depart_126 : decode cX6_depart 126 = .ok (.goto (-57), 3) := by decide +kernel
theorem dX6_depart_129 : decode cX6_depart 129 = .ok (.return_, 1) := by decide +kernel
theorem dX6_arrive_0 : decode cX6_arrive 0 = .ok (.aload_n 0, 1) := by decide +kernel
theorem dX6_arrive_1 : decode cX6_arrive 1 = .ok (.getfield 71, 3) := by decide +kernel
theorem dX6_arrive_4 : decode cX6_arrive 4 = .ok (.iload_n 1, 1) := by decide +kernel
theorem dX6_arrive_5 : decode cX6_arrive 5 = .ok (.iaload, 1) := by decide +kernel
theorem dX6_arrive_6 : decode cX6_arrive 6 = .ok (.istore_n 2, 1) := by decide +kernel
theorem dX6_arrive_7 : decode cX6_arrive 7 = .ok (.aload_n 0, 1) := by decide +kernel
theorem dX6_arrive_8 : decode cX6_arrive 8 = .ok (.getfield 62, 3) := by decide +kernel
theorem dX6_arrive_11 : decode cX6_arrive 11 = .ok (.iload_n 1, 1) := by decide +kernel
theorem dX6_arrive_12 : decode cX6_arrive 12 = .ok (.iconst 2, 1) := by decide +kernel
theorem dX6_arrive_13 : decode cX6_arrive 13 = .ok (.iastore, 1) := by decide +kernel
theorem dX6_arrive_14 : decode cX6_arrive 14 = .ok (.aload_n 0, 1) := by decide +kernel
theorem dX6_arrive_15 : decode cX6_arrive 15 = .ok (.getfield 56, 3) := by decide +kernel
theorem dX6_arrive_18 : decode cX6_arrive 18 = .ok (.aload_n 0, 1) := by decide +kernel
theorem dX6_arrive_19 : decode cX6_arrive 19 = .ok (.getfield 65, 3) := by decide +kernel
theorem dX6_arrive_22 : decode cX6_arrive 22 = .ok (.iload_n 1, 1) := by decide +kernel
theorem dX6_arrive_23 : decode cX6_arrive 23 = .ok (.iaload, 1) := by decide +kernel
theorem dX6_arrive_24 : decode cX6_arrive 24 = .ok (.iload_n 2, 1) := by decide +kernel
theorem dX6_arrive_25 : decode cX6_arrive 25 = .ok (.iastore, 1) := by decide +kernel
theorem dX6_arrive_26 : decode cX6_arrive 26 = .ok (.iconst 0, 1) := by decide +kernel
theorem dX6_arrive_27 : decode cX6_arrive 27 = .ok (.istore_n 3, 1) := by decide +kernel
theorem dX6_arrive_28 : decode cX6_arrive 28 = .ok (.iload_n 3, 1) := by decide +kernel
theorem dX6_arrive_29 : decode cX6_arrive 29 = .ok (.aload_n 0, 1) := by decide +kernel
theorem dX6_arrive_30 : decode cX6_arrive 30 = .ok (.getfield 173, 3) := by decide +kernel
theorem dX6_arrive_33 : decode cX6_arrive 33 = .ok (.if_icmp .ge 45, 3) := by decide +kernel
theorem dX6_arrive_36 : decode cX6_arrive 36 = .ok (.aload_n 0, 1) := by decide +kernel
theorem dX6_arrive_37 : decode cX6_arrive 37 = .ok (.getfield 98, 3) := by decide +kernel
theorem dX6_arrive_40 : decode cX6_arrive 40 = .ok (.iload_n 3, 1) := by decide +kernel
theorem dX6_arrive_41 : decode cX6_arrive 41 = .ok (.aload_n 0, 1) := by decide +kernel
theorem dX6_arrive_42 : decode cX6_arrive 42 = .ok (.getfield 101, 3) := by decide +kernel
theorem dX6_arrive_45 : decode cX6_arrive 45 = .ok (.iload_n 3, 1) := by decide +kernel
theorem dX6_arrive_46 : decode cX6_arrive 46 = .ok (.iaload, 1) := by decide +kernel
theorem dX6_arrive_47 : decode cX6_arrive 47 = .ok (.iload_n 1, 1) := by decide +kernel
theorem dX6_arrive_48 : decode cX6_arrive 48 = .ok (.if_icmp .ne 17, 3) := by decide +kernel
theorem dX6_arrive_51 : decode cX6_arrive 51 = .ok (.aload_n 0, 1) := by decide +kernel
theorem dX6_arrive_52 : decode cX6_arrive 52 = .ok (.getfield 98, 3) := by decide +kernel
theorem dX6_arrive_55 : decode cX6_arrive 55 = .ok (.iload_n 3, 1) := by decide +kernel
theorem dX6_arrive_56 : decode cX6_arrive 56 = .ok (.iaload, 1) := by decide +kernel
theorem dX6_arrive_57 : decode cX6_arrive 57 = .ok (.iconst 1, 1) := by decide +kernel
theorem dX6_arrive_58 : decode cX6_arrive 58 = .ok (.if_icmp .ne 7, 3) := by decide +kernel
theorem dX6_arrive_61 : decode cX6_arrive 61 = .ok (.iconst 2, 1) := by decide +kernel
theorem dX6_arrive_62 : decode cX6_arrive 62 = .ok (.goto 9, 3) := by decide +kernel
theorem dX6_arrive_65 : decode cX6_arrive 65 = .ok (.aload_n 0, 1) := by decide +kernel
theorem dX6_arrive_66 : decode cX6_arrive 66 = .ok (.getfield 98, 3) := by decide +kernel
theorem dX6_arrive_69 : decode cX6_arrive 69 = .ok (.iload_n 3, 1) := by decide +kernel
theorem dX6_arrive_70 : decode cX6_arrive 70 = .ok (.iaload, 1) := by decide +kernel
theorem dX6_arrive_71 : decode cX6_arrive 71 = .ok (.iastore, 1) := by decide +kernel
theorem dX6_arrive_72 : decode cX6_arrive 72 = .ok (.iinc 3 1, 3) := by decide +kernel
theorem dX6_arrive_75 : decode cX6_arrive 75 = .ok (.goto (-47), 3) := by decide +kernel
theorem dX6_arrive_78 : decode cX6_arrive 78 = .ok (.aload_n 0, 1) := by decide +kernel
theorem dX6_arrive_79 : decode cX6_arrive 79 = .ok (.getfield 167, 3) := by decide +kernel
theorem dX6_arrive_82 : decode cX6_arrive 82 = .ok (.aload_n 0, 1) := by decide +kernel
theorem dX6_arrive_83 : decode cX6_arrive 83 = .ok (.getfield 26, 3) := by decide +kernel
theorem dX6_arrive_86 : decode cX6_arrive 86 = .ok (.iload_n 2, 1) := by decide +kernel
theorem dX6_arrive_87 : decode cX6_arrive 87 = .ok (.iaload, 1) := by decide +kernel
theorem dX6_arrive_88 : decode cX6_arrive 88 = .ok (.isub, 1) := by decide +kernel
theorem dX6_arrive_89 : decode cX6_arrive 89 = .ok (.aload_n 0, 1) := by decide +kernel
theorem dX6_arrive_90 : decode cX6_arrive 90 = .ok (.getfield 32, 3) := by decide +kernel
theorem dX6_arrive_93 : decode cX6_arrive 93 = .ok (.iload_n 2, 1) := by decide +kernel
theorem dX6_arrive_94 : decode cX6_arrive 94 = .ok (.iaload, 1) := by decide +kernel
theorem dX6_arrive_95 : decode cX6_arrive 95 = .ok (.if_icmp .le 32, 3) := by decide +kernel
theorem dX6_arrive_98 : decode cX6_arrive 98 = .ok (.aload_n 0, 1) := by decide +kernel
theorem dX6_arrive_99 : decode cX6_arrive 99 = .ok (.getfield 32, 3) := by decide +kernel
theorem dX6_arrive_102 : decode cX6_arrive 102 = .ok (.iload_n 2, 1) := by decide +kernel
theorem dX6_arrive_103 : decode cX6_arrive 103 = .ok (.aload_n 0, 1) := by decide +kernel
theorem dX6_arrive_104 : decode cX6_arrive 104 = .ok (.getfield 167, 3) := by decide +kernel
theorem dX6_arrive_107 : decode cX6_arrive 107 = .ok (.aload_n 0, 1) := by decide +kernel
theorem dX6_arrive_108 : decode cX6_arrive 108 = .ok (.getfield 26, 3) := by decide +kernel
theorem dX6_arrive_111 : decode cX6_arrive 111 = .ok (.iload_n 2, 1) := by decide +kernel
theorem dX6_arrive_112 : decode cX6_arrive 112 = .ok (.iaload, 1) := by decide +kernel
theorem dX6_arrive_113 : decode cX6_arrive 113 = .ok (.isub, 1) := by decide +kernel
theorem dX6_arrive_114 : decode cX6_arrive 114 = .ok (.iastore, 1) := by decide +kernel
theorem dX6_arrive_115 : decode cX6_arrive 115 = .ok (.aload_n 0, 1) := by decide +kernel
theorem dX6_arrive_116 : decode cX6_arrive 116 = .ok (.getfield 35, 3) := by decide +kernel
theorem dX6_arrive_119 : decode cX6_arrive 119 = .ok (.iload_n 2, 1) := by decide +kernel
theorem dX6_arrive_120 : decode cX6_arrive 120 = .ok (.aload_n 0, 1) := by decide +kernel
theorem dX6_arrive_121 : decode cX6_arrive 121 = .ok (.getfield 29, 3) := by decide +kernel
theorem dX6_arrive_124 : decode cX6_arrive 124 = .ok (.iload_n 2, 1) := by decide +kernel
theorem dX6_arrive_125 : decode cX6_arrive 125 = .ok (.iaload, 1) := by decide +kernel
theorem dX6_arrive_126 : decode cX6_arrive 126 = .ok (.iastore, 1) := by decide +kernel
theorem dX6_arrive_127 : decode cX6_arrive 127 = .ok (.aload_n 0, 1) := by decide +kernel
theorem dX6_arrive_128 : decode cX6_arrive 128 = .ok (.getfield 26, 3) := by decide +kernel
theorem dX6_arrive_131 : decode cX6_arrive 131 = .ok (.iload_n 2, 1) := by decide +kernel
theorem dX6_arrive_132 : decode cX6_arrive 132 = .ok (.aload_n 0, 1) := by decide +kernel
theorem dX6_arrive_133 : decode cX6_arrive 133 = .ok (.getfield 167, 3) := by decide +kernel
theorem dX6_arrive_136 : decode cX6_arrive 136 = .ok (.iastore, 1) := by decide +kernel
theorem dX6_arrive_137 : decode cX6_arrive 137 = .ok (.aload_n 0, 1) := by decide +kernel
theorem dX6_arrive_138 : decode cX6_arrive 138 = .ok (.getfield 29, 3) := by decide +kernel
theorem dX6_arrive_141 : decode cX6_arrive 141 = .ok (.iload_n 2, 1) := by decide +kernel
theorem dX6_arrive_142 : decode cX6_arrive 142 = .ok (.iconst 0, 1) := by decide +kernel
theorem dX6_arrive_143 : decode cX6_arrive 143 = .ok (.iastore, 1) := by decide +kernel
theorem dX6_arrive_144 : decode cX6_arrive 144 = .ok (.return_, 1) := by decide +kernel
set_option maxRecDepth 20000 in
theorem ggX6_decide_X6_isDark : GoodIn wsX6_decide wsX6_isDark := goodIn_r _ [11, 12, 13, 37, 38, 39, 40, 41, 42, 43, 44, 45, 46, 47, 48, 49, 50, 51, 52, 53, 54, 55, 56, 57, 58, 59, 60, 61, 62, 63, 64, 65, 66, 67, 68, 69, 70, 71, 72, 73, 74, 75, 76, 77, 78, 79, 80, 81, 82, 83, 84, 85] (by decide +kernel) (by decide +kernel)
set_option maxRecDepth 20000 in
theorem gX6_decide_X6_isDark : GoodIn wsX6_decide (wsV RX6 189 RX6 yX6_isDark wsX6_isDark) := goodIn_app (goodIn_of _ (by decide +kernel)) ggX6_decide_X6_isDark
set_option maxRecDepth 20000 in
theorem ggX6_decide_X6_isRough : GoodIn wsX6_decide wsX6_isRough := goodIn_r _ [17, 18, 19, 13, 20, 5, 37, 38, 39, 40, 41, 42, 43, 44, 45, 46, 47, 48, 49, 50, 51, 52, 53, 54, 55, 56, 57, 58, 59, 60, 61, 62, 63, 64, 65, 66, 67, 68, 69, 70, 71, 72, 73, 74, 75, 76, 77, 78, 79, 80, 81, 82, 83, 84, 85] (by decide +kernel) (by decide +kernel)
set_option maxRecDepth 20000 in
theorem gX6_decide_X6_isRough : GoodIn wsX6_decide (wsV RX6 193 RX6 yX6_isRough wsX6_isRough) := goodIn_app (goodIn_of _ (by decide +kernel)) ggX6_decide_X6_isRough
set_option maxRecDepth 20000 in
theorem ggX6_decide_X6_cancel : GoodIn wsX6_decide wsX6_cancel := goodIn_r _ [24, 3, 25, 26, 13, 27, 28, 29, 30, 31, 32, 10, 33, 34, 19, 1, 2, 35, 36, 37, 38, 39, 40, 41, 42, 43, 44, 45, 46, 47, 48, 49, 50, 51, 52, 53, 54, 55, 56, 57, 58, 59, 60, 61, 62, 63, 64, 65, 66, 67, 68, 69, 70, 71, 72, 73, 74, 75, 76, 77, 78, 79, 80, 81, 82, 83, 84, 85] (by decide +kernel) (by decide +kernel)
set_option maxRecDepth 20000 in
theorem gX6_decide_X6_cancel : GoodIn wsX6_decide (wsV RX6 212 RX6 yX6_cancel wsX6_cancel) := goodIn_app (goodIn_of _ (by decide +kernel)) ggX6_decide_X6_cancel
theorem dX6_decide_0 : decode cX6_decide 0 = .ok (.aload_n 0, 1) := by decide +kernel
theorem dX6_decide_1 : decode cX6_decide 1 = .ok (.getfield 74, 3) := by decide +kernel
theorem dX6_decide_4 : decode cX6_decide 4 = .ok (.iload_n 1, 1) := by decide +kernel
theorem dX6_decide_5 : decode cX6_decide 5 = .ok (.iaload, 1) := by decide +kernel
theorem dX6_decide_6 : decode cX6_decide 6 = .ok (.sipush 1440, 3) := by decide +kernel
theorem dX6_decide_9 : decode cX6_decide 9 = .ok (.idiv, 1) := by decide +kernel
theorem dX6_decide_10 : decode cX6_decide 10 = .ok (.aload_n 0, 1) := by decide +kernel
theorem dX6_decide_11 : decode cX6_decide 11 = .ok (.getfield 167, 3) := by decide +kernel
theorem dX6_decide_14 : decode cX6_decide 14 = .ok (.sipush 1440, 3) := by decide +kernel
theorem dX6_decide_17 : decode cX6_decide 17 = .ok (.idiv, 1) := by decide +kernel
theorem dX6_decide_18 : decode cX6_decide 18 = .ok (.if_icmp .ne 7, 3) := by decide +kernel
theorem dX6_decide_21 : decode cX6_decide 21 = .ok (.iconst 1, 1) := by decide +kernel
theorem dX6_decide_22 : decode cX6_decide 22 = .ok (.goto 4, 3) := by decide +kernel
theorem dX6_decide_25 : decode cX6_decide 25 = .ok (.iconst 0, 1) := by decide +kernel
theorem dX6_decide_26 : decode cX6_decide 26 = .ok (.istore_n 2, 1) := by decide +kernel
theorem dX6_decide_27 : decode cX6_decide 27 = .ok (.aload_n 0, 1) := by decide +kernel
theorem dX6_decide_28 : decode cX6_decide 28 = .ok (.getfield 62, 3) := by decide +kernel
theorem dX6_decide_31 : decode cX6_decide 31 = .ok (.iload_n 1, 1) := by decide +kernel
theorem dX6_decide_32 : decode cX6_decide 32 = .ok (.iaload, 1) := by decide +kernel
theorem dX6_decide_33 : decode cX6_decide 33 = .ok (.ifCond .ne 74, 3) := by decide +kernel
theorem dX6_decide_36 : decode cX6_decide 36 = .ok (.iload_n 2, 1) := by decide +kernel
theorem dX6_decide_37 : decode cX6_decide 37 = .ok (.ifCond .eq 70, 3) := by decide +kernel
theorem dX6_decide_40 : decode cX6_decide 40 = .ok (.aload_n 0, 1) := by decide +kernel
theorem dX6_decide_41 : decode cX6_decide 41 = .ok (.getfield 59, 3) := by decide +kernel
theorem dX6_decide_44 : decode cX6_decide 44 = .ok (.aload_n 0, 1) := by decide +kernel
theorem dX6_decide_45 : decode cX6_decide 45 = .ok (.getfield 65, 3) := by decide +kernel
theorem dX6_decide_48 : decode cX6_decide 48 = .ok (.iload_n 1, 1) := by decide +kernel
theorem dX6_decide_49 : decode cX6_decide 49 = .ok (.iaload, 1) := by decide +kernel
theorem dX6_decide_50 : decode cX6_decide 50 = .ok (.baload, 1) := by decide +kernel
theorem dX6_decide_51 : decode cX6_decide 51 = .ok (.ifCond .eq 7, 3) := by decide +kernel
theorem dX6_decide_54 : decode cX6_decide 54 = .ok (.iconst 1, 1) := by decide +kernel
theorem dX6_decide_55 : decode cX6_decide 55 = .ok (.goto 41, 3) := by decide +kernel
theorem dX6_decide_58 : decode cX6_decide 58 = .ok (.aload_n 0, 1) := by decide +kernel
theorem dX6_decide_59 : decode cX6_decide 59 = .ok (.iload_n 1, 1) := by decide +kernel
theorem dX6_decide_60 : decode cX6_decide 60 = .ok (.aload_n 0, 1) := by decide +kernel
theorem dX6_decide_61 : decode cX6_decide 61 = .ok (.getfield 74, 3) := by decide +kernel
theorem dX6_decide_64 : decode cX6_decide 64 = .ok (.iload_n 1, 1) := by decide +kernel
theorem dX6_decide_65 : decode cX6_decide 65 = .ok (.iaload, 1) := by decide +kernel
theorem dX6_decide_66 : decode cX6_decide 66 = .ok (.aload_n 0, 1) := by decide +kernel
theorem dX6_decide_67 : decode cX6_decide 67 = .ok (.getfield 77, 3) := by decide +kernel
theorem dX6_decide_70 : decode cX6_decide 70 = .ok (.iload_n 1, 1) := by decide +kernel
theorem dX6_decide_71 : decode cX6_decide 71 = .ok (.iaload, 1) := by decide +kernel
theorem dX6_decide_72 : decode cX6_decide 72 = .ok (.iadd, 1) := by decide +kernel
theorem dX6_decide_73 : decode cX6_decide 73 = .ok (.invokevirtual 189, 3) := by decide +kernel
theorem dX6_decide_76 : decode cX6_decide 76 = .ok (.ifCond .eq 7, 3) := by decide +kernel
theorem dX6_decide_79 : decode cX6_decide 79 = .ok (.iconst 4, 1) := by decide +kernel
theorem dX6_decide_80 : decode cX6_decide 80 = .ok (.goto 16, 3) := by decide +kernel
theorem dX6_decide_83 : decode cX6_decide 83 = .ok (.aload_n 0, 1) := by decide +kernel
theorem dX6_decide_84 : decode cX6_decide 84 = .ok (.iload_n 1, 1) := by decide +kernel
theorem dX6_decide_85 : decode cX6_decide 85 = .ok (.invokevirtual 193, 3) := by decide +kernel
theorem dX6_decide_88 : decode cX6_decide 88 = .ok (.ifCond .eq 7, 3) := by decide +kernel
theorem dX6_decide_91 : decode cX6_decide 91 = .ok (.iconst 5, 1) := by decide +kernel
theorem dX6_decide_92 : decode cX6_decide 92 = .ok (.goto 4, 3) := by decide +kernel
theorem dX6_decide_95 : decode cX6_decide 95 = .ok (.iconst 0, 1) := by decide +kernel
theorem dX6_decide_96 : decode cX6_decide 96 = .ok (.istore_n 3, 1) := by decide +kernel
theorem dX6_decide_97 : decode cX6_decide 97 = .ok (.iload_n 3, 1) := by decide +kernel
theorem dX6_decide_98 : decode cX6_decide 98 = .ok (.ifCond .le 9, 3) := by decide +kernel
theorem dX6_decide_101 : decode cX6_decide 101 = .ok (.aload_n 0, 1) := by decide +kernel
theorem dX6_decide_102 : decode cX6_decide 102 = .ok (.iload_n 1, 1) := by decide +kernel
theorem dX6_decide_103 : decode cX6_decide 103 = .ok (.iload_n 3, 1) := by decide +kernel
theorem dX6_decide_104 : decode cX6_decide 104 = .ok (.invokevirtual 212, 3) := by decide +kernel
theorem dX6_decide_107 : decode cX6_decide 107 = .ok (.return_, 1) := by decide +kernel
set_option maxRecDepth 20000 in
theorem ggX6_passes_X6_arrive : GoodIn wsX6_passes wsX6_arrive := goodIn_r _ [10, 11, 3, 12, 13, 14, 15, 16, 1, 17, 18, 19, 20, 120, 121, 122, 123, 124, 125, 126, 127, 128, 129, 130, 131, 132, 133, 134, 135, 136, 137, 138, 139, 140, 141, 142, 143, 144, 145, 146, 147, 148, 149, 150, 151, 152, 153, 154, 155, 156, 157, 158, 159, 160, 161, 162, 163, 164, 165, 166, 167, 168] (by decide +kernel) (by decide +kernel)
set_option maxRecDepth 20000 in
theorem gX6_passes_X6_arrive : GoodIn wsX6_passes (wsV RX6 225 RX6 yX6_arrive wsX6_arrive) := goodIn_app (goodIn_of _ (by decide +kernel)) ggX6_passes_X6_arrive
set_option maxRecDepth 20000 in
theorem ggX6_passes_X6_decide : GoodIn wsX6_passes wsX6_decide := goodIn_r _ [24, 4, 1, 3, 25, 13, 5, 26, 27, 28, 9, 29, 30, 11, 31, 32, 33, 34, 35, 36, 37, 38, 39, 40, 41, 42, 20, 14, 16, 15, 43, 44, 45, 46, 2, 47, 48, 120, 121, 122, 123, 124, 125, 126, 127, 128, 129, 130, 131, 132, 133, 134, 135, 136, 137, 138, 139, 140, 141, 142, 143, 144, 145, 146, 147, 148, 149, 150, 151, 152, 153, 154, 155, 156, 157, 158, 159, 160, 161, 162, 163, 164, 165, 166, 167, 168] (by decide +kernel) (by decide +kernel)
set_option maxRecDepth 20000 in
theorem gX6_passes_X6_decide : GoodIn wsX6_passes (wsV RX6 229 RX6 yX6_decide wsX6_decide) := goodIn_app (goodIn_of _ (by decide +kernel)) ggX6_passes_X6_decide
set_option maxRecDepth 20000 in
theorem ggX6_passes_X6_depart : GoodIn wsX6_passes wsX6_depart := goodIn_r _ [52, 1, 3, 12, 13, 14, 53, 54, 55, 56, 57, 9, 58, 5, 36, 11, 59, 60, 61, 62, 25, 63, 64, 65, 66, 67, 2, 4, 68, 69, 70, 71, 72, 73, 74, 75, 76, 77, 78, 79, 80, 81, 82, 26, 27, 28, 29, 30, 31, 32, 33, 34, 35, 37, 38, 39, 40, 41, 42, 20, 16, 15, 43, 44, 45, 46, 47, 48, 83, 84, 85, 86, 87, 88, 89, 90, 91, 92, 93, 94, 95, 96, 97, 98, 99, 100, 101, 102, 103, 104, 105, 106, 107, 108, 109, 110, 111, 112, 113, 114, 115, 116, 117, 118, 119, 120, 121, 122, 123, 124, 125, 126, 127, 128, 129, 130, 131, 132, 133, 134, 135, 136, 137, 138, 139, 140, 141, 142, 143, 144, 145, 146, 147, 148, 149, 150, 151, 152, 153, 154, 155, 156, 157, 158, 159, 160, 161, 162, 163, 164, 165, 166, 167, 168] (by decide +kernel) (by decide +kernel)
set_option maxRecDepth 20000 in
theorem gX6_passes_X6_depart : GoodIn wsX6_passes (wsV RX6 232 RX6 yX6_depart wsX6_depart) := goodIn_app (goodIn_of _ (by decide +kernel)) ggX6_passes_X6_depart
theorem dX6_passes_0 : decode cX6_passes 0 = .ok (.aload_n 0, 1) := by decide +kernel
theorem dX6_passes_1 : decode cX6_passes 1 = .ok (.dup, 1) := by decide +kernel
theorem dX6_passes_2 : decode cX6_passes 2 = .ok (.getfield 167, 3) := by decide +kernel
theorem dX6_passes_5 : decode cX6_passes 5 = .ok (.iconst 1, 1) := by decide +kernel
theorem dX6_passes_6 : decode cX6_passes 6 = .ok (.iadd, 1) := by decide +kernel
theorem dX6_passes_7 : decode cX6_passes 7 = .ok (.putfield 167, 3) := by decide +kernel
theorem dX6_passes_10 : decode cX6_passes 10 = .ok (.iconst 0, 1) := by decide +kernel
theorem dX6_passes_11 : decode cX6_passes 11 = .ok (.istore_n 1, 1) := by decide +kernel
theorem dX6_passes_12 : decode cX6_passes 12 = .ok (.iload_n 1, 1) := by decide +kernel
theorem dX6_passes_13 : decode cX6_passes 13 = .ok (.aload_n 0, 1) := by decide +kernel
theorem dX6_passes_14 : decode cX6_passes 14 = .ok (.getfield 154, 3) := by decide +kernel
theorem dX6_passes_17 : decode cX6_passes 17 = .ok (.if_icmp .ge 44, 3) := by decide +kernel
theorem dX6_passes_20 : decode cX6_passes 20 = .ok (.aload_n 0, 1) := by decide +kernel
theorem dX6_passes_21 : decode cX6_passes 21 = .ok (.getfield 62, 3) := by decide +kernel
theorem dX6_passes_24 : decode cX6_passes 24 = .ok (.iload_n 1, 1) := by decide +kernel
theorem dX6_passes_25 : decode cX6_passes 25 = .ok (.iaload, 1) := by decide +kernel
theorem dX6_passes_26 : decode cX6_passes 26 = .ok (.iconst 1, 1) := by decide +kernel
theorem dX6_passes_27 : decode cX6_passes 27 = .ok (.if_icmp .ne 28, 3) := by decide +kernel
theorem dX6_passes_30 : decode cX6_passes 30 = .ok (.aload_n 0, 1) := by decide +kernel
theorem dX6_passes_31 : decode cX6_passes 31 = .ok (.getfield 74, 3) := by decide +kernel
theorem dX6_passes_34 : decode cX6_passes 34 = .ok (.iload_n 1, 1) := by decide +kernel
theorem dX6_passes_35 : decode cX6_passes 35 = .ok (.iaload, 1) := by decide +kernel
theorem dX6_passes_36 : decode cX6_passes 36 = .ok (.aload_n 0, 1) := by decide +kernel
theorem dX6_passes_37 : decode cX6_passes 37 = .ok (.getfield 77, 3) := by decide +kernel
theorem dX6_passes_40 : decode cX6_passes 40 = .ok (.iload_n 1, 1) := by decide +kernel
theorem dX6_passes_41 : decode cX6_passes 41 = .ok (.iaload, 1) := by decide +kernel
theorem dX6_passes_42 : decode cX6_passes 42 = .ok (.iadd, 1) := by decide +kernel
theorem dX6_passes_43 : decode cX6_passes 43 = .ok (.aload_n 0, 1) := by decide +kernel
theorem dX6_passes_44 : decode cX6_passes 44 = .ok (.getfield 167, 3) := by decide +kernel
theorem dX6_passes_47 : decode cX6_passes 47 = .ok (.if_icmp .ne 8, 3) := by decide +kernel
theorem dX6_passes_50 : decode cX6_passes 50 = .ok (.aload_n 0, 1) := by decide +kernel
theorem dX6_passes_51 : decode cX6_passes 51 = .ok (.iload_n 1, 1) := by decide +kernel
theorem dX6_passes_52 : decode cX6_passes 52 = .ok (.invokevirtual 225, 3) := by decide +kernel
theorem dX6_passes_55 : decode cX6_passes 55 = .ok (.iinc 1 1, 3) := by decide +kernel
theorem dX6_passes_58 : decode cX6_passes 58 = .ok (.goto (-46), 3) := by decide +kernel
theorem dX6_passes_61 : decode cX6_passes 61 = .ok (.iconst 0, 1) := by decide +kernel
theorem dX6_passes_62 : decode cX6_passes 62 = .ok (.istore_n 1, 1) := by decide +kernel
theorem dX6_passes_63 : decode cX6_passes 63 = .ok (.iload_n 1, 1) := by decide +kernel
theorem dX6_passes_64 : decode cX6_passes 64 = .ok (.aload_n 0, 1) := by decide +kernel
theorem dX6_passes_65 : decode cX6_passes 65 = .ok (.getfield 154, 3) := by decide +kernel
theorem dX6_passes_68 : decode cX6_passes 68 = .ok (.if_icmp .ge 28, 3) := by decide +kernel
theorem dX6_passes_71 : decode cX6_passes 71 = .ok (.aload_n 0, 1) := by decide +kernel
theorem dX6_passes_72 : decode cX6_passes 72 = .ok (.getfield 167, 3) := by decide +kernel
theorem dX6_passes_75 : decode cX6_passes 75 = .ok (.sipush 1440, 3) := by decide +kernel
theorem dX6_passes_78 : decode cX6_passes 78 = .ok (.irem, 1) := by decide +kernel
theorem dX6_passes_79 : decode cX6_passes 79 = .ok (.sipush 300, 3) := by decide +kernel
theorem dX6_passes_82 : decode cX6_passes 82 = .ok (.if_icmp .ne 14, 3) := by decide +kernel
theorem dX6_passes_85 : decode cX6_passes 85 = .ok (.aload_n 0, 1) := by decide +kernel
theorem dX6_passes_86 : decode cX6_passes 86 = .ok (.iload_n 1, 1) := by decide +kernel
theorem dX6_passes_87 : decode cX6_passes 87 = .ok (.invokevirtual 229, 3) := by decide +kernel
theorem dX6_passes_90 : decode cX6_passes 90 = .ok (.iinc 1 1, 3) := by decide +kernel
theorem dX6_passes_93 : decode cX6_passes 93 = .ok (.goto (-30), 3) := by decide +kernel
theorem dX6_passes_96 : decode cX6_passes 96 = .ok (.iconst 0, 1) := by decide +kernel
theorem dX6_passes_97 : decode cX6_passes 97 = .ok (.istore_n 1, 1) := by decide +kernel
theorem dX6_passes_98 : decode cX6_passes 98 = .ok (.iload_n 1, 1) := by decide +kernel
theorem dX6_passes_99 : decode cX6_passes 99 = .ok (.aload_n 0, 1) := by decide +kernel
theorem dX6_passes_100 : decode cX6_passes 100 = .ok (.getfield 154, 3) := by decide +kernel
theorem dX6_passes_103 : decode cX6_passes 103 = .ok (.if_icmp .ge 36, 3) := by decide +kernel
theorem dX6_passes_106 : decode cX6_passes 106 = .ok (.aload_n 0, 1) := by decide +kernel
theorem dX6_passes_107 : decode cX6_passes 107 = .ok (.getfield 62, 3) := by decide +kernel
theorem dX6_passes_110 : decode cX6_passes 110 = .ok (.iload_n 1, 1) := by decide +kernel
theorem dX6_passes_111 : decode cX6_passes 111 = .ok (.iaload, 1) := by decide +kernel
theorem dX6_passes_112 : decode cX6_passes 112 = .ok (.ifCond .ne 21, 3) := by decide +kernel
theorem dX6_passes_115 : decode cX6_passes 115 = .ok (.aload_n 0, 1) := by decide +kernel
theorem dX6_passes_116 : decode cX6_passes 116 = .ok (.getfield 74, 3) := by decide +kernel
theorem dX6_passes_119 : decode cX6_passes 119 = .ok (.iload_n 1, 1) := by decide +kernel
theorem dX6_passes_120 : decode cX6_passes 120 = .ok (.iaload, 1) := by decide +kernel
theorem dX6_passes_121 : decode cX6_passes 121 = .ok (.aload_n 0, 1) := by decide +kernel
theorem dX6_passes_122 : decode cX6_passes 122 = .ok (.getfield 167, 3) := by decide +kernel
theorem dX6_passes_125 : decode cX6_passes 125 = .ok (.if_icmp .ne 8, 3) := by decide +kernel
theorem dX6_passes_128 : decode cX6_passes 128 = .ok (.aload_n 0, 1) := by decide +kernel
theorem dX6_passes_129 : decode cX6_passes 129 = .ok (.iload_n 1, 1) := by decide +kernel
theorem dX6_passes_130 : decode cX6_passes 130 = .ok (.invokevirtual 232, 3) := by decide +kernel
theorem dX6_passes_133 : decode cX6_passes 133 = .ok (.iinc 1 1, 3) := by decide +kernel
theorem dX6_passes_136 : decode cX6_passes 136 = .ok (.goto (-38), 3) := by decide +kernel
theorem dX6_passes_139 : decode cX6_passes 139 = .ok (.return_, 1) := by decide +kernel
set_option maxRecDepth 20000 in
theorem ggX6_pass_X6_in : GoodIn wsX6_pass wsX6_in := goodIn_r _ [5] (by decide +kernel) (by decide +kernel)
set_option maxRecDepth 20000 in
theorem gX6_pass_X6_in : GoodIn wsX6_pass (va_wsS RX6 147 yX6_in wsX6_in) := goodIn_app (goodIn_of _ (by decide +kernel)) ggX6_pass_X6_in
set_option maxRecDepth 20000 in
theorem ggX6_pass_X6_refused : GoodIn wsX6_pass wsX6_refused := goodIn_r _ [9, 10, 129, 130, 131, 132, 133, 134, 135, 136, 137, 138, 139, 140, 141, 142, 143, 144, 145, 146, 147, 148, 149, 150, 151, 152, 153, 154, 155, 156, 157, 158, 159, 160, 161, 162, 163, 164, 165, 166, 167, 168, 169, 170, 171, 172, 173, 174, 175, 176, 177] (by decide +kernel) (by decide +kernel)
set_option maxRecDepth 20000 in
theorem gX6_pass_X6_refused : GoodIn wsX6_pass (wsV RX6 157 RX6 yX6_refused wsX6_refused) := goodIn_app (goodIn_of _ (by decide +kernel)) ggX6_pass_X6_refused
set_option maxRecDepth 20000 in
theorem ggX6_pass_X6_passes : GoodIn wsX6_pass wsX6_passes := goodIn_r _ [14, 1, 15, 16, 17, 18, 19, 20, 21, 4, 22, 23, 24, 25, 26, 27, 28, 29, 30, 31, 32, 33, 34, 35, 36, 37, 38, 39, 40, 41, 42, 43, 44, 45, 46, 47, 48, 49, 50, 51, 52, 53, 54, 55, 56, 57, 58, 59, 60, 61, 62, 63, 64, 65, 66, 67, 68, 69, 70, 71, 72, 73, 74, 75, 76, 77, 78, 79, 2, 3, 5, 80, 81, 82, 83, 84, 85, 86, 87, 88, 89, 90, 91, 92, 93, 94, 95, 96, 97, 98, 99, 100, 101, 102, 103, 104, 105, 106, 107, 108, 109, 110, 111, 112, 113, 114, 115, 116, 117, 118, 119, 120, 121, 122, 123, 124, 125, 126, 127, 128, 129, 130, 131, 132, 133, 134, 135, 136, 137, 138, 139, 140, 141, 142, 143, 144, 145, 146, 147, 148, 149, 150, 151, 152, 153, 154, 155, 156, 157, 158, 159, 160, 161, 162, 163, 164, 165, 166, 167, 168, 169, 170, 171, 172, 173, 174, 175, 176, 177] (by decide +kernel) (by decide +kernel)
set_option maxRecDepth 20000 in
theorem gX6_pass_X6_passes : GoodIn wsX6_pass (wsV RX6 235 RX6 yX6_passes wsX6_passes) := goodIn_app (goodIn_of _ (by decide +kernel)) ggX6_pass_X6_passes
theorem dX6_pass_0 : decode cX6_pass 0 = .ok (.aload_n 0, 1) := by decide +kernel
theorem dX6_pass_1 : decode cX6_pass 1 = .ok (.iload_n 1, 1) := by decide +kernel
theorem dX6_pass_2 : decode cX6_pass 2 = .ok (.iconst 1, 1) := by decide +kernel
theorem dX6_pass_3 : decode cX6_pass 3 = .ok (.sipush 1500, 3) := by decide +kernel
theorem dX6_pass_6 : decode cX6_pass 6 = .ok (.invokestatic 147, 3) := by decide +kernel
theorem dX6_pass_9 : decode cX6_pass 9 = .ok (.ifCond .eq 7, 3) := by decide +kernel
theorem dX6_pass_12 : decode cX6_pass 12 = .ok (.iconst 0, 1) := by decide +kernel
theorem dX6_pass_13 : decode cX6_pass 13 = .ok (.goto 4, 3) := by decide +kernel
theorem dX6_pass_16 : decode cX6_pass 16 = .ok (.iconst 1, 1) := by decide +kernel
theorem dX6_pass_17 : decode cX6_pass 17 = .ok (.invokevirtual 157, 3) := by decide +kernel
theorem dX6_pass_20 : decode cX6_pass 20 = .ok (.ifCond .eq 5, 3) := by decide +kernel
theorem dX6_pass_23 : decode cX6_pass 23 = .ok (.iconst 0, 1) := by decide +kernel
theorem dX6_pass_24 : decode cX6_pass 24 = .ok (.ireturn, 1) := by decide +kernel
theorem dX6_pass_25 : decode cX6_pass 25 = .ok (.iconst 0, 1) := by decide +kernel
theorem dX6_pass_26 : decode cX6_pass 26 = .ok (.istore_n 2, 1) := by decide +kernel
theorem dX6_pass_27 : decode cX6_pass 27 = .ok (.iload_n 2, 1) := by decide +kernel
theorem dX6_pass_28 : decode cX6_pass 28 = .ok (.iload_n 1, 1) := by decide +kernel
theorem dX6_pass_29 : decode cX6_pass 29 = .ok (.if_icmp .ge 13, 3) := by decide +kernel
theorem dX6_pass_32 : decode cX6_pass 32 = .ok (.aload_n 0, 1) := by decide +kernel
theorem dX6_pass_33 : decode cX6_pass 33 = .ok (.invokevirtual 235, 3) := by decide +kernel
theorem dX6_pass_36 : decode cX6_pass 36 = .ok (.iinc 2 1, 3) := by decide +kernel
theorem dX6_pass_39 : decode cX6_pass 39 = .ok (.goto (-12), 3) := by decide +kernel
theorem dX6_pass_42 : decode cX6_pass 42 = .ok (.aload_n 0, 1) := by decide +kernel
theorem dX6_pass_43 : decode cX6_pass 43 = .ok (.getfield 167, 3) := by decide +kernel
theorem dX6_pass_46 : decode cX6_pass 46 = .ok (.ireturn, 1) := by decide +kernel
set_option maxRecDepth 20000 in
theorem ggX6_tide_X6_isPier : GoodIn wsX6_tide wsX6_isPier := goodIn_r _ [6, 7, 8, 9, 5, 10, 22, 23, 24, 25, 26, 27, 28, 29, 30, 31, 32, 33, 34, 35, 36, 37, 38, 39, 40, 41, 42, 43, 44, 45, 46, 47, 48, 49, 50, 51, 52, 53, 54, 55, 56, 57, 58, 59, 60, 61, 62, 63, 64, 65, 66, 67, 68, 69, 70] (by decide +kernel) (by decide +kernel)
set_option maxRecDepth 20000 in
theorem gX6_tide_X6_isPier : GoodIn wsX6_tide (wsV RX6 161 RX6 yX6_isPier wsX6_isPier) := goodIn_app (goodIn_of _ (by decide +kernel)) ggX6_tide_X6_isPier
set_option maxRecDepth 20000 in
theorem ggX6_tide_X6_in : GoodIn wsX6_tide wsX6_in := goodIn_r _ [10] (by decide +kernel) (by decide +kernel)
set_option maxRecDepth 20000 in
theorem gX6_tide_X6_in : GoodIn wsX6_tide (va_wsS RX6 147 yX6_in wsX6_in) := goodIn_app (goodIn_of _ (by decide +kernel)) ggX6_tide_X6_in
set_option maxRecDepth 20000 in
theorem ggX6_tide_X6_refused : GoodIn wsX6_tide wsX6_refused := goodIn_r _ [14, 15, 22, 23, 24, 25, 26, 27, 28, 29, 30, 31, 32, 33, 34, 35, 36, 37, 38, 39, 40, 41, 42, 43, 44, 45, 46, 47, 48, 49, 50, 51, 52, 53, 54, 55, 56, 57, 58, 59, 60, 61, 62, 63, 64, 65, 66, 67, 68, 69, 70] (by decide +kernel) (by decide +kernel)
set_option maxRecDepth 20000 in
theorem gX6_tide_X6_refused : GoodIn wsX6_tide (wsV RX6 157 RX6 yX6_refused wsX6_refused) := goodIn_app (goodIn_of _ (by decide +kernel)) ggX6_tide_X6_refused
set_option maxRecDepth 20000 in
theorem ggX6_tide_X6_tideOf : GoodIn wsX6_tide wsX6_tideOf := goodIn_r _ [19, 20, 21, 22, 23, 24, 25, 26, 27, 28, 29, 30, 31, 32, 33, 34, 35, 36, 37, 38, 39, 40, 41, 42, 43, 44, 45, 46, 47, 48, 49, 50, 51, 52, 53, 54, 55, 56, 57, 58, 59, 60, 61, 62, 63, 64, 65, 66, 67, 68, 69, 70] (by decide +kernel) (by decide +kernel)
set_option maxRecDepth 20000 in
theorem gX6_tide_X6_tideOf : GoodIn wsX6_tide (wsV RX6 176 RX6 yX6_tideOf wsX6_tideOf) := goodIn_app (goodIn_of _ (by decide +kernel)) ggX6_tide_X6_tideOf
theorem dX6_tide_0 : decode cX6_tide 0 = .ok (.aload_n 0, 1) := by decide +kernel
theorem dX6_tide_1 : decode cX6_tide 1 = .ok (.aload_n 0, 1) := by decide +kernel
theorem dX6_tide_2 : decode cX6_tide 2 = .ok (.iload_n 1, 1) := by decide +kernel
theorem dX6_tide_3 : decode cX6_tide 3 = .ok (.invokevirtual 161, 3) := by decide +kernel
theorem dX6_tide_6 : decode cX6_tide 6 = .ok (.ifCond .ne 7, 3) := by decide +kernel
theorem dX6_tide_9 : decode cX6_tide 9 = .ok (.iconst 1, 1) := by decide +kernel
theorem dX6_tide_10 : decode cX6_tide 10 = .ok (.goto 18, 3) := by decide +kernel
theorem dX6_tide_13 : decode cX6_tide 13 = .ok (.iload_n 2, 1) := by decide +kernel
theorem dX6_tide_14 : decode cX6_tide 14 = .ok (.iconst 0, 1) := by decide +kernel
theorem dX6_tide_15 : decode cX6_tide 15 = .ok (.ldc 238, 2) := by decide +kernel
theorem dX6_tide_17 : decode cX6_tide 17 = .ok (.invokestatic 147, 3) := by decide +kernel
theorem dX6_tide_20 : decode cX6_tide 20 = .ok (.ifCond .ne 7, 3) := by decide +kernel
theorem dX6_tide_23 : decode cX6_tide 23 = .ok (.iconst 2, 1) := by decide +kernel
theorem dX6_tide_24 : decode cX6_tide 24 = .ok (.goto 4, 3) := by decide +kernel
theorem dX6_tide_27 : decode cX6_tide 27 = .ok (.iconst 0, 1) := by decide +kernel
theorem dX6_tide_28 : decode cX6_tide 28 = .ok (.invokevirtual 157, 3) := by decide +kernel
theorem dX6_tide_31 : decode cX6_tide 31 = .ok (.ifCond .eq 7, 3) := by decide +kernel
theorem dX6_tide_34 : decode cX6_tide 34 = .ok (.iconst 0, 1) := by decide +kernel
theorem dX6_tide_35 : decode cX6_tide 35 = .ok (.goto 9, 3) := by decide +kernel
theorem dX6_tide_38 : decode cX6_tide 38 = .ok (.aload_n 0, 1) := by decide +kernel
theorem dX6_tide_39 : decode cX6_tide 39 = .ok (.iload_n 1, 1) := by decide +kernel
theorem dX6_tide_40 : decode cX6_tide 40 = .ok (.iload_n 2, 1) := by decide +kernel
theorem dX6_tide_41 : decode cX6_tide 41 = .ok (.invokevirtual 176, 3) := by decide +kernel
theorem dX6_tide_44 : decode cX6_tide 44 = .ok (.ireturn, 1) := by decide +kernel
set_option maxRecDepth 20000 in
theorem ggX6_boatOf_X6_isBoat : GoodIn wsX6_boatOf wsX6_isBoat := goodIn_r _ [8, 9, 10, 11, 7, 12, 27, 28, 29, 30, 31, 32, 33, 34, 35, 36, 37, 38, 39, 40, 41, 42, 43, 44, 45, 46, 47, 48, 49, 50, 51, 52, 53, 54, 55, 56, 57, 58, 59, 60, 61, 62, 63, 64, 65, 66, 67, 68, 69, 70, 71, 72, 73, 74, 75] (by decide +kernel) (by decide +kernel)
set_option maxRecDepth 20000 in
theorem gX6_boatOf_X6_isBoat : GoodIn wsX6_boatOf (wsV RX6 164 RX6 yX6_isBoat wsX6_isBoat) := goodIn_app (goodIn_of _ (by decide +kernel)) ggX6_boatOf_X6_isBoat
set_option maxRecDepth 20000 in
theorem ggX6_boatOf_X6_in : GoodIn wsX6_boatOf wsX6_in := goodIn_r _ [12] (by decide +kernel) (by decide +kernel)
set_option maxRecDepth 20000 in
theorem gX6_boatOf_X6_in : GoodIn wsX6_boatOf (va_wsS RX6 147 yX6_in wsX6_in) := goodIn_app (goodIn_of _ (by decide +kernel)) ggX6_boatOf_X6_in
set_option maxRecDepth 20000 in
theorem ggX6_boatOf_X6_refused : GoodIn wsX6_boatOf wsX6_refused := goodIn_r _ [16, 17, 27, 28, 29, 30, 31, 32, 33, 34, 35, 36, 37, 38, 39, 40, 41, 42, 43, 44, 45, 46, 47, 48, 49, 50, 51, 52, 53, 54, 55, 56, 57, 58, 59, 60, 61, 62, 63, 64, 65, 66, 67, 68, 69, 70, 71, 72, 73, 74, 75] (by decide +kernel) (by decide +kernel)
set_option maxRecDepth 20000 in
theorem gX6_boatOf_X6_refused : GoodIn wsX6_boatOf (wsV RX6 157 RX6 yX6_refused wsX6_refused) := goodIn_app (goodIn_of _ (by decide +kernel)) ggX6_boatOf_X6_refused
set_option maxRecDepth 20000 in
theorem ggX6_boatOf_X6_hoursOf : GoodIn wsX6_boatOf wsX6_hoursOf := goodIn_r _ [21, 22, 23, 24, 25, 26, 10, 11, 7, 12, 27, 28, 29, 30, 31, 32, 33, 34, 35, 36, 37, 38, 39, 40, 41, 42, 43, 44, 45, 46, 47, 48, 49, 50, 51, 52, 53, 54, 55, 56, 57, 58, 59, 60, 61, 62, 63, 64, 65, 66, 67, 68, 69, 70, 71, 72, 73, 74, 75] (by decide +kernel) (by decide +kernel)
set_option maxRecDepth 20000 in
theorem gX6_boatOf_X6_hoursOf : GoodIn wsX6_boatOf (wsV RX6 183 RX6 yX6_hoursOf wsX6_hoursOf) := goodIn_app (goodIn_of _ (by decide +kernel)) ggX6_boatOf_X6_hoursOf
theorem dX6_boatOf_0 : decode cX6_boatOf 0 = .ok (.aload_n 0, 1) := by decide +kernel
theorem dX6_boatOf_1 : decode cX6_boatOf 1 = .ok (.aload_n 0, 1) := by decide +kernel
theorem dX6_boatOf_2 : decode cX6_boatOf 2 = .ok (.iload_n 1, 1) := by decide +kernel
theorem dX6_boatOf_3 : decode cX6_boatOf 3 = .ok (.invokevirtual 164, 3) := by decide +kernel
theorem dX6_boatOf_6 : decode cX6_boatOf 6 = .ok (.ifCond .ne 7, 3) := by decide +kernel
theorem dX6_boatOf_9 : decode cX6_boatOf 9 = .ok (.iconst 1, 1) := by decide +kernel
theorem dX6_boatOf_10 : decode cX6_boatOf 10 = .ok (.goto 17, 3) := by decide +kernel
theorem dX6_boatOf_13 : decode cX6_boatOf 13 = .ok (.iload_n 2, 1) := by decide +kernel
theorem dX6_boatOf_14 : decode cX6_boatOf 14 = .ok (.iconst 0, 1) := by decide +kernel
theorem dX6_boatOf_15 : decode cX6_boatOf 15 = .ok (.iconst 2, 1) := by decide +kernel
theorem dX6_boatOf_16 : decode cX6_boatOf 16 = .ok (.invokestatic 147, 3) := by decide +kernel
theorem dX6_boatOf_19 : decode cX6_boatOf 19 = .ok (.ifCond .ne 7, 3) := by decide +kernel
theorem dX6_boatOf_22 : decode cX6_boatOf 22 = .ok (.iconst 2, 1) := by decide +kernel
theorem dX6_boatOf_23 : decode cX6_boatOf 23 = .ok (.goto 4, 3) := by decide +kernel
theorem dX6_boatOf_26 : decode cX6_boatOf 26 = .ok (.iconst 0, 1) := by decide +kernel
theorem dX6_boatOf_27 : decode cX6_boatOf 27 = .ok (.invokevirtual 157, 3) := by decide +kernel
theorem dX6_boatOf_30 : decode cX6_boatOf 30 = .ok (.ifCond .eq 5, 3) := by decide +kernel
theorem dX6_boatOf_33 : decode cX6_boatOf 33 = .ok (.iconst 0, 1) := by decide +kernel
theorem dX6_boatOf_34 : decode cX6_boatOf 34 = .ok (.ireturn, 1) := by decide +kernel
theorem dX6_boatOf_35 : decode cX6_boatOf 35 = .ok (.iload_n 2, 1) := by decide +kernel
theorem dX6_boatOf_36 : decode cX6_boatOf 36 = .ok (.ifCond .ne 12, 3) := by decide +kernel
theorem dX6_boatOf_39 : decode cX6_boatOf 39 = .ok (.aload_n 0, 1) := by decide +kernel
theorem dX6_boatOf_40 : decode cX6_boatOf 40 = .ok (.getfield 56, 3) := by decide +kernel
theorem dX6_boatOf_43 : decode cX6_boatOf 43 = .ok (.iload_n 1, 1) := by decide +kernel
theorem dX6_boatOf_44 : decode cX6_boatOf 44 = .ok (.iaload, 1) := by decide +kernel
theorem dX6_boatOf_45 : decode cX6_boatOf 45 = .ok (.goto 38, 3) := by decide +kernel
theorem dX6_boatOf_48 : decode cX6_boatOf 48 = .ok (.iload_n 2, 1) := by decide +kernel
theorem dX6_boatOf_49 : decode cX6_boatOf 49 = .ok (.iconst 1, 1) := by decide +kernel
theorem dX6_boatOf_50 : decode cX6_boatOf 50 = .ok (.if_icmp .ne 20, 3) := by decide +kernel
theorem dX6_boatOf_53 : decode cX6_boatOf 53 = .ok (.aload_n 0, 1) := by decide +kernel
theorem dX6_boatOf_54 : decode cX6_boatOf 54 = .ok (.getfield 59, 3) := by decide +kernel
theorem dX6_boatOf_57 : decode cX6_boatOf 57 = .ok (.iload_n 1, 1) := by decide +kernel
theorem dX6_boatOf_58 : decode cX6_boatOf 58 = .ok (.baload, 1) := by decide +kernel
theorem dX6_boatOf_59 : decode cX6_boatOf 59 = .ok (.ifCond .eq 7, 3) := by decide +kernel
theorem dX6_boatOf_62 : decode cX6_boatOf 62 = .ok (.iconst 1, 1) := by decide +kernel
theorem dX6_boatOf_63 : decode cX6_boatOf 63 = .ok (.goto 20, 3) := by decide +kernel
theorem dX6_boatOf_66 : decode cX6_boatOf 66 = .ok (.iconst 0, 1) := by decide +kernel
theorem dX6_boatOf_67 : decode cX6_boatOf 67 = .ok (.goto 16, 3) := by decide +kernel
theorem dX6_boatOf_70 : decode cX6_boatOf 70 = .ok (.aload_n 0, 1) := by decide +kernel
theorem dX6_boatOf_71 : decode cX6_boatOf 71 = .ok (.iload_n 1, 1) := by decide +kernel
theorem dX6_boatOf_72 : decode cX6_boatOf 72 = .ok (.aload_n 0, 1) := by decide +kernel
theorem dX6_boatOf_73 : decode cX6_boatOf 73 = .ok (.getfield 167, 3) := by decide +kernel
theorem dX6_boatOf_76 : decode cX6_boatOf 76 = .ok (.sipush 1440, 3) := by decide +kernel
theorem dX6_boatOf_79 : decode cX6_boatOf 79 = .ok (.idiv, 1) := by decide +kernel
theorem dX6_boatOf_80 : decode cX6_boatOf 80 = .ok (.invokevirtual 183, 3) := by decide +kernel
theorem dX6_boatOf_83 : decode cX6_boatOf 83 = .ok (.ireturn, 1) := by decide +kernel
set_option maxRecDepth 20000 in
theorem ggX6_sailingOf_X6_isSailing : GoodIn wsX6_sailingOf wsX6_isSailing := goodIn_r _ [11, 12, 13, 14, 10, 15, 21, 22, 23, 24, 25, 26, 27, 28, 29, 30, 31, 32, 33, 34, 35, 36, 37, 38, 39, 40, 41, 42, 43, 44, 45, 46, 47, 48, 49, 50, 51, 52, 53, 54, 55, 56, 57, 58, 59, 60, 61, 62, 63, 64, 65, 66, 67, 68, 69] (by decide +kernel) (by decide +kernel)
set_option maxRecDepth 20000 in
theorem gX6_sailingOf_X6_isSailing : GoodIn wsX6_sailingOf (wsV RX6 170 RX6 yX6_isSailing wsX6_isSailing) := goodIn_app (goodIn_of _ (by decide +kernel)) ggX6_sailingOf_X6_isSailing
set_option maxRecDepth 20000 in
theorem ggX6_sailingOf_X6_in : GoodIn wsX6_sailingOf wsX6_in := goodIn_r _ [15] (by decide +kernel) (by decide +kernel)
set_option maxRecDepth 20000 in
theorem gX6_sailingOf_X6_in : GoodIn wsX6_sailingOf (va_wsS RX6 147 yX6_in wsX6_in) := goodIn_app (goodIn_of _ (by decide +kernel)) ggX6_sailingOf_X6_in
set_option maxRecDepth 20000 in
theorem ggX6_sailingOf_X6_refused : GoodIn wsX6_sailingOf wsX6_refused := goodIn_r _ [19, 20, 21, 22, 23, 24, 25, 26, 27, 28, 29, 30, 31, 32, 33, 34, 35, 36, 37, 38, 39, 40, 41, 42, 43, 44, 45, 46, 47, 48, 49, 50, 51, 52, 53, 54, 55, 56, 57, 58, 59, 60, 61, 62, 63, 64, 65, 66, 67, 68, 69] (by decide +kernel) (by decide +kernel)
set_option maxRecDepth 20000 in
theorem gX6_sailingOf_X6_refused : GoodIn wsX6_sailingOf (wsV RX6 157 RX6 yX6_refused wsX6_refused) := goodIn_app (goodIn_of _ (by decide +kernel)) ggX6_sailingOf_X6_refused
theorem dX6_sailingOf_0 : decode cX6_sailingOf 0 = .ok (.aload_n 0, 1) := by decide +kernel
theorem dX6_sailingOf_1 : decode cX6_sailingOf 1 = .ok (.aload_n 0, 1) := by decide +kernel
theorem dX6_sailingOf_2 : decode cX6_sailingOf 2 = .ok (.iload_n 1, 1) := by decide +kernel
theorem dX6_sailingOf_3 : decode cX6_sailingOf 3 = .ok (.invokevirtual 170, 3) := by decide +kernel
theorem dX6_sailingOf_6 : decode cX6_sailingOf 6 = .ok (.ifCond .ne 7, 3) := by decide +kernel
theorem dX6_sailingOf_9 : decode cX6_sailingOf 9 = .ok (.iconst 1, 1) := by decide +kernel
theorem dX6_sailingOf_10 : decode cX6_sailingOf 10 = .ok (.goto 18, 3) := by decide +kernel
theorem dX6_sailingOf_13 : decode cX6_sailingOf 13 = .ok (.iload_n 2, 1) := by decide +kernel
theorem dX6_sailingOf_14 : decode cX6_sailingOf 14 = .ok (.iconst 0, 1) := by decide +kernel
theorem dX6_sailingOf_15 : decode cX6_sailingOf 15 = .ok (.bipush 6, 2) := by decide +kernel
theorem dX6_sailingOf_17 : decode cX6_sailingOf 17 = .ok (.invokestatic 147, 3) := by decide +kernel
theorem dX6_sailingOf_20 : decode cX6_sailingOf 20 = .ok (.ifCond .ne 7, 3) := by decide +kernel
theorem dX6_sailingOf_23 : decode cX6_sailingOf 23 = .ok (.iconst 2, 1) := by decide +kernel
theorem dX6_sailingOf_24 : decode cX6_sailingOf 24 = .ok (.goto 4, 3) := by decide +kernel
theorem dX6_sailingOf_27 : decode cX6_sailingOf 27 = .ok (.iconst 0, 1) := by decide +kernel
theorem dX6_sailingOf_28 : decode cX6_sailingOf 28 = .ok (.invokevirtual 157, 3) := by decide +kernel
theorem dX6_sailingOf_31 : decode cX6_sailingOf 31 = .ok (.ifCond .eq 5, 3) := by decide +kernel
theorem dX6_sailingOf_34 : decode cX6_sailingOf 34 = .ok (.iconst 0, 1) := by decide +kernel
theorem dX6_sailingOf_35 : decode cX6_sailingOf 35 = .ok (.ireturn, 1) := by decide +kernel
theorem dX6_sailingOf_36 : decode cX6_sailingOf 36 = .ok (.iload_n 2, 1) := by decide +kernel
theorem dX6_sailingOf_37 : decode cX6_sailingOf 37 = .ok (.tableswitch 87 0 5 #[39, 46, 53, 60, 67, 76], 39) := by decide +kernel
theorem dX6_sailingOf_76 : decode cX6_sailingOf 76 = .ok (.aload_n 0, 1) := by decide +kernel
theorem dX6_sailingOf_77 : decode cX6_sailingOf 77 = .ok (.getfield 62, 3) := by decide +kernel
theorem dX6_sailingOf_80 : decode cX6_sailingOf 80 = .ok (.iload_n 1, 1) := by decide +kernel
theorem dX6_sailingOf_81 : decode cX6_sailingOf 81 = .ok (.iaload, 1) := by decide +kernel
theorem dX6_sailingOf_82 : decode cX6_sailingOf 82 = .ok (.ireturn, 1) := by decide +kernel
theorem dX6_sailingOf_83 : decode cX6_sailingOf 83 = .ok (.aload_n 0, 1) := by decide +kernel
theorem dX6_sailingOf_84 : decode cX6_sailingOf 84 = .ok (.getfield 83, 3) := by decide +kernel
theorem dX6_sailingOf_87 : decode cX6_sailingOf 87 = .ok (.iload_n 1, 1) := by decide +kernel
theorem dX6_sailingOf_88 : decode cX6_sailingOf 88 = .ok (.iaload, 1) := by decide +kernel
theorem dX6_sailingOf_89 : decode cX6_sailingOf 89 = .ok (.ireturn, 1) := by decide +kernel
theorem dX6_sailingOf_90 : decode cX6_sailingOf 90 = .ok (.aload_n 0, 1) := by decide +kernel
theorem dX6_sailingOf_91 : decode cX6_sailingOf 91 = .ok (.getfield 65, 3) := by decide +kernel
theorem dX6_sailingOf_94 : decode cX6_sailingOf 94 = .ok (.iload_n 1, 1) := by decide +kernel
theorem dX6_sailingOf_95 : decode cX6_sailingOf 95 = .ok (.iaload, 1) := by decide +kernel
theorem dX6_sailingOf_96 : decode cX6_sailingOf 96 = .ok (.ireturn, 1) := by decide +kernel
theorem dX6_sailingOf_97 : decode cX6_sailingOf 97 = .ok (.aload_n 0, 1) := by decide +kernel
theorem dX6_sailingOf_98 : decode cX6_sailingOf 98 = .ok (.getfield 86, 3) := by decide +kernel
theorem dX6_sailingOf_101 : decode cX6_sailingOf 101 = .ok (.iload_n 1, 1) := by decide +kernel
theorem dX6_sailingOf_102 : decode cX6_sailingOf 102 = .ok (.iaload, 1) := by decide +kernel
theorem dX6_sailingOf_103 : decode cX6_sailingOf 103 = .ok (.ireturn, 1) := by decide +kernel
theorem dX6_sailingOf_104 : decode cX6_sailingOf 104 = .ok (.aload_n 0, 1) := by decide +kernel
theorem dX6_sailingOf_105 : decode cX6_sailingOf 105 = .ok (.getfield 92, 3) := by decide +kernel
theorem dX6_sailingOf_108 : decode cX6_sailingOf 108 = .ok (.iconst 2, 1) := by decide +kernel
theorem dX6_sailingOf_109 : decode cX6_sailingOf 109 = .ok (.iload_n 1, 1) := by decide +kernel
theorem dX6_sailingOf_110 : decode cX6_sailingOf 110 = .ok (.imul, 1) := by decide +kernel
theorem dX6_sailingOf_111 : decode cX6_sailingOf 111 = .ok (.iaload, 1) := by decide +kernel
theorem dX6_sailingOf_112 : decode cX6_sailingOf 112 = .ok (.ireturn, 1) := by decide +kernel
theorem dX6_sailingOf_113 : decode cX6_sailingOf 113 = .ok (.aload_n 0, 1) := by decide +kernel
theorem dX6_sailingOf_114 : decode cX6_sailingOf 114 = .ok (.getfield 92, 3) := by decide +kernel
theorem dX6_sailingOf_117 : decode cX6_sailingOf 117 = .ok (.iconst 2, 1) := by decide +kernel
theorem dX6_sailingOf_118 : decode cX6_sailingOf 118 = .ok (.iload_n 1, 1) := by decide +kernel
theorem dX6_sailingOf_119 : decode cX6_sailingOf 119 = .ok (.imul, 1) := by decide +kernel
theorem dX6_sailingOf_120 : decode cX6_sailingOf 120 = .ok (.iconst 1, 1) := by decide +kernel
theorem dX6_sailingOf_121 : decode cX6_sailingOf 121 = .ok (.iadd, 1) := by decide +kernel
theorem dX6_sailingOf_122 : decode cX6_sailingOf 122 = .ok (.iaload, 1) := by decide +kernel
theorem dX6_sailingOf_123 : decode cX6_sailingOf 123 = .ok (.ireturn, 1) := by decide +kernel
theorem dX6_sailingOf_124 : decode cX6_sailingOf 124 = .ok (.aload_n 0, 1) := by decide +kernel
theorem dX6_sailingOf_125 : decode cX6_sailingOf 125 = .ok (.getfield 89, 3) := by decide +kernel
theorem dX6_sailingOf_128 : decode cX6_sailingOf 128 = .ok (.iload_n 1, 1) := by decide +kernel
theorem dX6_sailingOf_129 : decode cX6_sailingOf 129 = .ok (.iaload, 1) := by decide +kernel
theorem dX6_sailingOf_130 : decode cX6_sailingOf 130 = .ok (.ireturn, 1) := by decide +kernel
set_option maxRecDepth 20000 in
theorem ggX6_against_X6_isSailing : GoodIn wsX6_against wsX6_isSailing := goodIn_r _ [7, 8, 9, 10, 6, 11, 60, 61, 62, 63, 64, 65, 66, 67, 68, 69, 70, 71, 72, 73, 74, 75, 76, 77, 78, 79, 80, 81, 82, 83, 84, 85, 86, 87, 88, 89, 90, 91, 92, 93, 94, 95, 96, 97, 98, 99, 100, 101, 102, 103, 104, 105, 106, 107, 108] (by decide +kernel) (by decide +kernel)
set_option maxRecDepth 20000 in
theorem gX6_against_X6_isSailing : GoodIn wsX6_against (wsV RX6 170 RX6 yX6_isSailing wsX6_isSailing) := goodIn_app (goodIn_of _ (by decide +kernel)) ggX6_against_X6_isSailing
set_option maxRecDepth 20000 in
theorem ggX6_against_X6_refused : GoodIn wsX6_against wsX6_refused := goodIn_r _ [15, 16, 60, 61, 62, 63, 64, 65, 66, 67, 68, 69, 70, 71, 72, 73, 74, 75, 76, 77, 78, 79, 80, 81, 82, 83, 84, 85, 86, 87, 88, 89, 90, 91, 92, 93, 94, 95, 96, 97, 98, 99, 100, 101, 102, 103, 104, 105, 106, 107, 108] (by decide +kernel) (by decide +kernel)
set_option maxRecDepth 20000 in
theorem gX6_against_X6_refused : GoodIn wsX6_against (wsV RX6 157 RX6 yX6_refused wsX6_refused) := goodIn_app (goodIn_of _ (by decide +kernel)) ggX6_against_X6_refused
set_option maxRecDepth 20000 in
theorem ggX6_against_X6_reasonOf : GoodIn wsX6_against wsX6_reasonOf := goodIn_r _ [20, 21, 22, 23, 24, 25, 26, 27, 6, 28, 29, 30, 31, 32, 33, 34, 35, 8, 1, 36, 9, 10, 11, 37, 38, 39, 40, 41, 42, 43, 44, 45, 46, 47, 48, 49, 50, 51, 52, 53, 54, 55, 56, 57, 58, 59, 60, 61, 62, 63, 64, 65, 66, 67, 68, 69, 70, 71, 72, 73, 74, 75, 76, 77, 78, 79, 80, 81, 82, 83, 84, 85, 86, 87, 88, 89, 90, 91, 92, 93, 94, 95, 96, 97, 98, 99, 100, 101, 102, 103, 104, 105, 106, 107, 108] (by decide +kernel) (by decide +kernel)
set_option maxRecDepth 20000 in
theorem gX6_against_X6_reasonOf : GoodIn wsX6_against (wsV RX6 209 RX6 yX6_reasonOf wsX6_reasonOf) := goodIn_app (goodIn_of _ (by decide +kernel)) ggX6_against_X6_reasonOf
theorem dX6_against_0 : decode cX6_against 0 = .ok (.aload_n 0, 1) := by decide +kernel
theorem dX6_against_1 : decode cX6_against 1 = .ok (.iload_n 1, 1) := by decide +kernel
theorem dX6_against_2 : decode cX6_against 2 = .ok (.invokevirtual 170, 3) := by decide +kernel
theorem dX6_against_5 : decode cX6_against 5 = .ok (.istore_n 2, 1) := by decide +kernel
theorem dX6_against_6 : decode cX6_against 6 = .ok (.aload_n 0, 1) := by decide +kernel
theorem dX6_against_7 : decode cX6_against 7 = .ok (.iload_n 2, 1) := by decide +kernel
theorem dX6_against_8 : decode cX6_against 8 = .ok (.ifCond .ne 7, 3) := by decide +kernel
theorem dX6_against_11 : decode cX6_against 11 = .ok (.iconst 1, 1) := by decide +kernel
theorem dX6_against_12 : decode cX6_against 12 = .ok (.goto 17, 3) := by decide +kernel
theorem dX6_against_15 : decode cX6_against 15 = .ok (.aload_n 0, 1) := by decide +kernel
theorem dX6_against_16 : decode cX6_against 16 = .ok (.getfield 62, 3) := by decide +kernel
theorem dX6_against_19 : decode cX6_against 19 = .ok (.iload_n 1, 1) := by decide +kernel
theorem dX6_against_20 : decode cX6_against 20 = .ok (.iaload, 1) := by decide +kernel
theorem dX6_against_21 : decode cX6_against 21 = .ok (.ifCond .eq 7, 3) := by decide +kernel
theorem dX6_against_24 : decode cX6_against 24 = .ok (.iconst 2, 1) := by decide +kernel
theorem dX6_against_25 : decode cX6_against 25 = .ok (.goto 4, 3) := by decide +kernel
theorem dX6_against_28 : decode cX6_against 28 = .ok (.iconst 0, 1) := by decide +kernel
theorem dX6_against_29 : decode cX6_against 29 = .ok (.invokevirtual 157, 3) := by decide +kernel
theorem dX6_against_32 : decode cX6_against 32 = .ok (.ifCond .eq 7, 3) := by decide +kernel
theorem dX6_against_35 : decode cX6_against 35 = .ok (.iconst 0, 1) := by decide +kernel
theorem dX6_against_36 : decode cX6_against 36 = .ok (.goto 12, 3) := by decide +kernel
theorem dX6_against_39 : decode cX6_against 39 = .ok (.aload_n 0, 1) := by decide +kernel
theorem dX6_against_40 : decode cX6_against 40 = .ok (.iload_n 1, 1) := by decide +kernel
theorem dX6_against_41 : decode cX6_against 41 = .ok (.aload_n 0, 1) := by decide +kernel
theorem dX6_against_42 : decode cX6_against 42 = .ok (.getfield 167, 3) := by decide +kernel
theorem dX6_against_45 : decode cX6_against 45 = .ok (.invokevirtual 209, 3) := by decide +kernel
theorem dX6_against_48 : decode cX6_against 48 = .ok (.ireturn, 1) := by decide +kernel
set_option maxRecDepth 20000 in
theorem ggX6_fareOf_X6_in : GoodIn wsX6_fareOf wsX6_in := goodIn_r _ [8] (by decide +kernel) (by decide +kernel)
set_option maxRecDepth 20000 in
theorem gX6_fareOf_X6_in : GoodIn wsX6_fareOf (va_wsS RX6 147 yX6_in wsX6_in) := goodIn_app (goodIn_of _ (by decide +kernel)) ggX6_fareOf_X6_in
theorem dX6_fareOf_0 : decode cX6_fareOf 0 = .ok (.aload_n 0, 1) := by decide +kernel
theorem dX6_fareOf_1 : decode cX6_fareOf 1 = .ok (.getfield 107, 3) := by decide +kernel
theorem dX6_fareOf_4 : decode cX6_fareOf 4 = .ok (.iload_n 1, 1) := by decide +kernel
theorem dX6_fareOf_5 : decode cX6_fareOf 5 = .ok (.iaload, 1) := by decide +kernel
theorem dX6_fareOf_6 : decode cX6_fareOf 6 = .ok (.aload_n 0, 1) := by decide +kernel
theorem dX6_fareOf_7 : decode cX6_fareOf 7 = .ok (.getfield 137, 3) := by decide +kernel
theorem dX6_fareOf_10 : decode cX6_fareOf 10 = .ok (.aload_n 0, 1) := by decide +kernel
theorem dX6_fareOf_11 : decode cX6_fareOf 11 = .ok (.getfield 104, 3) := by decide +kernel
theorem dX6_fareOf_14 : decode cX6_fareOf 14 = .ok (.iload_n 1, 1) := by decide +kernel
theorem dX6_fareOf_15 : decode cX6_fareOf 15 = .ok (.iaload, 1) := by decide +kernel
theorem dX6_fareOf_16 : decode cX6_fareOf 16 = .ok (.iaload, 1) := by decide +kernel
theorem dX6_fareOf_17 : decode cX6_fareOf 17 = .ok (.imul, 1) := by decide +kernel
theorem dX6_fareOf_18 : decode cX6_fareOf 18 = .ok (.istore_n 2, 1) := by decide +kernel
theorem dX6_fareOf_19 : decode cX6_fareOf 19 = .ok (.aload_n 0, 1) := by decide +kernel
theorem dX6_fareOf_20 : decode cX6_fareOf 20 = .ok (.getfield 104, 3) := by decide +kernel
theorem dX6_fareOf_23 : decode cX6_fareOf 23 = .ok (.iload_n 1, 1) := by decide +kernel
theorem dX6_fareOf_24 : decode cX6_fareOf 24 = .ok (.iaload, 1) := by decide +kernel
theorem dX6_fareOf_25 : decode cX6_fareOf 25 = .ok (.ifCond .ne 9, 3) := by decide +kernel
theorem dX6_fareOf_28 : decode cX6_fareOf 28 = .ok (.iload_n 2, 1) := by decide +kernel
theorem dX6_fareOf_29 : decode cX6_fareOf 29 = .ok (.iconst 2, 1) := by decide +kernel
theorem dX6_fareOf_30 : decode cX6_fareOf 30 = .ok (.idiv, 1) := by decide +kernel
theorem dX6_fareOf_31 : decode cX6_fareOf 31 = .ok (.goto 4, 3) := by decide +kernel
theorem dX6_fareOf_34 : decode cX6_fareOf 34 = .ok (.iload_n 2, 1) := by decide +kernel
theorem dX6_fareOf_35 : decode cX6_fareOf 35 = .ok (.istore_n 2, 1) := by decide +kernel
theorem dX6_fareOf_36 : decode cX6_fareOf 36 = .ok (.aload_n 0, 1) := by decide +kernel
theorem dX6_fareOf_37 : decode cX6_fareOf 37 = .ok (.getfield 98, 3) := by decide +kernel
theorem dX6_fareOf_40 : decode cX6_fareOf 40 = .ok (.iload_n 1, 1) := by decide +kernel
theorem dX6_fareOf_41 : decode cX6_fareOf 41 = .ok (.iaload, 1) := by decide +kernel
theorem dX6_fareOf_42 : decode cX6_fareOf 42 = .ok (.iconst 1, 1) := by decide +kernel
theorem dX6_fareOf_43 : decode cX6_fareOf 43 = .ok (.iconst 2, 1) := by decide +kernel
theorem dX6_fareOf_44 : decode cX6_fareOf 44 = .ok (.invokestatic 147, 3) := by decide +kernel
theorem dX6_fareOf_47 : decode cX6_fareOf 47 = .ok (.ifCond .ne 7, 3) := by decide +kernel
theorem dX6_fareOf_50 : decode cX6_fareOf 50 = .ok (.iconst 0, 1) := by decide +kernel
theorem dX6_fareOf_51 : decode cX6_fareOf 51 = .ok (.goto 17, 3) := by decide +kernel
theorem dX6_fareOf_54 : decode cX6_fareOf 54 = .ok (.iload_n 2, 1) := by decide +kernel
theorem dX6_fareOf_55 : decode cX6_fareOf 55 = .ok (.sipush 5000, 3) := by decide +kernel
theorem dX6_fareOf_58 : decode cX6_fareOf 58 = .ok (.if_icmp .le 9, 3) := by decide +kernel
theorem dX6_fareOf_61 : decode cX6_fareOf 61 = .ok (.sipush 5000, 3) := by decide +kernel
theorem dX6_fareOf_64 : decode cX6_fareOf 64 = .ok (.goto 4, 3) := by decide +kernel
theorem dX6_fareOf_67 : decode cX6_fareOf 67 = .ok (.iload_n 2, 1) := by decide +kernel
theorem dX6_fareOf_68 : decode cX6_fareOf 68 = .ok (.ireturn, 1) := by decide +kernel
set_option maxRecDepth 20000 in
theorem ggX6_bookingOf_X6_in : GoodIn wsX6_bookingOf wsX6_in := goodIn_r _ [10] (by decide +kernel) (by decide +kernel)
set_option maxRecDepth 20000 in
theorem gX6_bookingOf_X6_in : GoodIn wsX6_bookingOf (va_wsS RX6 147 yX6_in wsX6_in) := goodIn_app (goodIn_of _ (by decide +kernel)) ggX6_bookingOf_X6_in
set_option maxRecDepth 20000 in
theorem ggX6_bookingOf_X6_refused : GoodIn wsX6_bookingOf wsX6_refused := goodIn_r _ [14, 15, 23, 24, 25, 26, 27, 28, 29, 30, 31, 32, 33, 34, 35, 36, 37, 38, 39, 40, 41, 42, 43, 44, 45, 46, 47, 48, 49, 50, 51, 52, 53, 54, 55, 56, 57, 58, 59, 60, 61, 62, 63, 64, 65, 66, 67, 68, 69, 70, 71] (by decide +kernel) (by decide +kernel)
set_option maxRecDepth 20000 in
theorem gX6_bookingOf_X6_refused : GoodIn wsX6_bookingOf (wsV RX6 157 RX6 yX6_refused wsX6_refused) := goodIn_app (goodIn_of _ (by decide +kernel)) ggX6_bookingOf_X6_refused
set_option maxRecDepth 20000 in
theorem ggX6_bookingOf_X6_fareOf : GoodIn wsX6_bookingOf wsX6_fareOf := goodIn_r _ [19, 20, 21, 22, 2, 7, 8, 9, 10, 23, 24, 25, 26, 27, 28, 29, 30, 31, 32, 33, 34, 35, 36, 37, 38, 39, 40, 41, 42, 43, 44, 45, 46, 47, 48, 49, 50, 51, 52, 53, 54, 55, 56, 57, 58, 59, 60, 61, 62, 63, 64, 65, 66, 67, 68, 69, 70, 71] (by decide +kernel) (by decide +kernel)
set_option maxRecDepth 20000 in
theorem gX6_bookingOf_X6_fareOf : GoodIn wsX6_bookingOf (wsV RX6 239 RX6 yX6_fareOf wsX6_fareOf) := goodIn_app (goodIn_of _ (by decide +kernel)) ggX6_bookingOf_X6_fareOf
theorem dX6_bookingOf_0 : decode cX6_bookingOf 0 = .ok (.aload_n 0, 1) := by decide +kernel
theorem dX6_bookingOf_1 : decode cX6_bookingOf 1 = .ok (.iload_n 1, 1) := by decide +kernel
theorem dX6_bookingOf_2 : decode cX6_bookingOf 2 = .ok (.iconst 0, 1) := by decide +kernel
theorem dX6_bookingOf_3 : decode cX6_bookingOf 3 = .ok (.aload_n 0, 1) := by decide +kernel
theorem dX6_bookingOf_4 : decode cX6_bookingOf 4 = .ok (.getfield 173, 3) := by decide +kernel
theorem dX6_bookingOf_7 : decode cX6_bookingOf 7 = .ok (.iconst 1, 1) := by decide +kernel
theorem dX6_bookingOf_8 : decode cX6_bookingOf 8 = .ok (.isub, 1) := by decide +kernel
theorem dX6_bookingOf_9 : decode cX6_bookingOf 9 = .ok (.invokestatic 147, 3) := by decide +kernel
theorem dX6_bookingOf_12 : decode cX6_bookingOf 12 = .ok (.ifCond .ne 7, 3) := by decide +kernel
theorem dX6_bookingOf_15 : decode cX6_bookingOf 15 = .ok (.iconst 1, 1) := by decide +kernel
theorem dX6_bookingOf_16 : decode cX6_bookingOf 16 = .ok (.goto 17, 3) := by decide +kernel
theorem dX6_bookingOf_19 : decode cX6_bookingOf 19 = .ok (.iload_n 2, 1) := by decide +kernel
theorem dX6_bookingOf_20 : decode cX6_bookingOf 20 = .ok (.iconst 0, 1) := by decide +kernel
theorem dX6_bookingOf_21 : decode cX6_bookingOf 21 = .ok (.iconst 5, 1) := by decide +kernel
theorem dX6_bookingOf_22 : decode cX6_bookingOf 22 = .ok (.invokestatic 147, 3) := by decide +kernel
theorem dX6_bookingOf_25 : decode cX6_bookingOf 25 = .ok (.ifCond .ne 7, 3) := by decide +kernel
theorem dX6_bookingOf_28 : decode cX6_bookingOf 28 = .ok (.iconst 2, 1) := by decide +kernel
theorem dX6_bookingOf_29 : decode cX6_bookingOf 29 = .ok (.goto 4, 3) := by decide +kernel
theorem dX6_bookingOf_32 : decode cX6_bookingOf 32 = .ok (.iconst 0, 1) := by decide +kernel
theorem dX6_bookingOf_33 : decode cX6_bookingOf 33 = .ok (.invokevirtual 157, 3) := by decide +kernel
theorem dX6_bookingOf_36 : decode cX6_bookingOf 36 = .ok (.ifCond .eq 5, 3) := by decide +kernel
theorem dX6_bookingOf_39 : decode cX6_bookingOf 39 = .ok (.iconst 0, 1) := by decide +kernel
theorem dX6_bookingOf_40 : decode cX6_bookingOf 40 = .ok (.ireturn, 1) := by decide +kernel
theorem dX6_bookingOf_41 : decode cX6_bookingOf 41 = .ok (.iload_n 2, 1) := by decide +kernel
theorem dX6_bookingOf_42 : decode cX6_bookingOf 42 = .ok (.tableswitch 69 0 4 #[34, 41, 48, 55, 62], 34) := by decide +kernel
theorem dX6_bookingOf_76 : decode cX6_bookingOf 76 = .ok (.aload_n 0, 1) := by decide +kernel
theorem dX6_bookingOf_77 : decode cX6_bookingOf 77 = .ok (.getfield 98, 3) := by decide +kernel
theorem dX6_bookingOf_80 : decode cX6_bookingOf 80 = .ok (.iload_n 1, 1) := by decide +kernel
theorem dX6_bookingOf_81 : decode cX6_bookingOf 81 = .ok (.iaload, 1) := by decide +kernel
theorem dX6_bookingOf_82 : decode cX6_bookingOf 82 = .ok (.ireturn, 1) := by decide +kernel
theorem dX6_bookingOf_83 : decode cX6_bookingOf 83 = .ok (.aload_n 0, 1) := by decide +kernel
theorem dX6_bookingOf_84 : decode cX6_bookingOf 84 = .ok (.getfield 101, 3) := by decide +kernel
theorem dX6_bookingOf_87 : decode cX6_bookingOf 87 = .ok (.iload_n 1, 1) := by decide +kernel
theorem dX6_bookingOf_88 : decode cX6_bookingOf 88 = .ok (.iaload, 1) := by decide +kernel
theorem dX6_bookingOf_89 : decode cX6_bookingOf 89 = .ok (.ireturn, 1) := by decide +kernel
theorem dX6_bookingOf_90 : decode cX6_bookingOf 90 = .ok (.aload_n 0, 1) := by decide +kernel
theorem dX6_bookingOf_91 : decode cX6_bookingOf 91 = .ok (.getfield 125, 3) := by decide +kernel
theorem dX6_bookingOf_94 : decode cX6_bookingOf 94 = .ok (.iload_n 1, 1) := by decide +kernel
theorem dX6_bookingOf_95 : decode cX6_bookingOf 95 = .ok (.iaload, 1) := by decide +kernel
theorem dX6_bookingOf_96 : decode cX6_bookingOf 96 = .ok (.ireturn, 1) := by decide +kernel
theorem dX6_bookingOf_97 : decode cX6_bookingOf 97 = .ok (.aload_n 0, 1) := by decide +kernel
theorem dX6_bookingOf_98 : decode cX6_bookingOf 98 = .ok (.getfield 122, 3) := by decide +kernel
theorem dX6_bookingOf_101 : decode cX6_bookingOf 101 = .ok (.iload_n 1, 1) := by decide +kernel
theorem dX6_bookingOf_102 : decode cX6_bookingOf 102 = .ok (.iaload, 1) := by decide +kernel
theorem dX6_bookingOf_103 : decode cX6_bookingOf 103 = .ok (.ireturn, 1) := by decide +kernel
theorem dX6_bookingOf_104 : decode cX6_bookingOf 104 = .ok (.aload_n 0, 1) := by decide +kernel
theorem dX6_bookingOf_105 : decode cX6_bookingOf 105 = .ok (.getfield 128, 3) := by decide +kernel
theorem dX6_bookingOf_108 : decode cX6_bookingOf 108 = .ok (.iload_n 1, 1) := by decide +kernel
theorem dX6_bookingOf_109 : decode cX6_bookingOf 109 = .ok (.iaload, 1) := by decide +kernel
theorem dX6_bookingOf_110 : decode cX6_bookingOf 110 = .ok (.ireturn, 1) := by decide +kernel
theorem dX6_bookingOf_111 : decode cX6_bookingOf 111 = .ok (.aload_n 0, 1) := by decide +kernel
theorem dX6_bookingOf_112 : decode cX6_bookingOf 112 = .ok (.iload_n 1, 1) := by decide +kernel
theorem dX6_bookingOf_113 : decode cX6_bookingOf 113 = .ok (.invokevirtual 239, 3) := by decide +kernel
theorem dX6_bookingOf_116 : decode cX6_bookingOf 116 = .ok (.ireturn, 1) := by decide +kernel
set_option maxRecDepth 20000 in
theorem ggX6_isOn_X6_in : GoodIn wsX6_isOn wsX6_in := goodIn_r _ [6] (by decide +kernel) (by decide +kernel)
set_option maxRecDepth 20000 in
theorem gX6_isOn_X6_in : GoodIn wsX6_isOn (va_wsS RX6 147 yX6_in wsX6_in) := goodIn_app (goodIn_of _ (by decide +kernel)) ggX6_isOn_X6_in
theorem dX6_isOn_0 : decode cX6_isOn 0 = .ok (.aload_n 0, 1) := by decide +kernel
theorem dX6_isOn_1 : decode cX6_isOn 1 = .ok (.getfield 101, 3) := by decide +kernel
theorem dX6_isOn_4 : decode cX6_isOn 4 = .ok (.iload_n 1, 1) := by decide +kernel
theorem dX6_isOn_5 : decode cX6_isOn 5 = .ok (.iaload, 1) := by decide +kernel
theorem dX6_isOn_6 : decode cX6_isOn 6 = .ok (.iload_n 2, 1) := by decide +kernel
theorem dX6_isOn_7 : decode cX6_isOn 7 = .ok (.if_icmp .ne 21, 3) := by decide +kernel
theorem dX6_isOn_10 : decode cX6_isOn 10 = .ok (.aload_n 0, 1) := by decide +kernel
theorem dX6_isOn_11 : decode cX6_isOn 11 = .ok (.getfield 98, 3) := by decide +kernel
theorem dX6_isOn_14 : decode cX6_isOn 14 = .ok (.iload_n 1, 1) := by decide +kernel
theorem dX6_isOn_15 : decode cX6_isOn 15 = .ok (.iaload, 1) := by decide +kernel
theorem dX6_isOn_16 : decode cX6_isOn 16 = .ok (.iconst 1, 1) := by decide +kernel
theorem dX6_isOn_17 : decode cX6_isOn 17 = .ok (.iconst 2, 1) := by decide +kernel
theorem dX6_isOn_18 : decode cX6_isOn 18 = .ok (.invokestatic 147, 3) := by decide +kernel
theorem dX6_isOn_21 : decode cX6_isOn 21 = .ok (.ifCond .eq 7, 3) := by decide +kernel
theorem dX6_isOn_24 : decode cX6_isOn 24 = .ok (.iconst 1, 1) := by decide +kernel
theorem dX6_isOn_25 : decode cX6_isOn 25 = .ok (.goto 4, 3) := by decide +kernel
theorem dX6_isOn_28 : decode cX6_isOn 28 = .ok (.iconst 0, 1) := by decide +kernel
theorem dX6_isOn_29 : decode cX6_isOn 29 = .ok (.ireturn, 1) := by decide +kernel
set_option maxRecDepth 20000 in
theorem ggX6_offAhead_X6_isOn : GoodIn wsX6_offAhead wsX6_isOn := goodIn_r _ [8, 9, 10, 11, 12, 7, 13, 14, 15, 16, 17, 18, 19, 20, 21, 22, 23, 24, 25, 26, 27, 28, 29, 30, 31, 32, 33, 34, 35, 36, 37, 38, 39, 40, 41, 42, 43, 44, 45, 46, 47, 48, 49, 50, 51, 52, 53, 54, 55, 56, 57, 58, 59, 60, 61, 62] (by decide +kernel) (by decide +kernel)
set_option maxRecDepth 20000 in
theorem gX6_offAhead_X6_isOn : GoodIn wsX6_offAhead (wsV RX6 242 RX6 yX6_isOn wsX6_isOn) := goodIn_app (goodIn_of _ (by decide +kernel)) ggX6_offAhead_X6_isOn
theorem dX6_offAhead_0 : decode cX6_offAhead 0 = .ok (.iconst 0, 1) := by decide +kernel
theorem dX6_offAhead_1 : decode cX6_offAhead 1 = .ok (.istore_n 3, 1) := by decide +kernel
theorem dX6_offAhead_2 : decode cX6_offAhead 2 = .ok (.iconst 0, 1) := by decide +kernel
theorem dX6_offAhead_3 : decode cX6_offAhead 3 = .ok (.istore 4, 2) := by decide +kernel
theorem dX6_offAhead_5 : decode cX6_offAhead 5 = .ok (.iload 4, 2) := by decide +kernel
theorem dX6_offAhead_7 : decode cX6_offAhead 7 = .ok (.aload_n 0, 1) := by decide +kernel
theorem dX6_offAhead_8 : decode cX6_offAhead 8 = .ok (.getfield 173, 3) := by decide +kernel
theorem dX6_offAhead_11 : decode cX6_offAhead 11 = .ok (.if_icmp .ge 81, 3) := by decide +kernel
theorem dX6_offAhead_14 : decode cX6_offAhead 14 = .ok (.aload_n 0, 1) := by decide +kernel
theorem dX6_offAhead_15 : decode cX6_offAhead 15 = .ok (.getfield 119, 3) := by decide +kernel
theorem dX6_offAhead_18 : decode cX6_offAhead 18 = .ok (.iload 4, 2) := by decide +kernel
theorem dX6_offAhead_20 : decode cX6_offAhead 20 = .ok (.baload, 1) := by decide +kernel
theorem dX6_offAhead_21 : decode cX6_offAhead 21 = .ok (.aload_n 0, 1) := by decide +kernel
theorem dX6_offAhead_22 : decode cX6_offAhead 22 = .ok (.getfield 119, 3) := by decide +kernel
theorem dX6_offAhead_25 : decode cX6_offAhead 25 = .ok (.iload_n 2, 1) := by decide +kernel
theorem dX6_offAhead_26 : decode cX6_offAhead 26 = .ok (.baload, 1) := by decide +kernel
theorem dX6_offAhead_27 : decode cX6_offAhead 27 = .ok (.if_icmp .eq 13, 3) := by decide +kernel
theorem dX6_offAhead_30 : decode cX6_offAhead 30 = .ok (.aload_n 0, 1) := by decide +kernel
theorem dX6_offAhead_31 : decode cX6_offAhead 31 = .ok (.getfield 119, 3) := by decide +kernel
theorem dX6_offAhead_34 : decode cX6_offAhead 34 = .ok (.iload 4, 2) := by decide +kernel
theorem dX6_offAhead_36 : decode cX6_offAhead 36 = .ok (.baload, 1) := by decide +kernel
theorem dX6_offAhead_37 : decode cX6_offAhead 37 = .ok (.goto 24, 3) := by decide +kernel
theorem dX6_offAhead_40 : decode cX6_offAhead 40 = .ok (.aload_n 0, 1) := by decide +kernel
theorem dX6_offAhead_41 : decode cX6_offAhead 41 = .ok (.getfield 131, 3) := by decide +kernel
theorem dX6_offAhead_44 : decode cX6_offAhead 44 = .ok (.iload 4, 2) := by decide +kernel
theorem dX6_offAhead_46 : decode cX6_offAhead 46 = .ok (.iaload, 1) := by decide +kernel
theorem dX6_offAhead_47 : decode cX6_offAhead 47 = .ok (.aload_n 0, 1) := by decide +kernel
theorem dX6_offAhead_48 : decode cX6_offAhead 48 = .ok (.getfield 131, 3) := by decide +kernel
theorem dX6_offAhead_51 : decode cX6_offAhead 51 = .ok (.iload_n 2, 1) := by decide +kernel
theorem dX6_offAhead_52 : decode cX6_offAhead 52 = .ok (.iaload, 1) := by decide +kernel
theorem dX6_offAhead_53 : decode cX6_offAhead 53 = .ok (.if_icmp .le 7, 3) := by decide +kernel
theorem dX6_offAhead_56 : decode cX6_offAhead 56 = .ok (.iconst 1, 1) := by decide +kernel
theorem dX6_offAhead_57 : decode cX6_offAhead 57 = .ok (.goto 4, 3) := by decide +kernel
theorem dX6_offAhead_60 : decode cX6_offAhead 60 = .ok (.iconst 0, 1) := by decide +kernel
theorem dX6_offAhead_61 : decode cX6_offAhead 61 = .ok (.istore 5, 2) := by decide +kernel
theorem dX6_offAhead_63 : decode cX6_offAhead 63 = .ok (.iload_n 3, 1) := by decide +kernel
theorem dX6_offAhead_64 : decode cX6_offAhead 64 = .ok (.aload_n 0, 1) := by decide +kernel
theorem dX6_offAhead_65 : decode cX6_offAhead 65 = .ok (.iload 4, 2) := by decide +kernel
theorem dX6_offAhead_67 : decode cX6_offAhead 67 = .ok (.iload_n 1, 1) := by decide +kernel
theorem dX6_offAhead_68 : decode cX6_offAhead 68 = .ok (.invokevirtual 242, 3) := by decide +kernel
theorem dX6_offAhead_71 : decode cX6_offAhead 71 = .ok (.ifCond .eq 12, 3) := by decide +kernel
theorem dX6_offAhead_74 : decode cX6_offAhead 74 = .ok (.iload 5, 2) := by decide +kernel
theorem dX6_offAhead_76 : decode cX6_offAhead 76 = .ok (.ifCond .eq 7, 3) := by decide +kernel
theorem dX6_offAhead_79 : decode cX6_offAhead 79 = .ok (.iconst 1, 1) := by decide +kernel
theorem dX6_offAhead_80 : decode cX6_offAhead 80 = .ok (.goto 4, 3) := by decide +kernel
theorem dX6_offAhead_83 : decode cX6_offAhead 83 = .ok (.iconst 0, 1) := by decide +kernel
theorem dX6_offAhead_84 : decode cX6_offAhead 84 = .ok (.iadd, 1) := by decide +kernel
theorem dX6_offAhead_85 : decode cX6_offAhead 85 = .ok (.istore_n 3, 1) := by decide +kernel
theorem dX6_offAhead_86 : decode cX6_offAhead 86 = .ok (.iinc 4 1, 3) := by decide +kernel
theorem dX6_offAhead_89 : decode cX6_offAhead 89 = .ok (.goto (-84), 3) := by decide +kernel
theorem dX6_offAhead_92 : decode cX6_offAhead 92 = .ok (.iload_n 3, 1) := by decide +kernel
theorem dX6_offAhead_93 : decode cX6_offAhead 93 = .ok (.ireturn, 1) := by decide +kernel
set_option maxRecDepth 20000 in
theorem ggX6_plan_X6_isSailing : GoodIn wsX6_plan wsX6_isSailing := goodIn_r _ [7, 8, 9, 10, 6, 11, 28, 29, 30, 31, 32, 33, 34, 35, 36, 37, 38, 39, 40, 41, 42, 43, 44, 45, 46, 47, 48, 49, 50, 51, 52, 53, 54, 55, 56, 57, 58, 59, 60, 61, 62, 63, 64, 65, 66, 67, 68, 69, 70, 71, 72, 73, 74, 75, 76] (by decide +kernel) (by decide +kernel)
set_option maxRecDepth 20000 in
theorem gX6_plan_X6_isSailing : GoodIn wsX6_plan (wsV RX6 170 RX6 yX6_isSailing wsX6_isSailing) := goodIn_app (goodIn_of _ (by decide +kernel)) ggX6_plan_X6_isSailing
set_option maxRecDepth 20000 in
theorem ggX6_plan_X6_refused : GoodIn wsX6_plan wsX6_refused := goodIn_r _ [15, 16, 28, 29, 30, 31, 32, 33, 34, 35, 36, 37, 38, 39, 40, 41, 42, 43, 44, 45, 46, 47, 48, 49, 50, 51, 52, 53, 54, 55, 56, 57, 58, 59, 60, 61, 62, 63, 64, 65, 66, 67, 68, 69, 70, 71, 72, 73, 74, 75, 76] (by decide +kernel) (by decide +kernel)
set_option maxRecDepth 20000 in
theorem gX6_plan_X6_refused : GoodIn wsX6_plan (wsV RX6 157 RX6 yX6_refused wsX6_refused) := goodIn_app (goodIn_of _ (by decide +kernel)) ggX6_plan_X6_refused
set_option maxRecDepth 20000 in
theorem ggX6_plan_X6_isOn : GoodIn wsX6_plan wsX6_isOn := goodIn_r _ [20, 21, 22, 9, 10, 6, 11, 28, 29, 30, 31, 32, 33, 34, 35, 36, 37, 38, 39, 40, 41, 42, 43, 44, 45, 46, 47, 48, 49, 50, 51, 52, 53, 54, 55, 56, 57, 58, 59, 60, 61, 62, 63, 64, 65, 66, 67, 68, 69, 70, 71, 72, 73, 74, 75, 76] (by decide +kernel) (by decide +kernel)
set_option maxRecDepth 20000 in
theorem gX6_plan_X6_isOn : GoodIn wsX6_plan (wsV RX6 242 RX6 yX6_isOn wsX6_isOn) := goodIn_app (goodIn_of _ (by decide +kernel)) ggX6_plan_X6_isOn
set_option maxRecDepth 20000 in
theorem ggX6_plan_X6_offAhead : GoodIn wsX6_plan wsX6_offAhead := goodIn_r _ [26, 1, 27, 2, 17, 18, 19, 6, 20, 21, 22, 9, 10, 11, 28, 29, 30, 31, 32, 33, 34, 35, 36, 37, 38, 39, 40, 41, 42, 43, 44, 45, 46, 47, 48, 49, 50, 51, 52, 53, 54, 55, 56, 57, 58, 59, 60, 61, 62, 63, 64, 65, 66, 67, 68, 69, 70, 71, 72, 73, 74, 75, 76] (by decide +kernel) (by decide +kernel)
set_option maxRecDepth 20000 in
theorem gX6_plan_X6_offAhead : GoodIn wsX6_plan (wsV RX6 245 RX6 yX6_offAhead wsX6_offAhead) := goodIn_app (goodIn_of _ (by decide +kernel)) ggX6_plan_X6_offAhead
theorem dX6_plan_0 : decode cX6_plan 0 = .ok (.aload_n 0, 1) := by decide +kernel
theorem dX6_plan_1 : decode cX6_plan 1 = .ok (.aload_n 0, 1) := by decide +kernel
theorem dX6_plan_2 : decode cX6_plan 2 = .ok (.iload_n 1, 1) := by decide +kernel
theorem dX6_plan_3 : decode cX6_plan 3 = .ok (.invokevirtual 170, 3) := by decide +kernel
theorem dX6_plan_6 : decode cX6_plan 6 = .ok (.ifCond .eq 11, 3) := by decide +kernel
theorem dX6_plan_9 : decode cX6_plan 9 = .ok (.iload_n 2, 1) := by decide +kernel
theorem dX6_plan_10 : decode cX6_plan 10 = .ok (.ifCond .lt 7, 3) := by decide +kernel
theorem dX6_plan_13 : decode cX6_plan 13 = .ok (.iconst 0, 1) := by decide +kernel
theorem dX6_plan_14 : decode cX6_plan 14 = .ok (.goto 4, 3) := by decide +kernel
theorem dX6_plan_17 : decode cX6_plan 17 = .ok (.iconst 1, 1) := by decide +kernel
theorem dX6_plan_18 : decode cX6_plan 18 = .ok (.invokevirtual 157, 3) := by decide +kernel
theorem dX6_plan_21 : decode cX6_plan 21 = .ok (.ifCond .eq 5, 3) := by decide +kernel
theorem dX6_plan_24 : decode cX6_plan 24 = .ok (.iconst 0, 1) := by decide +kernel
theorem dX6_plan_25 : decode cX6_plan 25 = .ok (.ireturn, 1) := by decide +kernel
theorem dX6_plan_26 : decode cX6_plan 26 = .ok (.iconst (-1), 1) := by decide +kernel
theorem dX6_plan_27 : decode cX6_plan 27 = .ok (.istore 4, 2) := by decide +kernel
theorem dX6_plan_29 : decode cX6_plan 29 = .ok (.iconst 0, 1) := by decide +kernel
theorem dX6_plan_30 : decode cX6_plan 30 = .ok (.istore 5, 2) := by decide +kernel
theorem dX6_plan_32 : decode cX6_plan 32 = .ok (.iload 5, 2) := by decide +kernel
theorem dX6_plan_34 : decode cX6_plan 34 = .ok (.aload_n 0, 1) := by decide +kernel
theorem dX6_plan_35 : decode cX6_plan 35 = .ok (.getfield 173, 3) := by decide +kernel
theorem dX6_plan_38 : decode cX6_plan 38 = .ok (.if_icmp .ge 53, 3) := by decide +kernel
theorem dX6_plan_41 : decode cX6_plan 41 = .ok (.aload_n 0, 1) := by decide +kernel
theorem dX6_plan_42 : decode cX6_plan 42 = .ok (.iload 5, 2) := by decide +kernel
theorem dX6_plan_44 : decode cX6_plan 44 = .ok (.iload_n 1, 1) := by decide +kernel
theorem dX6_plan_45 : decode cX6_plan 45 = .ok (.invokevirtual 242, 3) := by decide +kernel
theorem dX6_plan_48 : decode cX6_plan 48 = .ok (.ifCond .eq 33, 3) := by decide +kernel
theorem dX6_plan_51 : decode cX6_plan 51 = .ok (.iload_n 3, 1) := by decide +kernel
theorem dX6_plan_52 : decode cX6_plan 52 = .ok (.ifCond .eq 13, 3) := by decide +kernel
theorem dX6_plan_55 : decode cX6_plan 55 = .ok (.aload_n 0, 1) := by decide +kernel
theorem dX6_plan_56 : decode cX6_plan 56 = .ok (.iload_n 1, 1) := by decide +kernel
theorem dX6_plan_57 : decode cX6_plan 57 = .ok (.iload 5, 2) := by decide +kernel
theorem dX6_plan_59 : decode cX6_plan 59 = .ok (.invokevirtual 245, 3) := by decide +kernel
theorem dX6_plan_62 : decode cX6_plan 62 = .ok (.goto 10, 3) := by decide +kernel
theorem dX6_plan_65 : decode cX6_plan 65 = .ok (.aload_n 0, 1) := by decide +kernel
theorem dX6_plan_66 : decode cX6_plan 66 = .ok (.getfield 131, 3) := by decide +kernel
theorem dX6_plan_69 : decode cX6_plan 69 = .ok (.iload 5, 2) := by decide +kernel
theorem dX6_plan_71 : decode cX6_plan 71 = .ok (.iaload, 1) := by decide +kernel
theorem dX6_plan_72 : decode cX6_plan 72 = .ok (.iload_n 2, 1) := by decide +kernel
theorem dX6_plan_73 : decode cX6_plan 73 = .ok (.if_icmp .ne 8, 3) := by decide +kernel
theorem dX6_plan_76 : decode cX6_plan 76 = .ok (.iload 5, 2) := by decide +kernel
theorem dX6_plan_78 : decode cX6_plan 78 = .ok (.goto 5, 3) := by decide +kernel
theorem dX6_plan_81 : decode cX6_plan 81 = .ok (.iload 4, 2) := by decide +kernel
theorem dX6_plan_83 : decode cX6_plan 83 = .ok (.istore 4, 2) := by decide +kernel
theorem dX6_plan_85 : decode cX6_plan 85 = .ok (.iinc 5 1, 3) := by decide +kernel
theorem dX6_plan_88 : decode cX6_plan 88 = .ok (.goto (-56), 3) := by decide +kernel
theorem dX6_plan_91 : decode cX6_plan 91 = .ok (.iload 4, 2) := by decide +kernel
theorem dX6_plan_93 : decode cX6_plan 93 = .ok (.ireturn, 1) := by decide +kernel
set_option maxRecDepth 20000 in
theorem ggX6_gap_X6_isPier : GoodIn wsX6_gap wsX6_isPier := goodIn_r _ [10, 11, 12, 13, 9, 14, 20, 21, 22, 23, 24, 25, 26, 27, 28, 29, 30, 31, 32, 33, 34, 35, 36, 37, 38, 39, 40, 41, 42, 43, 44, 45, 46, 47, 48, 49, 50, 51, 52, 53, 54, 55, 56, 57, 58, 59, 60, 61, 62, 63, 64, 65, 66, 67, 68] (by decide +kernel) (by decide +kernel)
set_option maxRecDepth 20000 in
theorem gX6_gap_X6_isPier : GoodIn wsX6_gap (wsV RX6 161 RX6 yX6_isPier wsX6_isPier) := goodIn_app (goodIn_of _ (by decide +kernel)) ggX6_gap_X6_isPier
set_option maxRecDepth 20000 in
theorem ggX6_gap_X6_in : GoodIn wsX6_gap wsX6_in := goodIn_r _ [14] (by decide +kernel) (by decide +kernel)
set_option maxRecDepth 20000 in
theorem gX6_gap_X6_in : GoodIn wsX6_gap (va_wsS RX6 147 yX6_in wsX6_in) := goodIn_app (goodIn_of _ (by decide +kernel)) ggX6_gap_X6_in
set_option maxRecDepth 20000 in
theorem ggX6_gap_X6_refused : GoodIn wsX6_gap wsX6_refused := goodIn_r _ [18, 19, 20, 21, 22, 23, 24, 25, 26, 27, 28, 29, 30, 31, 32, 33, 34, 35, 36, 37, 38, 39, 40, 41, 42, 43, 44, 45, 46, 47, 48, 49, 50, 51, 52, 53, 54, 55, 56, 57, 58, 59, 60, 61, 62, 63, 64, 65, 66, 67, 68] (by decide +kernel) (by decide +kernel)
set_option maxRecDepth 20000 in
theorem gX6_gap_X6_refused : GoodIn wsX6_gap (wsV RX6 157 RX6 yX6_refused wsX6_refused) := goodIn_app (goodIn_of _ (by decide +kernel)) ggX6_gap_X6_refused
theorem dX6_gap_0 : decode cX6_gap 0 = .ok (.aload_n 0, 1) := by decide +kernel
theorem dX6_gap_1 : decode cX6_gap 1 = .ok (.aload_n 0, 1) := by decide +kernel
theorem dX6_gap_2 : decode cX6_gap 2 = .ok (.iload_n 1, 1) := by decide +kernel
theorem dX6_gap_3 : decode cX6_gap 3 = .ok (.invokevirtual 161, 3) := by decide +kernel
theorem dX6_gap_6 : decode cX6_gap 6 = .ok (.ifCond .ne 7, 3) := by decide +kernel
theorem dX6_gap_9 : decode cX6_gap 9 = .ok (.iconst 1, 1) := by decide +kernel
theorem dX6_gap_10 : decode cX6_gap 10 = .ok (.goto 17, 3) := by decide +kernel
theorem dX6_gap_13 : decode cX6_gap 13 = .ok (.iload_n 2, 1) := by decide +kernel
theorem dX6_gap_14 : decode cX6_gap 14 = .ok (.iconst 0, 1) := by decide +kernel
theorem dX6_gap_15 : decode cX6_gap 15 = .ok (.iconst 2, 1) := by decide +kernel
theorem dX6_gap_16 : decode cX6_gap 16 = .ok (.invokestatic 147, 3) := by decide +kernel
theorem dX6_gap_19 : decode cX6_gap 19 = .ok (.ifCond .ne 7, 3) := by decide +kernel
theorem dX6_gap_22 : decode cX6_gap 22 = .ok (.iconst 2, 1) := by decide +kernel
theorem dX6_gap_23 : decode cX6_gap 23 = .ok (.goto 4, 3) := by decide +kernel
theorem dX6_gap_26 : decode cX6_gap 26 = .ok (.iconst 0, 1) := by decide +kernel
theorem dX6_gap_27 : decode cX6_gap 27 = .ok (.invokevirtual 157, 3) := by decide +kernel
theorem dX6_gap_30 : decode cX6_gap 30 = .ok (.ifCond .eq 5, 3) := by decide +kernel
theorem dX6_gap_33 : decode cX6_gap 33 = .ok (.iconst 0, 1) := by decide +kernel
theorem dX6_gap_34 : decode cX6_gap 34 = .ok (.ireturn, 1) := by decide +kernel
theorem dX6_gap_35 : decode cX6_gap 35 = .ok (.aload_n 0, 1) := by decide +kernel
theorem dX6_gap_36 : decode cX6_gap 36 = .ok (.getfield 167, 3) := by decide +kernel
theorem dX6_gap_39 : decode cX6_gap 39 = .ok (.aload_n 0, 1) := by decide +kernel
theorem dX6_gap_40 : decode cX6_gap 40 = .ok (.getfield 26, 3) := by decide +kernel
theorem dX6_gap_43 : decode cX6_gap 43 = .ok (.iload_n 1, 1) := by decide +kernel
theorem dX6_gap_44 : decode cX6_gap 44 = .ok (.iaload, 1) := by decide +kernel
theorem dX6_gap_45 : decode cX6_gap 45 = .ok (.isub, 1) := by decide +kernel
theorem dX6_gap_46 : decode cX6_gap 46 = .ok (.istore_n 3, 1) := by decide +kernel
theorem dX6_gap_47 : decode cX6_gap 47 = .ok (.iload_n 3, 1) := by decide +kernel
theorem dX6_gap_48 : decode cX6_gap 48 = .ok (.aload_n 0, 1) := by decide +kernel
theorem dX6_gap_49 : decode cX6_gap 49 = .ok (.getfield 32, 3) := by decide +kernel
theorem dX6_gap_52 : decode cX6_gap 52 = .ok (.iload_n 1, 1) := by decide +kernel
theorem dX6_gap_53 : decode cX6_gap 53 = .ok (.iaload, 1) := by decide +kernel
theorem dX6_gap_54 : decode cX6_gap 54 = .ok (.if_icmp .le 7, 3) := by decide +kernel
theorem dX6_gap_57 : decode cX6_gap 57 = .ok (.iconst 1, 1) := by decide +kernel
theorem dX6_gap_58 : decode cX6_gap 58 = .ok (.goto 4, 3) := by decide +kernel
theorem dX6_gap_61 : decode cX6_gap 61 = .ok (.iconst 0, 1) := by decide +kernel
theorem dX6_gap_62 : decode cX6_gap 62 = .ok (.istore 4, 2) := by decide +kernel
theorem dX6_gap_64 : decode cX6_gap 64 = .ok (.iload_n 2, 1) := by decide +kernel
theorem dX6_gap_65 : decode cX6_gap 65 = .ok (.ifCond .ne 7, 3) := by decide +kernel
theorem dX6_gap_68 : decode cX6_gap 68 = .ok (.iload_n 3, 1) := by decide +kernel
theorem dX6_gap_69 : decode cX6_gap 69 = .ok (.goto 46, 3) := by decide +kernel
theorem dX6_gap_72 : decode cX6_gap 72 = .ok (.iload_n 2, 1) := by decide +kernel
theorem dX6_gap_73 : decode cX6_gap 73 = .ok (.iconst 1, 1) := by decide +kernel
theorem dX6_gap_74 : decode cX6_gap 74 = .ok (.if_icmp .ne 21, 3) := by decide +kernel
theorem dX6_gap_77 : decode cX6_gap 77 = .ok (.iload 4, 2) := by decide +kernel
theorem dX6_gap_79 : decode cX6_gap 79 = .ok (.ifCond .eq 7, 3) := by decide +kernel
theorem dX6_gap_82 : decode cX6_gap 82 = .ok (.iload_n 3, 1) := by decide +kernel
theorem dX6_gap_83 : decode cX6_gap 83 = .ok (.goto 32, 3) := by decide +kernel
theorem dX6_gap_86 : decode cX6_gap 86 = .ok (.aload_n 0, 1) := by decide +kernel
theorem dX6_gap_87 : decode cX6_gap 87 = .ok (.getfield 32, 3) := by decide +kernel
theorem dX6_gap_90 : decode cX6_gap 90 = .ok (.iload_n 1, 1) := by decide +kernel
theorem dX6_gap_91 : decode cX6_gap 91 = .ok (.iaload, 1) := by decide +kernel
theorem dX6_gap_92 : decode cX6_gap 92 = .ok (.goto 23, 3) := by decide +kernel
theorem dX6_gap_95 : decode cX6_gap 95 = .ok (.iload 4, 2) := by decide +kernel
theorem dX6_gap_97 : decode cX6_gap 97 = .ok (.ifCond .eq 12, 3) := by decide +kernel
theorem dX6_gap_100 : decode cX6_gap 100 = .ok (.aload_n 0, 1) := by decide +kernel
theorem dX6_gap_101 : decode cX6_gap 101 = .ok (.getfield 29, 3) := by decide +kernel
theorem dX6_gap_104 : decode cX6_gap 104 = .ok (.iload_n 1, 1) := by decide +kernel
theorem dX6_gap_105 : decode cX6_gap 105 = .ok (.iaload, 1) := by decide +kernel
theorem dX6_gap_106 : decode cX6_gap 106 = .ok (.goto 9, 3) := by decide +kernel
theorem dX6_gap_109 : decode cX6_gap 109 = .ok (.aload_n 0, 1) := by decide +kernel
theorem dX6_gap_110 : decode cX6_gap 110 = .ok (.getfield 35, 3) := by decide +kernel
theorem dX6_gap_113 : decode cX6_gap 113 = .ok (.iload_n 1, 1) := by decide +kernel
theorem dX6_gap_114 : decode cX6_gap 114 = .ok (.iaload, 1) := by decide +kernel
theorem dX6_gap_115 : decode cX6_gap 115 = .ok (.ireturn, 1) := by decide +kernel
set_option maxRecDepth 20000 in
theorem ggX6_share_X6_in : GoodIn wsX6_share wsX6_in := goodIn_r _ [7] (by decide +kernel) (by decide +kernel)
set_option maxRecDepth 20000 in
theorem gX6_share_X6_in : GoodIn wsX6_share (va_wsS RX6 147 yX6_in wsX6_in) := goodIn_app (goodIn_of _ (by decide +kernel)) ggX6_share_X6_in
theorem dX6_share_0 : decode cX6_share 0 = .ok (.iconst 0, 1) := by decide +kernel
theorem dX6_share_1 : decode cX6_share 1 = .ok (.istore_n 1, 1) := by decide +kernel
theorem dX6_share_2 : decode cX6_share 2 = .ok (.iconst 0, 1) := by decide +kernel
theorem dX6_share_3 : decode cX6_share 3 = .ok (.istore_n 2, 1) := by decide +kernel
theorem dX6_share_4 : decode cX6_share 4 = .ok (.iconst 0, 1) := by decide +kernel
theorem dX6_share_5 : decode cX6_share 5 = .ok (.istore_n 3, 1) := by decide +kernel
theorem dX6_share_6 : decode cX6_share 6 = .ok (.iload_n 3, 1) := by decide +kernel
theorem dX6_share_7 : decode cX6_share 7 = .ok (.aload_n 0, 1) := by decide +kernel
theorem dX6_share_8 : decode cX6_share 8 = .ok (.getfield 154, 3) := by decide +kernel
theorem dX6_share_11 : decode cX6_share 11 = .ok (.if_icmp .ge 66, 3) := by decide +kernel
theorem dX6_share_14 : decode cX6_share 14 = .ok (.iload_n 1, 1) := by decide +kernel
theorem dX6_share_15 : decode cX6_share 15 = .ok (.aload_n 0, 1) := by decide +kernel
theorem dX6_share_16 : decode cX6_share 16 = .ok (.getfield 80, 3) := by decide +kernel
theorem dX6_share_19 : decode cX6_share 19 = .ok (.iload_n 3, 1) := by decide +kernel
theorem dX6_share_20 : decode cX6_share 20 = .ok (.baload, 1) := by decide +kernel
theorem dX6_share_21 : decode cX6_share 21 = .ok (.ifCond .eq 16, 3) := by decide +kernel
theorem dX6_share_24 : decode cX6_share 24 = .ok (.aload_n 0, 1) := by decide +kernel
theorem dX6_share_25 : decode cX6_share 25 = .ok (.getfield 62, 3) := by decide +kernel
theorem dX6_share_28 : decode cX6_share 28 = .ok (.iload_n 3, 1) := by decide +kernel
theorem dX6_share_29 : decode cX6_share 29 = .ok (.iaload, 1) := by decide +kernel
theorem dX6_share_30 : decode cX6_share 30 = .ok (.ifCond .eq 7, 3) := by decide +kernel
theorem dX6_share_33 : decode cX6_share 33 = .ok (.iconst 1, 1) := by decide +kernel
theorem dX6_share_34 : decode cX6_share 34 = .ok (.goto 4, 3) := by decide +kernel
theorem dX6_share_37 : decode cX6_share 37 = .ok (.iconst 0, 1) := by decide +kernel
theorem dX6_share_38 : decode cX6_share 38 = .ok (.iadd, 1) := by decide +kernel
theorem dX6_share_39 : decode cX6_share 39 = .ok (.istore_n 1, 1) := by decide +kernel
theorem dX6_share_40 : decode cX6_share 40 = .ok (.iload_n 2, 1) := by decide +kernel
theorem dX6_share_41 : decode cX6_share 41 = .ok (.aload_n 0, 1) := by decide +kernel
theorem dX6_share_42 : decode cX6_share 42 = .ok (.getfield 80, 3) := by decide +kernel
theorem dX6_share_45 : decode cX6_share 45 = .ok (.iload_n 3, 1) := by decide +kernel
theorem dX6_share_46 : decode cX6_share 46 = .ok (.baload, 1) := by decide +kernel
theorem dX6_share_47 : decode cX6_share 47 = .ok (.ifCond .eq 21, 3) := by decide +kernel
theorem dX6_share_50 : decode cX6_share 50 = .ok (.aload_n 0, 1) := by decide +kernel
theorem dX6_share_51 : decode cX6_share 51 = .ok (.getfield 62, 3) := by decide +kernel
theorem dX6_share_54 : decode cX6_share 54 = .ok (.iload_n 3, 1) := by decide +kernel
theorem dX6_share_55 : decode cX6_share 55 = .ok (.iaload, 1) := by decide +kernel
theorem dX6_share_56 : decode cX6_share 56 = .ok (.iconst 1, 1) := by decide +kernel
theorem dX6_share_57 : decode cX6_share 57 = .ok (.iconst 2, 1) := by decide +kernel
theorem dX6_share_58 : decode cX6_share 58 = .ok (.invokestatic 147, 3) := by decide +kernel
theorem dX6_share_61 : decode cX6_share 61 = .ok (.ifCond .eq 7, 3) := by decide +kernel
theorem dX6_share_64 : decode cX6_share 64 = .ok (.iconst 1, 1) := by decide +kernel
theorem dX6_share_65 : decode cX6_share 65 = .ok (.goto 4, 3) := by decide +kernel
theorem dX6_share_68 : decode cX6_share 68 = .ok (.iconst 0, 1) := by decide +kernel
theorem dX6_share_69 : decode cX6_share 69 = .ok (.iadd, 1) := by decide +kernel
theorem dX6_share_70 : decode cX6_share 70 = .ok (.istore_n 2, 1) := by decide +kernel
theorem dX6_share_71 : decode cX6_share 71 = .ok (.iinc 3 1, 3) := by decide +kernel
theorem dX6_share_74 : decode cX6_share 74 = .ok (.goto (-68), 3) := by decide +kernel
theorem dX6_share_77 : decode cX6_share 77 = .ok (.iload_n 1, 1) := by decide +kernel
theorem dX6_share_78 : decode cX6_share 78 = .ok (.ifCond .ne 7, 3) := by decide +kernel
theorem dX6_share_81 : decode cX6_share 81 = .ok (.dconst 1, 1) := by decide +kernel
theorem dX6_share_82 : decode cX6_share 82 = .ok (.goto 8, 3) := by decide +kernel
theorem dX6_share_85 : decode cX6_share 85 = .ok (.iload_n 2, 1) := by decide +kernel
theorem dX6_share_86 : decode cX6_share 86 = .ok (.i2d, 1) := by decide +kernel
theorem dX6_share_87 : decode cX6_share 87 = .ok (.iload_n 1, 1) := by decide +kernel
theorem dX6_share_88 : decode cX6_share 88 = .ok (.i2d, 1) := by decide +kernel
theorem dX6_share_89 : decode cX6_share 89 = .ok (.ddiv, 1) := by decide +kernel
theorem dX6_share_90 : decode cX6_share 90 = .ok (.dreturn, 1) := by decide +kernel
set_option maxRecDepth 20000 in
theorem ggX6_performance_X6_share : GoodIn wsX6_performance wsX6_share := goodIn_r _ [6, 7, 8, 9, 10, 11, 5, 12, 13, 14, 15, 16, 17, 18, 19, 20, 21, 22, 23, 24, 25, 26, 27, 28, 29, 30, 31, 32, 33, 34, 35, 36, 37, 38, 39, 40, 41, 42, 43, 44, 45, 46, 47, 48, 49, 50, 51, 52, 53, 54, 55, 56, 57, 58, 59, 60, 61] (by decide +kernel) (by decide +kernel)
set_option maxRecDepth 20000 in
theorem gX6_performance_X6_share : GoodIn wsX6_performance (wsV RX6 248 RX6 yX6_share wsX6_share) := goodIn_app (goodIn_of _ (by decide +kernel)) ggX6_performance_X6_share
theorem dX6_performance_0 : decode cX6_performance 0 = .ok (.aload_n 0, 1) := by decide +kernel
theorem dX6_performance_1 : decode cX6_performance 1 = .ok (.iconst 0, 1) := by decide +kernel
theorem dX6_performance_2 : decode cX6_performance 2 = .ok (.putfield 140, 3) := by decide +kernel
theorem dX6_performance_5 : decode cX6_performance 5 = .ok (.aload_n 0, 1) := by decide +kernel
theorem dX6_performance_6 : decode cX6_performance 6 = .ok (.invokevirtual 248, 3) := by decide +kernel
theorem dX6_performance_9 : decode cX6_performance 9 = .ok (.dreturn, 1) := by decide +kernel
set_option maxRecDepth 20000 in
theorem ggX6_penalty_X6_share : GoodIn wsX6_penalty wsX6_share := goodIn_r _ [7, 8, 9, 10, 11, 12, 6, 13, 14, 15, 16, 17, 18, 19, 20, 21, 22, 23, 24, 25, 26, 27, 28, 29, 30, 31, 32, 33, 34, 35, 36, 37, 38, 39, 40, 41, 42, 43, 44, 45, 46, 47, 48, 49, 50, 51, 52, 53, 54, 55, 56, 57, 58, 59, 60, 61, 62] (by decide +kernel) (by decide +kernel)
set_option maxRecDepth 20000 in
theorem gX6_penalty_X6_share : GoodIn wsX6_penalty (wsV RX6 248 RX6 yX6_share wsX6_share) := goodIn_app (goodIn_of _ (by decide +kernel)) ggX6_penalty_X6_share
theorem dX6_penalty_0 : decode cX6_penalty 0 = .ok (.aload_n 0, 1) := by decide +kernel
theorem dX6_penalty_1 : decode cX6_penalty 1 = .ok (.iconst 0, 1) := by decide +kernel
theorem dX6_penalty_2 : decode cX6_penalty 2 = .ok (.putfield 140, 3) := by decide +kernel
theorem dX6_penalty_5 : decode cX6_penalty 5 = .ok (.ldc2_w 252, 3) := by decide +kernel
theorem dX6_penalty_8 : decode cX6_penalty 8 = .ok (.dconst 1, 1) := by decide +kernel
theorem dX6_penalty_9 : decode cX6_penalty 9 = .ok (.aload_n 0, 1) := by decide +kernel
theorem dX6_penalty_10 : decode cX6_penalty 10 = .ok (.invokevirtual 248, 3) := by decide +kernel
theorem dX6_penalty_13 : decode cX6_penalty 13 = .ok (.dsub, 1) := by decide +kernel
theorem dX6_penalty_14 : decode cX6_penalty 14 = .ok (.dmul, 1) := by decide +kernel
theorem dX6_penalty_15 : decode cX6_penalty 15 = .ok (.dstore_n 1, 1) := by decide +kernel
theorem dX6_penalty_16 : decode cX6_penalty 16 = .ok (.dload_n 1, 1) := by decide +kernel
theorem dX6_penalty_17 : decode cX6_penalty 17 = .ok (.d2i, 1) := by decide +kernel
theorem dX6_penalty_18 : decode cX6_penalty 18 = .ok (.ireturn, 1) := by decide +kernel
