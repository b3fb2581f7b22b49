theorem dX10_init_0 : decode cX10_init 0 = .ok (.aload_n 0, 1) := by decide +kernel
theorem dX10_init_1 : decode cX10_init 1 = .ok (.invokespecial 1, 3) := by decide +kernel
theorem dX10_init_4 : decode cX10_init 4 = .ok (.aload_n 0, 1) := by decide +kernel
theorem dX10_init_5 : decode cX10_init 5 = .ok (.sipush 1530, 3) := by decide +kernel
theorem dX10_init_8 : decode cX10_init 8 = .ok (.newarray .int, 2) := by decide +kernel
theorem dX10_init_10 : decode cX10_init 10 = .ok (.putfield 9, 3) := by decide +kernel
theorem dX10_init_13 : decode cX10_init 13 = .ok (.aload_n 0, 1) := by decide +kernel
theorem dX10_init_14 : decode cX10_init 14 = .ok (.sipush 1530, 3) := by decide +kernel
theorem dX10_init_17 : decode cX10_init 17 = .ok (.newarray .int, 2) := by decide +kernel
theorem dX10_init_19 : decode cX10_init 19 = .ok (.putfield 13, 3) := by decide +kernel
theorem dX10_init_22 : decode cX10_init 22 = .ok (.aload_n 0, 1) := by decide +kernel
theorem dX10_init_23 : decode cX10_init 23 = .ok (.sipush 1530, 3) := by decide +kernel
theorem dX10_init_26 : decode cX10_init 26 = .ok (.newarray .int, 2) := by decide +kernel
theorem dX10_init_28 : decode cX10_init 28 = .ok (.putfield 16, 3) := by decide +kernel
theorem dX10_init_31 : decode cX10_init 31 = .ok (.aload_n 0, 1) := by decide +kernel
theorem dX10_init_32 : decode cX10_init 32 = .ok (.bipush 25, 2) := by decide +kernel
theorem dX10_init_34 : decode cX10_init 34 = .ok (.newarray .int, 2) := by decide +kernel
theorem dX10_init_36 : decode cX10_init 36 = .ok (.putfield 19, 3) := by decide +kernel
theorem dX10_init_39 : decode cX10_init 39 = .ok (.aload_n 0, 1) := by decide +kernel
theorem dX10_init_40 : decode cX10_init 40 = .ok (.bipush 25, 2) := by decide +kernel
theorem dX10_init_42 : decode cX10_init 42 = .ok (.newarray .int, 2) := by decide +kernel
theorem dX10_init_44 : decode cX10_init 44 = .ok (.putfield 22, 3) := by decide +kernel
theorem dX10_init_47 : decode cX10_init 47 = .ok (.aload_n 0, 1) := by decide +kernel
theorem dX10_init_48 : decode cX10_init 48 = .ok (.bipush 25, 2) := by decide +kernel
theorem dX10_init_50 : decode cX10_init 50 = .ok (.newarray .boolean, 2) := by decide +kernel
theorem dX10_init_52 : decode cX10_init 52 = .ok (.putfield 25, 3) := by decide +kernel
theorem dX10_init_55 : decode cX10_init 55 = .ok (.aload_n 0, 1) := by decide +kernel
theorem dX10_init_56 : decode cX10_init 56 = .ok (.bipush 6, 2) := by decide +kernel
theorem dX10_init_58 : decode cX10_init 58 = .ok (.newarray .int, 2) := by decide +kernel
theorem dX10_init_60 : decode cX10_init 60 = .ok (.putfield 29, 3) := by decide +kernel
theorem dX10_init_63 : decode cX10_init 63 = .ok (.aload_n 0, 1) := by decide +kernel
theorem dX10_init_64 : decode cX10_init 64 = .ok (.sipush 2500, 3) := by decide +kernel
theorem dX10_init_67 : decode cX10_init 67 = .ok (.newarray .int, 2) := by decide +kernel
theorem dX10_init_69 : decode cX10_init 69 = .ok (.putfield 32, 3) := by decide +kernel
theorem dX10_init_72 : decode cX10_init 72 = .ok (.aload_n 0, 1) := by decide +kernel
theorem dX10_init_73 : decode cX10_init 73 = .ok (.sipush 2500, 3) := by decide +kernel
theorem dX10_init_76 : decode cX10_init 76 = .ok (.newarray .int, 2) := by decide +kernel
theorem dX10_init_78 : decode cX10_init 78 = .ok (.putfield 35, 3) := by decide +kernel
theorem dX10_init_81 : decode cX10_init 81 = .ok (.aload_n 0, 1) := by decide +kernel
theorem dX10_init_82 : decode cX10_init 82 = .ok (.bipush 26, 2) := by decide +kernel
theorem dX10_init_84 : decode cX10_init 84 = .ok (.newarray .int, 2) := by decide +kernel
theorem dX10_init_86 : decode cX10_init 86 = .ok (.putfield 38, 3) := by decide +kernel
theorem dX10_init_89 : decode cX10_init 89 = .ok (.aload_n 0, 1) := by decide +kernel
theorem dX10_init_90 : decode cX10_init 90 = .ok (.bipush 26, 2) := by decide +kernel
theorem dX10_init_92 : decode cX10_init 92 = .ok (.newarray .int, 2) := by decide +kernel
theorem dX10_init_94 : decode cX10_init 94 = .ok (.putfield 41, 3) := by decide +kernel
theorem dX10_init_97 : decode cX10_init 97 = .ok (.aload_n 0, 1) := by decide +kernel
theorem dX10_init_98 : decode cX10_init 98 = .ok (.bipush 26, 2) := by decide +kernel
theorem dX10_init_100 : decode cX10_init 100 = .ok (.newarray .int, 2) := by decide +kernel
theorem dX10_init_102 : decode cX10_init 102 = .ok (.putfield 44, 3) := by decide +kernel
theorem dX10_init_105 : decode cX10_init 105 = .ok (.aload_n 0, 1) := by decide +kernel
theorem dX10_init_106 : decode cX10_init 106 = .ok (.bipush 25, 2) := by decide +kernel
theorem dX10_init_108 : decode cX10_init 108 = .ok (.newarray .int, 2) := by decide +kernel
theorem dX10_init_110 : decode cX10_init 110 = .ok (.putfield 47, 3) := by decide +kernel
theorem dX10_init_113 : decode cX10_init 113 = .ok (.aload_n 0, 1) := by decide +kernel
theorem dX10_init_114 : decode cX10_init 114 = .ok (.bipush 26, 2) := by decide +kernel
theorem dX10_init_116 : decode cX10_init 116 = .ok (.newarray .int, 2) := by decide +kernel
theorem dX10_init_118 : decode cX10_init 118 = .ok (.putfield 50, 3) := by decide +kernel
theorem dX10_init_121 : decode cX10_init 121 = .ok (.aload_n 0, 1) := by decide +kernel
theorem dX10_init_122 : decode cX10_init 122 = .ok (.bipush 24, 2) := by decide +kernel
theorem dX10_init_124 : decode cX10_init 124 = .ok (.newarray .int, 2) := by decide +kernel
theorem dX10_init_126 : decode cX10_init 126 = .ok (.putfield 53, 3) := by decide +kernel
theorem dX10_init_129 : decode cX10_init 129 = .ok (.aload_n 0, 1) := by decide +kernel
theorem dX10_init_130 : decode cX10_init 130 = .ok (.iconst 3, 1) := by decide +kernel
theorem dX10_init_131 : decode cX10_init 131 = .ok (.newarray .int, 2) := by decide +kernel
theorem dX10_init_133 : decode cX10_init 133 = .ok (.putfield 56, 3) := by decide +kernel
theorem dX10_init_136 : decode cX10_init 136 = .ok (.aload_n 0, 1) := by decide +kernel
theorem dX10_init_137 : decode cX10_init 137 = .ok (.bipush 96, 2) := by decide +kernel
theorem dX10_init_139 : decode cX10_init 139 = .ok (.newarray .int, 2) := by decide +kernel
theorem dX10_init_141 : decode cX10_init 141 = .ok (.putfield 59, 3) := by decide +kernel
theorem dX10_init_144 : decode cX10_init 144 = .ok (.aload_n 0, 1) := by decide +kernel
theorem dX10_init_145 : decode cX10_init 145 = .ok (.bipush 12, 2) := by decide +kernel
theorem dX10_init_147 : decode cX10_init 147 = .ok (.newarray .char, 2) := by decide +kernel
theorem dX10_init_149 : decode cX10_init 149 = .ok (.dup, 1) := by decide +kernel
theorem dX10_init_150 : decode cX10_init 150 = .ok (.iconst 0, 1) := by decide +kernel
theorem dX10_init_151 : decode cX10_init 151 = .ok (.bipush 99, 2) := by decide +kernel
theorem dX10_init_153 : decode cX10_init 153 = .ok (.castore, 1) := by decide +kernel
theorem dX10_init_154 : decode cX10_init 154 = .ok (.dup, 1) := by decide +kernel
theorem dX10_init_155 : decode cX10_init 155 = .ok (.iconst 1, 1) := by decide +kernel
theorem dX10_init_156 : decode cX10_init 156 = .ok (.bipush 111, 2) := by decide +kernel
theorem dX10_init_158 : decode cX10_init 158 = .ok (.castore, 1) := by decide +kernel
theorem dX10_init_159 : decode cX10_init 159 = .ok (.dup, 1) := by decide +kernel
theorem dX10_init_160 : decode cX10_init 160 = .ok (.iconst 2, 1) := by decide +kernel
theorem dX10_init_161 : decode cX10_init 161 = .ok (.bipush 115, 2) := by decide +kernel
theorem dX10_init_163 : decode cX10_init 163 = .ok (.castore, 1) := by decide +kernel
theorem dX10_init_164 : decode cX10_init 164 = .ok (.dup, 1) := by decide +kernel
theorem dX10_init_165 : decode cX10_init 165 = .ok (.iconst 3, 1) := by decide +kernel
theorem dX10_init_166 : decode cX10_init 166 = .ok (.bipush 116, 2) := by decide +kernel
theorem dX10_init_168 : decode cX10_init 168 = .ok (.castore, 1) := by decide +kernel
theorem dX10_init_169 : decode cX10_init 169 = .ok (.dup, 1) := by decide +kernel
theorem dX10_init_170 : decode cX10_init 170 = .ok (.iconst 4, 1) := by decide +kernel
theorem dX10_init_171 : decode cX10_init 171 = .ok (.bipush 119, 2) := by decide +kernel
theorem dX10_init_173 : decode cX10_init 173 = .ok (.castore, 1) := by decide +kernel
theorem dX10_init_174 : decode cX10_init 174 = .ok (.dup, 1) := by decide +kernel
theorem dX10_init_175 : decode cX10_init 175 = .ok (.iconst 5, 1) := by decide +kernel
theorem dX10_init_176 : decode cX10_init 176 = .ok (.bipush 97, 2) := by decide +kernel
theorem dX10_init_178 : decode cX10_init 178 = .ok (.castore, 1) := by decide +kernel
theorem dX10_init_179 : decode cX10_init 179 = .ok (.dup, 1) := by decide +kernel
theorem dX10_init_180 : decode cX10_init 180 = .ok (.bipush 6, 2) := by decide +kernel
theorem dX10_init_182 : decode cX10_init 182 = .ok (.bipush 108, 2) := by decide +kernel
theorem dX10_init_184 : decode cX10_init 184 = .ok (.castore, 1) := by decide +kernel
theorem dX10_init_185 : decode cX10_init 185 = .ok (.dup, 1) := by decide +kernel
theorem dX10_init_186 : decode cX10_init 186 = .ok (.bipush 7, 2) := by decide +kernel
theorem dX10_init_188 : decode cX10_init 188 = .ok (.bipush 107, 2) := by decide +kernel
theorem dX10_init_190 : decode cX10_init 190 = .ok (.castore, 1) := by decide +kernel
theorem dX10_init_191 : decode cX10_init 191 = .ok (.dup, 1) := by decide +kernel
theorem dX10_init_192 : decode cX10_init 192 = .ok (.bipush 8, 2) := by decide +kernel
theorem dX10_init_194 : decode cX10_init 194 = .ok (.bipush 103, 2) := by decide +kernel
theorem dX10_init_196 : decode cX10_init 196 = .ok (.castore, 1) := by decide +kernel
theorem dX10_init_197 : decode cX10_init 197 = .ok (.dup, 1) := by decide +kernel
theorem dX10_init_198 : decode cX10_init 198 = .ok (.bipush 9, 2) := by decide +kernel
theorem dX10_init_200 : decode cX10_init 200 = .ok (.bipush 114, 2) := by decide +kernel
theorem dX10_init_202 : decode cX10_init 202 = .ok (.castore, 1) := by decide +kernel
theorem dX10_init_203 : decode cX10_init 203 = .ok (.dup, 1) := by decide +kernel
theorem dX10_init_204 : decode cX10_init 204 = .ok (.bipush 10, 2) := by decide +kernel
theorem dX10_init_206 : decode cX10_init 206 = .ok (.bipush 111, 2) := by decide +kernel
theorem dX10_init_208 : decode cX10_init 208 = .ok (.castore, 1) := by decide +kernel
theorem dX10_init_209 : decode cX10_init 209 = .ok (.dup, 1) := by decide +kernel
theorem dX10_init_210 : decode cX10_init 210 = .ok (.bipush 11, 2) := by decide +kernel
theorem dX10_init_212 : decode cX10_init 212 = .ok (.bipush 119, 2) := by decide +kernel
theorem dX10_init_214 : decode cX10_init 214 = .ok (.castore, 1) := by decide +kernel
theorem dX10_init_215 : decode cX10_init 215 = .ok (.putfield 62, 3) := by decide +kernel
theorem dX10_init_218 : decode cX10_init 218 = .ok (.aload_n 0, 1) := by decide +kernel
theorem dX10_init_219 : decode cX10_init 219 = .ok (.iconst 4, 1) := by decide +kernel
theorem dX10_init_220 : decode cX10_init 220 = .ok (.newarray .int, 2) := by decide +kernel
theorem dX10_init_222 : decode cX10_init 222 = .ok (.dup, 1) := by decide +kernel
theorem dX10_init_223 : decode cX10_init 223 = .ok (.iconst 0, 1) := by decide +kernel
theorem dX10_init_224 : decode cX10_init 224 = .ok (.iconst 0, 1) := by decide +kernel
theorem dX10_init_225 : decode cX10_init 225 = .ok (.iastore, 1) := by decide +kernel
theorem dX10_init_226 : decode cX10_init 226 = .ok (.dup, 1) := by decide +kernel
theorem dX10_init_227 : decode cX10_init 227 = .ok (.iconst 1, 1) := by decide +kernel
theorem dX10_init_228 : decode cX10_init 228 = .ok (.iconst 4, 1) := by decide +kernel
theorem dX10_init_229 : decode cX10_init 229 = .ok (.iastore, 1) := by decide +kernel
theorem dX10_init_230 : decode cX10_init 230 = .ok (.dup, 1) := by decide +kernel
theorem dX10_init_231 : decode cX10_init 231 = .ok (.iconst 2, 1) := by decide +kernel
theorem dX10_init_232 : decode cX10_init 232 = .ok (.bipush 8, 2) := by decide +kernel
theorem dX10_init_234 : decode cX10_init 234 = .ok (.iastore, 1) := by decide +kernel
theorem dX10_init_235 : decode cX10_init 235 = .ok (.dup, 1) := by decide +kernel
theorem dX10_init_236 : decode cX10_init 236 = .ok (.iconst 3, 1) := by decide +kernel
theorem dX10_init_237 : decode cX10_init 237 = .ok (.bipush 12, 2) := by decide +kernel
theorem dX10_init_239 : decode cX10_init 239 = .ok (.iastore, 1) := by decide +kernel
theorem dX10_init_240 : decode cX10_init 240 = .ok (.putfield 66, 3) := by decide +kernel
theorem dX10_init_243 : decode cX10_init 243 = .ok (.aload_n 0, 1) := by decide +kernel
theorem dX10_init_244 : decode cX10_init 244 = .ok (.bipush 96, 2) := by decide +kernel
theorem dX10_init_246 : decode cX10_init 246 = .ok (.newarray .int, 2) := by decide +kernel
theorem dX10_init_248 : decode cX10_init 248 = .ok (.putfield 69, 3) := by decide +kernel
theorem dX10_init_251 : decode cX10_init 251 = .ok (.aload_n 0, 1) := by decide +kernel
theorem dX10_init_252 : decode cX10_init 252 = .ok (.bipush 96, 2) := by decide +kernel
theorem dX10_init_254 : decode cX10_init 254 = .ok (.newarray .int, 2) := by decide +kernel
theorem dX10_init_256 : decode cX10_init 256 = .ok (.putfield 72, 3) := by decide +kernel
theorem dX10_init_259 : decode cX10_init 259 = .ok (.aload_n 0, 1) := by decide +kernel
theorem dX10_init_260 : decode cX10_init 260 = .ok (.bipush 10, 2) := by decide +kernel
theorem dX10_init_262 : decode cX10_init 262 = .ok (.newarray .boolean, 2) := by decide +kernel
theorem dX10_init_264 : decode cX10_init 264 = .ok (.putfield 75, 3) := by decide +kernel
theorem dX10_init_267 : decode cX10_init 267 = .ok (.aload_n 0, 1) := by decide +kernel
theorem dX10_init_268 : decode cX10_init 268 = .ok (.bipush 96, 2) := by decide +kernel
theorem dX10_init_270 : decode cX10_init 270 = .ok (.newarray .int, 2) := by decide +kernel
theorem dX10_init_272 : decode cX10_init 272 = .ok (.putfield 78, 3) := by decide +kernel
theorem dX10_init_275 : decode cX10_init 275 = .ok (.aload_n 0, 1) := by decide +kernel
theorem dX10_init_276 : decode cX10_init 276 = .ok (.iconst 4, 1) := by decide +kernel
theorem dX10_init_277 : decode cX10_init 277 = .ok (.newarray .int, 2) := by decide +kernel
theorem dX10_init_279 : decode cX10_init 279 = .ok (.putfield 81, 3) := by decide +kernel
theorem dX10_init_282 : decode cX10_init 282 = .ok (.aload_n 0, 1) := by decide +kernel
theorem dX10_init_283 : decode cX10_init 283 = .ok (.bipush 25, 2) := by decide +kernel
theorem dX10_init_285 : decode cX10_init 285 = .ok (.newarray .int, 2) := by decide +kernel
theorem dX10_init_287 : decode cX10_init 287 = .ok (.putfield 84, 3) := by decide +kernel
theorem dX10_init_290 : decode cX10_init 290 = .ok (.aload_n 0, 1) := by decide +kernel
theorem dX10_init_291 : decode cX10_init 291 = .ok (.bipush 25, 2) := by decide +kernel
theorem dX10_init_293 : decode cX10_init 293 = .ok (.newarray .int, 2) := by decide +kernel
theorem dX10_init_295 : decode cX10_init 295 = .ok (.putfield 87, 3) := by decide +kernel
theorem dX10_init_298 : decode cX10_init 298 = .ok (.aload_n 0, 1) := by decide +kernel
theorem dX10_init_299 : decode cX10_init 299 = .ok (.iconst 4, 1) := by decide +kernel
theorem dX10_init_300 : decode cX10_init 300 = .ok (.newarray .int, 2) := by decide +kernel
theorem dX10_init_302 : decode cX10_init 302 = .ok (.dup, 1) := by decide +kernel
theorem dX10_init_303 : decode cX10_init 303 = .ok (.iconst 0, 1) := by decide +kernel
theorem dX10_init_304 : decode cX10_init 304 = .ok (.iconst (-1), 1) := by decide +kernel
theorem dX10_init_305 : decode cX10_init 305 = .ok (.iastore, 1) := by decide +kernel
theorem dX10_init_306 : decode cX10_init 306 = .ok (.dup, 1) := by decide +kernel
theorem dX10_init_307 : decode cX10_init 307 = .ok (.iconst 1, 1) := by decide +kernel
theorem dX10_init_308 : decode cX10_init 308 = .ok (.iconst (-1), 1) := by decide +kernel
theorem dX10_init_309 : decode cX10_init 309 = .ok (.iastore, 1) := by decide +kernel
theorem dX10_init_310 : decode cX10_init 310 = .ok (.dup, 1) := by decide +kernel
theorem dX10_init_311 : decode cX10_init 311 = .ok (.iconst 2, 1) := by decide +kernel
theorem dX10_init_312 : decode cX10_init 312 = .ok (.iconst (-1), 1) := by decide +kernel
theorem dX10_init_313 : decode cX10_init 313 = .ok (.iastore, 1) := by decide +kernel
theorem dX10_init_314 : decode cX10_init 314 = .ok (.dup, 1) := by decide +kernel
theorem dX10_init_315 : decode cX10_init 315 = .ok (.iconst 3, 1) := by decide +kernel
theorem dX10_init_316 : decode cX10_init 316 = .ok (.iconst (-1), 1) := by decide +kernel
theorem dX10_init_317 : decode cX10_init 317 = .ok (.iastore, 1) := by decide +kernel
theorem dX10_init_318 : decode cX10_init 318 = .ok (.putfield 90, 3) := by decide +kernel
theorem dX10_init_321 : decode cX10_init 321 = .ok (.aload_n 0, 1) := by decide +kernel
theorem dX10_init_322 : decode cX10_init 322 = .ok (.iconst 4, 1) := by decide +kernel
theorem dX10_init_323 : decode cX10_init 323 = .ok (.newarray .int, 2) := by decide +kernel
theorem dX10_init_325 : decode cX10_init 325 = .ok (.putfield 93, 3) := by decide +kernel
theorem dX10_init_328 : decode cX10_init 328 = .ok (.aload_n 0, 1) := by decide +kernel
theorem dX10_init_329 : decode cX10_init 329 = .ok (.bipush 96, 2) := by decide +kernel
theorem dX10_init_331 : decode cX10_init 331 = .ok (.newarray .int, 2) := by decide +kernel
theorem dX10_init_333 : decode cX10_init 333 = .ok (.putfield 96, 3) := by decide +kernel
theorem dX10_init_336 : decode cX10_init 336 = .ok (.aload_n 0, 1) := by decide +kernel
theorem dX10_init_337 : decode cX10_init 337 = .ok (.iconst 5, 1) := by decide +kernel
theorem dX10_init_338 : decode cX10_init 338 = .ok (.newarray .int, 2) := by decide +kernel
theorem dX10_init_340 : decode cX10_init 340 = .ok (.putfield 99, 3) := by decide +kernel
theorem dX10_init_343 : decode cX10_init 343 = .ok (.aload_n 0, 1) := by decide +kernel
theorem dX10_init_344 : decode cX10_init 344 = .ok (.iconst 5, 1) := by decide +kernel
theorem dX10_init_345 : decode cX10_init 345 = .ok (.newarray .int, 2) := by decide +kernel
theorem dX10_init_347 : decode cX10_init 347 = .ok (.putfield 102, 3) := by decide +kernel
theorem dX10_init_350 : decode cX10_init 350 = .ok (.aload_n 0, 1) := by decide +kernel
theorem dX10_init_351 : decode cX10_init 351 = .ok (.iconst 5, 1) := by decide +kernel
theorem dX10_init_352 : decode cX10_init 352 = .ok (.newarray .int, 2) := by decide +kernel
theorem dX10_init_354 : decode cX10_init 354 = .ok (.putfield 105, 3) := by decide +kernel
theorem dX10_init_357 : decode cX10_init 357 = .ok (.aload_n 0, 1) := by decide +kernel
theorem dX10_init_358 : decode cX10_init 358 = .ok (.bipush 120, 2) := by decide +kernel
theorem dX10_init_360 : decode cX10_init 360 = .ok (.newarray .int, 2) := by decide +kernel
theorem dX10_init_362 : decode cX10_init 362 = .ok (.putfield 108, 3) := by decide +kernel
theorem dX10_init_365 : decode cX10_init 365 = .ok (.aload_n 0, 1) := by decide +kernel
theorem dX10_init_366 : decode cX10_init 366 = .ok (.bipush 24, 2) := by decide +kernel
theorem dX10_init_368 : decode cX10_init 368 = .ok (.newarray .int, 2) := by decide +kernel
theorem dX10_init_370 : decode cX10_init 370 = .ok (.putfield 111, 3) := by decide +kernel
theorem dX10_init_373 : decode cX10_init 373 = .ok (.aload_n 0, 1) := by decide +kernel
theorem dX10_init_374 : decode cX10_init 374 = .ok (.bipush 60, 2) := by decide +kernel
theorem dX10_init_376 : decode cX10_init 376 = .ok (.newarray .int, 2) := by decide +kernel
theorem dX10_init_378 : decode cX10_init 378 = .ok (.putfield 114, 3) := by decide +kernel
theorem dX10_init_381 : decode cX10_init 381 = .ok (.aload_n 0, 1) := by decide +kernel
theorem dX10_init_382 : decode cX10_init 382 = .ok (.getfield 9, 3) := by decide +kernel
theorem dX10_init_385 : decode cX10_init 385 = .ok (.iconst 0, 1) := by decide +kernel
theorem dX10_init_386 : decode cX10_init 386 = .ok (.iconst 1, 1) := by decide +kernel
theorem dX10_init_387 : decode cX10_init 387 = .ok (.iastore, 1) := by decide +kernel
theorem dX10_init_388 : decode cX10_init 388 = .ok (.aload_n 0, 1) := by decide +kernel
theorem dX10_init_389 : decode cX10_init 389 = .ok (.getfield 9, 3) := by decide +kernel
theorem dX10_init_392 : decode cX10_init 392 = .ok (.iconst 1, 1) := by decide +kernel
theorem dX10_init_393 : decode cX10_init 393 = .ok (.bipush 100, 2) := by decide +kernel
theorem dX10_init_395 : decode cX10_init 395 = .ok (.iastore, 1) := by decide +kernel
theorem dX10_init_396 : decode cX10_init 396 = .ok (.aload_n 0, 1) := by decide +kernel
theorem dX10_init_397 : decode cX10_init 397 = .ok (.getfield 9, 3) := by decide +kernel
theorem dX10_init_400 : decode cX10_init 400 = .ok (.iconst 2, 1) := by decide +kernel
theorem dX10_init_401 : decode cX10_init 401 = .ok (.iconst 2, 1) := by decide +kernel
theorem dX10_init_402 : decode cX10_init 402 = .ok (.iastore, 1) := by decide +kernel
theorem dX10_init_403 : decode cX10_init 403 = .ok (.aload_n 0, 1) := by decide +kernel
theorem dX10_init_404 : decode cX10_init 404 = .ok (.getfield 9, 3) := by decide +kernel
theorem dX10_init_407 : decode cX10_init 407 = .ok (.iconst 3, 1) := by decide +kernel
theorem dX10_init_408 : decode cX10_init 408 = .ok (.sipush 336, 3) := by decide +kernel
theorem dX10_init_411 : decode cX10_init 411 = .ok (.iastore, 1) := by decide +kernel
theorem dX10_init_412 : decode cX10_init 412 = .ok (.return_, 1) := by decide +kernel
theorem dX10_in_0 : decode cX10_in 0 = .ok (.iload_n 0, 1) := by decide +kernel
theorem dX10_in_1 : decode cX10_in 1 = .ok (.iload_n 1, 1) := by decide +kernel
theorem dX10_in_2 : decode cX10_in 2 = .ok (.if_icmp .lt 12, 3) := by decide +kernel
theorem dX10_in_5 : decode cX10_in 5 = .ok (.iload_n 0, 1) := by decide +kernel
theorem dX10_in_6 : decode cX10_in 6 = .ok (.iload_n 2, 1) := by decide +kernel
theorem dX10_in_7 : decode cX10_in 7 = .ok (.if_icmp .gt 7, 3) := by decide +kernel
theorem dX10_in_10 : decode cX10_in 10 = .ok (.iconst 1, 1) := by decide +kernel
theorem dX10_in_11 : decode cX10_in 11 = .ok (.goto 4, 3) := by decide +kernel
theorem dX10_in_14 : decode cX10_in 14 = .ok (.iconst 0, 1) := by decide +kernel
theorem dX10_in_15 : decode cX10_in 15 = .ok (.ireturn, 1) := by decide +kernel
theorem dX10_within_0 : decode cX10_within 0 = .ok (.iload_n 0, 1) := by decide +kernel
theorem dX10_within_1 : decode cX10_within 1 = .ok (.iload_n 1, 1) := by decide +kernel
theorem dX10_within_2 : decode cX10_within 2 = .ok (.if_icmp .ge 7, 3) := by decide +kernel
theorem dX10_within_5 : decode cX10_within 5 = .ok (.iload_n 1, 1) := by decide +kernel
theorem dX10_within_6 : decode cX10_within 6 = .ok (.goto 13, 3) := by decide +kernel
theorem dX10_within_9 : decode cX10_within 9 = .ok (.iload_n 0, 1) := by decide +kernel
theorem dX10_within_10 : decode cX10_within 10 = .ok (.iload_n 2, 1) := by decide +kernel
theorem dX10_within_11 : decode cX10_within 11 = .ok (.if_icmp .le 7, 3) := by decide +kernel
theorem dX10_within_14 : decode cX10_within 14 = .ok (.iload_n 2, 1) := by decide +kernel
theorem dX10_within_15 : decode cX10_within 15 = .ok (.goto 4, 3) := by decide +kernel
theorem dX10_within_18 : decode cX10_within 18 = .ok (.iload_n 0, 1) := by decide +kernel
theorem dX10_within_19 : decode cX10_within 19 = .ok (.ireturn, 1) := by decide +kernel
theorem dX10_copyAll_0 : decode cX10_copyAll 0 = .ok (.iconst 0, 1) := by decide +kernel
theorem dX10_copyAll_1 : decode cX10_copyAll 1 = .ok (.istore_n 2, 1) := by decide +kernel
theorem dX10_copyAll_2 : decode cX10_copyAll 2 = .ok (.iload_n 2, 1) := by decide +kernel
theorem dX10_copyAll_3 : decode cX10_copyAll 3 = .ok (.sipush 1530, 3) := by decide +kernel
theorem dX10_copyAll_6 : decode cX10_copyAll 6 = .ok (.if_icmp .ge 15, 3) := by decide +kernel
theorem dX10_copyAll_9 : decode cX10_copyAll 9 = .ok (.aload_n 1, 1) := by decide +kernel
theorem dX10_copyAll_10 : decode cX10_copyAll 10 = .ok (.iload_n 2, 1) := by decide +kernel
theorem dX10_copyAll_11 : decode cX10_copyAll 11 = .ok (.aload_n 0, 1) := by decide +kernel
theorem dX10_copyAll_12 : decode cX10_copyAll 12 = .ok (.iload_n 2, 1) := by decide +kernel
theorem dX10_copyAll_13 : decode cX10_copyAll 13 = .ok (.iaload, 1) := by decide +kernel
theorem dX10_copyAll_14 : decode cX10_copyAll 14 = .ok (.iastore, 1) := by decide +kernel
theorem dX10_copyAll_15 : decode cX10_copyAll 15 = .ok (.iinc 2 1, 3) := by decide +kernel
theorem dX10_copyAll_18 : decode cX10_copyAll 18 = .ok (.goto (-16), 3) := by decide +kernel
theorem dX10_copyAll_21 : decode cX10_copyAll 21 = .ok (.return_, 1) := by decide +kernel
theorem dX10_isBook_0 : decode cX10_isBook 0 = .ok (.iload_n 1, 1) := by decide +kernel
theorem dX10_isBook_1 : decode cX10_isBook 1 = .ok (.iconst 0, 1) := by decide +kernel
theorem dX10_isBook_2 : decode cX10_isBook 2 = .ok (.aload_n 0, 1) := by decide +kernel
theorem dX10_isBook_3 : decode cX10_isBook 3 = .ok (.getfield 9, 3) := by decide +kernel
theorem dX10_isBook_6 : decode cX10_isBook 6 = .ok (.iconst 4, 1) := by decide +kernel
theorem dX10_isBook_7 : decode cX10_isBook 7 = .ok (.iaload, 1) := by decide +kernel
theorem dX10_isBook_8 : decode cX10_isBook 8 = .ok (.iconst 1, 1) := by decide +kernel
theorem dX10_isBook_9 : decode cX10_isBook 9 = .ok (.isub, 1) := by decide +kernel
theorem dX10_isBook_10 : decode cX10_isBook 10 = .ok (.invokestatic 117, 3) := by decide +kernel
theorem dX10_isBook_13 : decode cX10_isBook 13 = .ok (.ireturn, 1) := by decide +kernel
theorem dX10_isBoard_0 : decode cX10_isBoard 0 = .ok (.iload_n 1, 1) := by decide +kernel
theorem dX10_isBoard_1 : decode cX10_isBoard 1 = .ok (.iconst 0, 1) := by decide +kernel
theorem dX10_isBoard_2 : decode cX10_isBoard 2 = .ok (.aload_n 0, 1) := by decide +kernel
theorem dX10_isBoard_3 : decode cX10_isBoard 3 = .ok (.getfield 9, 3) := by decide +kernel
theorem dX10_isBoard_6 : decode cX10_isBoard 6 = .ok (.iconst 5, 1) := by decide +kernel
theorem dX10_isBoard_7 : decode cX10_isBoard 7 = .ok (.iaload, 1) := by decide +kernel
theorem dX10_isBoard_8 : decode cX10_isBoard 8 = .ok (.iconst 1, 1) := by decide +kernel
theorem dX10_isBoard_9 : decode cX10_isBoard 9 = .ok (.isub, 1) := by decide +kernel
theorem dX10_isBoard_10 : decode cX10_isBoard 10 = .ok (.invokestatic 117, 3) := by decide +kernel
theorem dX10_isBoard_13 : decode cX10_isBoard 13 = .ok (.ireturn, 1) := by decide +kernel
theorem dX10_isSize_0 : decode cX10_isSize 0 = .ok (.iload_n 0, 1) := by decide +kernel
theorem dX10_isSize_1 : decode cX10_isSize 1 = .ok (.bipush 100, 2) := by decide +kernel
theorem dX10_isSize_3 : decode cX10_isSize 3 = .ok (.sipush 9999, 3) := by decide +kernel
theorem dX10_isSize_6 : decode cX10_isSize 6 = .ok (.invokestatic 117, 3) := by decide +kernel
theorem dX10_isSize_9 : decode cX10_isSize 9 = .ok (.ifCond .eq 14, 3) := by decide +kernel
theorem dX10_isSize_12 : decode cX10_isSize 12 = .ok (.iload_n 0, 1) := by decide +kernel
theorem dX10_isSize_13 : decode cX10_isSize 13 = .ok (.bipush 100, 2) := by decide +kernel
theorem dX10_isSize_15 : decode cX10_isSize 15 = .ok (.irem, 1) := by decide +kernel
theorem dX10_isSize_16 : decode cX10_isSize 16 = .ok (.ifCond .le 7, 3) := by decide +kernel
theorem dX10_isSize_19 : decode cX10_isSize 19 = .ok (.iconst 1, 1) := by decide +kernel
theorem dX10_isSize_20 : decode cX10_isSize 20 = .ok (.goto 4, 3) := by decide +kernel
theorem dX10_isSize_23 : decode cX10_isSize 23 = .ok (.iconst 0, 1) := by decide +kernel
theorem dX10_isSize_24 : decode cX10_isSize 24 = .ok (.ireturn, 1) := by decide +kernel
theorem dX10_book4_0 : decode cX10_book4 0 = .ok (.aload_n 0, 1) := by decide +kernel
theorem dX10_book4_1 : decode cX10_book4 1 = .ok (.getfield 9, 3) := by decide +kernel
theorem dX10_book4_4 : decode cX10_book4 4 = .ok (.bipush 14, 2) := by decide +kernel
theorem dX10_book4_6 : decode cX10_book4 6 = .ok (.iconst 4, 1) := by decide +kernel
theorem dX10_book4_7 : decode cX10_book4 7 = .ok (.iload_n 1, 1) := by decide +kernel
theorem dX10_book4_8 : decode cX10_book4 8 = .ok (.imul, 1) := by decide +kernel
theorem dX10_book4_9 : decode cX10_book4 9 = .ok (.iadd, 1) := by decide +kernel
theorem dX10_book4_10 : decode cX10_book4 10 = .ok (.iload_n 2, 1) := by decide +kernel
theorem dX10_book4_11 : decode cX10_book4 11 = .ok (.iadd, 1) := by decide +kernel
theorem dX10_book4_12 : decode cX10_book4 12 = .ok (.iaload, 1) := by decide +kernel
theorem dX10_book4_13 : decode cX10_book4 13 = .ok (.ireturn, 1) := by decide +kernel
theorem dX10_board4_0 : decode cX10_board4 0 = .ok (.aload_n 0, 1) := by decide +kernel
theorem dX10_board4_1 : decode cX10_board4 1 = .ok (.getfield 9, 3) := by decide +kernel
theorem dX10_board4_4 : decode cX10_board4 4 = .ok (.bipush 110, 2) := by decide +kernel
theorem dX10_board4_6 : decode cX10_board4 6 = .ok (.iconst 4, 1) := by decide +kernel
theorem dX10_board4_7 : decode cX10_board4 7 = .ok (.iload_n 1, 1) := by decide +kernel
theorem dX10_board4_8 : decode cX10_board4 8 = .ok (.imul, 1) := by decide +kernel
theorem dX10_board4_9 : decode cX10_board4 9 = .ok (.iadd, 1) := by decide +kernel
theorem dX10_board4_10 : decode cX10_board4 10 = .ok (.iload_n 2, 1) := by decide +kernel
theorem dX10_board4_11 : decode cX10_board4 11 = .ok (.iadd, 1) := by decide +kernel
theorem dX10_board4_12 : decode cX10_board4 12 = .ok (.iaload, 1) := by decide +kernel
theorem dX10_board4_13 : decode cX10_board4 13 = .ok (.ireturn, 1) := by decide +kernel
theorem dX10_comes_0 : decode cX10_comes 0 = .ok (.bipush 14, 2) := by decide +kernel
theorem dX10_comes_2 : decode cX10_comes 2 = .ok (.iconst 4, 1) := by decide +kernel
theorem dX10_comes_3 : decode cX10_comes 3 = .ok (.aload_n 0, 1) := by decide +kernel
theorem dX10_comes_4 : decode cX10_comes 4 = .ok (.getfield 9, 3) := by decide +kernel
theorem dX10_comes_7 : decode cX10_comes 7 = .ok (.iconst 4, 1) := by decide +kernel
theorem dX10_comes_8 : decode cX10_comes 8 = .ok (.iaload, 1) := by decide +kernel
theorem dX10_comes_9 : decode cX10_comes 9 = .ok (.imul, 1) := by decide +kernel
theorem dX10_comes_10 : decode cX10_comes 10 = .ok (.iadd, 1) := by decide +kernel
theorem dX10_comes_11 : decode cX10_comes 11 = .ok (.istore 4, 2) := by decide +kernel
theorem dX10_comes_13 : decode cX10_comes 13 = .ok (.aload_n 0, 1) := by decide +kernel
theorem dX10_comes_14 : decode cX10_comes 14 = .ok (.getfield 9, 3) := by decide +kernel
theorem dX10_comes_17 : decode cX10_comes 17 = .ok (.iload 4, 2) := by decide +kernel
theorem dX10_comes_19 : decode cX10_comes 19 = .ok (.iload_n 1, 1) := by decide +kernel
theorem dX10_comes_20 : decode cX10_comes 20 = .ok (.iastore, 1) := by decide +kernel
theorem dX10_comes_21 : decode cX10_comes 21 = .ok (.aload_n 0, 1) := by decide +kernel
theorem dX10_comes_22 : decode cX10_comes 22 = .ok (.getfield 9, 3) := by decide +kernel
theorem dX10_comes_25 : decode cX10_comes 25 = .ok (.iload 4, 2) := by decide +kernel
theorem dX10_comes_27 : decode cX10_comes 27 = .ok (.iconst 1, 1) := by decide +kernel
theorem dX10_comes_28 : decode cX10_comes 28 = .ok (.iadd, 1) := by decide +kernel
theorem dX10_comes_29 : decode cX10_comes 29 = .ok (.iload_n 2, 1) := by decide +kernel
theorem dX10_comes_30 : decode cX10_comes 30 = .ok (.iastore, 1) := by decide +kernel
theorem dX10_comes_31 : decode cX10_comes 31 = .ok (.aload_n 0, 1) := by decide +kernel
theorem dX10_comes_32 : decode cX10_comes 32 = .ok (.getfield 9, 3) := by decide +kernel
theorem dX10_comes_35 : decode cX10_comes 35 = .ok (.iload 4, 2) := by decide +kernel
theorem dX10_comes_37 : decode cX10_comes 37 = .ok (.iconst 2, 1) := by decide +kernel
theorem dX10_comes_38 : decode cX10_comes 38 = .ok (.iadd, 1) := by decide +kernel
theorem dX10_comes_39 : decode cX10_comes 39 = .ok (.iload_n 3, 1) := by decide +kernel
theorem dX10_comes_40 : decode cX10_comes 40 = .ok (.iastore, 1) := by decide +kernel
theorem dX10_comes_41 : decode cX10_comes 41 = .ok (.aload_n 0, 1) := by decide +kernel
theorem dX10_comes_42 : decode cX10_comes 42 = .ok (.getfield 9, 3) := by decide +kernel
theorem dX10_comes_45 : decode cX10_comes 45 = .ok (.iload 4, 2) := by decide +kernel
theorem dX10_comes_47 : decode cX10_comes 47 = .ok (.iconst 3, 1) := by decide +kernel
theorem dX10_comes_48 : decode cX10_comes 48 = .ok (.iadd, 1) := by decide +kernel
theorem dX10_comes_49 : decode cX10_comes 49 = .ok (.iconst 0, 1) := by decide +kernel
theorem dX10_comes_50 : decode cX10_comes 50 = .ok (.iastore, 1) := by decide +kernel
theorem dX10_comes_51 : decode cX10_comes 51 = .ok (.aload_n 0, 1) := by decide +kernel
theorem dX10_comes_52 : decode cX10_comes 52 = .ok (.getfield 9, 3) := by decide +kernel
theorem dX10_comes_55 : decode cX10_comes 55 = .ok (.iconst 4, 1) := by decide +kernel
theorem dX10_comes_56 : decode cX10_comes 56 = .ok (.dup2, 1) := by decide +kernel
theorem dX10_comes_57 : decode cX10_comes 57 = .ok (.iaload, 1) := by decide +kernel
theorem dX10_comes_58 : decode cX10_comes 58 = .ok (.iconst 1, 1) := by decide +kernel
theorem dX10_comes_59 : decode cX10_comes 59 = .ok (.iadd, 1) := by decide +kernel
theorem dX10_comes_60 : decode cX10_comes 60 = .ok (.iastore, 1) := by decide +kernel
theorem dX10_comes_61 : decode cX10_comes 61 = .ok (.return_, 1) := by decide +kernel
theorem dX10_book_0 : decode cX10_book 0 = .ok (.iload_n 1, 1) := by decide +kernel
theorem dX10_book_1 : decode cX10_book 1 = .ok (.invokestatic 121, 3) := by decide +kernel
theorem dX10_book_4 : decode cX10_book 4 = .ok (.ifCond .eq 13, 3) := by decide +kernel
theorem dX10_book_7 : decode cX10_book 7 = .ok (.iload_n 2, 1) := by decide +kernel
theorem dX10_book_8 : decode cX10_book 8 = .ok (.iconst 0, 1) := by decide +kernel
theorem dX10_book_9 : decode cX10_book 9 = .ok (.bipush 7, 2) := by decide +kernel
theorem dX10_book_11 : decode cX10_book 11 = .ok (.invokestatic 117, 3) := by decide +kernel
theorem dX10_book_14 : decode cX10_book 14 = .ok (.ifCond .ne 6, 3) := by decide +kernel
theorem dX10_book_17 : decode cX10_book 17 = .ok (.ldc 125, 2) := by decide +kernel
theorem dX10_book_19 : decode cX10_book 19 = .ok (.ireturn, 1) := by decide +kernel
theorem dX10_book_20 : decode cX10_book 20 = .ok (.aload_n 0, 1) := by decide +kernel
theorem dX10_book_21 : decode cX10_book 21 = .ok (.getfield 9, 3) := by decide +kernel
theorem dX10_book_24 : decode cX10_book 24 = .ok (.iconst 4, 1) := by decide +kernel
theorem dX10_book_25 : decode cX10_book 25 = .ok (.iaload, 1) := by decide +kernel
theorem dX10_book_26 : decode cX10_book 26 = .ok (.bipush 24, 2) := by decide +kernel
theorem dX10_book_28 : decode cX10_book 28 = .ok (.if_icmp .ne 6, 3) := by decide +kernel
theorem dX10_book_31 : decode cX10_book 31 = .ok (.ldc 126, 2) := by decide +kernel
theorem dX10_book_33 : decode cX10_book 33 = .ok (.ireturn, 1) := by decide +kernel
theorem dX10_book_34 : decode cX10_book 34 = .ok (.aload_n 0, 1) := by decide +kernel
theorem dX10_book_35 : decode cX10_book 35 = .ok (.iload_n 1, 1) := by decide +kernel
theorem dX10_book_36 : decode cX10_book 36 = .ok (.bipush 100, 2) := by decide +kernel
theorem dX10_book_38 : decode cX10_book 38 = .ok (.idiv, 1) := by decide +kernel
theorem dX10_book_39 : decode cX10_book 39 = .ok (.iload_n 1, 1) := by decide +kernel
theorem dX10_book_40 : decode cX10_book 40 = .ok (.bipush 100, 2) := by decide +kernel
theorem dX10_book_42 : decode cX10_book 42 = .ok (.irem, 1) := by decide +kernel
theorem dX10_book_43 : decode cX10_book 43 = .ok (.iload_n 2, 1) := by decide +kernel
theorem dX10_book_44 : decode cX10_book 44 = .ok (.invokevirtual 127, 3) := by decide +kernel
theorem dX10_book_47 : decode cX10_book 47 = .ok (.aload_n 0, 1) := by decide +kernel
theorem dX10_book_48 : decode cX10_book 48 = .ok (.getfield 9, 3) := by decide +kernel
theorem dX10_book_51 : decode cX10_book 51 = .ok (.iconst 4, 1) := by decide +kernel
theorem dX10_book_52 : decode cX10_book 52 = .ok (.iaload, 1) := by decide +kernel
theorem dX10_book_53 : decode cX10_book 53 = .ok (.iconst 1, 1) := by decide +kernel
theorem dX10_book_54 : decode cX10_book 54 = .ok (.isub, 1) := by decide +kernel
theorem dX10_book_55 : decode cX10_book 55 = .ok (.ireturn, 1) := by decide +kernel
theorem dX10_bookTold_0 : decode cX10_bookTold 0 = .ok (.aload_n 0, 1) := by decide +kernel
theorem dX10_bookTold_1 : decode cX10_bookTold 1 = .ok (.iload_n 1, 1) := by decide +kernel
theorem dX10_bookTold_2 : decode cX10_bookTold 2 = .ok (.invokevirtual 131, 3) := by decide +kernel
theorem dX10_bookTold_5 : decode cX10_bookTold 5 = .ok (.ifCond .eq 12, 3) := by decide +kernel
theorem dX10_bookTold_8 : decode cX10_bookTold 8 = .ok (.iload_n 2, 1) := by decide +kernel
theorem dX10_bookTold_9 : decode cX10_bookTold 9 = .ok (.iconst 0, 1) := by decide +kernel
theorem dX10_bookTold_10 : decode cX10_bookTold 10 = .ok (.iconst 4, 1) := by decide +kernel
theorem dX10_bookTold_11 : decode cX10_bookTold 11 = .ok (.invokestatic 117, 3) := by decide +kernel
theorem dX10_bookTold_14 : decode cX10_bookTold 14 = .ok (.ifCond .ne 6, 3) := by decide +kernel
theorem dX10_bookTold_17 : decode cX10_bookTold 17 = .ok (.ldc 125, 2) := by decide +kernel
theorem dX10_bookTold_19 : decode cX10_bookTold 19 = .ok (.ireturn, 1) := by decide +kernel
theorem dX10_bookTold_20 : decode cX10_bookTold 20 = .ok (.iload_n 2, 1) := by decide +kernel
theorem dX10_bookTold_21 : decode cX10_bookTold 21 = .ok (.iconst 4, 1) := by decide +kernel
theorem dX10_bookTold_22 : decode cX10_bookTold 22 = .ok (.if_icmp .ge 10, 3) := by decide +kernel
theorem dX10_bookTold_25 : decode cX10_bookTold 25 = .ok (.aload_n 0, 1) := by decide +kernel
theorem dX10_bookTold_26 : decode cX10_bookTold 26 = .ok (.iload_n 1, 1) := by decide +kernel
theorem dX10_bookTold_27 : decode cX10_bookTold 27 = .ok (.iload_n 2, 1) := by decide +kernel
theorem dX10_bookTold_28 : decode cX10_bookTold 28 = .ok (.invokevirtual 134, 3) := by decide +kernel
theorem dX10_bookTold_31 : decode cX10_bookTold 31 = .ok (.ireturn, 1) := by decide +kernel
theorem dX10_bookTold_32 : decode cX10_bookTold 32 = .ok (.aload_n 0, 1) := by decide +kernel
theorem dX10_bookTold_33 : decode cX10_bookTold 33 = .ok (.invokevirtual 138, 3) := by decide +kernel
theorem dX10_bookTold_36 : decode cX10_bookTold 36 = .ok (.aload_n 0, 1) := by decide +kernel
theorem dX10_bookTold_37 : decode cX10_bookTold 37 = .ok (.getfield 141, 3) := by decide +kernel
theorem dX10_bookTold_40 : decode cX10_bookTold 40 = .ok (.ifCond .ge 8, 3) := by decide +kernel
theorem dX10_bookTold_43 : decode cX10_bookTold 43 = .ok (.ldc 145, 2) := by decide +kernel
theorem dX10_bookTold_45 : decode cX10_bookTold 45 = .ok (.goto 9, 3) := by decide +kernel
theorem dX10_bookTold_48 : decode cX10_bookTold 48 = .ok (.aload_n 0, 1) := by decide +kernel
theorem dX10_bookTold_49 : decode cX10_bookTold 49 = .ok (.getfield 47, 3) := by decide +kernel
theorem dX10_bookTold_52 : decode cX10_bookTold 52 = .ok (.iload_n 1, 1) := by decide +kernel
theorem dX10_bookTold_53 : decode cX10_bookTold 53 = .ok (.iaload, 1) := by decide +kernel
theorem dX10_bookTold_54 : decode cX10_bookTold 54 = .ok (.ireturn, 1) := by decide +kernel
theorem dX10_tie_0 : decode cX10_tie 0 = .ok (.aload_n 0, 1) := by decide +kernel
theorem dX10_tie_1 : decode cX10_tie 1 = .ok (.iload_n 1, 1) := by decide +kernel
theorem dX10_tie_2 : decode cX10_tie 2 = .ok (.invokevirtual 131, 3) := by decide +kernel
theorem dX10_tie_5 : decode cX10_tie 5 = .ok (.ifCond .ne 6, 3) := by decide +kernel
theorem dX10_tie_8 : decode cX10_tie 8 = .ok (.ldc 125, 2) := by decide +kernel
theorem dX10_tie_10 : decode cX10_tie 10 = .ok (.ireturn, 1) := by decide +kernel
theorem dX10_tie_11 : decode cX10_tie 11 = .ok (.bipush 14, 2) := by decide +kernel
theorem dX10_tie_13 : decode cX10_tie 13 = .ok (.iconst 4, 1) := by decide +kernel
theorem dX10_tie_14 : decode cX10_tie 14 = .ok (.iload_n 1, 1) := by decide +kernel
theorem dX10_tie_15 : decode cX10_tie 15 = .ok (.imul, 1) := by decide +kernel
theorem dX10_tie_16 : decode cX10_tie 16 = .ok (.iadd, 1) := by decide +kernel
theorem dX10_tie_17 : decode cX10_tie 17 = .ok (.iconst 3, 1) := by decide +kernel
theorem dX10_tie_18 : decode cX10_tie 18 = .ok (.iadd, 1) := by decide +kernel
theorem dX10_tie_19 : decode cX10_tie 19 = .ok (.istore_n 3, 1) := by decide +kernel
theorem dX10_tie_20 : decode cX10_tie 20 = .ok (.aload_n 0, 1) := by decide +kernel
theorem dX10_tie_21 : decode cX10_tie 21 = .ok (.getfield 9, 3) := by decide +kernel
theorem dX10_tie_24 : decode cX10_tie 24 = .ok (.iload_n 3, 1) := by decide +kernel
theorem dX10_tie_25 : decode cX10_tie 25 = .ok (.iaload, 1) := by decide +kernel
theorem dX10_tie_26 : decode cX10_tie 26 = .ok (.istore 4, 2) := by decide +kernel
theorem dX10_tie_28 : decode cX10_tie 28 = .ok (.aload_n 0, 1) := by decide +kernel
theorem dX10_tie_29 : decode cX10_tie 29 = .ok (.getfield 9, 3) := by decide +kernel
theorem dX10_tie_32 : decode cX10_tie 32 = .ok (.iload_n 3, 1) := by decide +kernel
theorem dX10_tie_33 : decode cX10_tie 33 = .ok (.iload_n 2, 1) := by decide +kernel
theorem dX10_tie_34 : decode cX10_tie 34 = .ok (.ifCond .eq 7, 3) := by decide +kernel
theorem dX10_tie_37 : decode cX10_tie 37 = .ok (.iconst 1, 1) := by decide +kernel
theorem dX10_tie_38 : decode cX10_tie 38 = .ok (.goto 4, 3) := by decide +kernel
theorem dX10_tie_41 : decode cX10_tie 41 = .ok (.iconst 0, 1) := by decide +kernel
theorem dX10_tie_42 : decode cX10_tie 42 = .ok (.iastore, 1) := by decide +kernel
theorem dX10_tie_43 : decode cX10_tie 43 = .ok (.iload 4, 2) := by decide +kernel
theorem dX10_tie_45 : decode cX10_tie 45 = .ok (.aload_n 0, 1) := by decide +kernel
theorem dX10_tie_46 : decode cX10_tie 46 = .ok (.getfield 9, 3) := by decide +kernel
theorem dX10_tie_49 : decode cX10_tie 49 = .ok (.iload_n 3, 1) := by decide +kernel
theorem dX10_tie_50 : decode cX10_tie 50 = .ok (.iaload, 1) := by decide +kernel
theorem dX10_tie_51 : decode cX10_tie 51 = .ok (.if_icmp .ne 7, 3) := by decide +kernel
theorem dX10_tie_54 : decode cX10_tie 54 = .ok (.iconst 0, 1) := by decide +kernel
theorem dX10_tie_55 : decode cX10_tie 55 = .ok (.goto 4, 3) := by decide +kernel
theorem dX10_tie_58 : decode cX10_tie 58 = .ok (.iconst 1, 1) := by decide +kernel
theorem dX10_tie_59 : decode cX10_tie 59 = .ok (.ireturn, 1) := by decide +kernel
theorem dX10_draw_0 : decode cX10_draw 0 = .ok (.aload_n 0, 1) := by decide +kernel
theorem dX10_draw_1 : decode cX10_draw 1 = .ok (.getfield 9, 3) := by decide +kernel
theorem dX10_draw_4 : decode cX10_draw 4 = .ok (.iconst 0, 1) := by decide +kernel
theorem dX10_draw_5 : decode cX10_draw 5 = .ok (.aload_n 0, 1) := by decide +kernel
theorem dX10_draw_6 : decode cX10_draw 6 = .ok (.getfield 9, 3) := by decide +kernel
theorem dX10_draw_9 : decode cX10_draw 9 = .ok (.iconst 0, 1) := by decide +kernel
theorem dX10_draw_10 : decode cX10_draw 10 = .ok (.iaload, 1) := by decide +kernel
theorem dX10_draw_11 : decode cX10_draw 11 = .ok (.ldc 146, 2) := by decide +kernel
theorem dX10_draw_13 : decode cX10_draw 13 = .ok (.imul, 1) := by decide +kernel
theorem dX10_draw_14 : decode cX10_draw 14 = .ok (.sipush 12345, 3) := by decide +kernel
theorem dX10_draw_17 : decode cX10_draw 17 = .ok (.iadd, 1) := by decide +kernel
theorem dX10_draw_18 : decode cX10_draw 18 = .ok (.iastore, 1) := by decide +kernel
theorem dX10_draw_19 : decode cX10_draw 19 = .ok (.aload_n 0, 1) := by decide +kernel
theorem dX10_draw_20 : decode cX10_draw 20 = .ok (.getfield 9, 3) := by decide +kernel
theorem dX10_draw_23 : decode cX10_draw 23 = .ok (.iconst 0, 1) := by decide +kernel
theorem dX10_draw_24 : decode cX10_draw 24 = .ok (.iaload, 1) := by decide +kernel
theorem dX10_draw_25 : decode cX10_draw 25 = .ok (.bipush 8, 2) := by decide +kernel
theorem dX10_draw_27 : decode cX10_draw 27 = .ok (.iushr, 1) := by decide +kernel
theorem dX10_draw_28 : decode cX10_draw 28 = .ok (.ireturn, 1) := by decide +kernel
theorem dX10_deal_0 : decode cX10_deal 0 = .ok (.iload_n 1, 1) := by decide +kernel
theorem dX10_deal_1 : decode cX10_deal 1 = .ok (.iconst 1, 1) := by decide +kernel
theorem dX10_deal_2 : decode cX10_deal 2 = .ok (.bipush 24, 2) := by decide +kernel
theorem dX10_deal_4 : decode cX10_deal 4 = .ok (.invokestatic 117, 3) := by decide +kernel
theorem dX10_deal_7 : decode cX10_deal 7 = .ok (.ifCond .ne 6, 3) := by decide +kernel
theorem dX10_deal_10 : decode cX10_deal 10 = .ok (.ldc 125, 2) := by decide +kernel
theorem dX10_deal_12 : decode cX10_deal 12 = .ok (.ireturn, 1) := by decide +kernel
theorem dX10_deal_13 : decode cX10_deal 13 = .ok (.iconst 0, 1) := by decide +kernel
theorem dX10_deal_14 : decode cX10_deal 14 = .ok (.istore_n 2, 1) := by decide +kernel
theorem dX10_deal_15 : decode cX10_deal 15 = .ok (.iload_n 2, 1) := by decide +kernel
theorem dX10_deal_16 : decode cX10_deal 16 = .ok (.iload_n 1, 1) := by decide +kernel
theorem dX10_deal_17 : decode cX10_deal 17 = .ok (.if_icmp .ge 56, 3) := by decide +kernel
theorem dX10_deal_20 : decode cX10_deal 20 = .ok (.aload_n 0, 1) := by decide +kernel
theorem dX10_deal_21 : decode cX10_deal 21 = .ok (.getfield 9, 3) := by decide +kernel
theorem dX10_deal_24 : decode cX10_deal 24 = .ok (.iconst 4, 1) := by decide +kernel
theorem dX10_deal_25 : decode cX10_deal 25 = .ok (.iaload, 1) := by decide +kernel
theorem dX10_deal_26 : decode cX10_deal 26 = .ok (.bipush 24, 2) := by decide +kernel
theorem dX10_deal_28 : decode cX10_deal 28 = .ok (.if_icmp .ge 45, 3) := by decide +kernel
theorem dX10_deal_31 : decode cX10_deal 31 = .ok (.bipush 20, 2) := by decide +kernel
theorem dX10_deal_33 : decode cX10_deal 33 = .ok (.aload_n 0, 1) := by decide +kernel
theorem dX10_deal_34 : decode cX10_deal 34 = .ok (.invokevirtual 147, 3) := by decide +kernel
theorem dX10_deal_37 : decode cX10_deal 37 = .ok (.bipush 30, 2) := by decide +kernel
theorem dX10_deal_39 : decode cX10_deal 39 = .ok (.irem, 1) := by decide +kernel
theorem dX10_deal_40 : decode cX10_deal 40 = .ok (.iadd, 1) := by decide +kernel
theorem dX10_deal_41 : decode cX10_deal 41 = .ok (.istore_n 3, 1) := by decide +kernel
theorem dX10_deal_42 : decode cX10_deal 42 = .ok (.iconst 1, 1) := by decide +kernel
theorem dX10_deal_43 : decode cX10_deal 43 = .ok (.aload_n 0, 1) := by decide +kernel
theorem dX10_deal_44 : decode cX10_deal 44 = .ok (.invokevirtual 147, 3) := by decide +kernel
theorem dX10_deal_47 : decode cX10_deal 47 = .ok (.bipush 20, 2) := by decide +kernel
theorem dX10_deal_49 : decode cX10_deal 49 = .ok (.irem, 1) := by decide +kernel
theorem dX10_deal_50 : decode cX10_deal 50 = .ok (.iadd, 1) := by decide +kernel
theorem dX10_deal_51 : decode cX10_deal 51 = .ok (.istore 4, 2) := by decide +kernel
theorem dX10_deal_53 : decode cX10_deal 53 = .ok (.aload_n 0, 1) := by decide +kernel
theorem dX10_deal_54 : decode cX10_deal 54 = .ok (.iload_n 3, 1) := by decide +kernel
theorem dX10_deal_55 : decode cX10_deal 55 = .ok (.iload 4, 2) := by decide +kernel
theorem dX10_deal_57 : decode cX10_deal 57 = .ok (.aload_n 0, 1) := by decide +kernel
theorem dX10_deal_58 : decode cX10_deal 58 = .ok (.invokevirtual 147, 3) := by decide +kernel
theorem dX10_deal_61 : decode cX10_deal 61 = .ok (.bipush 8, 2) := by decide +kernel
theorem dX10_deal_63 : decode cX10_deal 63 = .ok (.irem, 1) := by decide +kernel
theorem dX10_deal_64 : decode cX10_deal 64 = .ok (.invokevirtual 127, 3) := by decide +kernel
theorem dX10_deal_67 : decode cX10_deal 67 = .ok (.iinc 2 1, 3) := by decide +kernel
theorem dX10_deal_70 : decode cX10_deal 70 = .ok (.goto (-55), 3) := by decide +kernel
theorem dX10_deal_73 : decode cX10_deal 73 = .ok (.iload_n 2, 1) := by decide +kernel
theorem dX10_deal_74 : decode cX10_deal 74 = .ok (.ireturn, 1) := by decide +kernel
theorem dX10_seed_0 : decode cX10_seed 0 = .ok (.aload_n 0, 1) := by decide +kernel
theorem dX10_seed_1 : decode cX10_seed 1 = .ok (.getfield 9, 3) := by decide +kernel
theorem dX10_seed_4 : decode cX10_seed 4 = .ok (.iconst 0, 1) := by decide +kernel
theorem dX10_seed_5 : decode cX10_seed 5 = .ok (.iaload, 1) := by decide +kernel
theorem dX10_seed_6 : decode cX10_seed 6 = .ok (.istore_n 2, 1) := by decide +kernel
theorem dX10_seed_7 : decode cX10_seed 7 = .ok (.aload_n 0, 1) := by decide +kernel
theorem dX10_seed_8 : decode cX10_seed 8 = .ok (.getfield 9, 3) := by decide +kernel
theorem dX10_seed_11 : decode cX10_seed 11 = .ok (.iconst 0, 1) := by decide +kernel
theorem dX10_seed_12 : decode cX10_seed 12 = .ok (.iload_n 1, 1) := by decide +kernel
theorem dX10_seed_13 : decode cX10_seed 13 = .ok (.iastore, 1) := by decide +kernel
theorem dX10_seed_14 : decode cX10_seed 14 = .ok (.iload_n 2, 1) := by decide +kernel
theorem dX10_seed_15 : decode cX10_seed 15 = .ok (.ireturn, 1) := by decide +kernel
theorem dX10_set_0 : decode cX10_set 0 = .ok (.iload_n 1, 1) := by decide +kernel
theorem dX10_set_1 : decode cX10_set 1 = .ok (.iconst 0, 1) := by decide +kernel
theorem dX10_set_2 : decode cX10_set 2 = .ok (.iconst 2, 1) := by decide +kernel
theorem dX10_set_3 : decode cX10_set 3 = .ok (.invokestatic 117, 3) := by decide +kernel
theorem dX10_set_6 : decode cX10_set 6 = .ok (.ifCond .eq 33, 3) := by decide +kernel
theorem dX10_set_9 : decode cX10_set 9 = .ok (.iload_n 2, 1) := by decide +kernel
theorem dX10_set_10 : decode cX10_set 10 = .ok (.iload_n 1, 1) := by decide +kernel
theorem dX10_set_11 : decode cX10_set 11 = .ok (.iconst 1, 1) := by decide +kernel
theorem dX10_set_12 : decode cX10_set 12 = .ok (.if_icmp .ne 7, 3) := by decide +kernel
theorem dX10_set_15 : decode cX10_set 15 = .ok (.iconst 0, 1) := by decide +kernel
theorem dX10_set_16 : decode cX10_set 16 = .ok (.goto 4, 3) := by decide +kernel
theorem dX10_set_19 : decode cX10_set 19 = .ok (.iconst 1, 1) := by decide +kernel
theorem dX10_set_20 : decode cX10_set 20 = .ok (.iload_n 1, 1) := by decide +kernel
theorem dX10_set_21 : decode cX10_set 21 = .ok (.iconst 1, 1) := by decide +kernel
theorem dX10_set_22 : decode cX10_set 22 = .ok (.if_icmp .ne 8, 3) := by decide +kernel
theorem dX10_set_25 : decode cX10_set 25 = .ok (.bipush 9, 2) := by decide +kernel
theorem dX10_set_27 : decode cX10_set 27 = .ok (.goto 6, 3) := by decide +kernel
theorem dX10_set_30 : decode cX10_set 30 = .ok (.sipush 999, 3) := by decide +kernel
theorem dX10_set_33 : decode cX10_set 33 = .ok (.invokestatic 117, 3) := by decide +kernel
theorem dX10_set_36 : decode cX10_set 36 = .ok (.ifCond .ne 6, 3) := by decide +kernel
theorem dX10_set_39 : decode cX10_set 39 = .ok (.ldc 125, 2) := by decide +kernel
theorem dX10_set_41 : decode cX10_set 41 = .ok (.ireturn, 1) := by decide +kernel
theorem dX10_set_42 : decode cX10_set 42 = .ok (.aload_n 0, 1) := by decide +kernel
theorem dX10_set_43 : decode cX10_set 43 = .ok (.getfield 9, 3) := by decide +kernel
theorem dX10_set_46 : decode cX10_set 46 = .ok (.iconst 1, 1) := by decide +kernel
theorem dX10_set_47 : decode cX10_set 47 = .ok (.iload_n 1, 1) := by decide +kernel
theorem dX10_set_48 : decode cX10_set 48 = .ok (.iadd, 1) := by decide +kernel
theorem dX10_set_49 : decode cX10_set 49 = .ok (.iaload, 1) := by decide +kernel
theorem dX10_set_50 : decode cX10_set 50 = .ok (.istore_n 3, 1) := by decide +kernel
theorem dX10_set_51 : decode cX10_set 51 = .ok (.aload_n 0, 1) := by decide +kernel
theorem dX10_set_52 : decode cX10_set 52 = .ok (.getfield 9, 3) := by decide +kernel
theorem dX10_set_55 : decode cX10_set 55 = .ok (.iconst 1, 1) := by decide +kernel
theorem dX10_set_56 : decode cX10_set 56 = .ok (.iload_n 1, 1) := by decide +kernel
theorem dX10_set_57 : decode cX10_set 57 = .ok (.iadd, 1) := by decide +kernel
theorem dX10_set_58 : decode cX10_set 58 = .ok (.iload_n 2, 1) := by decide +kernel
theorem dX10_set_59 : decode cX10_set 59 = .ok (.iastore, 1) := by decide +kernel
theorem dX10_set_60 : decode cX10_set 60 = .ok (.iload_n 3, 1) := by decide +kernel
theorem dX10_set_61 : decode cX10_set 61 = .ok (.ireturn, 1) := by decide +kernel
theorem dX10_board_0 : decode cX10_board 0 = .ok (.iload_n 1, 1) := by decide +kernel
theorem dX10_board_1 : decode cX10_board 1 = .ok (.iconst 0, 1) := by decide +kernel
theorem dX10_board_2 : decode cX10_board 2 = .ok (.iconst 5, 1) := by decide +kernel
theorem dX10_board_3 : decode cX10_board 3 = .ok (.invokestatic 117, 3) := by decide +kernel
theorem dX10_board_6 : decode cX10_board 6 = .ok (.ifCond .eq 50, 3) := by decide +kernel
theorem dX10_board_9 : decode cX10_board 9 = .ok (.iload_n 2, 1) := by decide +kernel
theorem dX10_board_10 : decode cX10_board 10 = .ok (.ifCond .lt 46, 3) := by decide +kernel
theorem dX10_board_13 : decode cX10_board 13 = .ok (.aload_n 0, 1) := by decide +kernel
theorem dX10_board_14 : decode cX10_board 14 = .ok (.iload_n 2, 1) := by decide +kernel
theorem dX10_board_15 : decode cX10_board 15 = .ok (.bipush 100, 2) := by decide +kernel
theorem dX10_board_17 : decode cX10_board 17 = .ok (.idiv, 1) := by decide +kernel
theorem dX10_board_18 : decode cX10_board 18 = .ok (.invokevirtual 131, 3) := by decide +kernel
theorem dX10_board_21 : decode cX10_board 21 = .ok (.ifCond .eq 35, 3) := by decide +kernel
theorem dX10_board_24 : decode cX10_board 24 = .ok (.aload_n 0, 1) := by decide +kernel
theorem dX10_board_25 : decode cX10_board 25 = .ok (.iload_n 2, 1) := by decide +kernel
theorem dX10_board_26 : decode cX10_board 26 = .ok (.bipush 100, 2) := by decide +kernel
theorem dX10_board_28 : decode cX10_board 28 = .ok (.irem, 1) := by decide +kernel
theorem dX10_board_29 : decode cX10_board 29 = .ok (.invokevirtual 131, 3) := by decide +kernel
theorem dX10_board_32 : decode cX10_board 32 = .ok (.ifCond .eq 24, 3) := by decide +kernel
theorem dX10_board_35 : decode cX10_board 35 = .ok (.iload_n 2, 1) := by decide +kernel
theorem dX10_board_36 : decode cX10_board 36 = .ok (.bipush 100, 2) := by decide +kernel
theorem dX10_board_38 : decode cX10_board 38 = .ok (.irem, 1) := by decide +kernel
theorem dX10_board_39 : decode cX10_board 39 = .ok (.iload_n 2, 1) := by decide +kernel
theorem dX10_board_40 : decode cX10_board 40 = .ok (.bipush 100, 2) := by decide +kernel
theorem dX10_board_42 : decode cX10_board 42 = .ok (.idiv, 1) := by decide +kernel
theorem dX10_board_43 : decode cX10_board 43 = .ok (.if_icmp .lt 13, 3) := by decide +kernel
theorem dX10_board_46 : decode cX10_board 46 = .ok (.iload_n 3, 1) := by decide +kernel
theorem dX10_board_47 : decode cX10_board 47 = .ok (.iconst 0, 1) := by decide +kernel
theorem dX10_board_48 : decode cX10_board 48 = .ok (.bipush 99, 2) := by decide +kernel
theorem dX10_board_50 : decode cX10_board 50 = .ok (.invokestatic 117, 3) := by decide +kernel
theorem dX10_board_53 : decode cX10_board 53 = .ok (.ifCond .ne 6, 3) := by decide +kernel
theorem dX10_board_56 : decode cX10_board 56 = .ok (.ldc 125, 2) := by decide +kernel
theorem dX10_board_58 : decode cX10_board 58 = .ok (.ireturn, 1) := by decide +kernel
theorem dX10_board_59 : decode cX10_board 59 = .ok (.aload_n 0, 1) := by decide +kernel
theorem dX10_board_60 : decode cX10_board 60 = .ok (.getfield 9, 3) := by decide +kernel
theorem dX10_board_63 : decode cX10_board 63 = .ok (.iconst 5, 1) := by decide +kernel
theorem dX10_board_64 : decode cX10_board 64 = .ok (.iaload, 1) := by decide +kernel
theorem dX10_board_65 : decode cX10_board 65 = .ok (.bipush 12, 2) := by decide +kernel
theorem dX10_board_67 : decode cX10_board 67 = .ok (.if_icmp .ne 6, 3) := by decide +kernel
theorem dX10_board_70 : decode cX10_board 70 = .ok (.ldc 126, 2) := by decide +kernel
theorem dX10_board_72 : decode cX10_board 72 = .ok (.ireturn, 1) := by decide +kernel
theorem dX10_board_73 : decode cX10_board 73 = .ok (.bipush 110, 2) := by decide +kernel
theorem dX10_board_75 : decode cX10_board 75 = .ok (.iconst 4, 1) := by decide +kernel
theorem dX10_board_76 : decode cX10_board 76 = .ok (.aload_n 0, 1) := by decide +kernel
theorem dX10_board_77 : decode cX10_board 77 = .ok (.getfield 9, 3) := by decide +kernel
theorem dX10_board_80 : decode cX10_board 80 = .ok (.iconst 5, 1) := by decide +kernel
theorem dX10_board_81 : decode cX10_board 81 = .ok (.iaload, 1) := by decide +kernel
theorem dX10_board_82 : decode cX10_board 82 = .ok (.imul, 1) := by decide +kernel
theorem dX10_board_83 : decode cX10_board 83 = .ok (.iadd, 1) := by decide +kernel
theorem dX10_board_84 : decode cX10_board 84 = .ok (.istore 4, 2) := by decide +kernel
theorem dX10_board_86 : decode cX10_board 86 = .ok (.aload_n 0, 1) := by decide +kernel
theorem dX10_board_87 : decode cX10_board 87 = .ok (.getfield 9, 3) := by decide +kernel
theorem dX10_board_90 : decode cX10_board 90 = .ok (.iload 4, 2) := by decide +kernel
theorem dX10_board_92 : decode cX10_board 92 = .ok (.iload_n 1, 1) := by decide +kernel
theorem dX10_board_93 : decode cX10_board 93 = .ok (.iastore, 1) := by decide +kernel
theorem dX10_board_94 : decode cX10_board 94 = .ok (.aload_n 0, 1) := by decide +kernel
theorem dX10_board_95 : decode cX10_board 95 = .ok (.getfield 9, 3) := by decide +kernel
theorem dX10_board_98 : decode cX10_board 98 = .ok (.iload 4, 2) := by decide +kernel
theorem dX10_board_100 : decode cX10_board 100 = .ok (.iconst 1, 1) := by decide +kernel
theorem dX10_board_101 : decode cX10_board 101 = .ok (.iadd, 1) := by decide +kernel
theorem dX10_board_102 : decode cX10_board 102 = .ok (.iload_n 2, 1) := by decide +kernel
theorem dX10_board_103 : decode cX10_board 103 = .ok (.bipush 100, 2) := by decide +kernel
theorem dX10_board_105 : decode cX10_board 105 = .ok (.idiv, 1) := by decide +kernel
theorem dX10_board_106 : decode cX10_board 106 = .ok (.iastore, 1) := by decide +kernel
theorem dX10_board_107 : decode cX10_board 107 = .ok (.aload_n 0, 1) := by decide +kernel
theorem dX10_board_108 : decode cX10_board 108 = .ok (.getfield 9, 3) := by decide +kernel
theorem dX10_board_111 : decode cX10_board 111 = .ok (.iload 4, 2) := by decide +kernel
theorem dX10_board_113 : decode cX10_board 113 = .ok (.iconst 2, 1) := by decide +kernel
theorem dX10_board_114 : decode cX10_board 114 = .ok (.iadd, 1) := by decide +kernel
theorem dX10_board_115 : decode cX10_board 115 = .ok (.iload_n 2, 1) := by decide +kernel
theorem dX10_board_116 : decode cX10_board 116 = .ok (.bipush 100, 2) := by decide +kernel
theorem dX10_board_118 : decode cX10_board 118 = .ok (.irem, 1) := by decide +kernel
theorem dX10_board_119 : decode cX10_board 119 = .ok (.iastore, 1) := by decide +kernel
theorem dX10_board_120 : decode cX10_board 120 = .ok (.aload_n 0, 1) := by decide +kernel
theorem dX10_board_121 : decode cX10_board 121 = .ok (.getfield 9, 3) := by decide +kernel
theorem dX10_board_124 : decode cX10_board 124 = .ok (.iload 4, 2) := by decide +kernel
theorem dX10_board_126 : decode cX10_board 126 = .ok (.iconst 3, 1) := by decide +kernel
theorem dX10_board_127 : decode cX10_board 127 = .ok (.iadd, 1) := by decide +kernel
theorem dX10_board_128 : decode cX10_board 128 = .ok (.iload_n 3, 1) := by decide +kernel
theorem dX10_board_129 : decode cX10_board 129 = .ok (.iastore, 1) := by decide +kernel
theorem dX10_board_130 : decode cX10_board 130 = .ok (.aload_n 0, 1) := by decide +kernel
theorem dX10_board_131 : decode cX10_board 131 = .ok (.getfield 9, 3) := by decide +kernel
theorem dX10_board_134 : decode cX10_board 134 = .ok (.iconst 5, 1) := by decide +kernel
theorem dX10_board_135 : decode cX10_board 135 = .ok (.dup2, 1) := by decide +kernel
theorem dX10_board_136 : decode cX10_board 136 = .ok (.iaload, 1) := by decide +kernel
theorem dX10_board_137 : decode cX10_board 137 = .ok (.iconst 1, 1) := by decide +kernel
theorem dX10_board_138 : decode cX10_board 138 = .ok (.iadd, 1) := by decide +kernel
theorem dX10_board_139 : decode cX10_board 139 = .ok (.iastore, 1) := by decide +kernel
theorem dX10_board_140 : decode cX10_board 140 = .ok (.aload_n 0, 1) := by decide +kernel
theorem dX10_board_141 : decode cX10_board 141 = .ok (.getfield 9, 3) := by decide +kernel
theorem dX10_board_144 : decode cX10_board 144 = .ok (.iconst 5, 1) := by decide +kernel
theorem dX10_board_145 : decode cX10_board 145 = .ok (.iaload, 1) := by decide +kernel
theorem dX10_board_146 : decode cX10_board 146 = .ok (.iconst 1, 1) := by decide +kernel
theorem dX10_board_147 : decode cX10_board 147 = .ok (.isub, 1) := by decide +kernel
theorem dX10_board_148 : decode cX10_board 148 = .ok (.ireturn, 1) := by decide +kernel
theorem dX10_ofBooks_0 : decode cX10_ofBooks 0 = .ok (.iconst 0, 1) := by decide +kernel
theorem dX10_ofBooks_1 : decode cX10_ofBooks 1 = .ok (.istore_n 3, 1) := by decide +kernel
theorem dX10_ofBooks_2 : decode cX10_ofBooks 2 = .ok (.aload_n 0, 1) := by decide +kernel
theorem dX10_ofBooks_3 : decode cX10_ofBooks 3 = .ok (.iload_n 1, 1) := by decide +kernel
theorem dX10_ofBooks_4 : decode cX10_ofBooks 4 = .ok (.iconst 1, 1) := by decide +kernel
theorem dX10_ofBooks_5 : decode cX10_ofBooks 5 = .ok (.invokevirtual 151, 3) := by decide +kernel
theorem dX10_ofBooks_8 : decode cX10_ofBooks 8 = .ok (.istore 4, 2) := by decide +kernel
theorem dX10_ofBooks_10 : decode cX10_ofBooks 10 = .ok (.iload 4, 2) := by decide +kernel
theorem dX10_ofBooks_12 : decode cX10_ofBooks 12 = .ok (.aload_n 0, 1) := by decide +kernel
theorem dX10_ofBooks_13 : decode cX10_ofBooks 13 = .ok (.iload_n 1, 1) := by decide +kernel
theorem dX10_ofBooks_14 : decode cX10_ofBooks 14 = .ok (.iconst 2, 1) := by decide +kernel
theorem dX10_ofBooks_15 : decode cX10_ofBooks 15 = .ok (.invokevirtual 151, 3) := by decide +kernel
theorem dX10_ofBooks_18 : decode cX10_ofBooks 18 = .ok (.if_icmp .gt 48, 3) := by decide +kernel
theorem dX10_ofBooks_21 : decode cX10_ofBooks 21 = .ok (.aload_n 0, 1) := by decide +kernel
theorem dX10_ofBooks_22 : decode cX10_ofBooks 22 = .ok (.iload 4, 2) := by decide +kernel
theorem dX10_ofBooks_24 : decode cX10_ofBooks 24 = .ok (.iconst 0, 1) := by decide +kernel
theorem dX10_ofBooks_25 : decode cX10_ofBooks 25 = .ok (.invokevirtual 134, 3) := by decide +kernel
theorem dX10_ofBooks_28 : decode cX10_ofBooks 28 = .ok (.istore 5, 2) := by decide +kernel
theorem dX10_ofBooks_30 : decode cX10_ofBooks 30 = .ok (.iload_n 2, 1) := by decide +kernel
theorem dX10_ofBooks_31 : decode cX10_ofBooks 31 = .ok (.iconst 1, 1) := by decide +kernel
theorem dX10_ofBooks_32 : decode cX10_ofBooks 32 = .ok (.if_icmp .ne 15, 3) := by decide +kernel
theorem dX10_ofBooks_35 : decode cX10_ofBooks 35 = .ok (.iload_n 3, 1) := by decide +kernel
theorem dX10_ofBooks_36 : decode cX10_ofBooks 36 = .ok (.aload_n 0, 1) := by decide +kernel
theorem dX10_ofBooks_37 : decode cX10_ofBooks 37 = .ok (.iload 4, 2) := by decide +kernel
theorem dX10_ofBooks_39 : decode cX10_ofBooks 39 = .ok (.iconst 1, 1) := by decide +kernel
theorem dX10_ofBooks_40 : decode cX10_ofBooks 40 = .ok (.invokevirtual 134, 3) := by decide +kernel
theorem dX10_ofBooks_43 : decode cX10_ofBooks 43 = .ok (.iadd, 1) := by decide +kernel
theorem dX10_ofBooks_44 : decode cX10_ofBooks 44 = .ok (.goto 15, 3) := by decide +kernel
theorem dX10_ofBooks_47 : decode cX10_ofBooks 47 = .ok (.iload 5, 2) := by decide +kernel
theorem dX10_ofBooks_49 : decode cX10_ofBooks 49 = .ok (.iload_n 3, 1) := by decide +kernel
theorem dX10_ofBooks_50 : decode cX10_ofBooks 50 = .ok (.if_icmp .le 8, 3) := by decide +kernel
theorem dX10_ofBooks_53 : decode cX10_ofBooks 53 = .ok (.iload 5, 2) := by decide +kernel
theorem dX10_ofBooks_55 : decode cX10_ofBooks 55 = .ok (.goto 4, 3) := by decide +kernel
theorem dX10_ofBooks_58 : decode cX10_ofBooks 58 = .ok (.iload_n 3, 1) := by decide +kernel
theorem dX10_ofBooks_59 : decode cX10_ofBooks 59 = .ok (.istore_n 3, 1) := by decide +kernel
theorem dX10_ofBooks_60 : decode cX10_ofBooks 60 = .ok (.iinc 4 1, 3) := by decide +kernel
theorem dX10_ofBooks_63 : decode cX10_ofBooks 63 = .ok (.goto (-53), 3) := by decide +kernel
theorem dX10_ofBooks_66 : decode cX10_ofBooks 66 = .ok (.iload_n 3, 1) := by decide +kernel
theorem dX10_ofBooks_67 : decode cX10_ofBooks 67 = .ok (.ireturn, 1) := by decide +kernel
theorem dX10_wants_0 : decode cX10_wants 0 = .ok (.aload_n 0, 1) := by decide +kernel
theorem dX10_wants_1 : decode cX10_wants 1 = .ok (.iload_n 1, 1) := by decide +kernel
theorem dX10_wants_2 : decode cX10_wants 2 = .ok (.iconst 0, 1) := by decide +kernel
theorem dX10_wants_3 : decode cX10_wants 3 = .ok (.invokevirtual 151, 3) := by decide +kernel
theorem dX10_wants_6 : decode cX10_wants 6 = .ok (.tableswitch 66 1 5 #[34, 43, 34, 52, 59], 34) := by decide +kernel
theorem dX10_wants_40 : decode cX10_wants 40 = .ok (.aload_n 0, 1) := by decide +kernel
theorem dX10_wants_41 : decode cX10_wants 41 = .ok (.iload_n 1, 1) := by decide +kernel
theorem dX10_wants_42 : decode cX10_wants 42 = .ok (.iconst 0, 1) := by decide +kernel
theorem dX10_wants_43 : decode cX10_wants 43 = .ok (.invokevirtual 154, 3) := by decide +kernel
theorem dX10_wants_46 : decode cX10_wants 46 = .ok (.iconst 1, 1) := by decide +kernel
theorem dX10_wants_47 : decode cX10_wants 47 = .ok (.iadd, 1) := by decide +kernel
theorem dX10_wants_48 : decode cX10_wants 48 = .ok (.ireturn, 1) := by decide +kernel
theorem dX10_wants_49 : decode cX10_wants 49 = .ok (.aload_n 0, 1) := by decide +kernel
theorem dX10_wants_50 : decode cX10_wants 50 = .ok (.iload_n 1, 1) := by decide +kernel
theorem dX10_wants_51 : decode cX10_wants 51 = .ok (.iconst 0, 1) := by decide +kernel
theorem dX10_wants_52 : decode cX10_wants 52 = .ok (.invokevirtual 154, 3) := by decide +kernel
theorem dX10_wants_55 : decode cX10_wants 55 = .ok (.iconst 2, 1) := by decide +kernel
theorem dX10_wants_56 : decode cX10_wants 56 = .ok (.iadd, 1) := by decide +kernel
theorem dX10_wants_57 : decode cX10_wants 57 = .ok (.ireturn, 1) := by decide +kernel
theorem dX10_wants_58 : decode cX10_wants 58 = .ok (.aload_n 0, 1) := by decide +kernel
theorem dX10_wants_59 : decode cX10_wants 59 = .ok (.iload_n 1, 1) := by decide +kernel
theorem dX10_wants_60 : decode cX10_wants 60 = .ok (.iconst 1, 1) := by decide +kernel
theorem dX10_wants_61 : decode cX10_wants 61 = .ok (.invokevirtual 154, 3) := by decide +kernel
theorem dX10_wants_64 : decode cX10_wants 64 = .ok (.ireturn, 1) := by decide +kernel
theorem dX10_wants_65 : decode cX10_wants 65 = .ok (.aload_n 0, 1) := by decide +kernel
theorem dX10_wants_66 : decode cX10_wants 66 = .ok (.iload_n 1, 1) := by decide +kernel
theorem dX10_wants_67 : decode cX10_wants 67 = .ok (.iconst 3, 1) := by decide +kernel
theorem dX10_wants_68 : decode cX10_wants 68 = .ok (.invokevirtual 151, 3) := by decide +kernel
theorem dX10_wants_71 : decode cX10_wants 71 = .ok (.ireturn, 1) := by decide +kernel
theorem dX10_wants_72 : decode cX10_wants 72 = .ok (.aload_n 0, 1) := by decide +kernel
theorem dX10_wants_73 : decode cX10_wants 73 = .ok (.iload_n 1, 1) := by decide +kernel
theorem dX10_wants_74 : decode cX10_wants 74 = .ok (.iconst 0, 1) := by decide +kernel
theorem dX10_wants_75 : decode cX10_wants 75 = .ok (.invokevirtual 154, 3) := by decide +kernel
theorem dX10_wants_78 : decode cX10_wants 78 = .ok (.ireturn, 1) := by decide +kernel
theorem dX10_takes_0 : decode cX10_takes 0 = .ok (.aload_n 0, 1) := by decide +kernel
theorem dX10_takes_1 : decode cX10_takes 1 = .ok (.iload_n 1, 1) := by decide +kernel
theorem dX10_takes_2 : decode cX10_takes 2 = .ok (.iconst 0, 1) := by decide +kernel
theorem dX10_takes_3 : decode cX10_takes 3 = .ok (.invokevirtual 151, 3) := by decide +kernel
theorem dX10_takes_6 : decode cX10_takes 6 = .ok (.istore_n 2, 1) := by decide +kernel
theorem dX10_takes_7 : decode cX10_takes 7 = .ok (.iload_n 2, 1) := by decide +kernel
theorem dX10_takes_8 : decode cX10_takes 8 = .ok (.iconst 4, 1) := by decide +kernel
theorem dX10_takes_9 : decode cX10_takes 9 = .ok (.if_icmp .ne 12, 3) := by decide +kernel
theorem dX10_takes_12 : decode cX10_takes 12 = .ok (.aload_n 0, 1) := by decide +kernel
theorem dX10_takes_13 : decode cX10_takes 13 = .ok (.iload_n 1, 1) := by decide +kernel
theorem dX10_takes_14 : decode cX10_takes 14 = .ok (.iconst 0, 1) := by decide +kernel
theorem dX10_takes_15 : decode cX10_takes 15 = .ok (.invokevirtual 154, 3) := by decide +kernel
theorem dX10_takes_18 : decode cX10_takes 18 = .ok (.goto 27, 3) := by decide +kernel
theorem dX10_takes_21 : decode cX10_takes 21 = .ok (.iload_n 2, 1) := by decide +kernel
theorem dX10_takes_22 : decode cX10_takes 22 = .ok (.iconst 3, 1) := by decide +kernel
theorem dX10_takes_23 : decode cX10_takes 23 = .ok (.if_icmp .ne 16, 3) := by decide +kernel
theorem dX10_takes_26 : decode cX10_takes 26 = .ok (.aload_n 0, 1) := by decide +kernel
theorem dX10_takes_27 : decode cX10_takes 27 = .ok (.iload_n 1, 1) := by decide +kernel
theorem dX10_takes_28 : decode cX10_takes 28 = .ok (.iconst 1, 1) := by decide +kernel
theorem dX10_takes_29 : decode cX10_takes 29 = .ok (.invokevirtual 154, 3) := by decide +kernel
theorem dX10_takes_32 : decode cX10_takes 32 = .ok (.iconst 1, 1) := by decide +kernel
theorem dX10_takes_33 : decode cX10_takes 33 = .ok (.iadd, 1) := by decide +kernel
theorem dX10_takes_34 : decode cX10_takes 34 = .ok (.iconst 2, 1) := by decide +kernel
theorem dX10_takes_35 : decode cX10_takes 35 = .ok (.idiv, 1) := by decide +kernel
theorem dX10_takes_36 : decode cX10_takes 36 = .ok (.goto 9, 3) := by decide +kernel
theorem dX10_takes_39 : decode cX10_takes 39 = .ok (.aload_n 0, 1) := by decide +kernel
theorem dX10_takes_40 : decode cX10_takes 40 = .ok (.iload_n 1, 1) := by decide +kernel
theorem dX10_takes_41 : decode cX10_takes 41 = .ok (.iconst 1, 1) := by decide +kernel
theorem dX10_takes_42 : decode cX10_takes 42 = .ok (.invokevirtual 154, 3) := by decide +kernel
theorem dX10_takes_45 : decode cX10_takes 45 = .ok (.ireturn, 1) := by decide +kernel
theorem dX10_worthBy_0 : decode cX10_worthBy 0 = .ok (.iload_n 0, 1) := by decide +kernel
theorem dX10_worthBy_1 : decode cX10_worthBy 1 = .ok (.tableswitch 53 1 5 #[35, 53, 39, 45, 49], 35) := by decide +kernel
theorem dX10_worthBy_36 : decode cX10_worthBy 36 = .ok (.iload_n 1, 1) := by decide +kernel
theorem dX10_worthBy_37 : decode cX10_worthBy 37 = .ok (.iload_n 2, 1) := by decide +kernel
theorem dX10_worthBy_38 : decode cX10_worthBy 38 = .ok (.iadd, 1) := by decide +kernel
theorem dX10_worthBy_39 : decode cX10_worthBy 39 = .ok (.ireturn, 1) := by decide +kernel
theorem dX10_worthBy_40 : decode cX10_worthBy 40 = .ok (.iload_n 1, 1) := by decide +kernel
theorem dX10_worthBy_41 : decode cX10_worthBy 41 = .ok (.iload_n 2, 1) := by decide +kernel
theorem dX10_worthBy_42 : decode cX10_worthBy 42 = .ok (.iadd, 1) := by decide +kernel
theorem dX10_worthBy_43 : decode cX10_worthBy 43 = .ok (.iconst 3, 1) := by decide +kernel
theorem dX10_worthBy_44 : decode cX10_worthBy 44 = .ok (.iadd, 1) := by decide +kernel
theorem dX10_worthBy_45 : decode cX10_worthBy 45 = .ok (.ireturn, 1) := by decide +kernel
theorem dX10_worthBy_46 : decode cX10_worthBy 46 = .ok (.iconst 2, 1) := by decide +kernel
theorem dX10_worthBy_47 : decode cX10_worthBy 47 = .ok (.iload_n 1, 1) := by decide +kernel
theorem dX10_worthBy_48 : decode cX10_worthBy 48 = .ok (.imul, 1) := by decide +kernel
theorem dX10_worthBy_49 : decode cX10_worthBy 49 = .ok (.ireturn, 1) := by decide +kernel
theorem dX10_worthBy_50 : decode cX10_worthBy 50 = .ok (.iload_n 2, 1) := by decide +kernel
theorem dX10_worthBy_51 : decode cX10_worthBy 51 = .ok (.iconst 1, 1) := by decide +kernel
theorem dX10_worthBy_52 : decode cX10_worthBy 52 = .ok (.isub, 1) := by decide +kernel
theorem dX10_worthBy_53 : decode cX10_worthBy 53 = .ok (.ireturn, 1) := by decide +kernel
theorem dX10_worthBy_54 : decode cX10_worthBy 54 = .ok (.iload_n 1, 1) := by decide +kernel
theorem dX10_worthBy_55 : decode cX10_worthBy 55 = .ok (.ireturn, 1) := by decide +kernel
theorem dX10_booksOn_0 : decode cX10_booksOn 0 = .ok (.aload_n 0, 1) := by decide +kernel
theorem dX10_booksOn_1 : decode cX10_booksOn 1 = .ok (.iload_n 1, 1) := by decide +kernel
theorem dX10_booksOn_2 : decode cX10_booksOn 2 = .ok (.iconst 2, 1) := by decide +kernel
theorem dX10_booksOn_3 : decode cX10_booksOn 3 = .ok (.invokevirtual 151, 3) := by decide +kernel
theorem dX10_booksOn_6 : decode cX10_booksOn 6 = .ok (.aload_n 0, 1) := by decide +kernel
theorem dX10_booksOn_7 : decode cX10_booksOn 7 = .ok (.iload_n 1, 1) := by decide +kernel
theorem dX10_booksOn_8 : decode cX10_booksOn 8 = .ok (.iconst 1, 1) := by decide +kernel
theorem dX10_booksOn_9 : decode cX10_booksOn 9 = .ok (.invokevirtual 151, 3) := by decide +kernel
theorem dX10_booksOn_12 : decode cX10_booksOn 12 = .ok (.isub, 1) := by decide +kernel
theorem dX10_booksOn_13 : decode cX10_booksOn 13 = .ok (.iconst 1, 1) := by decide +kernel
theorem dX10_booksOn_14 : decode cX10_booksOn 14 = .ok (.iadd, 1) := by decide +kernel
theorem dX10_booksOn_15 : decode cX10_booksOn 15 = .ok (.ireturn, 1) := by decide +kernel
theorem dX10_isGood_0 : decode cX10_isGood 0 = .ok (.aload_n 0, 1) := by decide +kernel
theorem dX10_isGood_1 : decode cX10_isGood 1 = .ok (.iload_n 1, 1) := by decide +kernel
theorem dX10_isGood_2 : decode cX10_isGood 2 = .ok (.iconst 1, 1) := by decide +kernel
theorem dX10_isGood_3 : decode cX10_isGood 3 = .ok (.invokevirtual 151, 3) := by decide +kernel
theorem dX10_isGood_6 : decode cX10_isGood 6 = .ok (.istore_n 2, 1) := by decide +kernel
theorem dX10_isGood_7 : decode cX10_isGood 7 = .ok (.aload_n 0, 1) := by decide +kernel
theorem dX10_isGood_8 : decode cX10_isGood 8 = .ok (.iload_n 1, 1) := by decide +kernel
theorem dX10_isGood_9 : decode cX10_isGood 9 = .ok (.iconst 2, 1) := by decide +kernel
theorem dX10_isGood_10 : decode cX10_isGood 10 = .ok (.invokevirtual 151, 3) := by decide +kernel
theorem dX10_isGood_13 : decode cX10_isGood 13 = .ok (.istore_n 3, 1) := by decide +kernel
theorem dX10_isGood_14 : decode cX10_isGood 14 = .ok (.iload_n 2, 1) := by decide +kernel
theorem dX10_isGood_15 : decode cX10_isGood 15 = .ok (.ifCond .le 15, 3) := by decide +kernel
theorem dX10_isGood_18 : decode cX10_isGood 18 = .ok (.aload_n 0, 1) := by decide +kernel
theorem dX10_isGood_19 : decode cX10_isGood 19 = .ok (.iload_n 2, 1) := by decide +kernel
theorem dX10_isGood_20 : decode cX10_isGood 20 = .ok (.iconst 1, 1) := by decide +kernel
theorem dX10_isGood_21 : decode cX10_isGood 21 = .ok (.isub, 1) := by decide +kernel
theorem dX10_isGood_22 : decode cX10_isGood 22 = .ok (.iconst 3, 1) := by decide +kernel
theorem dX10_isGood_23 : decode cX10_isGood 23 = .ok (.invokevirtual 134, 3) := by decide +kernel
theorem dX10_isGood_26 : decode cX10_isGood 26 = .ok (.iconst 1, 1) := by decide +kernel
theorem dX10_isGood_27 : decode cX10_isGood 27 = .ok (.if_icmp .eq 25, 3) := by decide +kernel
theorem dX10_isGood_30 : decode cX10_isGood 30 = .ok (.iload_n 3, 1) := by decide +kernel
theorem dX10_isGood_31 : decode cX10_isGood 31 = .ok (.aload_n 0, 1) := by decide +kernel
theorem dX10_isGood_32 : decode cX10_isGood 32 = .ok (.getfield 9, 3) := by decide +kernel
theorem dX10_isGood_35 : decode cX10_isGood 35 = .ok (.iconst 4, 1) := by decide +kernel
theorem dX10_isGood_36 : decode cX10_isGood 36 = .ok (.iaload, 1) := by decide +kernel
theorem dX10_isGood_37 : decode cX10_isGood 37 = .ok (.iconst 1, 1) := by decide +kernel
theorem dX10_isGood_38 : decode cX10_isGood 38 = .ok (.isub, 1) := by decide +kernel
theorem dX10_isGood_39 : decode cX10_isGood 39 = .ok (.if_icmp .ge 17, 3) := by decide +kernel
theorem dX10_isGood_42 : decode cX10_isGood 42 = .ok (.aload_n 0, 1) := by decide +kernel
theorem dX10_isGood_43 : decode cX10_isGood 43 = .ok (.iload_n 3, 1) := by decide +kernel
theorem dX10_isGood_44 : decode cX10_isGood 44 = .ok (.iconst 3, 1) := by decide +kernel
theorem dX10_isGood_45 : decode cX10_isGood 45 = .ok (.invokevirtual 134, 3) := by decide +kernel
theorem dX10_isGood_48 : decode cX10_isGood 48 = .ok (.iconst 1, 1) := by decide +kernel
theorem dX10_isGood_49 : decode cX10_isGood 49 = .ok (.if_icmp .ne 7, 3) := by decide +kernel
theorem dX10_isGood_52 : decode cX10_isGood 52 = .ok (.iconst 1, 1) := by decide +kernel
theorem dX10_isGood_53 : decode cX10_isGood 53 = .ok (.goto 4, 3) := by decide +kernel
theorem dX10_isGood_56 : decode cX10_isGood 56 = .ok (.iconst 0, 1) := by decide +kernel
theorem dX10_isGood_57 : decode cX10_isGood 57 = .ok (.istore 4, 2) := by decide +kernel
theorem dX10_isGood_59 : decode cX10_isGood 59 = .ok (.iload 4, 2) := by decide +kernel
theorem dX10_isGood_61 : decode cX10_isGood 61 = .ok (.ifCond .ne 21, 3) := by decide +kernel
theorem dX10_isGood_64 : decode cX10_isGood 64 = .ok (.aload_n 0, 1) := by decide +kernel
theorem dX10_isGood_65 : decode cX10_isGood 65 = .ok (.iload_n 1, 1) := by decide +kernel
theorem dX10_isGood_66 : decode cX10_isGood 66 = .ok (.invokevirtual 157, 3) := by decide +kernel
theorem dX10_isGood_69 : decode cX10_isGood 69 = .ok (.aload_n 0, 1) := by decide +kernel
theorem dX10_isGood_70 : decode cX10_isGood 70 = .ok (.getfield 9, 3) := by decide +kernel
theorem dX10_isGood_73 : decode cX10_isGood 73 = .ok (.iconst 1, 1) := by decide +kernel
theorem dX10_isGood_74 : decode cX10_isGood 74 = .ok (.iaload, 1) := by decide +kernel
theorem dX10_isGood_75 : decode cX10_isGood 75 = .ok (.if_icmp .gt 7, 3) := by decide +kernel
theorem dX10_isGood_78 : decode cX10_isGood 78 = .ok (.iconst 1, 1) := by decide +kernel
theorem dX10_isGood_79 : decode cX10_isGood 79 = .ok (.goto 4, 3) := by decide +kernel
theorem dX10_isGood_82 : decode cX10_isGood 82 = .ok (.iconst 0, 1) := by decide +kernel
theorem dX10_isGood_83 : decode cX10_isGood 83 = .ok (.ireturn, 1) := by decide +kernel
theorem dX10_told_0 : decode cX10_told 0 = .ok (.aload_n 0, 1) := by decide +kernel
theorem dX10_told_1 : decode cX10_told 1 = .ok (.iload_n 1, 1) := by decide +kernel
theorem dX10_told_2 : decode cX10_told 2 = .ok (.invokevirtual 161, 3) := by decide +kernel
theorem dX10_told_5 : decode cX10_told 5 = .ok (.ifCond .eq 13, 3) := by decide +kernel
theorem dX10_told_8 : decode cX10_told 8 = .ok (.iload_n 2, 1) := by decide +kernel
theorem dX10_told_9 : decode cX10_told 9 = .ok (.iconst 0, 1) := by decide +kernel
theorem dX10_told_10 : decode cX10_told 10 = .ok (.bipush 7, 2) := by decide +kernel
theorem dX10_told_12 : decode cX10_told 12 = .ok (.invokestatic 117, 3) := by decide +kernel
theorem dX10_told_15 : decode cX10_told 15 = .ok (.ifCond .ne 6, 3) := by decide +kernel
theorem dX10_told_18 : decode cX10_told 18 = .ok (.ldc 125, 2) := by decide +kernel
theorem dX10_told_20 : decode cX10_told 20 = .ok (.ireturn, 1) := by decide +kernel
theorem dX10_told_21 : decode cX10_told 21 = .ok (.iload_n 2, 1) := by decide +kernel
theorem dX10_told_22 : decode cX10_told 22 = .ok (.tableswitch 77 4 7 #[30, 36, 42, 63], 30) := by decide +kernel
theorem dX10_told_52 : decode cX10_told 52 = .ok (.aload_n 0, 1) := by decide +kernel
theorem dX10_told_53 : decode cX10_told 53 = .ok (.iload_n 1, 1) := by decide +kernel
theorem dX10_told_54 : decode cX10_told 54 = .ok (.invokevirtual 164, 3) := by decide +kernel
theorem dX10_told_57 : decode cX10_told 57 = .ok (.ireturn, 1) := by decide +kernel
theorem dX10_told_58 : decode cX10_told 58 = .ok (.aload_n 0, 1) := by decide +kernel
theorem dX10_told_59 : decode cX10_told 59 = .ok (.iload_n 1, 1) := by decide +kernel
theorem dX10_told_60 : decode cX10_told 60 = .ok (.invokevirtual 157, 3) := by decide +kernel
theorem dX10_told_63 : decode cX10_told 63 = .ok (.ireturn, 1) := by decide +kernel
theorem dX10_told_64 : decode cX10_told 64 = .ok (.aload_n 0, 1) := by decide +kernel
theorem dX10_told_65 : decode cX10_told 65 = .ok (.iload_n 1, 1) := by decide +kernel
theorem dX10_told_66 : decode cX10_told 66 = .ok (.iconst 0, 1) := by decide +kernel
theorem dX10_told_67 : decode cX10_told 67 = .ok (.invokevirtual 151, 3) := by decide +kernel
theorem dX10_told_70 : decode cX10_told 70 = .ok (.aload_n 0, 1) := by decide +kernel
theorem dX10_told_71 : decode cX10_told 71 = .ok (.iload_n 1, 1) := by decide +kernel
theorem dX10_told_72 : decode cX10_told 72 = .ok (.invokevirtual 167, 3) := by decide +kernel
theorem dX10_told_75 : decode cX10_told 75 = .ok (.aload_n 0, 1) := by decide +kernel
theorem dX10_told_76 : decode cX10_told 76 = .ok (.iload_n 1, 1) := by decide +kernel
theorem dX10_told_77 : decode cX10_told 77 = .ok (.iconst 3, 1) := by decide +kernel
theorem dX10_told_78 : decode cX10_told 78 = .ok (.invokevirtual 151, 3) := by decide +kernel
theorem dX10_told_81 : decode cX10_told 81 = .ok (.invokestatic 170, 3) := by decide +kernel
theorem dX10_told_84 : decode cX10_told 84 = .ok (.ireturn, 1) := by decide +kernel
theorem dX10_told_85 : decode cX10_told 85 = .ok (.aload_n 0, 1) := by decide +kernel
theorem dX10_told_86 : decode cX10_told 86 = .ok (.iload_n 1, 1) := by decide +kernel
theorem dX10_told_87 : decode cX10_told 87 = .ok (.invokevirtual 174, 3) := by decide +kernel
theorem dX10_told_90 : decode cX10_told 90 = .ok (.ifCond .eq 7, 3) := by decide +kernel
theorem dX10_told_93 : decode cX10_told 93 = .ok (.iconst 1, 1) := by decide +kernel
theorem dX10_told_94 : decode cX10_told 94 = .ok (.goto 4, 3) := by decide +kernel
theorem dX10_told_97 : decode cX10_told 97 = .ok (.iconst 0, 1) := by decide +kernel
theorem dX10_told_98 : decode cX10_told 98 = .ok (.ireturn, 1) := by decide +kernel
theorem dX10_told_99 : decode cX10_told 99 = .ok (.aload_n 0, 1) := by decide +kernel
theorem dX10_told_100 : decode cX10_told 100 = .ok (.iload_n 1, 1) := by decide +kernel
theorem dX10_told_101 : decode cX10_told 101 = .ok (.iload_n 2, 1) := by decide +kernel
theorem dX10_told_102 : decode cX10_told 102 = .ok (.invokevirtual 151, 3) := by decide +kernel
theorem dX10_told_105 : decode cX10_told 105 = .ok (.ireturn, 1) := by decide +kernel
theorem dX10_isUnder_0 : decode cX10_isUnder 0 = .ok (.iload_n 1, 1) := by decide +kernel
theorem dX10_isUnder_1 : decode cX10_isUnder 1 = .ok (.ifCond .eq 28, 3) := by decide +kernel
theorem dX10_isUnder_4 : decode cX10_isUnder 4 = .ok (.iload_n 0, 1) := by decide +kernel
theorem dX10_isUnder_5 : decode cX10_isUnder 5 = .ok (.iload_n 1, 1) := by decide +kernel
theorem dX10_isUnder_6 : decode cX10_isUnder 6 = .ok (.if_icmp .eq 23, 3) := by decide +kernel
theorem dX10_isUnder_9 : decode cX10_isUnder 9 = .ok (.iload_n 1, 1) := by decide +kernel
theorem dX10_isUnder_10 : decode cX10_isUnder 10 = .ok (.iconst 1, 1) := by decide +kernel
theorem dX10_isUnder_11 : decode cX10_isUnder 11 = .ok (.if_icmp .ne 8, 3) := by decide +kernel
theorem dX10_isUnder_14 : decode cX10_isUnder 14 = .ok (.iload_n 0, 1) := by decide +kernel
theorem dX10_isUnder_15 : decode cX10_isUnder 15 = .ok (.iconst 3, 1) := by decide +kernel
theorem dX10_isUnder_16 : decode cX10_isUnder 16 = .ok (.if_icmp .eq 13, 3) := by decide +kernel
theorem dX10_isUnder_19 : decode cX10_isUnder 19 = .ok (.iload_n 1, 1) := by decide +kernel
theorem dX10_isUnder_20 : decode cX10_isUnder 20 = .ok (.iconst 2, 1) := by decide +kernel
theorem dX10_isUnder_21 : decode cX10_isUnder 21 = .ok (.if_icmp .ne 12, 3) := by decide +kernel
theorem dX10_isUnder_24 : decode cX10_isUnder 24 = .ok (.iload_n 0, 1) := by decide +kernel
theorem dX10_isUnder_25 : decode cX10_isUnder 25 = .ok (.iconst 4, 1) := by decide +kernel
theorem dX10_isUnder_26 : decode cX10_isUnder 26 = .ok (.if_icmp .ne 7, 3) := by decide +kernel
theorem dX10_isUnder_29 : decode cX10_isUnder 29 = .ok (.iconst 1, 1) := by decide +kernel
theorem dX10_isUnder_30 : decode cX10_isUnder 30 = .ok (.goto 4, 3) := by decide +kernel
theorem dX10_isUnder_33 : decode cX10_isUnder 33 = .ok (.iconst 0, 1) := by decide +kernel
theorem dX10_isUnder_34 : decode cX10_isUnder 34 = .ok (.ireturn, 1) := by decide +kernel
theorem dX10_as_0 : decode cX10_as 0 = .ok (.aload_n 0, 1) := by decide +kernel
theorem dX10_as_1 : decode cX10_as 1 = .ok (.iload_n 1, 1) := by decide +kernel
theorem dX10_as_2 : decode cX10_as 2 = .ok (.invokevirtual 161, 3) := by decide +kernel
theorem dX10_as_5 : decode cX10_as 5 = .ok (.ifCond .eq 12, 3) := by decide +kernel
theorem dX10_as_8 : decode cX10_as 8 = .ok (.iload_n 2, 1) := by decide +kernel
theorem dX10_as_9 : decode cX10_as 9 = .ok (.iconst 0, 1) := by decide +kernel
theorem dX10_as_10 : decode cX10_as 10 = .ok (.iconst 5, 1) := by decide +kernel
theorem dX10_as_11 : decode cX10_as 11 = .ok (.invokestatic 117, 3) := by decide +kernel
theorem dX10_as_14 : decode cX10_as 14 = .ok (.ifCond .ne 6, 3) := by decide +kernel
theorem dX10_as_17 : decode cX10_as 17 = .ok (.ldc 125, 2) := by decide +kernel
theorem dX10_as_19 : decode cX10_as 19 = .ok (.ireturn, 1) := by decide +kernel
theorem dX10_as_20 : decode cX10_as 20 = .ok (.aload_n 0, 1) := by decide +kernel
theorem dX10_as_21 : decode cX10_as 21 = .ok (.iload_n 1, 1) := by decide +kernel
theorem dX10_as_22 : decode cX10_as 22 = .ok (.iconst 0, 1) := by decide +kernel
theorem dX10_as_23 : decode cX10_as 23 = .ok (.invokevirtual 151, 3) := by decide +kernel
theorem dX10_as_26 : decode cX10_as 26 = .ok (.iload_n 2, 1) := by decide +kernel
theorem dX10_as_27 : decode cX10_as 27 = .ok (.invokestatic 177, 3) := by decide +kernel
theorem dX10_as_30 : decode cX10_as 30 = .ok (.ifCond .eq 12, 3) := by decide +kernel
theorem dX10_as_33 : decode cX10_as 33 = .ok (.aload_n 0, 1) := by decide +kernel
theorem dX10_as_34 : decode cX10_as 34 = .ok (.iload_n 1, 1) := by decide +kernel
theorem dX10_as_35 : decode cX10_as 35 = .ok (.iconst 3, 1) := by decide +kernel
theorem dX10_as_36 : decode cX10_as 36 = .ok (.invokevirtual 151, 3) := by decide +kernel
theorem dX10_as_39 : decode cX10_as 39 = .ok (.goto 5, 3) := by decide +kernel
theorem dX10_as_42 : decode cX10_as 42 = .ok (.ldc 181, 2) := by decide +kernel
theorem dX10_as_44 : decode cX10_as 44 = .ok (.ireturn, 1) := by decide +kernel
theorem dX10_turns_0 : decode cX10_turns 0 = .ok (.aload_n 0, 1) := by decide +kernel
theorem dX10_turns_1 : decode cX10_turns 1 = .ok (.iload_n 1, 1) := by decide +kernel
theorem dX10_turns_2 : decode cX10_turns 2 = .ok (.invokevirtual 161, 3) := by decide +kernel
theorem dX10_turns_5 : decode cX10_turns 5 = .ok (.ifCond .eq 12, 3) := by decide +kernel
theorem dX10_turns_8 : decode cX10_turns 8 = .ok (.iload_n 2, 1) := by decide +kernel
theorem dX10_turns_9 : decode cX10_turns 9 = .ok (.iconst 0, 1) := by decide +kernel
theorem dX10_turns_10 : decode cX10_turns 10 = .ok (.iconst 5, 1) := by decide +kernel
theorem dX10_turns_11 : decode cX10_turns 11 = .ok (.invokestatic 117, 3) := by decide +kernel
theorem dX10_turns_14 : decode cX10_turns 14 = .ok (.ifCond .ne 6, 3) := by decide +kernel
theorem dX10_turns_17 : decode cX10_turns 17 = .ok (.ldc 125, 2) := by decide +kernel
theorem dX10_turns_19 : decode cX10_turns 19 = .ok (.ireturn, 1) := by decide +kernel
theorem dX10_turns_20 : decode cX10_turns 20 = .ok (.aload_n 0, 1) := by decide +kernel
theorem dX10_turns_21 : decode cX10_turns 21 = .ok (.iload_n 1, 1) := by decide +kernel
theorem dX10_turns_22 : decode cX10_turns 22 = .ok (.iconst 0, 1) := by decide +kernel
theorem dX10_turns_23 : decode cX10_turns 23 = .ok (.invokevirtual 151, 3) := by decide +kernel
theorem dX10_turns_26 : decode cX10_turns 26 = .ok (.istore_n 3, 1) := by decide +kernel
theorem dX10_turns_27 : decode cX10_turns 27 = .ok (.aload_n 0, 1) := by decide +kernel
theorem dX10_turns_28 : decode cX10_turns 28 = .ok (.getfield 9, 3) := by decide +kernel
theorem dX10_turns_31 : decode cX10_turns 31 = .ok (.bipush 110, 2) := by decide +kernel
theorem dX10_turns_33 : decode cX10_turns 33 = .ok (.iconst 4, 1) := by decide +kernel
theorem dX10_turns_34 : decode cX10_turns 34 = .ok (.iload_n 1, 1) := by decide +kernel
theorem dX10_turns_35 : decode cX10_turns 35 = .ok (.imul, 1) := by decide +kernel
theorem dX10_turns_36 : decode cX10_turns 36 = .ok (.iadd, 1) := by decide +kernel
theorem dX10_turns_37 : decode cX10_turns 37 = .ok (.iload_n 2, 1) := by decide +kernel
theorem dX10_turns_38 : decode cX10_turns 38 = .ok (.iastore, 1) := by decide +kernel
theorem dX10_turns_39 : decode cX10_turns 39 = .ok (.iload_n 3, 1) := by decide +kernel
theorem dX10_turns_40 : decode cX10_turns 40 = .ok (.ireturn, 1) := by decide +kernel
theorem dX10_drop_0 : decode cX10_drop 0 = .ok (.aload_n 0, 1) := by decide +kernel
theorem dX10_drop_1 : decode cX10_drop 1 = .ok (.iload_n 1, 1) := by decide +kernel
theorem dX10_drop_2 : decode cX10_drop 2 = .ok (.invokevirtual 161, 3) := by decide +kernel
theorem dX10_drop_5 : decode cX10_drop 5 = .ok (.ifCond .ne 6, 3) := by decide +kernel
theorem dX10_drop_8 : decode cX10_drop 8 = .ok (.ldc 125, 2) := by decide +kernel
theorem dX10_drop_10 : decode cX10_drop 10 = .ok (.ireturn, 1) := by decide +kernel
theorem dX10_drop_11 : decode cX10_drop 11 = .ok (.aload_n 0, 1) := by decide +kernel
theorem dX10_drop_12 : decode cX10_drop 12 = .ok (.getfield 9, 3) := by decide +kernel
theorem dX10_drop_15 : decode cX10_drop 15 = .ok (.iconst 5, 1) := by decide +kernel
theorem dX10_drop_16 : decode cX10_drop 16 = .ok (.dup2, 1) := by decide +kernel
theorem dX10_drop_17 : decode cX10_drop 17 = .ok (.iaload, 1) := by decide +kernel
theorem dX10_drop_18 : decode cX10_drop 18 = .ok (.iconst 1, 1) := by decide +kernel
theorem dX10_drop_19 : decode cX10_drop 19 = .ok (.isub, 1) := by decide +kernel
theorem dX10_drop_20 : decode cX10_drop 20 = .ok (.iastore, 1) := by decide +kernel
theorem dX10_drop_21 : decode cX10_drop 21 = .ok (.bipush 110, 2) := by decide +kernel
theorem dX10_drop_23 : decode cX10_drop 23 = .ok (.iconst 4, 1) := by decide +kernel
theorem dX10_drop_24 : decode cX10_drop 24 = .ok (.iload_n 1, 1) := by decide +kernel
theorem dX10_drop_25 : decode cX10_drop 25 = .ok (.imul, 1) := by decide +kernel
theorem dX10_drop_26 : decode cX10_drop 26 = .ok (.iadd, 1) := by decide +kernel
theorem dX10_drop_27 : decode cX10_drop 27 = .ok (.istore_n 2, 1) := by decide +kernel
theorem dX10_drop_28 : decode cX10_drop 28 = .ok (.iload_n 2, 1) := by decide +kernel
theorem dX10_drop_29 : decode cX10_drop 29 = .ok (.bipush 110, 2) := by decide +kernel
theorem dX10_drop_31 : decode cX10_drop 31 = .ok (.iconst 4, 1) := by decide +kernel
theorem dX10_drop_32 : decode cX10_drop 32 = .ok (.aload_n 0, 1) := by decide +kernel
theorem dX10_drop_33 : decode cX10_drop 33 = .ok (.getfield 9, 3) := by decide +kernel
theorem dX10_drop_36 : decode cX10_drop 36 = .ok (.iconst 5, 1) := by decide +kernel
theorem dX10_drop_37 : decode cX10_drop 37 = .ok (.iaload, 1) := by decide +kernel
theorem dX10_drop_38 : decode cX10_drop 38 = .ok (.imul, 1) := by decide +kernel
theorem dX10_drop_39 : decode cX10_drop 39 = .ok (.iadd, 1) := by decide +kernel
theorem dX10_drop_40 : decode cX10_drop 40 = .ok (.if_icmp .ge 23, 3) := by decide +kernel
theorem dX10_drop_43 : decode cX10_drop 43 = .ok (.aload_n 0, 1) := by decide +kernel
theorem dX10_drop_44 : decode cX10_drop 44 = .ok (.getfield 9, 3) := by decide +kernel
theorem dX10_drop_47 : decode cX10_drop 47 = .ok (.iload_n 2, 1) := by decide +kernel
theorem dX10_drop_48 : decode cX10_drop 48 = .ok (.aload_n 0, 1) := by decide +kernel
theorem dX10_drop_49 : decode cX10_drop 49 = .ok (.getfield 9, 3) := by decide +kernel
theorem dX10_drop_52 : decode cX10_drop 52 = .ok (.iload_n 2, 1) := by decide +kernel
theorem dX10_drop_53 : decode cX10_drop 53 = .ok (.iconst 4, 1) := by decide +kernel
theorem dX10_drop_54 : decode cX10_drop 54 = .ok (.iadd, 1) := by decide +kernel
theorem dX10_drop_55 : decode cX10_drop 55 = .ok (.iaload, 1) := by decide +kernel
theorem dX10_drop_56 : decode cX10_drop 56 = .ok (.iastore, 1) := by decide +kernel
theorem dX10_drop_57 : decode cX10_drop 57 = .ok (.iinc 2 1, 3) := by decide +kernel
theorem dX10_drop_60 : decode cX10_drop 60 = .ok (.goto (-32), 3) := by decide +kernel
theorem dX10_drop_63 : decode cX10_drop 63 = .ok (.aload_n 0, 1) := by decide +kernel
theorem dX10_drop_64 : decode cX10_drop 64 = .ok (.getfield 9, 3) := by decide +kernel
theorem dX10_drop_67 : decode cX10_drop 67 = .ok (.iconst 5, 1) := by decide +kernel
theorem dX10_drop_68 : decode cX10_drop 68 = .ok (.iaload, 1) := by decide +kernel
theorem dX10_drop_69 : decode cX10_drop 69 = .ok (.ireturn, 1) := by decide +kernel
theorem dX10_firstBad_0 : decode cX10_firstBad 0 = .ok (.iconst 0, 1) := by decide +kernel
theorem dX10_firstBad_1 : decode cX10_firstBad 1 = .ok (.istore_n 1, 1) := by decide +kernel
theorem dX10_firstBad_2 : decode cX10_firstBad 2 = .ok (.iload_n 1, 1) := by decide +kernel
theorem dX10_firstBad_3 : decode cX10_firstBad 3 = .ok (.aload_n 0, 1) := by decide +kernel
theorem dX10_firstBad_4 : decode cX10_firstBad 4 = .ok (.getfield 9, 3) := by decide +kernel
theorem dX10_firstBad_7 : decode cX10_firstBad 7 = .ok (.iconst 5, 1) := by decide +kernel
theorem dX10_firstBad_8 : decode cX10_firstBad 8 = .ok (.iaload, 1) := by decide +kernel
theorem dX10_firstBad_9 : decode cX10_firstBad 9 = .ok (.if_icmp .ge 19, 3) := by decide +kernel
theorem dX10_firstBad_12 : decode cX10_firstBad 12 = .ok (.aload_n 0, 1) := by decide +kernel
theorem dX10_firstBad_13 : decode cX10_firstBad 13 = .ok (.iload_n 1, 1) := by decide +kernel
theorem dX10_firstBad_14 : decode cX10_firstBad 14 = .ok (.invokevirtual 174, 3) := by decide +kernel
theorem dX10_firstBad_17 : decode cX10_firstBad 17 = .ok (.ifCond .ne 5, 3) := by decide +kernel
theorem dX10_firstBad_20 : decode cX10_firstBad 20 = .ok (.iload_n 1, 1) := by decide +kernel
theorem dX10_firstBad_21 : decode cX10_firstBad 21 = .ok (.ireturn, 1) := by decide +kernel
theorem dX10_firstBad_22 : decode cX10_firstBad 22 = .ok (.iinc 1 1, 3) := by decide +kernel
theorem dX10_firstBad_25 : decode cX10_firstBad 25 = .ok (.goto (-23), 3) := by decide +kernel
theorem dX10_firstBad_28 : decode cX10_firstBad 28 = .ok (.ldc 145, 2) := by decide +kernel
theorem dX10_firstBad_30 : decode cX10_firstBad 30 = .ok (.ireturn, 1) := by decide +kernel
theorem dX10_firstLoose_0 : decode cX10_firstLoose 0 = .ok (.iconst 0, 1) := by decide +kernel
theorem dX10_firstLoose_1 : decode cX10_firstLoose 1 = .ok (.istore_n 1, 1) := by decide +kernel
theorem dX10_firstLoose_2 : decode cX10_firstLoose 2 = .ok (.iload_n 1, 1) := by decide +kernel
theorem dX10_firstLoose_3 : decode cX10_firstLoose 3 = .ok (.aload_n 0, 1) := by decide +kernel
theorem dX10_firstLoose_4 : decode cX10_firstLoose 4 = .ok (.getfield 9, 3) := by decide +kernel
theorem dX10_firstLoose_7 : decode cX10_firstLoose 7 = .ok (.iconst 4, 1) := by decide +kernel
theorem dX10_firstLoose_8 : decode cX10_firstLoose 8 = .ok (.iaload, 1) := by decide +kernel
theorem dX10_firstLoose_9 : decode cX10_firstLoose 9 = .ok (.if_icmp .ge 63, 3) := by decide +kernel
theorem dX10_firstLoose_12 : decode cX10_firstLoose 12 = .ok (.iconst 0, 1) := by decide +kernel
theorem dX10_firstLoose_13 : decode cX10_firstLoose 13 = .ok (.istore_n 2, 1) := by decide +kernel
theorem dX10_firstLoose_14 : decode cX10_firstLoose 14 = .ok (.iconst 0, 1) := by decide +kernel
theorem dX10_firstLoose_15 : decode cX10_firstLoose 15 = .ok (.istore_n 3, 1) := by decide +kernel
theorem dX10_firstLoose_16 : decode cX10_firstLoose 16 = .ok (.iload_n 3, 1) := by decide +kernel
theorem dX10_firstLoose_17 : decode cX10_firstLoose 17 = .ok (.aload_n 0, 1) := by decide +kernel
theorem dX10_firstLoose_18 : decode cX10_firstLoose 18 = .ok (.getfield 9, 3) := by decide +kernel
theorem dX10_firstLoose_21 : decode cX10_firstLoose 21 = .ok (.iconst 5, 1) := by decide +kernel
theorem dX10_firstLoose_22 : decode cX10_firstLoose 22 = .ok (.iaload, 1) := by decide +kernel
theorem dX10_firstLoose_23 : decode cX10_firstLoose 23 = .ok (.if_icmp .ge 36, 3) := by decide +kernel
theorem dX10_firstLoose_26 : decode cX10_firstLoose 26 = .ok (.iload_n 2, 1) := by decide +kernel
theorem dX10_firstLoose_27 : decode cX10_firstLoose 27 = .ok (.iload_n 1, 1) := by decide +kernel
theorem dX10_firstLoose_28 : decode cX10_firstLoose 28 = .ok (.aload_n 0, 1) := by decide +kernel
theorem dX10_firstLoose_29 : decode cX10_firstLoose 29 = .ok (.iload_n 3, 1) := by decide +kernel
theorem dX10_firstLoose_30 : decode cX10_firstLoose 30 = .ok (.iconst 1, 1) := by decide +kernel
theorem dX10_firstLoose_31 : decode cX10_firstLoose 31 = .ok (.invokevirtual 151, 3) := by decide +kernel
theorem dX10_firstLoose_34 : decode cX10_firstLoose 34 = .ok (.aload_n 0, 1) := by decide +kernel
theorem dX10_firstLoose_35 : decode cX10_firstLoose 35 = .ok (.iload_n 3, 1) := by decide +kernel
theorem dX10_firstLoose_36 : decode cX10_firstLoose 36 = .ok (.iconst 2, 1) := by decide +kernel
theorem dX10_firstLoose_37 : decode cX10_firstLoose 37 = .ok (.invokevirtual 151, 3) := by decide +kernel
theorem dX10_firstLoose_40 : decode cX10_firstLoose 40 = .ok (.invokestatic 117, 3) := by decide +kernel
theorem dX10_firstLoose_43 : decode cX10_firstLoose 43 = .ok (.ifCond .eq 7, 3) := by decide +kernel
theorem dX10_firstLoose_46 : decode cX10_firstLoose 46 = .ok (.iconst 1, 1) := by decide +kernel
theorem dX10_firstLoose_47 : decode cX10_firstLoose 47 = .ok (.goto 4, 3) := by decide +kernel
theorem dX10_firstLoose_50 : decode cX10_firstLoose 50 = .ok (.iconst 0, 1) := by decide +kernel
theorem dX10_firstLoose_51 : decode cX10_firstLoose 51 = .ok (.iadd, 1) := by decide +kernel
theorem dX10_firstLoose_52 : decode cX10_firstLoose 52 = .ok (.istore_n 2, 1) := by decide +kernel
theorem dX10_firstLoose_53 : decode cX10_firstLoose 53 = .ok (.iinc 3 1, 3) := by decide +kernel
theorem dX10_firstLoose_56 : decode cX10_firstLoose 56 = .ok (.goto (-40), 3) := by decide +kernel
theorem dX10_firstLoose_59 : decode cX10_firstLoose 59 = .ok (.iload_n 2, 1) := by decide +kernel
theorem dX10_firstLoose_60 : decode cX10_firstLoose 60 = .ok (.iconst 1, 1) := by decide +kernel
theorem dX10_firstLoose_61 : decode cX10_firstLoose 61 = .ok (.if_icmp .eq 5, 3) := by decide +kernel
theorem dX10_firstLoose_64 : decode cX10_firstLoose 64 = .ok (.iload_n 1, 1) := by decide +kernel
theorem dX10_firstLoose_65 : decode cX10_firstLoose 65 = .ok (.ireturn, 1) := by decide +kernel
theorem dX10_firstLoose_66 : decode cX10_firstLoose 66 = .ok (.iinc 1 1, 3) := by decide +kernel
theorem dX10_firstLoose_69 : decode cX10_firstLoose 69 = .ok (.goto (-67), 3) := by decide +kernel
theorem dX10_firstLoose_72 : decode cX10_firstLoose 72 = .ok (.ldc 145, 2) := by decide +kernel
theorem dX10_firstLoose_74 : decode cX10_firstLoose 74 = .ok (.ireturn, 1) := by decide +kernel
theorem dX10_judge_0 : decode cX10_judge 0 = .ok (.iload_n 1, 1) := by decide +kernel
theorem dX10_judge_1 : decode cX10_judge 1 = .ok (.iconst 0, 1) := by decide +kernel
theorem dX10_judge_2 : decode cX10_judge 2 = .ok (.iconst 2, 1) := by decide +kernel
theorem dX10_judge_3 : decode cX10_judge 3 = .ok (.invokestatic 117, 3) := by decide +kernel
theorem dX10_judge_6 : decode cX10_judge 6 = .ok (.ifCond .ne 6, 3) := by decide +kernel
theorem dX10_judge_9 : decode cX10_judge 9 = .ok (.ldc 125, 2) := by decide +kernel
theorem dX10_judge_11 : decode cX10_judge 11 = .ok (.ireturn, 1) := by decide +kernel
theorem dX10_judge_12 : decode cX10_judge 12 = .ok (.iload_n 1, 1) := by decide +kernel
theorem dX10_judge_13 : decode cX10_judge 13 = .ok (.iconst 2, 1) := by decide +kernel
theorem dX10_judge_14 : decode cX10_judge 14 = .ok (.if_icmp .ge 19, 3) := by decide +kernel
theorem dX10_judge_17 : decode cX10_judge 17 = .ok (.iload_n 1, 1) := by decide +kernel
theorem dX10_judge_18 : decode cX10_judge 18 = .ok (.ifCond .ne 10, 3) := by decide +kernel
theorem dX10_judge_21 : decode cX10_judge 21 = .ok (.aload_n 0, 1) := by decide +kernel
theorem dX10_judge_22 : decode cX10_judge 22 = .ok (.invokevirtual 182, 3) := by decide +kernel
theorem dX10_judge_25 : decode cX10_judge 25 = .ok (.goto 7, 3) := by decide +kernel
theorem dX10_judge_28 : decode cX10_judge 28 = .ok (.aload_n 0, 1) := by decide +kernel
theorem dX10_judge_29 : decode cX10_judge 29 = .ok (.invokevirtual 185, 3) := by decide +kernel
theorem dX10_judge_32 : decode cX10_judge 32 = .ok (.ireturn, 1) := by decide +kernel
theorem dX10_judge_33 : decode cX10_judge 33 = .ok (.iconst 0, 1) := by decide +kernel
theorem dX10_judge_34 : decode cX10_judge 34 = .ok (.istore_n 2, 1) := by decide +kernel
theorem dX10_judge_35 : decode cX10_judge 35 = .ok (.iconst 0, 1) := by decide +kernel
theorem dX10_judge_36 : decode cX10_judge 36 = .ok (.istore_n 3, 1) := by decide +kernel
theorem dX10_judge_37 : decode cX10_judge 37 = .ok (.iload_n 3, 1) := by decide +kernel
theorem dX10_judge_38 : decode cX10_judge 38 = .ok (.aload_n 0, 1) := by decide +kernel
theorem dX10_judge_39 : decode cX10_judge 39 = .ok (.getfield 9, 3) := by decide +kernel
theorem dX10_judge_42 : decode cX10_judge 42 = .ok (.iconst 5, 1) := by decide +kernel
theorem dX10_judge_43 : decode cX10_judge 43 = .ok (.iaload, 1) := by decide +kernel
theorem dX10_judge_44 : decode cX10_judge 44 = .ok (.if_icmp .ge 24, 3) := by decide +kernel
theorem dX10_judge_47 : decode cX10_judge 47 = .ok (.iload_n 2, 1) := by decide +kernel
theorem dX10_judge_48 : decode cX10_judge 48 = .ok (.aload_n 0, 1) := by decide +kernel
theorem dX10_judge_49 : decode cX10_judge 49 = .ok (.iload_n 3, 1) := by decide +kernel
theorem dX10_judge_50 : decode cX10_judge 50 = .ok (.invokevirtual 164, 3) := by decide +kernel
theorem dX10_judge_53 : decode cX10_judge 53 = .ok (.aload_n 0, 1) := by decide +kernel
theorem dX10_judge_54 : decode cX10_judge 54 = .ok (.getfield 9, 3) := by decide +kernel
theorem dX10_judge_57 : decode cX10_judge 57 = .ok (.iconst 2, 1) := by decide +kernel
theorem dX10_judge_58 : decode cX10_judge 58 = .ok (.iaload, 1) := by decide +kernel
theorem dX10_judge_59 : decode cX10_judge 59 = .ok (.iadd, 1) := by decide +kernel
theorem dX10_judge_60 : decode cX10_judge 60 = .ok (.iadd, 1) := by decide +kernel
theorem dX10_judge_61 : decode cX10_judge 61 = .ok (.istore_n 2, 1) := by decide +kernel
theorem dX10_judge_62 : decode cX10_judge 62 = .ok (.iinc 3 1, 3) := by decide +kernel
theorem dX10_judge_65 : decode cX10_judge 65 = .ok (.goto (-28), 3) := by decide +kernel
theorem dX10_judge_68 : decode cX10_judge 68 = .ok (.iload_n 2, 1) := by decide +kernel
theorem dX10_judge_69 : decode cX10_judge 69 = .ok (.ireturn, 1) := by decide +kernel
theorem dX10_asks_0 : decode cX10_asks 0 = .ok (.aload_n 0, 1) := by decide +kernel
theorem dX10_asks_1 : decode cX10_asks 1 = .ok (.dup, 1) := by decide +kernel
theorem dX10_asks_2 : decode cX10_asks 2 = .ok (.getfield 188, 3) := by decide +kernel
theorem dX10_asks_5 : decode cX10_asks 5 = .ok (.iconst 1, 1) := by decide +kernel
theorem dX10_asks_6 : decode cX10_asks 6 = .ok (.iadd, 1) := by decide +kernel
theorem dX10_asks_7 : decode cX10_asks 7 = .ok (.putfield 188, 3) := by decide +kernel
theorem dX10_asks_10 : decode cX10_asks 10 = .ok (.aload_n 0, 1) := by decide +kernel
theorem dX10_asks_11 : decode cX10_asks 11 = .ok (.aload_n 0, 1) := by decide +kernel
theorem dX10_asks_12 : decode cX10_asks 12 = .ok (.getfield 9, 3) := by decide +kernel
theorem dX10_asks_15 : decode cX10_asks 15 = .ok (.iconst 1, 1) := by decide +kernel
theorem dX10_asks_16 : decode cX10_asks 16 = .ok (.iaload, 1) := by decide +kernel
theorem dX10_asks_17 : decode cX10_asks 17 = .ok (.putfield 191, 3) := by decide +kernel
theorem dX10_asks_20 : decode cX10_asks 20 = .ok (.aload_n 0, 1) := by decide +kernel
theorem dX10_asks_21 : decode cX10_asks 21 = .ok (.aload_n 0, 1) := by decide +kernel
theorem dX10_asks_22 : decode cX10_asks 22 = .ok (.getfield 9, 3) := by decide +kernel
theorem dX10_asks_25 : decode cX10_asks 25 = .ok (.bipush 7, 2) := by decide +kernel
theorem dX10_asks_27 : decode cX10_asks 27 = .ok (.iaload, 1) := by decide +kernel
theorem dX10_asks_28 : decode cX10_asks 28 = .ok (.putfield 194, 3) := by decide +kernel
theorem dX10_asks_31 : decode cX10_asks 31 = .ok (.iconst 0, 1) := by decide +kernel
theorem dX10_asks_32 : decode cX10_asks 32 = .ok (.istore_n 1, 1) := by decide +kernel
theorem dX10_asks_33 : decode cX10_asks 33 = .ok (.iload_n 1, 1) := by decide +kernel
theorem dX10_asks_34 : decode cX10_asks 34 = .ok (.aload_n 0, 1) := by decide +kernel
theorem dX10_asks_35 : decode cX10_asks 35 = .ok (.getfield 194, 3) := by decide +kernel
theorem dX10_asks_38 : decode cX10_asks 38 = .ok (.if_icmp .ge 24, 3) := by decide +kernel
theorem dX10_asks_41 : decode cX10_asks 41 = .ok (.aload_n 0, 1) := by decide +kernel
theorem dX10_asks_42 : decode cX10_asks 42 = .ok (.getfield 29, 3) := by decide +kernel
theorem dX10_asks_45 : decode cX10_asks 45 = .ok (.iload_n 1, 1) := by decide +kernel
theorem dX10_asks_46 : decode cX10_asks 46 = .ok (.aload_n 0, 1) := by decide +kernel
theorem dX10_asks_47 : decode cX10_asks 47 = .ok (.getfield 9, 3) := by decide +kernel
theorem dX10_asks_50 : decode cX10_asks 50 = .ok (.bipush 8, 2) := by decide +kernel
theorem dX10_asks_52 : decode cX10_asks 52 = .ok (.iload_n 1, 1) := by decide +kernel
theorem dX10_asks_53 : decode cX10_asks 53 = .ok (.iadd, 1) := by decide +kernel
theorem dX10_asks_54 : decode cX10_asks 54 = .ok (.iaload, 1) := by decide +kernel
theorem dX10_asks_55 : decode cX10_asks 55 = .ok (.iastore, 1) := by decide +kernel
theorem dX10_asks_56 : decode cX10_asks 56 = .ok (.iinc 1 1, 3) := by decide +kernel
theorem dX10_asks_59 : decode cX10_asks 59 = .ok (.goto (-26), 3) := by decide +kernel
theorem dX10_asks_62 : decode cX10_asks 62 = .ok (.return_, 1) := by decide +kernel
theorem dX10_priceOf_0 : decode cX10_priceOf 0 = .ok (.aload_n 0, 1) := by decide +kernel
theorem dX10_priceOf_1 : decode cX10_priceOf 1 = .ok (.iconst 0, 1) := by decide +kernel
theorem dX10_priceOf_2 : decode cX10_priceOf 2 = .ok (.invokevirtual 197, 3) := by decide +kernel
theorem dX10_priceOf_5 : decode cX10_priceOf 5 = .ok (.istore_n 3, 1) := by decide +kernel
theorem dX10_priceOf_6 : decode cX10_priceOf 6 = .ok (.iload_n 3, 1) := by decide +kernel
theorem dX10_priceOf_7 : decode cX10_priceOf 7 = .ok (.ifCond .ge 12, 3) := by decide +kernel
theorem dX10_priceOf_10 : decode cX10_priceOf 10 = .ok (.iload_n 1, 1) := by decide +kernel
theorem dX10_priceOf_11 : decode cX10_priceOf 11 = .ok (.aload_n 0, 1) := by decide +kernel
theorem dX10_priceOf_12 : decode cX10_priceOf 12 = .ok (.getfield 9, 3) := by decide +kernel
theorem dX10_priceOf_15 : decode cX10_priceOf 15 = .ok (.iconst 2, 1) := by decide +kernel
theorem dX10_priceOf_16 : decode cX10_priceOf 16 = .ok (.iaload, 1) := by decide +kernel
theorem dX10_priceOf_17 : decode cX10_priceOf 17 = .ok (.iadd, 1) := by decide +kernel
theorem dX10_priceOf_18 : decode cX10_priceOf 18 = .ok (.ireturn, 1) := by decide +kernel
theorem dX10_priceOf_19 : decode cX10_priceOf 19 = .ok (.bipush 25, 2) := by decide +kernel
theorem dX10_priceOf_21 : decode cX10_priceOf 21 = .ok (.iload_n 1, 1) := by decide +kernel
theorem dX10_priceOf_22 : decode cX10_priceOf 22 = .ok (.imul, 1) := by decide +kernel
theorem dX10_priceOf_23 : decode cX10_priceOf 23 = .ok (.iload_n 2, 1) := by decide +kernel
theorem dX10_priceOf_24 : decode cX10_priceOf 24 = .ok (.iadd, 1) := by decide +kernel
theorem dX10_priceOf_25 : decode cX10_priceOf 25 = .ok (.istore 4, 2) := by decide +kernel
theorem dX10_priceOf_27 : decode cX10_priceOf 27 = .ok (.aload_n 0, 1) := by decide +kernel
theorem dX10_priceOf_28 : decode cX10_priceOf 28 = .ok (.getfield 35, 3) := by decide +kernel
theorem dX10_priceOf_31 : decode cX10_priceOf 31 = .ok (.iload 4, 2) := by decide +kernel
theorem dX10_priceOf_33 : decode cX10_priceOf 33 = .ok (.iaload, 1) := by decide +kernel
theorem dX10_priceOf_34 : decode cX10_priceOf 34 = .ok (.aload_n 0, 1) := by decide +kernel
theorem dX10_priceOf_35 : decode cX10_priceOf 35 = .ok (.getfield 188, 3) := by decide +kernel
theorem dX10_priceOf_38 : decode cX10_priceOf 38 = .ok (.if_icmp .eq 59, 3) := by decide +kernel
theorem dX10_priceOf_41 : decode cX10_priceOf 41 = .ok (.aload_n 0, 1) := by decide +kernel
theorem dX10_priceOf_42 : decode cX10_priceOf 42 = .ok (.getfield 35, 3) := by decide +kernel
theorem dX10_priceOf_45 : decode cX10_priceOf 45 = .ok (.iload 4, 2) := by decide +kernel
theorem dX10_priceOf_47 : decode cX10_priceOf 47 = .ok (.aload_n 0, 1) := by decide +kernel
theorem dX10_priceOf_48 : decode cX10_priceOf 48 = .ok (.getfield 188, 3) := by decide +kernel
theorem dX10_priceOf_51 : decode cX10_priceOf 51 = .ok (.iastore, 1) := by decide +kernel
theorem dX10_priceOf_52 : decode cX10_priceOf 52 = .ok (.aload_n 0, 1) := by decide +kernel
theorem dX10_priceOf_53 : decode cX10_priceOf 53 = .ok (.getfield 81, 3) := by decide +kernel
theorem dX10_priceOf_56 : decode cX10_priceOf 56 = .ok (.iconst 0, 1) := by decide +kernel
theorem dX10_priceOf_57 : decode cX10_priceOf 57 = .ok (.iload_n 1, 1) := by decide +kernel
theorem dX10_priceOf_58 : decode cX10_priceOf 58 = .ok (.iastore, 1) := by decide +kernel
theorem dX10_priceOf_59 : decode cX10_priceOf 59 = .ok (.aload_n 0, 1) := by decide +kernel
theorem dX10_priceOf_60 : decode cX10_priceOf 60 = .ok (.getfield 81, 3) := by decide +kernel
theorem dX10_priceOf_63 : decode cX10_priceOf 63 = .ok (.iconst 1, 1) := by decide +kernel
theorem dX10_priceOf_64 : decode cX10_priceOf 64 = .ok (.iload_n 2, 1) := by decide +kernel
theorem dX10_priceOf_65 : decode cX10_priceOf 65 = .ok (.iastore, 1) := by decide +kernel
theorem dX10_priceOf_66 : decode cX10_priceOf 66 = .ok (.aload_n 0, 1) := by decide +kernel
theorem dX10_priceOf_67 : decode cX10_priceOf 67 = .ok (.getfield 81, 3) := by decide +kernel
theorem dX10_priceOf_70 : decode cX10_priceOf 70 = .ok (.iconst 2, 1) := by decide +kernel
theorem dX10_priceOf_71 : decode cX10_priceOf 71 = .ok (.aload_n 0, 1) := by decide +kernel
theorem dX10_priceOf_72 : decode cX10_priceOf 72 = .ok (.getfield 9, 3) := by decide +kernel
theorem dX10_priceOf_75 : decode cX10_priceOf 75 = .ok (.iconst 2, 1) := by decide +kernel
theorem dX10_priceOf_76 : decode cX10_priceOf 76 = .ok (.iaload, 1) := by decide +kernel
theorem dX10_priceOf_77 : decode cX10_priceOf 77 = .ok (.iastore, 1) := by decide +kernel
theorem dX10_priceOf_78 : decode cX10_priceOf 78 = .ok (.aload_n 0, 1) := by decide +kernel
theorem dX10_priceOf_79 : decode cX10_priceOf 79 = .ok (.getfield 32, 3) := by decide +kernel
theorem dX10_priceOf_82 : decode cX10_priceOf 82 = .ok (.iload 4, 2) := by decide +kernel
theorem dX10_priceOf_84 : decode cX10_priceOf 84 = .ok (.aload_n 0, 1) := by decide +kernel
theorem dX10_priceOf_85 : decode cX10_priceOf 85 = .ok (.iload_n 3, 1) := by decide +kernel
theorem dX10_priceOf_86 : decode cX10_priceOf 86 = .ok (.invokevirtual 200, 3) := by decide +kernel
theorem dX10_priceOf_89 : decode cX10_priceOf 89 = .ok (.iconst 0, 1) := by decide +kernel
theorem dX10_priceOf_90 : decode cX10_priceOf 90 = .ok (.sipush 9999, 3) := by decide +kernel
theorem dX10_priceOf_93 : decode cX10_priceOf 93 = .ok (.invokestatic 203, 3) := by decide +kernel
theorem dX10_priceOf_96 : decode cX10_priceOf 96 = .ok (.iastore, 1) := by decide +kernel
theorem dX10_priceOf_97 : decode cX10_priceOf 97 = .ok (.aload_n 0, 1) := by decide +kernel
theorem dX10_priceOf_98 : decode cX10_priceOf 98 = .ok (.getfield 32, 3) := by decide +kernel
theorem dX10_priceOf_101 : decode cX10_priceOf 101 = .ok (.iload 4, 2) := by decide +kernel
theorem dX10_priceOf_103 : decode cX10_priceOf 103 = .ok (.iaload, 1) := by decide +kernel
theorem dX10_priceOf_104 : decode cX10_priceOf 104 = .ok (.ireturn, 1) := by decide +kernel
theorem dX10_setOf_0 : decode cX10_setOf 0 = .ok (.aload_n 0, 1) := by decide +kernel
theorem dX10_setOf_1 : decode cX10_setOf 1 = .ok (.getfield 194, 3) := by decide +kernel
theorem dX10_setOf_4 : decode cX10_setOf 4 = .ok (.ifCond .ne 5, 3) := by decide +kernel
theorem dX10_setOf_7 : decode cX10_setOf 7 = .ok (.iload_n 1, 1) := by decide +kernel
theorem dX10_setOf_8 : decode cX10_setOf 8 = .ok (.ireturn, 1) := by decide +kernel
theorem dX10_setOf_9 : decode cX10_setOf 9 = .ok (.iconst (-1), 1) := by decide +kernel
theorem dX10_setOf_10 : decode cX10_setOf 10 = .ok (.istore_n 2, 1) := by decide +kernel
theorem dX10_setOf_11 : decode cX10_setOf 11 = .ok (.iconst 0, 1) := by decide +kernel
theorem dX10_setOf_12 : decode cX10_setOf 12 = .ok (.istore_n 3, 1) := by decide +kernel
theorem dX10_setOf_13 : decode cX10_setOf 13 = .ok (.iload_n 3, 1) := by decide +kernel
theorem dX10_setOf_14 : decode cX10_setOf 14 = .ok (.aload_n 0, 1) := by decide +kernel
theorem dX10_setOf_15 : decode cX10_setOf 15 = .ok (.getfield 194, 3) := by decide +kernel
theorem dX10_setOf_18 : decode cX10_setOf 18 = .ok (.if_icmp .ge 44, 3) := by decide +kernel
theorem dX10_setOf_21 : decode cX10_setOf 21 = .ok (.aload_n 0, 1) := by decide +kernel
theorem dX10_setOf_22 : decode cX10_setOf 22 = .ok (.getfield 29, 3) := by decide +kernel
theorem dX10_setOf_25 : decode cX10_setOf 25 = .ok (.iload_n 3, 1) := by decide +kernel
theorem dX10_setOf_26 : decode cX10_setOf 26 = .ok (.iaload, 1) := by decide +kernel
theorem dX10_setOf_27 : decode cX10_setOf 27 = .ok (.iload_n 1, 1) := by decide +kernel
theorem dX10_setOf_28 : decode cX10_setOf 28 = .ok (.if_icmp .lt 26, 3) := by decide +kernel
theorem dX10_setOf_31 : decode cX10_setOf 31 = .ok (.iload_n 2, 1) := by decide +kernel
theorem dX10_setOf_32 : decode cX10_setOf 32 = .ok (.ifCond .lt 13, 3) := by decide +kernel
theorem dX10_setOf_35 : decode cX10_setOf 35 = .ok (.aload_n 0, 1) := by decide +kernel
theorem dX10_setOf_36 : decode cX10_setOf 36 = .ok (.getfield 29, 3) := by decide +kernel
theorem dX10_setOf_39 : decode cX10_setOf 39 = .ok (.iload_n 3, 1) := by decide +kernel
theorem dX10_setOf_40 : decode cX10_setOf 40 = .ok (.iaload, 1) := by decide +kernel
theorem dX10_setOf_41 : decode cX10_setOf 41 = .ok (.iload_n 2, 1) := by decide +kernel
theorem dX10_setOf_42 : decode cX10_setOf 42 = .ok (.if_icmp .ge 12, 3) := by decide +kernel
theorem dX10_setOf_45 : decode cX10_setOf 45 = .ok (.aload_n 0, 1) := by decide +kernel
theorem dX10_setOf_46 : decode cX10_setOf 46 = .ok (.getfield 29, 3) := by decide +kernel
theorem dX10_setOf_49 : decode cX10_setOf 49 = .ok (.iload_n 3, 1) := by decide +kernel
theorem dX10_setOf_50 : decode cX10_setOf 50 = .ok (.iaload, 1) := by decide +kernel
theorem dX10_setOf_51 : decode cX10_setOf 51 = .ok (.goto 4, 3) := by decide +kernel
theorem dX10_setOf_54 : decode cX10_setOf 54 = .ok (.iload_n 2, 1) := by decide +kernel
theorem dX10_setOf_55 : decode cX10_setOf 55 = .ok (.istore_n 2, 1) := by decide +kernel
theorem dX10_setOf_56 : decode cX10_setOf 56 = .ok (.iinc 3 1, 3) := by decide +kernel
theorem dX10_setOf_59 : decode cX10_setOf 59 = .ok (.goto (-46), 3) := by decide +kernel
theorem dX10_setOf_62 : decode cX10_setOf 62 = .ok (.iload_n 2, 1) := by decide +kernel
theorem dX10_setOf_63 : decode cX10_setOf 63 = .ok (.ireturn, 1) := by decide +kernel
theorem dX10_takesBook_0 : decode cX10_takesBook 0 = .ok (.aload_n 0, 1) := by decide +kernel
theorem dX10_takesBook_1 : decode cX10_takesBook 1 = .ok (.getfield 19, 3) := by decide +kernel
theorem dX10_takesBook_4 : decode cX10_takesBook 4 = .ok (.aload_n 0, 1) := by decide +kernel
theorem dX10_takesBook_5 : decode cX10_takesBook 5 = .ok (.getfield 206, 3) := by decide +kernel
theorem dX10_takesBook_8 : decode cX10_takesBook 8 = .ok (.iload_n 1, 1) := by decide +kernel
theorem dX10_takesBook_9 : decode cX10_takesBook 9 = .ok (.iastore, 1) := by decide +kernel
theorem dX10_takesBook_10 : decode cX10_takesBook 10 = .ok (.aload_n 0, 1) := by decide +kernel
theorem dX10_takesBook_11 : decode cX10_takesBook 11 = .ok (.getfield 22, 3) := by decide +kernel
theorem dX10_takesBook_14 : decode cX10_takesBook 14 = .ok (.aload_n 0, 1) := by decide +kernel
theorem dX10_takesBook_15 : decode cX10_takesBook 15 = .ok (.getfield 206, 3) := by decide +kernel
theorem dX10_takesBook_18 : decode cX10_takesBook 18 = .ok (.iload_n 2, 1) := by decide +kernel
theorem dX10_takesBook_19 : decode cX10_takesBook 19 = .ok (.iastore, 1) := by decide +kernel
theorem dX10_takesBook_20 : decode cX10_takesBook 20 = .ok (.aload_n 0, 1) := by decide +kernel
theorem dX10_takesBook_21 : decode cX10_takesBook 21 = .ok (.getfield 25, 3) := by decide +kernel
theorem dX10_takesBook_24 : decode cX10_takesBook 24 = .ok (.aload_n 0, 1) := by decide +kernel
theorem dX10_takesBook_25 : decode cX10_takesBook 25 = .ok (.getfield 206, 3) := by decide +kernel
theorem dX10_takesBook_28 : decode cX10_takesBook 28 = .ok (.iload_n 3, 1) := by decide +kernel
theorem dX10_takesBook_29 : decode cX10_takesBook 29 = .ok (.bastore, 1) := by decide +kernel
theorem dX10_takesBook_30 : decode cX10_takesBook 30 = .ok (.aload_n 0, 1) := by decide +kernel
theorem dX10_takesBook_31 : decode cX10_takesBook 31 = .ok (.dup, 1) := by decide +kernel
theorem dX10_takesBook_32 : decode cX10_takesBook 32 = .ok (.getfield 206, 3) := by decide +kernel
theorem dX10_takesBook_35 : decode cX10_takesBook 35 = .ok (.iconst 1, 1) := by decide +kernel
theorem dX10_takesBook_36 : decode cX10_takesBook 36 = .ok (.iadd, 1) := by decide +kernel
theorem dX10_takesBook_37 : decode cX10_takesBook 37 = .ok (.putfield 206, 3) := by decide +kernel
theorem dX10_takesBook_40 : decode cX10_takesBook 40 = .ok (.return_, 1) := by decide +kernel
theorem dX10_takesAll_0 : decode cX10_takesAll 0 = .ok (.aload_n 0, 1) := by decide +kernel
theorem dX10_takesAll_1 : decode cX10_takesAll 1 = .ok (.iconst 0, 1) := by decide +kernel
theorem dX10_takesAll_2 : decode cX10_takesAll 2 = .ok (.putfield 206, 3) := by decide +kernel
theorem dX10_takesAll_5 : decode cX10_takesAll 5 = .ok (.iconst 0, 1) := by decide +kernel
theorem dX10_takesAll_6 : decode cX10_takesAll 6 = .ok (.istore_n 1, 1) := by decide +kernel
theorem dX10_takesAll_7 : decode cX10_takesAll 7 = .ok (.iload_n 1, 1) := by decide +kernel
theorem dX10_takesAll_8 : decode cX10_takesAll 8 = .ok (.aload_n 0, 1) := by decide +kernel
theorem dX10_takesAll_9 : decode cX10_takesAll 9 = .ok (.getfield 9, 3) := by decide +kernel
theorem dX10_takesAll_12 : decode cX10_takesAll 12 = .ok (.iconst 4, 1) := by decide +kernel
theorem dX10_takesAll_13 : decode cX10_takesAll 13 = .ok (.iaload, 1) := by decide +kernel
theorem dX10_takesAll_14 : decode cX10_takesAll 14 = .ok (.if_icmp .ge 40, 3) := by decide +kernel
theorem dX10_takesAll_17 : decode cX10_takesAll 17 = .ok (.aload_n 0, 1) := by decide +kernel
theorem dX10_takesAll_18 : decode cX10_takesAll 18 = .ok (.aload_n 0, 1) := by decide +kernel
theorem dX10_takesAll_19 : decode cX10_takesAll 19 = .ok (.iload_n 1, 1) := by decide +kernel
theorem dX10_takesAll_20 : decode cX10_takesAll 20 = .ok (.iconst 0, 1) := by decide +kernel
theorem dX10_takesAll_21 : decode cX10_takesAll 21 = .ok (.invokevirtual 134, 3) := by decide +kernel
theorem dX10_takesAll_24 : decode cX10_takesAll 24 = .ok (.aload_n 0, 1) := by decide +kernel
theorem dX10_takesAll_25 : decode cX10_takesAll 25 = .ok (.iload_n 1, 1) := by decide +kernel
theorem dX10_takesAll_26 : decode cX10_takesAll 26 = .ok (.iconst 1, 1) := by decide +kernel
theorem dX10_takesAll_27 : decode cX10_takesAll 27 = .ok (.invokevirtual 134, 3) := by decide +kernel
theorem dX10_takesAll_30 : decode cX10_takesAll 30 = .ok (.aload_n 0, 1) := by decide +kernel
theorem dX10_takesAll_31 : decode cX10_takesAll 31 = .ok (.iload_n 1, 1) := by decide +kernel
theorem dX10_takesAll_32 : decode cX10_takesAll 32 = .ok (.iconst 3, 1) := by decide +kernel
theorem dX10_takesAll_33 : decode cX10_takesAll 33 = .ok (.invokevirtual 134, 3) := by decide +kernel
theorem dX10_takesAll_36 : decode cX10_takesAll 36 = .ok (.iconst 1, 1) := by decide +kernel
theorem dX10_takesAll_37 : decode cX10_takesAll 37 = .ok (.if_icmp .ne 7, 3) := by decide +kernel
theorem dX10_takesAll_40 : decode cX10_takesAll 40 = .ok (.iconst 1, 1) := by decide +kernel
theorem dX10_takesAll_41 : decode cX10_takesAll 41 = .ok (.goto 4, 3) := by decide +kernel
theorem dX10_takesAll_44 : decode cX10_takesAll 44 = .ok (.iconst 0, 1) := by decide +kernel
theorem dX10_takesAll_45 : decode cX10_takesAll 45 = .ok (.invokevirtual 209, 3) := by decide +kernel
theorem dX10_takesAll_48 : decode cX10_takesAll 48 = .ok (.iinc 1 1, 3) := by decide +kernel
theorem dX10_takesAll_51 : decode cX10_takesAll 51 = .ok (.goto (-44), 3) := by decide +kernel
theorem dX10_takesAll_54 : decode cX10_takesAll 54 = .ok (.return_, 1) := by decide +kernel
theorem dX10_parts_0 : decode cX10_parts 0 = .ok (.aload_n 0, 1) := by decide +kernel
theorem dX10_parts_1 : decode cX10_parts 1 = .ok (.getfield 38, 3) := by decide +kernel
theorem dX10_parts_4 : decode cX10_parts 4 = .ok (.aload_n 0, 1) := by decide +kernel
theorem dX10_parts_5 : decode cX10_parts 5 = .ok (.getfield 206, 3) := by decide +kernel
theorem dX10_parts_8 : decode cX10_parts 8 = .ok (.iconst 0, 1) := by decide +kernel
theorem dX10_parts_9 : decode cX10_parts 9 = .ok (.iastore, 1) := by decide +kernel
theorem dX10_parts_10 : decode cX10_parts 10 = .ok (.aload_n 0, 1) := by decide +kernel
theorem dX10_parts_11 : decode cX10_parts 11 = .ok (.getfield 206, 3) := by decide +kernel
theorem dX10_parts_14 : decode cX10_parts 14 = .ok (.iconst 1, 1) := by decide +kernel
theorem dX10_parts_15 : decode cX10_parts 15 = .ok (.isub, 1) := by decide +kernel
theorem dX10_parts_16 : decode cX10_parts 16 = .ok (.istore_n 1, 1) := by decide +kernel
theorem dX10_parts_17 : decode cX10_parts 17 = .ok (.iload_n 1, 1) := by decide +kernel
theorem dX10_parts_18 : decode cX10_parts 18 = .ok (.ifCond .lt 194, 3) := by decide +kernel
theorem dX10_parts_21 : decode cX10_parts 21 = .ok (.aload_n 0, 1) := by decide +kernel
theorem dX10_parts_22 : decode cX10_parts 22 = .ok (.getfield 38, 3) := by decide +kernel
theorem dX10_parts_25 : decode cX10_parts 25 = .ok (.iload_n 1, 1) := by decide +kernel
theorem dX10_parts_26 : decode cX10_parts 26 = .ok (.iconst (-1), 1) := by decide +kernel
theorem dX10_parts_27 : decode cX10_parts 27 = .ok (.iastore, 1) := by decide +kernel
theorem dX10_parts_28 : decode cX10_parts 28 = .ok (.iconst 0, 1) := by decide +kernel
theorem dX10_parts_29 : decode cX10_parts 29 = .ok (.istore_n 2, 1) := by decide +kernel
theorem dX10_parts_30 : decode cX10_parts 30 = .ok (.iconst 0, 1) := by decide +kernel
theorem dX10_parts_31 : decode cX10_parts 31 = .ok (.istore_n 3, 1) := by decide +kernel
theorem dX10_parts_32 : decode cX10_parts 32 = .ok (.iload_n 1, 1) := by decide +kernel
theorem dX10_parts_33 : decode cX10_parts 33 = .ok (.istore 4, 2) := by decide +kernel
theorem dX10_parts_35 : decode cX10_parts 35 = .ok (.iload 4, 2) := by decide +kernel
theorem dX10_parts_37 : decode cX10_parts 37 = .ok (.aload_n 0, 1) := by decide +kernel
theorem dX10_parts_38 : decode cX10_parts 38 = .ok (.getfield 206, 3) := by decide +kernel
theorem dX10_parts_41 : decode cX10_parts 41 = .ok (.if_icmp .ge 165, 3) := by decide +kernel
theorem dX10_parts_44 : decode cX10_parts 44 = .ok (.iload_n 2, 1) := by decide +kernel
theorem dX10_parts_45 : decode cX10_parts 45 = .ok (.aload_n 0, 1) := by decide +kernel
theorem dX10_parts_46 : decode cX10_parts 46 = .ok (.getfield 22, 3) := by decide +kernel
theorem dX10_parts_49 : decode cX10_parts 49 = .ok (.iload 4, 2) := by decide +kernel
theorem dX10_parts_51 : decode cX10_parts 51 = .ok (.iaload, 1) := by decide +kernel
theorem dX10_parts_52 : decode cX10_parts 52 = .ok (.iadd, 1) := by decide +kernel
theorem dX10_parts_53 : decode cX10_parts 53 = .ok (.istore_n 2, 1) := by decide +kernel
theorem dX10_parts_54 : decode cX10_parts 54 = .ok (.aload_n 0, 1) := by decide +kernel
theorem dX10_parts_55 : decode cX10_parts 55 = .ok (.getfield 19, 3) := by decide +kernel
theorem dX10_parts_58 : decode cX10_parts 58 = .ok (.iload 4, 2) := by decide +kernel
theorem dX10_parts_60 : decode cX10_parts 60 = .ok (.iaload, 1) := by decide +kernel
theorem dX10_parts_61 : decode cX10_parts 61 = .ok (.iload_n 3, 1) := by decide +kernel
theorem dX10_parts_62 : decode cX10_parts 62 = .ok (.if_icmp .le 13, 3) := by decide +kernel
theorem dX10_parts_65 : decode cX10_parts 65 = .ok (.aload_n 0, 1) := by decide +kernel
theorem dX10_parts_66 : decode cX10_parts 66 = .ok (.getfield 19, 3) := by decide +kernel
theorem dX10_parts_69 : decode cX10_parts 69 = .ok (.iload 4, 2) := by decide +kernel
theorem dX10_parts_71 : decode cX10_parts 71 = .ok (.iaload, 1) := by decide +kernel
theorem dX10_parts_72 : decode cX10_parts 72 = .ok (.goto 4, 3) := by decide +kernel
theorem dX10_parts_75 : decode cX10_parts 75 = .ok (.iload_n 3, 1) := by decide +kernel
theorem dX10_parts_76 : decode cX10_parts 76 = .ok (.istore_n 3, 1) := by decide +kernel
theorem dX10_parts_77 : decode cX10_parts 77 = .ok (.iload_n 2, 1) := by decide +kernel
theorem dX10_parts_78 : decode cX10_parts 78 = .ok (.aload_n 0, 1) := by decide +kernel
theorem dX10_parts_79 : decode cX10_parts 79 = .ok (.getfield 191, 3) := by decide +kernel
theorem dX10_parts_82 : decode cX10_parts 82 = .ok (.if_icmp .le 6, 3) := by decide +kernel
theorem dX10_parts_85 : decode cX10_parts 85 = .ok (.goto 121, 3) := by decide +kernel
theorem dX10_parts_88 : decode cX10_parts 88 = .ok (.aload_n 0, 1) := by decide +kernel
theorem dX10_parts_89 : decode cX10_parts 89 = .ok (.iload_n 3, 1) := by decide +kernel
theorem dX10_parts_90 : decode cX10_parts 90 = .ok (.invokevirtual 213, 3) := by decide +kernel
theorem dX10_parts_93 : decode cX10_parts 93 = .ok (.istore 5, 2) := by decide +kernel
theorem dX10_parts_95 : decode cX10_parts 95 = .ok (.iload 5, 2) := by decide +kernel
theorem dX10_parts_97 : decode cX10_parts 97 = .ok (.ifCond .lt 103, 3) := by decide +kernel
theorem dX10_parts_100 : decode cX10_parts 100 = .ok (.aload_n 0, 1) := by decide +kernel
theorem dX10_parts_101 : decode cX10_parts 101 = .ok (.getfield 38, 3) := by decide +kernel
theorem dX10_parts_104 : decode cX10_parts 104 = .ok (.iload 4, 2) := by decide +kernel
theorem dX10_parts_106 : decode cX10_parts 106 = .ok (.iconst 1, 1) := by decide +kernel
theorem dX10_parts_107 : decode cX10_parts 107 = .ok (.iadd, 1) := by decide +kernel
theorem dX10_parts_108 : decode cX10_parts 108 = .ok (.iaload, 1) := by decide +kernel
theorem dX10_parts_109 : decode cX10_parts 109 = .ok (.ifCond .lt 91, 3) := by decide +kernel
theorem dX10_parts_112 : decode cX10_parts 112 = .ok (.aload_n 0, 1) := by decide +kernel
theorem dX10_parts_113 : decode cX10_parts 113 = .ok (.getfield 25, 3) := by decide +kernel
theorem dX10_parts_116 : decode cX10_parts 116 = .ok (.iload 4, 2) := by decide +kernel
theorem dX10_parts_118 : decode cX10_parts 118 = .ok (.baload, 1) := by decide +kernel
theorem dX10_parts_119 : decode cX10_parts 119 = .ok (.ifCond .eq 17, 3) := by decide +kernel
theorem dX10_parts_122 : decode cX10_parts 122 = .ok (.iload 4, 2) := by decide +kernel
theorem dX10_parts_124 : decode cX10_parts 124 = .ok (.aload_n 0, 1) := by decide +kernel
theorem dX10_parts_125 : decode cX10_parts 125 = .ok (.getfield 206, 3) := by decide +kernel
theorem dX10_parts_128 : decode cX10_parts 128 = .ok (.iconst 1, 1) := by decide +kernel
theorem dX10_parts_129 : decode cX10_parts 129 = .ok (.isub, 1) := by decide +kernel
theorem dX10_parts_130 : decode cX10_parts 130 = .ok (.if_icmp .ge 6, 3) := by decide +kernel
theorem dX10_parts_133 : decode cX10_parts 133 = .ok (.goto 67, 3) := by decide +kernel
theorem dX10_parts_136 : decode cX10_parts 136 = .ok (.aload_n 0, 1) := by decide +kernel
theorem dX10_parts_137 : decode cX10_parts 137 = .ok (.iload 5, 2) := by decide +kernel
theorem dX10_parts_139 : decode cX10_parts 139 = .ok (.iload 4, 2) := by decide +kernel
theorem dX10_parts_141 : decode cX10_parts 141 = .ok (.iload_n 1, 1) := by decide +kernel
theorem dX10_parts_142 : decode cX10_parts 142 = .ok (.isub, 1) := by decide +kernel
theorem dX10_parts_143 : decode cX10_parts 143 = .ok (.iconst 1, 1) := by decide +kernel
theorem dX10_parts_144 : decode cX10_parts 144 = .ok (.iadd, 1) := by decide +kernel
theorem dX10_parts_145 : decode cX10_parts 145 = .ok (.invokevirtual 216, 3) := by decide +kernel
theorem dX10_parts_148 : decode cX10_parts 148 = .ok (.aload_n 0, 1) := by decide +kernel
theorem dX10_parts_149 : decode cX10_parts 149 = .ok (.getfield 38, 3) := by decide +kernel
theorem dX10_parts_152 : decode cX10_parts 152 = .ok (.iload 4, 2) := by decide +kernel
theorem dX10_parts_154 : decode cX10_parts 154 = .ok (.iconst 1, 1) := by decide +kernel
theorem dX10_parts_155 : decode cX10_parts 155 = .ok (.iadd, 1) := by decide +kernel
theorem dX10_parts_156 : decode cX10_parts 156 = .ok (.iaload, 1) := by decide +kernel
theorem dX10_parts_157 : decode cX10_parts 157 = .ok (.iadd, 1) := by decide +kernel
theorem dX10_parts_158 : decode cX10_parts 158 = .ok (.istore 6, 2) := by decide +kernel
theorem dX10_parts_160 : decode cX10_parts 160 = .ok (.aload_n 0, 1) := by decide +kernel
theorem dX10_parts_161 : decode cX10_parts 161 = .ok (.getfield 38, 3) := by decide +kernel
theorem dX10_parts_164 : decode cX10_parts 164 = .ok (.iload_n 1, 1) := by decide +kernel
theorem dX10_parts_165 : decode cX10_parts 165 = .ok (.iaload, 1) := by decide +kernel
theorem dX10_parts_166 : decode cX10_parts 166 = .ok (.ifCond .lt 14, 3) := by decide +kernel
theorem dX10_parts_169 : decode cX10_parts 169 = .ok (.iload 6, 2) := by decide +kernel
theorem dX10_parts_171 : decode cX10_parts 171 = .ok (.aload_n 0, 1) := by decide +kernel
theorem dX10_parts_172 : decode cX10_parts 172 = .ok (.getfield 38, 3) := by decide +kernel
theorem dX10_parts_175 : decode cX10_parts 175 = .ok (.iload_n 1, 1) := by decide +kernel
theorem dX10_parts_176 : decode cX10_parts 176 = .ok (.iaload, 1) := by decide +kernel
theorem dX10_parts_177 : decode cX10_parts 177 = .ok (.if_icmp .gt 23, 3) := by decide +kernel
theorem dX10_parts_180 : decode cX10_parts 180 = .ok (.aload_n 0, 1) := by decide +kernel
theorem dX10_parts_181 : decode cX10_parts 181 = .ok (.getfield 38, 3) := by decide +kernel
theorem dX10_parts_184 : decode cX10_parts 184 = .ok (.iload_n 1, 1) := by decide +kernel
theorem dX10_parts_185 : decode cX10_parts 185 = .ok (.iload 6, 2) := by decide +kernel
theorem dX10_parts_187 : decode cX10_parts 187 = .ok (.iastore, 1) := by decide +kernel
theorem dX10_parts_188 : decode cX10_parts 188 = .ok (.aload_n 0, 1) := by decide +kernel
theorem dX10_parts_189 : decode cX10_parts 189 = .ok (.getfield 41, 3) := by decide +kernel
theorem dX10_parts_192 : decode cX10_parts 192 = .ok (.iload_n 1, 1) := by decide +kernel
theorem dX10_parts_193 : decode cX10_parts 193 = .ok (.iload 4, 2) := by decide +kernel
theorem dX10_parts_195 : decode cX10_parts 195 = .ok (.iload_n 1, 1) := by decide +kernel
theorem dX10_parts_196 : decode cX10_parts 196 = .ok (.isub, 1) := by decide +kernel
theorem dX10_parts_197 : decode cX10_parts 197 = .ok (.iconst 1, 1) := by decide +kernel
theorem dX10_parts_198 : decode cX10_parts 198 = .ok (.iadd, 1) := by decide +kernel
theorem dX10_parts_199 : decode cX10_parts 199 = .ok (.iastore, 1) := by decide +kernel
theorem dX10_parts_200 : decode cX10_parts 200 = .ok (.iinc 4 1, 3) := by decide +kernel
theorem dX10_parts_203 : decode cX10_parts 203 = .ok (.goto (-168), 3) := by decide +kernel
theorem dX10_parts_206 : decode cX10_parts 206 = .ok (.iinc 1 (-1), 3) := by decide +kernel
theorem dX10_parts_209 : decode cX10_parts 209 = .ok (.goto (-192), 3) := by decide +kernel
theorem dX10_parts_212 : decode cX10_parts 212 = .ok (.aload_n 0, 1) := by decide +kernel
theorem dX10_parts_213 : decode cX10_parts 213 = .ok (.getfield 38, 3) := by decide +kernel
theorem dX10_parts_216 : decode cX10_parts 216 = .ok (.iconst 0, 1) := by decide +kernel
theorem dX10_parts_217 : decode cX10_parts 217 = .ok (.iaload, 1) := by decide +kernel
theorem dX10_parts_218 : decode cX10_parts 218 = .ok (.ireturn, 1) := by decide +kernel
theorem dX10_tellsLines_0 : decode cX10_tellsLines 0 = .ok (.aload_n 0, 1) := by decide +kernel
theorem dX10_tellsLines_1 : decode cX10_tellsLines 1 = .ok (.iconst 0, 1) := by decide +kernel
theorem dX10_tellsLines_2 : decode cX10_tellsLines 2 = .ok (.putfield 219, 3) := by decide +kernel
theorem dX10_tellsLines_5 : decode cX10_tellsLines 5 = .ok (.iconst 0, 1) := by decide +kernel
theorem dX10_tellsLines_6 : decode cX10_tellsLines 6 = .ok (.istore_n 1, 1) := by decide +kernel
theorem dX10_tellsLines_7 : decode cX10_tellsLines 7 = .ok (.aload_n 0, 1) := by decide +kernel
theorem dX10_tellsLines_8 : decode cX10_tellsLines 8 = .ok (.getfield 141, 3) := by decide +kernel
theorem dX10_tellsLines_11 : decode cX10_tellsLines 11 = .ok (.ifCond .lt 73, 3) := by decide +kernel
theorem dX10_tellsLines_14 : decode cX10_tellsLines 14 = .ok (.iload_n 1, 1) := by decide +kernel
theorem dX10_tellsLines_15 : decode cX10_tellsLines 15 = .ok (.aload_n 0, 1) := by decide +kernel
theorem dX10_tellsLines_16 : decode cX10_tellsLines 16 = .ok (.getfield 206, 3) := by decide +kernel
theorem dX10_tellsLines_19 : decode cX10_tellsLines 19 = .ok (.if_icmp .ge 65, 3) := by decide +kernel
theorem dX10_tellsLines_22 : decode cX10_tellsLines 22 = .ok (.aload_n 0, 1) := by decide +kernel
theorem dX10_tellsLines_23 : decode cX10_tellsLines 23 = .ok (.getfield 44, 3) := by decide +kernel
theorem dX10_tellsLines_26 : decode cX10_tellsLines 26 = .ok (.aload_n 0, 1) := by decide +kernel
theorem dX10_tellsLines_27 : decode cX10_tellsLines 27 = .ok (.getfield 219, 3) := by decide +kernel
theorem dX10_tellsLines_30 : decode cX10_tellsLines 30 = .ok (.iload_n 1, 1) := by decide +kernel
theorem dX10_tellsLines_31 : decode cX10_tellsLines 31 = .ok (.iastore, 1) := by decide +kernel
theorem dX10_tellsLines_32 : decode cX10_tellsLines 32 = .ok (.iconst 0, 1) := by decide +kernel
theorem dX10_tellsLines_33 : decode cX10_tellsLines 33 = .ok (.istore_n 2, 1) := by decide +kernel
theorem dX10_tellsLines_34 : decode cX10_tellsLines 34 = .ok (.iload_n 2, 1) := by decide +kernel
theorem dX10_tellsLines_35 : decode cX10_tellsLines 35 = .ok (.aload_n 0, 1) := by decide +kernel
theorem dX10_tellsLines_36 : decode cX10_tellsLines 36 = .ok (.getfield 41, 3) := by decide +kernel
theorem dX10_tellsLines_39 : decode cX10_tellsLines 39 = .ok (.iload_n 1, 1) := by decide +kernel
theorem dX10_tellsLines_40 : decode cX10_tellsLines 40 = .ok (.iaload, 1) := by decide +kernel
theorem dX10_tellsLines_41 : decode cX10_tellsLines 41 = .ok (.if_icmp .ge 21, 3) := by decide +kernel
theorem dX10_tellsLines_44 : decode cX10_tellsLines 44 = .ok (.aload_n 0, 1) := by decide +kernel
theorem dX10_tellsLines_45 : decode cX10_tellsLines 45 = .ok (.getfield 47, 3) := by decide +kernel
theorem dX10_tellsLines_48 : decode cX10_tellsLines 48 = .ok (.iload_n 1, 1) := by decide +kernel
theorem dX10_tellsLines_49 : decode cX10_tellsLines 49 = .ok (.iload_n 2, 1) := by decide +kernel
theorem dX10_tellsLines_50 : decode cX10_tellsLines 50 = .ok (.iadd, 1) := by decide +kernel
theorem dX10_tellsLines_51 : decode cX10_tellsLines 51 = .ok (.aload_n 0, 1) := by decide +kernel
theorem dX10_tellsLines_52 : decode cX10_tellsLines 52 = .ok (.getfield 219, 3) := by decide +kernel
theorem dX10_tellsLines_55 : decode cX10_tellsLines 55 = .ok (.iastore, 1) := by decide +kernel
theorem dX10_tellsLines_56 : decode cX10_tellsLines 56 = .ok (.iinc 2 1, 3) := by decide +kernel
theorem dX10_tellsLines_59 : decode cX10_tellsLines 59 = .ok (.goto (-25), 3) := by decide +kernel
theorem dX10_tellsLines_62 : decode cX10_tellsLines 62 = .ok (.iload_n 1, 1) := by decide +kernel
theorem dX10_tellsLines_63 : decode cX10_tellsLines 63 = .ok (.aload_n 0, 1) := by decide +kernel
theorem dX10_tellsLines_64 : decode cX10_tellsLines 64 = .ok (.getfield 41, 3) := by decide +kernel
theorem dX10_tellsLines_67 : decode cX10_tellsLines 67 = .ok (.iload_n 1, 1) := by decide +kernel
theorem dX10_tellsLines_68 : decode cX10_tellsLines 68 = .ok (.iaload, 1) := by decide +kernel
theorem dX10_tellsLines_69 : decode cX10_tellsLines 69 = .ok (.iadd, 1) := by decide +kernel
theorem dX10_tellsLines_70 : decode cX10_tellsLines 70 = .ok (.istore_n 1, 1) := by decide +kernel
theorem dX10_tellsLines_71 : decode cX10_tellsLines 71 = .ok (.aload_n 0, 1) := by decide +kernel
theorem dX10_tellsLines_72 : decode cX10_tellsLines 72 = .ok (.dup, 1) := by decide +kernel
theorem dX10_tellsLines_73 : decode cX10_tellsLines 73 = .ok (.getfield 219, 3) := by decide +kernel
theorem dX10_tellsLines_76 : decode cX10_tellsLines 76 = .ok (.iconst 1, 1) := by decide +kernel
theorem dX10_tellsLines_77 : decode cX10_tellsLines 77 = .ok (.iadd, 1) := by decide +kernel
theorem dX10_tellsLines_78 : decode cX10_tellsLines 78 = .ok (.putfield 219, 3) := by decide +kernel
theorem dX10_tellsLines_81 : decode cX10_tellsLines 81 = .ok (.goto (-74), 3) := by decide +kernel
theorem dX10_tellsLines_84 : decode cX10_tellsLines 84 = .ok (.aload_n 0, 1) := by decide +kernel
theorem dX10_tellsLines_85 : decode cX10_tellsLines 85 = .ok (.getfield 44, 3) := by decide +kernel
theorem dX10_tellsLines_88 : decode cX10_tellsLines 88 = .ok (.aload_n 0, 1) := by decide +kernel
theorem dX10_tellsLines_89 : decode cX10_tellsLines 89 = .ok (.getfield 219, 3) := by decide +kernel
theorem dX10_tellsLines_92 : decode cX10_tellsLines 92 = .ok (.iload_n 1, 1) := by decide +kernel
theorem dX10_tellsLines_93 : decode cX10_tellsLines 93 = .ok (.iastore, 1) := by decide +kernel
theorem dX10_tellsLines_94 : decode cX10_tellsLines 94 = .ok (.return_, 1) := by decide +kernel
theorem dX10_settles_0 : decode cX10_settles 0 = .ok (.aload_n 0, 1) := by decide +kernel
theorem dX10_settles_1 : decode cX10_settles 1 = .ok (.invokevirtual 222, 3) := by decide +kernel
theorem dX10_settles_4 : decode cX10_settles 4 = .ok (.aload_n 0, 1) := by decide +kernel
theorem dX10_settles_5 : decode cX10_settles 5 = .ok (.invokevirtual 225, 3) := by decide +kernel
theorem dX10_settles_8 : decode cX10_settles 8 = .ok (.aload_n 0, 1) := by decide +kernel
theorem dX10_settles_9 : decode cX10_settles 9 = .ok (.aload_n 0, 1) := by decide +kernel
theorem dX10_settles_10 : decode cX10_settles 10 = .ok (.invokevirtual 228, 3) := by decide +kernel
theorem dX10_settles_13 : decode cX10_settles 13 = .ok (.putfield 141, 3) := by decide +kernel
theorem dX10_settles_16 : decode cX10_settles 16 = .ok (.aload_n 0, 1) := by decide +kernel
theorem dX10_settles_17 : decode cX10_settles 17 = .ok (.invokevirtual 231, 3) := by decide +kernel
theorem dX10_settles_20 : decode cX10_settles 20 = .ok (.return_, 1) := by decide +kernel
theorem dX10_setting_0 : decode cX10_setting 0 = .ok (.iload_n 1, 1) := by decide +kernel
theorem dX10_setting_1 : decode cX10_setting 1 = .ok (.bipush (-2), 2) := by decide +kernel
theorem dX10_setting_3 : decode cX10_setting 3 = .ok (.if_icmp .ge 6, 3) := by decide +kernel
theorem dX10_setting_6 : decode cX10_setting 6 = .ok (.ldc 125, 2) := by decide +kernel
theorem dX10_setting_8 : decode cX10_setting 8 = .ok (.ireturn, 1) := by decide +kernel
theorem dX10_setting_9 : decode cX10_setting 9 = .ok (.aload_n 0, 1) := by decide +kernel
theorem dX10_setting_10 : decode cX10_setting 10 = .ok (.invokevirtual 138, 3) := by decide +kernel
theorem dX10_setting_13 : decode cX10_setting 13 = .ok (.aload_n 0, 1) := by decide +kernel
theorem dX10_setting_14 : decode cX10_setting 14 = .ok (.getfield 141, 3) := by decide +kernel
theorem dX10_setting_17 : decode cX10_setting 17 = .ok (.ifCond .ge 6, 3) := by decide +kernel
theorem dX10_setting_20 : decode cX10_setting 20 = .ok (.ldc 145, 2) := by decide +kernel
theorem dX10_setting_22 : decode cX10_setting 22 = .ok (.ireturn, 1) := by decide +kernel
theorem dX10_setting_23 : decode cX10_setting 23 = .ok (.iload_n 1, 1) := by decide +kernel
theorem dX10_setting_24 : decode cX10_setting 24 = .ok (.ifCond .ge 21, 3) := by decide +kernel
theorem dX10_setting_27 : decode cX10_setting 27 = .ok (.iload_n 1, 1) := by decide +kernel
theorem dX10_setting_28 : decode cX10_setting 28 = .ok (.bipush (-2), 2) := by decide +kernel
theorem dX10_setting_30 : decode cX10_setting 30 = .ok (.if_icmp .ne 10, 3) := by decide +kernel
theorem dX10_setting_33 : decode cX10_setting 33 = .ok (.aload_n 0, 1) := by decide +kernel
theorem dX10_setting_34 : decode cX10_setting 34 = .ok (.getfield 141, 3) := by decide +kernel
theorem dX10_setting_37 : decode cX10_setting 37 = .ok (.goto 7, 3) := by decide +kernel
theorem dX10_setting_40 : decode cX10_setting 40 = .ok (.aload_n 0, 1) := by decide +kernel
theorem dX10_setting_41 : decode cX10_setting 41 = .ok (.getfield 219, 3) := by decide +kernel
theorem dX10_setting_44 : decode cX10_setting 44 = .ok (.ireturn, 1) := by decide +kernel
theorem dX10_setting_45 : decode cX10_setting 45 = .ok (.iload_n 1, 1) := by decide +kernel
theorem dX10_setting_46 : decode cX10_setting 46 = .ok (.aload_n 0, 1) := by decide +kernel
theorem dX10_setting_47 : decode cX10_setting 47 = .ok (.getfield 219, 3) := by decide +kernel
theorem dX10_setting_50 : decode cX10_setting 50 = .ok (.if_icmp .ge 12, 3) := by decide +kernel
theorem dX10_setting_53 : decode cX10_setting 53 = .ok (.aload_n 0, 1) := by decide +kernel
theorem dX10_setting_54 : decode cX10_setting 54 = .ok (.getfield 44, 3) := by decide +kernel
theorem dX10_setting_57 : decode cX10_setting 57 = .ok (.iload_n 1, 1) := by decide +kernel
theorem dX10_setting_58 : decode cX10_setting 58 = .ok (.iaload, 1) := by decide +kernel
theorem dX10_setting_59 : decode cX10_setting 59 = .ok (.goto 5, 3) := by decide +kernel
theorem dX10_setting_62 : decode cX10_setting 62 = .ok (.ldc 145, 2) := by decide +kernel
theorem dX10_setting_64 : decode cX10_setting 64 = .ok (.ireturn, 1) := by decide +kernel
theorem dX10_thickOf_0 : decode cX10_thickOf 0 = .ok (.iconst 0, 1) := by decide +kernel
theorem dX10_thickOf_1 : decode cX10_thickOf 1 = .ok (.istore_n 2, 1) := by decide +kernel
theorem dX10_thickOf_2 : decode cX10_thickOf 2 = .ok (.aload_n 0, 1) := by decide +kernel
theorem dX10_thickOf_3 : decode cX10_thickOf 3 = .ok (.getfield 44, 3) := by decide +kernel
theorem dX10_thickOf_6 : decode cX10_thickOf 6 = .ok (.iload_n 1, 1) := by decide +kernel
theorem dX10_thickOf_7 : decode cX10_thickOf 7 = .ok (.iaload, 1) := by decide +kernel
theorem dX10_thickOf_8 : decode cX10_thickOf 8 = .ok (.istore_n 3, 1) := by decide +kernel
theorem dX10_thickOf_9 : decode cX10_thickOf 9 = .ok (.iload_n 3, 1) := by decide +kernel
theorem dX10_thickOf_10 : decode cX10_thickOf 10 = .ok (.aload_n 0, 1) := by decide +kernel
theorem dX10_thickOf_11 : decode cX10_thickOf 11 = .ok (.getfield 44, 3) := by decide +kernel
theorem dX10_thickOf_14 : decode cX10_thickOf 14 = .ok (.iload_n 1, 1) := by decide +kernel
theorem dX10_thickOf_15 : decode cX10_thickOf 15 = .ok (.iconst 1, 1) := by decide +kernel
theorem dX10_thickOf_16 : decode cX10_thickOf 16 = .ok (.iadd, 1) := by decide +kernel
theorem dX10_thickOf_17 : decode cX10_thickOf 17 = .ok (.iaload, 1) := by decide +kernel
theorem dX10_thickOf_18 : decode cX10_thickOf 18 = .ok (.if_icmp .ge 18, 3) := by decide +kernel
theorem dX10_thickOf_21 : decode cX10_thickOf 21 = .ok (.iload_n 2, 1) := by decide +kernel
theorem dX10_thickOf_22 : decode cX10_thickOf 22 = .ok (.aload_n 0, 1) := by decide +kernel
theorem dX10_thickOf_23 : decode cX10_thickOf 23 = .ok (.getfield 22, 3) := by decide +kernel
theorem dX10_thickOf_26 : decode cX10_thickOf 26 = .ok (.iload_n 3, 1) := by decide +kernel
theorem dX10_thickOf_27 : decode cX10_thickOf 27 = .ok (.iaload, 1) := by decide +kernel
theorem dX10_thickOf_28 : decode cX10_thickOf 28 = .ok (.iadd, 1) := by decide +kernel
theorem dX10_thickOf_29 : decode cX10_thickOf 29 = .ok (.istore_n 2, 1) := by decide +kernel
theorem dX10_thickOf_30 : decode cX10_thickOf 30 = .ok (.iinc 3 1, 3) := by decide +kernel
theorem dX10_thickOf_33 : decode cX10_thickOf 33 = .ok (.goto (-24), 3) := by decide +kernel
theorem dX10_thickOf_36 : decode cX10_thickOf 36 = .ok (.iload_n 2, 1) := by decide +kernel
theorem dX10_thickOf_37 : decode cX10_thickOf 37 = .ok (.ireturn, 1) := by decide +kernel
theorem dX10_tallOf_0 : decode cX10_tallOf 0 = .ok (.iconst 0, 1) := by decide +kernel
theorem dX10_tallOf_1 : decode cX10_tallOf 1 = .ok (.istore_n 2, 1) := by decide +kernel
theorem dX10_tallOf_2 : decode cX10_tallOf 2 = .ok (.aload_n 0, 1) := by decide +kernel
theorem dX10_tallOf_3 : decode cX10_tallOf 3 = .ok (.getfield 44, 3) := by decide +kernel
theorem dX10_tallOf_6 : decode cX10_tallOf 6 = .ok (.iload_n 1, 1) := by decide +kernel
theorem dX10_tallOf_7 : decode cX10_tallOf 7 = .ok (.iaload, 1) := by decide +kernel
theorem dX10_tallOf_8 : decode cX10_tallOf 8 = .ok (.istore_n 3, 1) := by decide +kernel
theorem dX10_tallOf_9 : decode cX10_tallOf 9 = .ok (.iload_n 3, 1) := by decide +kernel
theorem dX10_tallOf_10 : decode cX10_tallOf 10 = .ok (.aload_n 0, 1) := by decide +kernel
theorem dX10_tallOf_11 : decode cX10_tallOf 11 = .ok (.getfield 44, 3) := by decide +kernel
theorem dX10_tallOf_14 : decode cX10_tallOf 14 = .ok (.iload_n 1, 1) := by decide +kernel
theorem dX10_tallOf_15 : decode cX10_tallOf 15 = .ok (.iconst 1, 1) := by decide +kernel
theorem dX10_tallOf_16 : decode cX10_tallOf 16 = .ok (.iadd, 1) := by decide +kernel
theorem dX10_tallOf_17 : decode cX10_tallOf 17 = .ok (.iaload, 1) := by decide +kernel
theorem dX10_tallOf_18 : decode cX10_tallOf 18 = .ok (.if_icmp .ge 30, 3) := by decide +kernel
theorem dX10_tallOf_21 : decode cX10_tallOf 21 = .ok (.aload_n 0, 1) := by decide +kernel
theorem dX10_tallOf_22 : decode cX10_tallOf 22 = .ok (.getfield 19, 3) := by decide +kernel
theorem dX10_tallOf_25 : decode cX10_tallOf 25 = .ok (.iload_n 3, 1) := by decide +kernel
theorem dX10_tallOf_26 : decode cX10_tallOf 26 = .ok (.iaload, 1) := by decide +kernel
theorem dX10_tallOf_27 : decode cX10_tallOf 27 = .ok (.iload_n 2, 1) := by decide +kernel
theorem dX10_tallOf_28 : decode cX10_tallOf 28 = .ok (.if_icmp .le 12, 3) := by decide +kernel
theorem dX10_tallOf_31 : decode cX10_tallOf 31 = .ok (.aload_n 0, 1) := by decide +kernel
theorem dX10_tallOf_32 : decode cX10_tallOf 32 = .ok (.getfield 19, 3) := by decide +kernel
theorem dX10_tallOf_35 : decode cX10_tallOf 35 = .ok (.iload_n 3, 1) := by decide +kernel
theorem dX10_tallOf_36 : decode cX10_tallOf 36 = .ok (.iaload, 1) := by decide +kernel
theorem dX10_tallOf_37 : decode cX10_tallOf 37 = .ok (.goto 4, 3) := by decide +kernel
theorem dX10_tallOf_40 : decode cX10_tallOf 40 = .ok (.iload_n 2, 1) := by decide +kernel
theorem dX10_tallOf_41 : decode cX10_tallOf 41 = .ok (.istore_n 2, 1) := by decide +kernel
theorem dX10_tallOf_42 : decode cX10_tallOf 42 = .ok (.iinc 3 1, 3) := by decide +kernel
theorem dX10_tallOf_45 : decode cX10_tallOf 45 = .ok (.goto (-36), 3) := by decide +kernel
theorem dX10_tallOf_48 : decode cX10_tallOf 48 = .ok (.iload_n 2, 1) := by decide +kernel
theorem dX10_tallOf_49 : decode cX10_tallOf 49 = .ok (.ireturn, 1) := by decide +kernel
theorem dX10_line_0 : decode cX10_line 0 = .ok (.iload_n 1, 1) := by decide +kernel
theorem dX10_line_1 : decode cX10_line 1 = .ok (.ifCond .lt 12, 3) := by decide +kernel
theorem dX10_line_4 : decode cX10_line 4 = .ok (.iload_n 2, 1) := by decide +kernel
theorem dX10_line_5 : decode cX10_line 5 = .ok (.iconst 0, 1) := by decide +kernel
theorem dX10_line_6 : decode cX10_line 6 = .ok (.iconst 4, 1) := by decide +kernel
theorem dX10_line_7 : decode cX10_line 7 = .ok (.invokestatic 117, 3) := by decide +kernel
theorem dX10_line_10 : decode cX10_line 10 = .ok (.ifCond .ne 6, 3) := by decide +kernel
theorem dX10_line_13 : decode cX10_line 13 = .ok (.ldc 125, 2) := by decide +kernel
theorem dX10_line_15 : decode cX10_line 15 = .ok (.ireturn, 1) := by decide +kernel
theorem dX10_line_16 : decode cX10_line 16 = .ok (.aload_n 0, 1) := by decide +kernel
theorem dX10_line_17 : decode cX10_line 17 = .ok (.invokevirtual 138, 3) := by decide +kernel
theorem dX10_line_20 : decode cX10_line 20 = .ok (.aload_n 0, 1) := by decide +kernel
theorem dX10_line_21 : decode cX10_line 21 = .ok (.getfield 141, 3) := by decide +kernel
theorem dX10_line_24 : decode cX10_line 24 = .ok (.ifCond .lt 11, 3) := by decide +kernel
theorem dX10_line_27 : decode cX10_line 27 = .ok (.iload_n 1, 1) := by decide +kernel
theorem dX10_line_28 : decode cX10_line 28 = .ok (.aload_n 0, 1) := by decide +kernel
theorem dX10_line_29 : decode cX10_line 29 = .ok (.getfield 219, 3) := by decide +kernel
theorem dX10_line_32 : decode cX10_line 32 = .ok (.if_icmp .lt 6, 3) := by decide +kernel
theorem dX10_line_35 : decode cX10_line 35 = .ok (.ldc 145, 2) := by decide +kernel
theorem dX10_line_37 : decode cX10_line 37 = .ok (.ireturn, 1) := by decide +kernel
theorem dX10_line_38 : decode cX10_line 38 = .ok (.aload_n 0, 1) := by decide +kernel
theorem dX10_line_39 : decode cX10_line 39 = .ok (.getfield 44, 3) := by decide +kernel
theorem dX10_line_42 : decode cX10_line 42 = .ok (.iload_n 1, 1) := by decide +kernel
theorem dX10_line_43 : decode cX10_line 43 = .ok (.iconst 1, 1) := by decide +kernel
theorem dX10_line_44 : decode cX10_line 44 = .ok (.iadd, 1) := by decide +kernel
theorem dX10_line_45 : decode cX10_line 45 = .ok (.iaload, 1) := by decide +kernel
theorem dX10_line_46 : decode cX10_line 46 = .ok (.aload_n 0, 1) := by decide +kernel
theorem dX10_line_47 : decode cX10_line 47 = .ok (.getfield 44, 3) := by decide +kernel
theorem dX10_line_50 : decode cX10_line 50 = .ok (.iload_n 1, 1) := by decide +kernel
theorem dX10_line_51 : decode cX10_line 51 = .ok (.iaload, 1) := by decide +kernel
theorem dX10_line_52 : decode cX10_line 52 = .ok (.isub, 1) := by decide +kernel
theorem dX10_line_53 : decode cX10_line 53 = .ok (.istore_n 3, 1) := by decide +kernel
theorem dX10_line_54 : decode cX10_line 54 = .ok (.iload_n 2, 1) := by decide +kernel
theorem dX10_line_55 : decode cX10_line 55 = .ok (.tableswitch 53 0 3 #[29, 31, 37, 43], 29) := by decide +kernel
theorem dX10_line_84 : decode cX10_line 84 = .ok (.iload_n 3, 1) := by decide +kernel
theorem dX10_line_85 : decode cX10_line 85 = .ok (.ireturn, 1) := by decide +kernel
theorem dX10_line_86 : decode cX10_line 86 = .ok (.aload_n 0, 1) := by decide +kernel
theorem dX10_line_87 : decode cX10_line 87 = .ok (.iload_n 1, 1) := by decide +kernel
theorem dX10_line_88 : decode cX10_line 88 = .ok (.invokevirtual 234, 3) := by decide +kernel
theorem dX10_line_91 : decode cX10_line 91 = .ok (.ireturn, 1) := by decide +kernel
theorem dX10_line_92 : decode cX10_line 92 = .ok (.aload_n 0, 1) := by decide +kernel
theorem dX10_line_93 : decode cX10_line 93 = .ok (.iload_n 1, 1) := by decide +kernel
theorem dX10_line_94 : decode cX10_line 94 = .ok (.invokevirtual 237, 3) := by decide +kernel
theorem dX10_line_97 : decode cX10_line 97 = .ok (.ireturn, 1) := by decide +kernel
theorem dX10_line_98 : decode cX10_line 98 = .ok (.aload_n 0, 1) := by decide +kernel
theorem dX10_line_99 : decode cX10_line 99 = .ok (.aload_n 0, 1) := by decide +kernel
theorem dX10_line_100 : decode cX10_line 100 = .ok (.iload_n 1, 1) := by decide +kernel
theorem dX10_line_101 : decode cX10_line 101 = .ok (.invokevirtual 237, 3) := by decide +kernel
theorem dX10_line_104 : decode cX10_line 104 = .ok (.invokevirtual 213, 3) := by decide +kernel
theorem dX10_line_107 : decode cX10_line 107 = .ok (.ireturn, 1) := by decide +kernel
theorem dX10_line_108 : decode cX10_line 108 = .ok (.aload_n 0, 1) := by decide +kernel
theorem dX10_line_109 : decode cX10_line 109 = .ok (.aload_n 0, 1) := by decide +kernel
theorem dX10_line_110 : decode cX10_line 110 = .ok (.aload_n 0, 1) := by decide +kernel
theorem dX10_line_111 : decode cX10_line 111 = .ok (.iload_n 1, 1) := by decide +kernel
theorem dX10_line_112 : decode cX10_line 112 = .ok (.invokevirtual 237, 3) := by decide +kernel
theorem dX10_line_115 : decode cX10_line 115 = .ok (.invokevirtual 213, 3) := by decide +kernel
theorem dX10_line_118 : decode cX10_line 118 = .ok (.iload_n 3, 1) := by decide +kernel
theorem dX10_line_119 : decode cX10_line 119 = .ok (.invokevirtual 216, 3) := by decide +kernel
theorem dX10_line_122 : decode cX10_line 122 = .ok (.ireturn, 1) := by decide +kernel
theorem dX10_allow_0 : decode cX10_allow 0 = .ok (.iload_n 1, 1) := by decide +kernel
theorem dX10_allow_1 : decode cX10_allow 1 = .ok (.iconst 1, 1) := by decide +kernel
theorem dX10_allow_2 : decode cX10_allow 2 = .ok (.bipush 99, 2) := by decide +kernel
theorem dX10_allow_4 : decode cX10_allow 4 = .ok (.invokestatic 117, 3) := by decide +kernel
theorem dX10_allow_7 : decode cX10_allow 7 = .ok (.ifCond .ne 6, 3) := by decide +kernel
theorem dX10_allow_10 : decode cX10_allow 10 = .ok (.ldc 125, 2) := by decide +kernel
theorem dX10_allow_12 : decode cX10_allow 12 = .ok (.ireturn, 1) := by decide +kernel
theorem dX10_allow_13 : decode cX10_allow 13 = .ok (.iconst 0, 1) := by decide +kernel
theorem dX10_allow_14 : decode cX10_allow 14 = .ok (.istore_n 2, 1) := by decide +kernel
theorem dX10_allow_15 : decode cX10_allow 15 = .ok (.iload_n 2, 1) := by decide +kernel
theorem dX10_allow_16 : decode cX10_allow 16 = .ok (.aload_n 0, 1) := by decide +kernel
theorem dX10_allow_17 : decode cX10_allow 17 = .ok (.getfield 9, 3) := by decide +kernel
theorem dX10_allow_20 : decode cX10_allow 20 = .ok (.bipush 7, 2) := by decide +kernel
theorem dX10_allow_22 : decode cX10_allow 22 = .ok (.iaload, 1) := by decide +kernel
theorem dX10_allow_23 : decode cX10_allow 23 = .ok (.if_icmp .ge 25, 3) := by decide +kernel
theorem dX10_allow_26 : decode cX10_allow 26 = .ok (.aload_n 0, 1) := by decide +kernel
theorem dX10_allow_27 : decode cX10_allow 27 = .ok (.getfield 9, 3) := by decide +kernel
theorem dX10_allow_30 : decode cX10_allow 30 = .ok (.bipush 8, 2) := by decide +kernel
theorem dX10_allow_32 : decode cX10_allow 32 = .ok (.iload_n 2, 1) := by decide +kernel
theorem dX10_allow_33 : decode cX10_allow 33 = .ok (.iadd, 1) := by decide +kernel
theorem dX10_allow_34 : decode cX10_allow 34 = .ok (.iaload, 1) := by decide +kernel
theorem dX10_allow_35 : decode cX10_allow 35 = .ok (.iload_n 1, 1) := by decide +kernel
theorem dX10_allow_36 : decode cX10_allow 36 = .ok (.if_icmp .ne 6, 3) := by decide +kernel
theorem dX10_allow_39 : decode cX10_allow 39 = .ok (.ldc 240, 2) := by decide +kernel
theorem dX10_allow_41 : decode cX10_allow 41 = .ok (.ireturn, 1) := by decide +kernel
theorem dX10_allow_42 : decode cX10_allow 42 = .ok (.iinc 2 1, 3) := by decide +kernel
theorem dX10_allow_45 : decode cX10_allow 45 = .ok (.goto (-30), 3) := by decide +kernel
theorem dX10_allow_48 : decode cX10_allow 48 = .ok (.aload_n 0, 1) := by decide +kernel
theorem dX10_allow_49 : decode cX10_allow 49 = .ok (.getfield 9, 3) := by decide +kernel
theorem dX10_allow_52 : decode cX10_allow 52 = .ok (.bipush 7, 2) := by decide +kernel
theorem dX10_allow_54 : decode cX10_allow 54 = .ok (.iaload, 1) := by decide +kernel
theorem dX10_allow_55 : decode cX10_allow 55 = .ok (.bipush 6, 2) := by decide +kernel
theorem dX10_allow_57 : decode cX10_allow 57 = .ok (.if_icmp .ne 6, 3) := by decide +kernel
theorem dX10_allow_60 : decode cX10_allow 60 = .ok (.ldc 126, 2) := by decide +kernel
theorem dX10_allow_62 : decode cX10_allow 62 = .ok (.ireturn, 1) := by decide +kernel
theorem dX10_allow_63 : decode cX10_allow 63 = .ok (.aload_n 0, 1) := by decide +kernel
theorem dX10_allow_64 : decode cX10_allow 64 = .ok (.getfield 9, 3) := by decide +kernel
theorem dX10_allow_67 : decode cX10_allow 67 = .ok (.bipush 8, 2) := by decide +kernel
theorem dX10_allow_69 : decode cX10_allow 69 = .ok (.aload_n 0, 1) := by decide +kernel
theorem dX10_allow_70 : decode cX10_allow 70 = .ok (.getfield 9, 3) := by decide +kernel
theorem dX10_allow_73 : decode cX10_allow 73 = .ok (.bipush 7, 2) := by decide +kernel
theorem dX10_allow_75 : decode cX10_allow 75 = .ok (.iaload, 1) := by decide +kernel
theorem dX10_allow_76 : decode cX10_allow 76 = .ok (.iadd, 1) := by decide +kernel
theorem dX10_allow_77 : decode cX10_allow 77 = .ok (.iload_n 1, 1) := by decide +kernel
theorem dX10_allow_78 : decode cX10_allow 78 = .ok (.iastore, 1) := by decide +kernel
theorem dX10_allow_79 : decode cX10_allow 79 = .ok (.aload_n 0, 1) := by decide +kernel
theorem dX10_allow_80 : decode cX10_allow 80 = .ok (.getfield 9, 3) := by decide +kernel
theorem dX10_allow_83 : decode cX10_allow 83 = .ok (.bipush 7, 2) := by decide +kernel
theorem dX10_allow_85 : decode cX10_allow 85 = .ok (.dup2, 1) := by decide +kernel
theorem dX10_allow_86 : decode cX10_allow 86 = .ok (.iaload, 1) := by decide +kernel
theorem dX10_allow_87 : decode cX10_allow 87 = .ok (.iconst 1, 1) := by decide +kernel
theorem dX10_allow_88 : decode cX10_allow 88 = .ok (.iadd, 1) := by decide +kernel
theorem dX10_allow_89 : decode cX10_allow 89 = .ok (.iastore, 1) := by decide +kernel
theorem dX10_allow_90 : decode cX10_allow 90 = .ok (.aload_n 0, 1) := by decide +kernel
theorem dX10_allow_91 : decode cX10_allow 91 = .ok (.getfield 9, 3) := by decide +kernel
theorem dX10_allow_94 : decode cX10_allow 94 = .ok (.bipush 7, 2) := by decide +kernel
theorem dX10_allow_96 : decode cX10_allow 96 = .ok (.iaload, 1) := by decide +kernel
theorem dX10_allow_97 : decode cX10_allow 97 = .ok (.ireturn, 1) := by decide +kernel
theorem dX10_clear_0 : decode cX10_clear 0 = .ok (.aload_n 0, 1) := by decide +kernel
theorem dX10_clear_1 : decode cX10_clear 1 = .ok (.getfield 9, 3) := by decide +kernel
theorem dX10_clear_4 : decode cX10_clear 4 = .ok (.bipush 7, 2) := by decide +kernel
theorem dX10_clear_6 : decode cX10_clear 6 = .ok (.iaload, 1) := by decide +kernel
theorem dX10_clear_7 : decode cX10_clear 7 = .ok (.istore_n 1, 1) := by decide +kernel
theorem dX10_clear_8 : decode cX10_clear 8 = .ok (.aload_n 0, 1) := by decide +kernel
theorem dX10_clear_9 : decode cX10_clear 9 = .ok (.getfield 9, 3) := by decide +kernel
theorem dX10_clear_12 : decode cX10_clear 12 = .ok (.bipush 7, 2) := by decide +kernel
theorem dX10_clear_14 : decode cX10_clear 14 = .ok (.iconst 0, 1) := by decide +kernel
theorem dX10_clear_15 : decode cX10_clear 15 = .ok (.iastore, 1) := by decide +kernel
theorem dX10_clear_16 : decode cX10_clear 16 = .ok (.iload_n 1, 1) := by decide +kernel
theorem dX10_clear_17 : decode cX10_clear 17 = .ok (.ireturn, 1) := by decide +kernel
theorem dX10_findCases_0 : decode cX10_findCases 0 = .ok (.aload_n 0, 1) := by decide +kernel
theorem dX10_findCases_1 : decode cX10_findCases 1 = .ok (.invokevirtual 222, 3) := by decide +kernel
theorem dX10_findCases_4 : decode cX10_findCases 4 = .ok (.aload_n 0, 1) := by decide +kernel
theorem dX10_findCases_5 : decode cX10_findCases 5 = .ok (.invokevirtual 225, 3) := by decide +kernel
theorem dX10_findCases_8 : decode cX10_findCases 8 = .ok (.iconst 0, 1) := by decide +kernel
theorem dX10_findCases_9 : decode cX10_findCases 9 = .ok (.istore_n 1, 1) := by decide +kernel
theorem dX10_findCases_10 : decode cX10_findCases 10 = .ok (.iload_n 1, 1) := by decide +kernel
theorem dX10_findCases_11 : decode cX10_findCases 11 = .ok (.aload_n 0, 1) := by decide +kernel
theorem dX10_findCases_12 : decode cX10_findCases 12 = .ok (.getfield 206, 3) := by decide +kernel
theorem dX10_findCases_15 : decode cX10_findCases 15 = .ok (.if_icmp .gt 24, 3) := by decide +kernel
theorem dX10_findCases_18 : decode cX10_findCases 18 = .ok (.aload_n 0, 1) := by decide +kernel
theorem dX10_findCases_19 : decode cX10_findCases 19 = .ok (.getfield 50, 3) := by decide +kernel
theorem dX10_findCases_22 : decode cX10_findCases 22 = .ok (.iload_n 1, 1) := by decide +kernel
theorem dX10_findCases_23 : decode cX10_findCases 23 = .ok (.iload_n 1, 1) := by decide +kernel
theorem dX10_findCases_24 : decode cX10_findCases 24 = .ok (.ifCond .ne 7, 3) := by decide +kernel
theorem dX10_findCases_27 : decode cX10_findCases 27 = .ok (.iconst 0, 1) := by decide +kernel
theorem dX10_findCases_28 : decode cX10_findCases 28 = .ok (.goto 4, 3) := by decide +kernel
theorem dX10_findCases_31 : decode cX10_findCases 31 = .ok (.iconst (-1), 1) := by decide +kernel
theorem dX10_findCases_32 : decode cX10_findCases 32 = .ok (.iastore, 1) := by decide +kernel
theorem dX10_findCases_33 : decode cX10_findCases 33 = .ok (.iinc 1 1, 3) := by decide +kernel
theorem dX10_findCases_36 : decode cX10_findCases 36 = .ok (.goto (-26), 3) := by decide +kernel
theorem dX10_findCases_39 : decode cX10_findCases 39 = .ok (.iconst 0, 1) := by decide +kernel
theorem dX10_findCases_40 : decode cX10_findCases 40 = .ok (.istore_n 1, 1) := by decide +kernel
theorem dX10_findCases_41 : decode cX10_findCases 41 = .ok (.iload_n 1, 1) := by decide +kernel
theorem dX10_findCases_42 : decode cX10_findCases 42 = .ok (.aload_n 0, 1) := by decide +kernel
theorem dX10_findCases_43 : decode cX10_findCases 43 = .ok (.getfield 206, 3) := by decide +kernel
theorem dX10_findCases_46 : decode cX10_findCases 46 = .ok (.if_icmp .ge 276, 3) := by decide +kernel
theorem dX10_findCases_49 : decode cX10_findCases 49 = .ok (.iconst 0, 1) := by decide +kernel
theorem dX10_findCases_50 : decode cX10_findCases 50 = .ok (.istore_n 2, 1) := by decide +kernel
theorem dX10_findCases_51 : decode cX10_findCases 51 = .ok (.iconst 0, 1) := by decide +kernel
theorem dX10_findCases_52 : decode cX10_findCases 52 = .ok (.istore_n 3, 1) := by decide +kernel
theorem dX10_findCases_53 : decode cX10_findCases 53 = .ok (.iload_n 1, 1) := by decide +kernel
theorem dX10_findCases_54 : decode cX10_findCases 54 = .ok (.istore 4, 2) := by decide +kernel
theorem dX10_findCases_56 : decode cX10_findCases 56 = .ok (.iload 4, 2) := by decide +kernel
theorem dX10_findCases_58 : decode cX10_findCases 58 = .ok (.aload_n 0, 1) := by decide +kernel
theorem dX10_findCases_59 : decode cX10_findCases 59 = .ok (.getfield 206, 3) := by decide +kernel
theorem dX10_findCases_62 : decode cX10_findCases 62 = .ok (.if_icmp .ge 254, 3) := by decide +kernel
theorem dX10_findCases_65 : decode cX10_findCases 65 = .ok (.aload_n 0, 1) := by decide +kernel
theorem dX10_findCases_66 : decode cX10_findCases 66 = .ok (.getfield 50, 3) := by decide +kernel
theorem dX10_findCases_69 : decode cX10_findCases 69 = .ok (.iload_n 1, 1) := by decide +kernel
theorem dX10_findCases_70 : decode cX10_findCases 70 = .ok (.iaload, 1) := by decide +kernel
theorem dX10_findCases_71 : decode cX10_findCases 71 = .ok (.ifCond .lt 245, 3) := by decide +kernel
theorem dX10_findCases_74 : decode cX10_findCases 74 = .ok (.iload_n 2, 1) := by decide +kernel
theorem dX10_findCases_75 : decode cX10_findCases 75 = .ok (.aload_n 0, 1) := by decide +kernel
theorem dX10_findCases_76 : decode cX10_findCases 76 = .ok (.getfield 22, 3) := by decide +kernel
theorem dX10_findCases_79 : decode cX10_findCases 79 = .ok (.iload 4, 2) := by decide +kernel
theorem dX10_findCases_81 : decode cX10_findCases 81 = .ok (.iaload, 1) := by decide +kernel
theorem dX10_findCases_82 : decode cX10_findCases 82 = .ok (.iadd, 1) := by decide +kernel
theorem dX10_findCases_83 : decode cX10_findCases 83 = .ok (.istore_n 2, 1) := by decide +kernel
theorem dX10_findCases_84 : decode cX10_findCases 84 = .ok (.aload_n 0, 1) := by decide +kernel
theorem dX10_findCases_85 : decode cX10_findCases 85 = .ok (.getfield 19, 3) := by decide +kernel
theorem dX10_findCases_88 : decode cX10_findCases 88 = .ok (.iload 4, 2) := by decide +kernel
theorem dX10_findCases_90 : decode cX10_findCases 90 = .ok (.iaload, 1) := by decide +kernel
theorem dX10_findCases_91 : decode cX10_findCases 91 = .ok (.iload_n 3, 1) := by decide +kernel
theorem dX10_findCases_92 : decode cX10_findCases 92 = .ok (.if_icmp .le 13, 3) := by decide +kernel
theorem dX10_findCases_95 : decode cX10_findCases 95 = .ok (.aload_n 0, 1) := by decide +kernel
theorem dX10_findCases_96 : decode cX10_findCases 96 = .ok (.getfield 19, 3) := by decide +kernel
theorem dX10_findCases_99 : decode cX10_findCases 99 = .ok (.iload 4, 2) := by decide +kernel
theorem dX10_findCases_101 : decode cX10_findCases 101 = .ok (.iaload, 1) := by decide +kernel
theorem dX10_findCases_102 : decode cX10_findCases 102 = .ok (.goto 4, 3) := by decide +kernel
theorem dX10_findCases_105 : decode cX10_findCases 105 = .ok (.iload_n 3, 1) := by decide +kernel
theorem dX10_findCases_106 : decode cX10_findCases 106 = .ok (.istore_n 3, 1) := by decide +kernel
theorem dX10_findCases_107 : decode cX10_findCases 107 = .ok (.iload_n 2, 1) := by decide +kernel
theorem dX10_findCases_108 : decode cX10_findCases 108 = .ok (.aload_n 0, 1) := by decide +kernel
theorem dX10_findCases_109 : decode cX10_findCases 109 = .ok (.getfield 191, 3) := by decide +kernel
theorem dX10_findCases_112 : decode cX10_findCases 112 = .ok (.if_icmp .le 6, 3) := by decide +kernel
theorem dX10_findCases_115 : decode cX10_findCases 115 = .ok (.goto 201, 3) := by decide +kernel
theorem dX10_findCases_118 : decode cX10_findCases 118 = .ok (.aload_n 0, 1) := by decide +kernel
theorem dX10_findCases_119 : decode cX10_findCases 119 = .ok (.iload_n 3, 1) := by decide +kernel
theorem dX10_findCases_120 : decode cX10_findCases 120 = .ok (.invokevirtual 213, 3) := by decide +kernel
theorem dX10_findCases_123 : decode cX10_findCases 123 = .ok (.istore 5, 2) := by decide +kernel
theorem dX10_findCases_125 : decode cX10_findCases 125 = .ok (.iload 5, 2) := by decide +kernel
theorem dX10_findCases_127 : decode cX10_findCases 127 = .ok (.ifCond .lt 183, 3) := by decide +kernel
theorem dX10_findCases_130 : decode cX10_findCases 130 = .ok (.iload 5, 2) := by decide +kernel
theorem dX10_findCases_132 : decode cX10_findCases 132 = .ok (.aload_n 0, 1) := by decide +kernel
theorem dX10_findCases_133 : decode cX10_findCases 133 = .ok (.getfield 9, 3) := by decide +kernel
theorem dX10_findCases_136 : decode cX10_findCases 136 = .ok (.iconst 2, 1) := by decide +kernel
theorem dX10_findCases_137 : decode cX10_findCases 137 = .ok (.iaload, 1) := by decide +kernel
theorem dX10_findCases_138 : decode cX10_findCases 138 = .ok (.iadd, 1) := by decide +kernel
theorem dX10_findCases_139 : decode cX10_findCases 139 = .ok (.aload_n 0, 1) := by decide +kernel
theorem dX10_findCases_140 : decode cX10_findCases 140 = .ok (.getfield 9, 3) := by decide +kernel
theorem dX10_findCases_143 : decode cX10_findCases 143 = .ok (.iconst 3, 1) := by decide +kernel
theorem dX10_findCases_144 : decode cX10_findCases 144 = .ok (.iaload, 1) := by decide +kernel
theorem dX10_findCases_145 : decode cX10_findCases 145 = .ok (.if_icmp .gt 165, 3) := by decide +kernel
theorem dX10_findCases_148 : decode cX10_findCases 148 = .ok (.aload_n 0, 1) := by decide +kernel
theorem dX10_findCases_149 : decode cX10_findCases 149 = .ok (.getfield 25, 3) := by decide +kernel
theorem dX10_findCases_152 : decode cX10_findCases 152 = .ok (.iload 4, 2) := by decide +kernel
theorem dX10_findCases_154 : decode cX10_findCases 154 = .ok (.baload, 1) := by decide +kernel
theorem dX10_findCases_155 : decode cX10_findCases 155 = .ok (.ifCond .eq 17, 3) := by decide +kernel
theorem dX10_findCases_158 : decode cX10_findCases 158 = .ok (.iload 4, 2) := by decide +kernel
theorem dX10_findCases_160 : decode cX10_findCases 160 = .ok (.aload_n 0, 1) := by decide +kernel
theorem dX10_findCases_161 : decode cX10_findCases 161 = .ok (.getfield 206, 3) := by decide +kernel
theorem dX10_findCases_164 : decode cX10_findCases 164 = .ok (.iconst 1, 1) := by decide +kernel
theorem dX10_findCases_165 : decode cX10_findCases 165 = .ok (.isub, 1) := by decide +kernel
theorem dX10_findCases_166 : decode cX10_findCases 166 = .ok (.if_icmp .ge 6, 3) := by decide +kernel
theorem dX10_findCases_169 : decode cX10_findCases 169 = .ok (.goto 141, 3) := by decide +kernel
theorem dX10_findCases_172 : decode cX10_findCases 172 = .ok (.iload 5, 2) := by decide +kernel
theorem dX10_findCases_174 : decode cX10_findCases 174 = .ok (.aload_n 0, 1) := by decide +kernel
theorem dX10_findCases_175 : decode cX10_findCases 175 = .ok (.getfield 9, 3) := by decide +kernel
theorem dX10_findCases_178 : decode cX10_findCases 178 = .ok (.iconst 2, 1) := by decide +kernel
theorem dX10_findCases_179 : decode cX10_findCases 179 = .ok (.iaload, 1) := by decide +kernel
theorem dX10_findCases_180 : decode cX10_findCases 180 = .ok (.iadd, 1) := by decide +kernel
theorem dX10_findCases_181 : decode cX10_findCases 181 = .ok (.istore 6, 2) := by decide +kernel
theorem dX10_findCases_183 : decode cX10_findCases 183 = .ok (.aload_n 0, 1) := by decide +kernel
theorem dX10_findCases_184 : decode cX10_findCases 184 = .ok (.getfield 50, 3) := by decide +kernel
theorem dX10_findCases_187 : decode cX10_findCases 187 = .ok (.iload_n 1, 1) := by decide +kernel
theorem dX10_findCases_188 : decode cX10_findCases 188 = .ok (.iaload, 1) := by decide +kernel
theorem dX10_findCases_189 : decode cX10_findCases 189 = .ok (.ifCond .eq 25, 3) := by decide +kernel
theorem dX10_findCases_192 : decode cX10_findCases 192 = .ok (.aload_n 0, 1) := by decide +kernel
theorem dX10_findCases_193 : decode cX10_findCases 193 = .ok (.getfield 50, 3) := by decide +kernel
theorem dX10_findCases_196 : decode cX10_findCases 196 = .ok (.iload_n 1, 1) := by decide +kernel
theorem dX10_findCases_197 : decode cX10_findCases 197 = .ok (.iaload, 1) := by decide +kernel
theorem dX10_findCases_198 : decode cX10_findCases 198 = .ok (.sipush 1000, 3) := by decide +kernel
theorem dX10_findCases_201 : decode cX10_findCases 201 = .ok (.irem, 1) := by decide +kernel
theorem dX10_findCases_202 : decode cX10_findCases 202 = .ok (.iload 6, 2) := by decide +kernel
theorem dX10_findCases_204 : decode cX10_findCases 204 = .ok (.iadd, 1) := by decide +kernel
theorem dX10_findCases_205 : decode cX10_findCases 205 = .ok (.aload_n 0, 1) := by decide +kernel
theorem dX10_findCases_206 : decode cX10_findCases 206 = .ok (.getfield 9, 3) := by decide +kernel
theorem dX10_findCases_209 : decode cX10_findCases 209 = .ok (.iconst 3, 1) := by decide +kernel
theorem dX10_findCases_210 : decode cX10_findCases 210 = .ok (.iaload, 1) := by decide +kernel
theorem dX10_findCases_211 : decode cX10_findCases 211 = .ok (.if_icmp .le 7, 3) := by decide +kernel
theorem dX10_findCases_214 : decode cX10_findCases 214 = .ok (.iconst 1, 1) := by decide +kernel
theorem dX10_findCases_215 : decode cX10_findCases 215 = .ok (.goto 4, 3) := by decide +kernel
theorem dX10_findCases_218 : decode cX10_findCases 218 = .ok (.iconst 0, 1) := by decide +kernel
theorem dX10_findCases_219 : decode cX10_findCases 219 = .ok (.istore 7, 2) := by decide +kernel
theorem dX10_findCases_221 : decode cX10_findCases 221 = .ok (.iload 7, 2) := by decide +kernel
theorem dX10_findCases_223 : decode cX10_findCases 223 = .ok (.ifCond .eq 27, 3) := by decide +kernel
theorem dX10_findCases_226 : decode cX10_findCases 226 = .ok (.aload_n 0, 1) := by decide +kernel
theorem dX10_findCases_227 : decode cX10_findCases 227 = .ok (.getfield 50, 3) := by decide +kernel
theorem dX10_findCases_230 : decode cX10_findCases 230 = .ok (.iload_n 1, 1) := by decide +kernel
theorem dX10_findCases_231 : decode cX10_findCases 231 = .ok (.iaload, 1) := by decide +kernel
theorem dX10_findCases_232 : decode cX10_findCases 232 = .ok (.sipush 1000, 3) := by decide +kernel
theorem dX10_findCases_235 : decode cX10_findCases 235 = .ok (.idiv, 1) := by decide +kernel
theorem dX10_findCases_236 : decode cX10_findCases 236 = .ok (.sipush 1000, 3) := by decide +kernel
theorem dX10_findCases_239 : decode cX10_findCases 239 = .ok (.imul, 1) := by decide +kernel
theorem dX10_findCases_240 : decode cX10_findCases 240 = .ok (.sipush 1000, 3) := by decide +kernel
theorem dX10_findCases_243 : decode cX10_findCases 243 = .ok (.iadd, 1) := by decide +kernel
theorem dX10_findCases_244 : decode cX10_findCases 244 = .ok (.iload 6, 2) := by decide +kernel
theorem dX10_findCases_246 : decode cX10_findCases 246 = .ok (.iadd, 1) := by decide +kernel
theorem dX10_findCases_247 : decode cX10_findCases 247 = .ok (.goto 12, 3) := by decide +kernel
theorem dX10_findCases_250 : decode cX10_findCases 250 = .ok (.aload_n 0, 1) := by decide +kernel
theorem dX10_findCases_251 : decode cX10_findCases 251 = .ok (.getfield 50, 3) := by decide +kernel
theorem dX10_findCases_254 : decode cX10_findCases 254 = .ok (.iload_n 1, 1) := by decide +kernel
theorem dX10_findCases_255 : decode cX10_findCases 255 = .ok (.iaload, 1) := by decide +kernel
theorem dX10_findCases_256 : decode cX10_findCases 256 = .ok (.iload 6, 2) := by decide +kernel
theorem dX10_findCases_258 : decode cX10_findCases 258 = .ok (.iadd, 1) := by decide +kernel
theorem dX10_findCases_259 : decode cX10_findCases 259 = .ok (.istore 8, 2) := by decide +kernel
theorem dX10_findCases_261 : decode cX10_findCases 261 = .ok (.aload_n 0, 1) := by decide +kernel
theorem dX10_findCases_262 : decode cX10_findCases 262 = .ok (.getfield 50, 3) := by decide +kernel
theorem dX10_findCases_265 : decode cX10_findCases 265 = .ok (.iload 4, 2) := by decide +kernel
theorem dX10_findCases_267 : decode cX10_findCases 267 = .ok (.iconst 1, 1) := by decide +kernel
theorem dX10_findCases_268 : decode cX10_findCases 268 = .ok (.iadd, 1) := by decide +kernel
theorem dX10_findCases_269 : decode cX10_findCases 269 = .ok (.aload_n 0, 1) := by decide +kernel
theorem dX10_findCases_270 : decode cX10_findCases 270 = .ok (.getfield 50, 3) := by decide +kernel
theorem dX10_findCases_273 : decode cX10_findCases 273 = .ok (.iload 4, 2) := by decide +kernel
theorem dX10_findCases_275 : decode cX10_findCases 275 = .ok (.iconst 1, 1) := by decide +kernel
theorem dX10_findCases_276 : decode cX10_findCases 276 = .ok (.iadd, 1) := by decide +kernel
theorem dX10_findCases_277 : decode cX10_findCases 277 = .ok (.iaload, 1) := by decide +kernel
theorem dX10_findCases_278 : decode cX10_findCases 278 = .ok (.ifCond .lt 17, 3) := by decide +kernel
theorem dX10_findCases_281 : decode cX10_findCases 281 = .ok (.iload 8, 2) := by decide +kernel
theorem dX10_findCases_283 : decode cX10_findCases 283 = .ok (.aload_n 0, 1) := by decide +kernel
theorem dX10_findCases_284 : decode cX10_findCases 284 = .ok (.getfield 50, 3) := by decide +kernel
theorem dX10_findCases_287 : decode cX10_findCases 287 = .ok (.iload 4, 2) := by decide +kernel
theorem dX10_findCases_289 : decode cX10_findCases 289 = .ok (.iconst 1, 1) := by decide +kernel
theorem dX10_findCases_290 : decode cX10_findCases 290 = .ok (.iadd, 1) := by decide +kernel
theorem dX10_findCases_291 : decode cX10_findCases 291 = .ok (.iaload, 1) := by decide +kernel
theorem dX10_findCases_292 : decode cX10_findCases 292 = .ok (.if_icmp .ge 8, 3) := by decide +kernel
theorem dX10_findCases_295 : decode cX10_findCases 295 = .ok (.iload 8, 2) := by decide +kernel
theorem dX10_findCases_297 : decode cX10_findCases 297 = .ok (.goto 12, 3) := by decide +kernel
theorem dX10_findCases_300 : decode cX10_findCases 300 = .ok (.aload_n 0, 1) := by decide +kernel
theorem dX10_findCases_301 : decode cX10_findCases 301 = .ok (.getfield 50, 3) := by decide +kernel
theorem dX10_findCases_304 : decode cX10_findCases 304 = .ok (.iload 4, 2) := by decide +kernel
theorem dX10_findCases_306 : decode cX10_findCases 306 = .ok (.iconst 1, 1) := by decide +kernel
theorem dX10_findCases_307 : decode cX10_findCases 307 = .ok (.iadd, 1) := by decide +kernel
theorem dX10_findCases_308 : decode cX10_findCases 308 = .ok (.iaload, 1) := by decide +kernel
theorem dX10_findCases_309 : decode cX10_findCases 309 = .ok (.iastore, 1) := by decide +kernel
theorem dX10_findCases_310 : decode cX10_findCases 310 = .ok (.iinc 4 1, 3) := by decide +kernel
theorem dX10_findCases_313 : decode cX10_findCases 313 = .ok (.goto (-257), 3) := by decide +kernel
theorem dX10_findCases_316 : decode cX10_findCases 316 = .ok (.iinc 1 1, 3) := by decide +kernel
theorem dX10_findCases_319 : decode cX10_findCases 319 = .ok (.goto (-278), 3) := by decide +kernel
theorem dX10_findCases_322 : decode cX10_findCases 322 = .ok (.return_, 1) := by decide +kernel
theorem dX10_cases_0 : decode cX10_cases 0 = .ok (.iload_n 1, 1) := by decide +kernel
theorem dX10_cases_1 : decode cX10_cases 1 = .ok (.iconst 0, 1) := by decide +kernel
theorem dX10_cases_2 : decode cX10_cases 2 = .ok (.iconst 1, 1) := by decide +kernel
theorem dX10_cases_3 : decode cX10_cases 3 = .ok (.invokestatic 117, 3) := by decide +kernel
theorem dX10_cases_6 : decode cX10_cases 6 = .ok (.ifCond .ne 6, 3) := by decide +kernel
theorem dX10_cases_9 : decode cX10_cases 9 = .ok (.ldc 125, 2) := by decide +kernel
theorem dX10_cases_11 : decode cX10_cases 11 = .ok (.ireturn, 1) := by decide +kernel
theorem dX10_cases_12 : decode cX10_cases 12 = .ok (.aload_n 0, 1) := by decide +kernel
theorem dX10_cases_13 : decode cX10_cases 13 = .ok (.invokevirtual 241, 3) := by decide +kernel
theorem dX10_cases_16 : decode cX10_cases 16 = .ok (.aload_n 0, 1) := by decide +kernel
theorem dX10_cases_17 : decode cX10_cases 17 = .ok (.getfield 50, 3) := by decide +kernel
theorem dX10_cases_20 : decode cX10_cases 20 = .ok (.aload_n 0, 1) := by decide +kernel
theorem dX10_cases_21 : decode cX10_cases 21 = .ok (.getfield 206, 3) := by decide +kernel
theorem dX10_cases_24 : decode cX10_cases 24 = .ok (.iaload, 1) := by decide +kernel
theorem dX10_cases_25 : decode cX10_cases 25 = .ok (.ifCond .ge 6, 3) := by decide +kernel
theorem dX10_cases_28 : decode cX10_cases 28 = .ok (.ldc 145, 2) := by decide +kernel
theorem dX10_cases_30 : decode cX10_cases 30 = .ok (.ireturn, 1) := by decide +kernel
theorem dX10_cases_31 : decode cX10_cases 31 = .ok (.iload_n 1, 1) := by decide +kernel
theorem dX10_cases_32 : decode cX10_cases 32 = .ok (.ifCond .ne 19, 3) := by decide +kernel
theorem dX10_cases_35 : decode cX10_cases 35 = .ok (.aload_n 0, 1) := by decide +kernel
theorem dX10_cases_36 : decode cX10_cases 36 = .ok (.getfield 50, 3) := by decide +kernel
theorem dX10_cases_39 : decode cX10_cases 39 = .ok (.aload_n 0, 1) := by decide +kernel
theorem dX10_cases_40 : decode cX10_cases 40 = .ok (.getfield 206, 3) := by decide +kernel
theorem dX10_cases_43 : decode cX10_cases 43 = .ok (.iaload, 1) := by decide +kernel
theorem dX10_cases_44 : decode cX10_cases 44 = .ok (.sipush 1000, 3) := by decide +kernel
theorem dX10_cases_47 : decode cX10_cases 47 = .ok (.idiv, 1) := by decide +kernel
theorem dX10_cases_48 : decode cX10_cases 48 = .ok (.goto 16, 3) := by decide +kernel
theorem dX10_cases_51 : decode cX10_cases 51 = .ok (.aload_n 0, 1) := by decide +kernel
theorem dX10_cases_52 : decode cX10_cases 52 = .ok (.getfield 50, 3) := by decide +kernel
theorem dX10_cases_55 : decode cX10_cases 55 = .ok (.aload_n 0, 1) := by decide +kernel
theorem dX10_cases_56 : decode cX10_cases 56 = .ok (.getfield 206, 3) := by decide +kernel
theorem dX10_cases_59 : decode cX10_cases 59 = .ok (.iaload, 1) := by decide +kernel
theorem dX10_cases_60 : decode cX10_cases 60 = .ok (.sipush 1000, 3) := by decide +kernel
theorem dX10_cases_63 : decode cX10_cases 63 = .ok (.irem, 1) := by decide +kernel
theorem dX10_cases_64 : decode cX10_cases 64 = .ok (.ireturn, 1) := by decide +kernel
theorem dX10_findUnlike_0 : decode cX10_findUnlike 0 = .ok (.aload_n 0, 1) := by decide +kernel
theorem dX10_findUnlike_1 : decode cX10_findUnlike 1 = .ok (.iconst 0, 1) := by decide +kernel
theorem dX10_findUnlike_2 : decode cX10_findUnlike 2 = .ok (.putfield 244, 3) := by decide +kernel
theorem dX10_findUnlike_5 : decode cX10_findUnlike 5 = .ok (.iconst 1, 1) := by decide +kernel
theorem dX10_findUnlike_6 : decode cX10_findUnlike 6 = .ok (.istore_n 1, 1) := by decide +kernel
theorem dX10_findUnlike_7 : decode cX10_findUnlike 7 = .ok (.iload_n 1, 1) := by decide +kernel
theorem dX10_findUnlike_8 : decode cX10_findUnlike 8 = .ok (.bipush 100, 2) := by decide +kernel
theorem dX10_findUnlike_10 : decode cX10_findUnlike 10 = .ok (.if_icmp .ge 73, 3) := by decide +kernel
theorem dX10_findUnlike_13 : decode cX10_findUnlike 13 = .ok (.iconst 0, 1) := by decide +kernel
theorem dX10_findUnlike_14 : decode cX10_findUnlike 14 = .ok (.istore_n 2, 1) := by decide +kernel
theorem dX10_findUnlike_15 : decode cX10_findUnlike 15 = .ok (.iconst 0, 1) := by decide +kernel
theorem dX10_findUnlike_16 : decode cX10_findUnlike 16 = .ok (.istore_n 3, 1) := by decide +kernel
theorem dX10_findUnlike_17 : decode cX10_findUnlike 17 = .ok (.iload_n 3, 1) := by decide +kernel
theorem dX10_findUnlike_18 : decode cX10_findUnlike 18 = .ok (.aload_n 0, 1) := by decide +kernel
theorem dX10_findUnlike_19 : decode cX10_findUnlike 19 = .ok (.getfield 9, 3) := by decide +kernel
theorem dX10_findUnlike_22 : decode cX10_findUnlike 22 = .ok (.iconst 4, 1) := by decide +kernel
theorem dX10_findUnlike_23 : decode cX10_findUnlike 23 = .ok (.iaload, 1) := by decide +kernel
theorem dX10_findUnlike_24 : decode cX10_findUnlike 24 = .ok (.if_icmp .ge 29, 3) := by decide +kernel
theorem dX10_findUnlike_27 : decode cX10_findUnlike 27 = .ok (.iload_n 2, 1) := by decide +kernel
theorem dX10_findUnlike_28 : decode cX10_findUnlike 28 = .ok (.ifCond .ne 13, 3) := by decide +kernel
theorem dX10_findUnlike_31 : decode cX10_findUnlike 31 = .ok (.aload_n 0, 1) := by decide +kernel
theorem dX10_findUnlike_32 : decode cX10_findUnlike 32 = .ok (.iload_n 3, 1) := by decide +kernel
theorem dX10_findUnlike_33 : decode cX10_findUnlike 33 = .ok (.iconst 0, 1) := by decide +kernel
theorem dX10_findUnlike_34 : decode cX10_findUnlike 34 = .ok (.invokevirtual 134, 3) := by decide +kernel
theorem dX10_findUnlike_37 : decode cX10_findUnlike 37 = .ok (.iload_n 1, 1) := by decide +kernel
theorem dX10_findUnlike_38 : decode cX10_findUnlike 38 = .ok (.if_icmp .ne 7, 3) := by decide +kernel
theorem dX10_findUnlike_41 : decode cX10_findUnlike 41 = .ok (.iconst 1, 1) := by decide +kernel
theorem dX10_findUnlike_42 : decode cX10_findUnlike 42 = .ok (.goto 4, 3) := by decide +kernel
theorem dX10_findUnlike_45 : decode cX10_findUnlike 45 = .ok (.iconst 0, 1) := by decide +kernel
theorem dX10_findUnlike_46 : decode cX10_findUnlike 46 = .ok (.istore_n 2, 1) := by decide +kernel
theorem dX10_findUnlike_47 : decode cX10_findUnlike 47 = .ok (.iinc 3 1, 3) := by decide +kernel
theorem dX10_findUnlike_50 : decode cX10_findUnlike 50 = .ok (.goto (-33), 3) := by decide +kernel
theorem dX10_findUnlike_53 : decode cX10_findUnlike 53 = .ok (.iload_n 2, 1) := by decide +kernel
theorem dX10_findUnlike_54 : decode cX10_findUnlike 54 = .ok (.ifCond .eq 23, 3) := by decide +kernel
theorem dX10_findUnlike_57 : decode cX10_findUnlike 57 = .ok (.aload_n 0, 1) := by decide +kernel
theorem dX10_findUnlike_58 : decode cX10_findUnlike 58 = .ok (.getfield 53, 3) := by decide +kernel
theorem dX10_findUnlike_61 : decode cX10_findUnlike 61 = .ok (.aload_n 0, 1) := by decide +kernel
theorem dX10_findUnlike_62 : decode cX10_findUnlike 62 = .ok (.getfield 244, 3) := by decide +kernel
theorem dX10_findUnlike_65 : decode cX10_findUnlike 65 = .ok (.iload_n 1, 1) := by decide +kernel
theorem dX10_findUnlike_66 : decode cX10_findUnlike 66 = .ok (.iastore, 1) := by decide +kernel
theorem dX10_findUnlike_67 : decode cX10_findUnlike 67 = .ok (.aload_n 0, 1) := by decide +kernel
theorem dX10_findUnlike_68 : decode cX10_findUnlike 68 = .ok (.dup, 1) := by decide +kernel
theorem dX10_findUnlike_69 : decode cX10_findUnlike 69 = .ok (.getfield 244, 3) := by decide +kernel
theorem dX10_findUnlike_72 : decode cX10_findUnlike 72 = .ok (.iconst 1, 1) := by decide +kernel
theorem dX10_findUnlike_73 : decode cX10_findUnlike 73 = .ok (.iadd, 1) := by decide +kernel
theorem dX10_findUnlike_74 : decode cX10_findUnlike 74 = .ok (.putfield 244, 3) := by decide +kernel
theorem dX10_findUnlike_77 : decode cX10_findUnlike 77 = .ok (.iinc 1 1, 3) := by decide +kernel
theorem dX10_findUnlike_80 : decode cX10_findUnlike 80 = .ok (.goto (-73), 3) := by decide +kernel
theorem dX10_findUnlike_83 : decode cX10_findUnlike 83 = .ok (.return_, 1) := by decide +kernel
theorem dX10_tries_0 : decode cX10_tries 0 = .ok (.aload_n 0, 1) := by decide +kernel
theorem dX10_tries_1 : decode cX10_tries 1 = .ok (.iload_n 1, 1) := by decide +kernel
theorem dX10_tries_2 : decode cX10_tries 2 = .ok (.putfield 194, 3) := by decide +kernel
theorem dX10_tries_5 : decode cX10_tries 5 = .ok (.aload_n 0, 1) := by decide +kernel
theorem dX10_tries_6 : decode cX10_tries 6 = .ok (.getfield 29, 3) := by decide +kernel
theorem dX10_tries_9 : decode cX10_tries 9 = .ok (.iconst 0, 1) := by decide +kernel
theorem dX10_tries_10 : decode cX10_tries 10 = .ok (.iload_n 1, 1) := by decide +kernel
theorem dX10_tries_11 : decode cX10_tries 11 = .ok (.iconst 1, 1) := by decide +kernel
theorem dX10_tries_12 : decode cX10_tries 12 = .ok (.if_icmp .ne 17, 3) := by decide +kernel
theorem dX10_tries_15 : decode cX10_tries 15 = .ok (.aload_n 0, 1) := by decide +kernel
theorem dX10_tries_16 : decode cX10_tries 16 = .ok (.getfield 53, 3) := by decide +kernel
theorem dX10_tries_19 : decode cX10_tries 19 = .ok (.aload_n 0, 1) := by decide +kernel
theorem dX10_tries_20 : decode cX10_tries 20 = .ok (.getfield 244, 3) := by decide +kernel
theorem dX10_tries_23 : decode cX10_tries 23 = .ok (.iconst 1, 1) := by decide +kernel
theorem dX10_tries_24 : decode cX10_tries 24 = .ok (.isub, 1) := by decide +kernel
theorem dX10_tries_25 : decode cX10_tries 25 = .ok (.iaload, 1) := by decide +kernel
theorem dX10_tries_26 : decode cX10_tries 26 = .ok (.goto 9, 3) := by decide +kernel
theorem dX10_tries_29 : decode cX10_tries 29 = .ok (.aload_n 0, 1) := by decide +kernel
theorem dX10_tries_30 : decode cX10_tries 30 = .ok (.getfield 53, 3) := by decide +kernel
theorem dX10_tries_33 : decode cX10_tries 33 = .ok (.iload_n 2, 1) := by decide +kernel
theorem dX10_tries_34 : decode cX10_tries 34 = .ok (.iaload, 1) := by decide +kernel
theorem dX10_tries_35 : decode cX10_tries 35 = .ok (.iastore, 1) := by decide +kernel
theorem dX10_tries_36 : decode cX10_tries 36 = .ok (.aload_n 0, 1) := by decide +kernel
theorem dX10_tries_37 : decode cX10_tries 37 = .ok (.getfield 29, 3) := by decide +kernel
theorem dX10_tries_40 : decode cX10_tries 40 = .ok (.iconst 1, 1) := by decide +kernel
theorem dX10_tries_41 : decode cX10_tries 41 = .ok (.iload_n 1, 1) := by decide +kernel
theorem dX10_tries_42 : decode cX10_tries 42 = .ok (.iconst 2, 1) := by decide +kernel
theorem dX10_tries_43 : decode cX10_tries 43 = .ok (.if_icmp .ne 17, 3) := by decide +kernel
theorem dX10_tries_46 : decode cX10_tries 46 = .ok (.aload_n 0, 1) := by decide +kernel
theorem dX10_tries_47 : decode cX10_tries 47 = .ok (.getfield 53, 3) := by decide +kernel
theorem dX10_tries_50 : decode cX10_tries 50 = .ok (.aload_n 0, 1) := by decide +kernel
theorem dX10_tries_51 : decode cX10_tries 51 = .ok (.getfield 244, 3) := by decide +kernel
theorem dX10_tries_54 : decode cX10_tries 54 = .ok (.iconst 1, 1) := by decide +kernel
theorem dX10_tries_55 : decode cX10_tries 55 = .ok (.isub, 1) := by decide +kernel
theorem dX10_tries_56 : decode cX10_tries 56 = .ok (.iaload, 1) := by decide +kernel
theorem dX10_tries_57 : decode cX10_tries 57 = .ok (.goto 9, 3) := by decide +kernel
theorem dX10_tries_60 : decode cX10_tries 60 = .ok (.aload_n 0, 1) := by decide +kernel
theorem dX10_tries_61 : decode cX10_tries 61 = .ok (.getfield 53, 3) := by decide +kernel
theorem dX10_tries_64 : decode cX10_tries 64 = .ok (.iload_n 3, 1) := by decide +kernel
theorem dX10_tries_65 : decode cX10_tries 65 = .ok (.iaload, 1) := by decide +kernel
theorem dX10_tries_66 : decode cX10_tries 66 = .ok (.iastore, 1) := by decide +kernel
theorem dX10_tries_67 : decode cX10_tries 67 = .ok (.aload_n 0, 1) := by decide +kernel
theorem dX10_tries_68 : decode cX10_tries 68 = .ok (.getfield 29, 3) := by decide +kernel
theorem dX10_tries_71 : decode cX10_tries 71 = .ok (.iconst 2, 1) := by decide +kernel
theorem dX10_tries_72 : decode cX10_tries 72 = .ok (.aload_n 0, 1) := by decide +kernel
theorem dX10_tries_73 : decode cX10_tries 73 = .ok (.getfield 53, 3) := by decide +kernel
theorem dX10_tries_76 : decode cX10_tries 76 = .ok (.aload_n 0, 1) := by decide +kernel
theorem dX10_tries_77 : decode cX10_tries 77 = .ok (.getfield 244, 3) := by decide +kernel
theorem dX10_tries_80 : decode cX10_tries 80 = .ok (.iconst 1, 1) := by decide +kernel
theorem dX10_tries_81 : decode cX10_tries 81 = .ok (.isub, 1) := by decide +kernel
theorem dX10_tries_82 : decode cX10_tries 82 = .ok (.iaload, 1) := by decide +kernel
theorem dX10_tries_83 : decode cX10_tries 83 = .ok (.iastore, 1) := by decide +kernel
theorem dX10_tries_84 : decode cX10_tries 84 = .ok (.aload_n 0, 1) := by decide +kernel
theorem dX10_tries_85 : decode cX10_tries 85 = .ok (.invokevirtual 228, 3) := by decide +kernel
theorem dX10_tries_88 : decode cX10_tries 88 = .ok (.istore 4, 2) := by decide +kernel
theorem dX10_tries_90 : decode cX10_tries 90 = .ok (.iload 4, 2) := by decide +kernel
theorem dX10_tries_92 : decode cX10_tries 92 = .ok (.ifCond .lt 54, 3) := by decide +kernel
theorem dX10_tries_95 : decode cX10_tries 95 = .ok (.aload_n 0, 1) := by decide +kernel
theorem dX10_tries_96 : decode cX10_tries 96 = .ok (.getfield 247, 3) := by decide +kernel
theorem dX10_tries_99 : decode cX10_tries 99 = .ok (.ifCond .lt 12, 3) := by decide +kernel
theorem dX10_tries_102 : decode cX10_tries 102 = .ok (.iload 4, 2) := by decide +kernel
theorem dX10_tries_104 : decode cX10_tries 104 = .ok (.aload_n 0, 1) := by decide +kernel
theorem dX10_tries_105 : decode cX10_tries 105 = .ok (.getfield 247, 3) := by decide +kernel
theorem dX10_tries_108 : decode cX10_tries 108 = .ok (.if_icmp .ge 38, 3) := by decide +kernel
theorem dX10_tries_111 : decode cX10_tries 111 = .ok (.aload_n 0, 1) := by decide +kernel
theorem dX10_tries_112 : decode cX10_tries 112 = .ok (.iload 4, 2) := by decide +kernel
theorem dX10_tries_114 : decode cX10_tries 114 = .ok (.putfield 247, 3) := by decide +kernel
theorem dX10_tries_117 : decode cX10_tries 117 = .ok (.iconst 0, 1) := by decide +kernel
theorem dX10_tries_118 : decode cX10_tries 118 = .ok (.istore 5, 2) := by decide +kernel
theorem dX10_tries_120 : decode cX10_tries 120 = .ok (.iload 5, 2) := by decide +kernel
theorem dX10_tries_122 : decode cX10_tries 122 = .ok (.iconst 3, 1) := by decide +kernel
theorem dX10_tries_123 : decode cX10_tries 123 = .ok (.if_icmp .ge 23, 3) := by decide +kernel
theorem dX10_tries_126 : decode cX10_tries 126 = .ok (.aload_n 0, 1) := by decide +kernel
theorem dX10_tries_127 : decode cX10_tries 127 = .ok (.getfield 56, 3) := by decide +kernel
theorem dX10_tries_130 : decode cX10_tries 130 = .ok (.iload 5, 2) := by decide +kernel
theorem dX10_tries_132 : decode cX10_tries 132 = .ok (.aload_n 0, 1) := by decide +kernel
theorem dX10_tries_133 : decode cX10_tries 133 = .ok (.getfield 29, 3) := by decide +kernel
theorem dX10_tries_136 : decode cX10_tries 136 = .ok (.iload 5, 2) := by decide +kernel
theorem dX10_tries_138 : decode cX10_tries 138 = .ok (.iaload, 1) := by decide +kernel
theorem dX10_tries_139 : decode cX10_tries 139 = .ok (.iastore, 1) := by decide +kernel
theorem dX10_tries_140 : decode cX10_tries 140 = .ok (.iinc 5 1, 3) := by decide +kernel
theorem dX10_tries_143 : decode cX10_tries 143 = .ok (.goto (-23), 3) := by decide +kernel
theorem dX10_tries_146 : decode cX10_tries 146 = .ok (.return_, 1) := by decide +kernel
theorem dX10_few_0 : decode cX10_few 0 = .ok (.iload_n 1, 1) := by decide +kernel
theorem dX10_few_1 : decode cX10_few 1 = .ok (.iconst 1, 1) := by decide +kernel
theorem dX10_few_2 : decode cX10_few 2 = .ok (.iconst 3, 1) := by decide +kernel
theorem dX10_few_3 : decode cX10_few 3 = .ok (.invokestatic 117, 3) := by decide +kernel
theorem dX10_few_6 : decode cX10_few 6 = .ok (.ifCond .eq 14, 3) := by decide +kernel
theorem dX10_few_9 : decode cX10_few 9 = .ok (.iload_n 2, 1) := by decide +kernel
theorem dX10_few_10 : decode cX10_few 10 = .ok (.iconst (-1), 1) := by decide +kernel
theorem dX10_few_11 : decode cX10_few 11 = .ok (.iload_n 1, 1) := by decide +kernel
theorem dX10_few_12 : decode cX10_few 12 = .ok (.iconst 1, 1) := by decide +kernel
theorem dX10_few_13 : decode cX10_few 13 = .ok (.isub, 1) := by decide +kernel
theorem dX10_few_14 : decode cX10_few 14 = .ok (.invokestatic 117, 3) := by decide +kernel
theorem dX10_few_17 : decode cX10_few 17 = .ok (.ifCond .ne 6, 3) := by decide +kernel
theorem dX10_few_20 : decode cX10_few 20 = .ok (.ldc 125, 2) := by decide +kernel
theorem dX10_few_22 : decode cX10_few 22 = .ok (.ireturn, 1) := by decide +kernel
theorem dX10_few_23 : decode cX10_few 23 = .ok (.aload_n 0, 1) := by decide +kernel
theorem dX10_few_24 : decode cX10_few 24 = .ok (.invokevirtual 222, 3) := by decide +kernel
theorem dX10_few_27 : decode cX10_few 27 = .ok (.aload_n 0, 1) := by decide +kernel
theorem dX10_few_28 : decode cX10_few 28 = .ok (.invokevirtual 225, 3) := by decide +kernel
theorem dX10_few_31 : decode cX10_few 31 = .ok (.aload_n 0, 1) := by decide +kernel
theorem dX10_few_32 : decode cX10_few 32 = .ok (.invokevirtual 250, 3) := by decide +kernel
theorem dX10_few_35 : decode cX10_few 35 = .ok (.aload_n 0, 1) := by decide +kernel
theorem dX10_few_36 : decode cX10_few 36 = .ok (.iconst (-1), 1) := by decide +kernel
theorem dX10_few_37 : decode cX10_few 37 = .ok (.putfield 247, 3) := by decide +kernel
theorem dX10_few_40 : decode cX10_few 40 = .ok (.aload_n 0, 1) := by decide +kernel
theorem dX10_few_41 : decode cX10_few 41 = .ok (.getfield 244, 3) := by decide +kernel
theorem dX10_few_44 : decode cX10_few 44 = .ok (.iconst 1, 1) := by decide +kernel
theorem dX10_few_45 : decode cX10_few 45 = .ok (.isub, 1) := by decide +kernel
theorem dX10_few_46 : decode cX10_few 46 = .ok (.istore_n 3, 1) := by decide +kernel
theorem dX10_few_47 : decode cX10_few 47 = .ok (.iload_n 1, 1) := by decide +kernel
theorem dX10_few_48 : decode cX10_few 48 = .ok (.iconst 1, 1) := by decide +kernel
theorem dX10_few_49 : decode cX10_few 49 = .ok (.if_icmp .ne 14, 3) := by decide +kernel
theorem dX10_few_52 : decode cX10_few 52 = .ok (.iload_n 3, 1) := by decide +kernel
theorem dX10_few_53 : decode cX10_few 53 = .ok (.ifCond .lt 10, 3) := by decide +kernel
theorem dX10_few_56 : decode cX10_few 56 = .ok (.aload_n 0, 1) := by decide +kernel
theorem dX10_few_57 : decode cX10_few 57 = .ok (.iconst 1, 1) := by decide +kernel
theorem dX10_few_58 : decode cX10_few 58 = .ok (.iconst 0, 1) := by decide +kernel
theorem dX10_few_59 : decode cX10_few 59 = .ok (.iconst 0, 1) := by decide +kernel
theorem dX10_few_60 : decode cX10_few 60 = .ok (.invokevirtual 253, 3) := by decide +kernel
theorem dX10_few_63 : decode cX10_few 63 = .ok (.iconst 0, 1) := by decide +kernel
theorem dX10_few_64 : decode cX10_few 64 = .ok (.istore 4, 2) := by decide +kernel
theorem dX10_few_66 : decode cX10_few 66 = .ok (.iload 4, 2) := by decide +kernel
theorem dX10_few_68 : decode cX10_few 68 = .ok (.iload_n 3, 1) := by decide +kernel
theorem dX10_few_69 : decode cX10_few 69 = .ok (.if_icmp .ge 59, 3) := by decide +kernel
theorem dX10_few_72 : decode cX10_few 72 = .ok (.iload_n 1, 1) := by decide +kernel
theorem dX10_few_73 : decode cX10_few 73 = .ok (.iconst 1, 1) := by decide +kernel
theorem dX10_few_74 : decode cX10_few 74 = .ok (.if_icmp .le 54, 3) := by decide +kernel
theorem dX10_few_77 : decode cX10_few 77 = .ok (.iload_n 1, 1) := by decide +kernel
theorem dX10_few_78 : decode cX10_few 78 = .ok (.iconst 2, 1) := by decide +kernel
theorem dX10_few_79 : decode cX10_few 79 = .ok (.if_icmp .ne 11, 3) := by decide +kernel
theorem dX10_few_82 : decode cX10_few 82 = .ok (.aload_n 0, 1) := by decide +kernel
theorem dX10_few_83 : decode cX10_few 83 = .ok (.iconst 2, 1) := by decide +kernel
theorem dX10_few_84 : decode cX10_few 84 = .ok (.iload 4, 2) := by decide +kernel
theorem dX10_few_86 : decode cX10_few 86 = .ok (.iconst 0, 1) := by decide +kernel
theorem dX10_few_87 : decode cX10_few 87 = .ok (.invokevirtual 253, 3) := by decide +kernel
theorem dX10_few_90 : decode cX10_few 90 = .ok (.iload 4, 2) := by decide +kernel
theorem dX10_few_92 : decode cX10_few 92 = .ok (.iconst 1, 1) := by decide +kernel
theorem dX10_few_93 : decode cX10_few 93 = .ok (.iadd, 1) := by decide +kernel
theorem dX10_few_94 : decode cX10_few 94 = .ok (.istore 5, 2) := by decide +kernel
theorem dX10_few_96 : decode cX10_few 96 = .ok (.iload 5, 2) := by decide +kernel
theorem dX10_few_98 : decode cX10_few 98 = .ok (.iload_n 3, 1) := by decide +kernel
theorem dX10_few_99 : decode cX10_few 99 = .ok (.if_icmp .ge 23, 3) := by decide +kernel
theorem dX10_few_102 : decode cX10_few 102 = .ok (.iload_n 1, 1) := by decide +kernel
theorem dX10_few_103 : decode cX10_few 103 = .ok (.iconst 3, 1) := by decide +kernel
theorem dX10_few_104 : decode cX10_few 104 = .ok (.if_icmp .ne 18, 3) := by decide +kernel
theorem dX10_few_107 : decode cX10_few 107 = .ok (.aload_n 0, 1) := by decide +kernel
theorem dX10_few_108 : decode cX10_few 108 = .ok (.iconst 3, 1) := by decide +kernel
theorem dX10_few_109 : decode cX10_few 109 = .ok (.iload 4, 2) := by decide +kernel
theorem dX10_few_111 : decode cX10_few 111 = .ok (.iload 5, 2) := by decide +kernel
theorem dX10_few_113 : decode cX10_few 113 = .ok (.invokevirtual 253, 3) := by decide +kernel
theorem dX10_few_116 : decode cX10_few 116 = .ok (.iinc 5 1, 3) := by decide +kernel
theorem dX10_few_119 : decode cX10_few 119 = .ok (.goto (-23), 3) := by decide +kernel
theorem dX10_few_122 : decode cX10_few 122 = .ok (.iinc 4 1, 3) := by decide +kernel
theorem dX10_few_125 : decode cX10_few 125 = .ok (.goto (-59), 3) := by decide +kernel
theorem dX10_few_128 : decode cX10_few 128 = .ok (.aload_n 0, 1) := by decide +kernel
theorem dX10_few_129 : decode cX10_few 129 = .ok (.getfield 247, 3) := by decide +kernel
theorem dX10_few_132 : decode cX10_few 132 = .ok (.ifCond .ge 6, 3) := by decide +kernel
theorem dX10_few_135 : decode cX10_few 135 = .ok (.ldc 145, 2) := by decide +kernel
theorem dX10_few_137 : decode cX10_few 137 = .ok (.ireturn, 1) := by decide +kernel
theorem dX10_few_138 : decode cX10_few 138 = .ok (.iload_n 2, 1) := by decide +kernel
theorem dX10_few_139 : decode cX10_few 139 = .ok (.ifCond .ge 10, 3) := by decide +kernel
theorem dX10_few_142 : decode cX10_few 142 = .ok (.aload_n 0, 1) := by decide +kernel
theorem dX10_few_143 : decode cX10_few 143 = .ok (.getfield 247, 3) := by decide +kernel
theorem dX10_few_146 : decode cX10_few 146 = .ok (.goto 9, 3) := by decide +kernel
theorem dX10_few_149 : decode cX10_few 149 = .ok (.aload_n 0, 1) := by decide +kernel
theorem dX10_few_150 : decode cX10_few 150 = .ok (.getfield 56, 3) := by decide +kernel
theorem dX10_few_153 : decode cX10_few 153 = .ok (.iload_n 2, 1) := by decide +kernel
theorem dX10_few_154 : decode cX10_few 154 = .ok (.iaload, 1) := by decide +kernel
theorem dX10_few_155 : decode cX10_few 155 = .ok (.ireturn, 1) := by decide +kernel
theorem dX10_settleSome_0 : decode cX10_settleSome 0 = .ok (.aload_n 0, 1) := by decide +kernel
theorem dX10_settleSome_1 : decode cX10_settleSome 1 = .ok (.iconst 0, 1) := by decide +kernel
theorem dX10_settleSome_2 : decode cX10_settleSome 2 = .ok (.putfield 206, 3) := by decide +kernel
theorem dX10_settleSome_5 : decode cX10_settleSome 5 = .ok (.iconst 0, 1) := by decide +kernel
theorem dX10_settleSome_6 : decode cX10_settleSome 6 = .ok (.istore_n 3, 1) := by decide +kernel
theorem dX10_settleSome_7 : decode cX10_settleSome 7 = .ok (.iload_n 3, 1) := by decide +kernel
theorem dX10_settleSome_8 : decode cX10_settleSome 8 = .ok (.aload_n 0, 1) := by decide +kernel
theorem dX10_settleSome_9 : decode cX10_settleSome 9 = .ok (.getfield 9, 3) := by decide +kernel
theorem dX10_settleSome_12 : decode cX10_settleSome 12 = .ok (.iconst 4, 1) := by decide +kernel
theorem dX10_settleSome_13 : decode cX10_settleSome 13 = .ok (.iaload, 1) := by decide +kernel
theorem dX10_settleSome_14 : decode cX10_settleSome 14 = .ok (.if_icmp .ge 45, 3) := by decide +kernel
theorem dX10_settleSome_17 : decode cX10_settleSome 17 = .ok (.aload_n 0, 1) := by decide +kernel
theorem dX10_settleSome_18 : decode cX10_settleSome 18 = .ok (.iload_n 3, 1) := by decide +kernel
theorem dX10_settleSome_19 : decode cX10_settleSome 19 = .ok (.iconst 0, 1) := by decide +kernel
theorem dX10_settleSome_20 : decode cX10_settleSome 20 = .ok (.invokevirtual 134, 3) := by decide +kernel
theorem dX10_settleSome_23 : decode cX10_settleSome 23 = .ok (.iload_n 1, 1) := by decide +kernel
theorem dX10_settleSome_24 : decode cX10_settleSome 24 = .ok (.if_icmp .lt 7, 3) := by decide +kernel
theorem dX10_settleSome_27 : decode cX10_settleSome 27 = .ok (.iconst 1, 1) := by decide +kernel
theorem dX10_settleSome_28 : decode cX10_settleSome 28 = .ok (.goto 4, 3) := by decide +kernel
theorem dX10_settleSome_31 : decode cX10_settleSome 31 = .ok (.iconst 0, 1) := by decide +kernel
theorem dX10_settleSome_32 : decode cX10_settleSome 32 = .ok (.iload_n 2, 1) := by decide +kernel
theorem dX10_settleSome_33 : decode cX10_settleSome 33 = .ok (.if_icmp .ne 20, 3) := by decide +kernel
theorem dX10_settleSome_36 : decode cX10_settleSome 36 = .ok (.aload_n 0, 1) := by decide +kernel
theorem dX10_settleSome_37 : decode cX10_settleSome 37 = .ok (.aload_n 0, 1) := by decide +kernel
theorem dX10_settleSome_38 : decode cX10_settleSome 38 = .ok (.iload_n 3, 1) := by decide +kernel
theorem dX10_settleSome_39 : decode cX10_settleSome 39 = .ok (.iconst 0, 1) := by decide +kernel
theorem dX10_settleSome_40 : decode cX10_settleSome 40 = .ok (.invokevirtual 134, 3) := by decide +kernel
theorem dX10_settleSome_43 : decode cX10_settleSome 43 = .ok (.aload_n 0, 1) := by decide +kernel
theorem dX10_settleSome_44 : decode cX10_settleSome 44 = .ok (.iload_n 3, 1) := by decide +kernel
theorem dX10_settleSome_45 : decode cX10_settleSome 45 = .ok (.iconst 1, 1) := by decide +kernel
theorem dX10_settleSome_46 : decode cX10_settleSome 46 = .ok (.invokevirtual 134, 3) := by decide +kernel
theorem dX10_settleSome_49 : decode cX10_settleSome 49 = .ok (.iconst 0, 1) := by decide +kernel
theorem dX10_settleSome_50 : decode cX10_settleSome 50 = .ok (.invokevirtual 209, 3) := by decide +kernel
theorem dX10_settleSome_53 : decode cX10_settleSome 53 = .ok (.iinc 3 1, 3) := by decide +kernel
theorem dX10_settleSome_56 : decode cX10_settleSome 56 = .ok (.goto (-49), 3) := by decide +kernel
theorem dX10_settleSome_59 : decode cX10_settleSome 59 = .ok (.aload_n 0, 1) := by decide +kernel
theorem dX10_settleSome_60 : decode cX10_settleSome 60 = .ok (.invokevirtual 228, 3) := by decide +kernel
theorem dX10_settleSome_63 : decode cX10_settleSome 63 = .ok (.ireturn, 1) := by decide +kernel
theorem dX10_walksFrom_0 : decode cX10_walksFrom 0 = .ok (.iconst 0, 1) := by decide +kernel
theorem dX10_walksFrom_1 : decode cX10_walksFrom 1 = .ok (.istore_n 2, 1) := by decide +kernel
theorem dX10_walksFrom_2 : decode cX10_walksFrom 2 = .ok (.aload_n 0, 1) := by decide +kernel
theorem dX10_walksFrom_3 : decode cX10_walksFrom 3 = .ok (.iconst 1, 1) := by decide +kernel
theorem dX10_walksFrom_4 : decode cX10_walksFrom 4 = .ok (.invokevirtual 197, 3) := by decide +kernel
theorem dX10_walksFrom_7 : decode cX10_walksFrom 7 = .ok (.istore_n 3, 1) := by decide +kernel
theorem dX10_walksFrom_8 : decode cX10_walksFrom 8 = .ok (.iconst 0, 1) := by decide +kernel
theorem dX10_walksFrom_9 : decode cX10_walksFrom 9 = .ok (.istore 4, 2) := by decide +kernel
theorem dX10_walksFrom_11 : decode cX10_walksFrom 11 = .ok (.iload 4, 2) := by decide +kernel
theorem dX10_walksFrom_13 : decode cX10_walksFrom 13 = .ok (.aload_n 0, 1) := by decide +kernel
theorem dX10_walksFrom_14 : decode cX10_walksFrom 14 = .ok (.getfield 9, 3) := by decide +kernel
theorem dX10_walksFrom_17 : decode cX10_walksFrom 17 = .ok (.iconst 4, 1) := by decide +kernel
theorem dX10_walksFrom_18 : decode cX10_walksFrom 18 = .ok (.iaload, 1) := by decide +kernel
theorem dX10_walksFrom_19 : decode cX10_walksFrom 19 = .ok (.if_icmp .ge 69, 3) := by decide +kernel
theorem dX10_walksFrom_22 : decode cX10_walksFrom 22 = .ok (.aload_n 0, 1) := by decide +kernel
theorem dX10_walksFrom_23 : decode cX10_walksFrom 23 = .ok (.iload 4, 2) := by decide +kernel
theorem dX10_walksFrom_25 : decode cX10_walksFrom 25 = .ok (.iconst 0, 1) := by decide +kernel
theorem dX10_walksFrom_26 : decode cX10_walksFrom 26 = .ok (.invokevirtual 134, 3) := by decide +kernel
theorem dX10_walksFrom_29 : decode cX10_walksFrom 29 = .ok (.iload_n 1, 1) := by decide +kernel
theorem dX10_walksFrom_30 : decode cX10_walksFrom 30 = .ok (.if_icmp .lt 52, 3) := by decide +kernel
theorem dX10_walksFrom_33 : decode cX10_walksFrom 33 = .ok (.aload_n 0, 1) := by decide +kernel
theorem dX10_walksFrom_34 : decode cX10_walksFrom 34 = .ok (.getfield 81, 3) := by decide +kernel
theorem dX10_walksFrom_37 : decode cX10_walksFrom 37 = .ok (.iconst 0, 1) := by decide +kernel
theorem dX10_walksFrom_38 : decode cX10_walksFrom 38 = .ok (.aload_n 0, 1) := by decide +kernel
theorem dX10_walksFrom_39 : decode cX10_walksFrom 39 = .ok (.iload 4, 2) := by decide +kernel
theorem dX10_walksFrom_41 : decode cX10_walksFrom 41 = .ok (.iconst 0, 1) := by decide +kernel
theorem dX10_walksFrom_42 : decode cX10_walksFrom 42 = .ok (.invokevirtual 134, 3) := by decide +kernel
theorem dX10_walksFrom_45 : decode cX10_walksFrom 45 = .ok (.iastore, 1) := by decide +kernel
theorem dX10_walksFrom_46 : decode cX10_walksFrom 46 = .ok (.aload_n 0, 1) := by decide +kernel
theorem dX10_walksFrom_47 : decode cX10_walksFrom 47 = .ok (.getfield 81, 3) := by decide +kernel
theorem dX10_walksFrom_50 : decode cX10_walksFrom 50 = .ok (.iconst 1, 1) := by decide +kernel
theorem dX10_walksFrom_51 : decode cX10_walksFrom 51 = .ok (.aload_n 0, 1) := by decide +kernel
theorem dX10_walksFrom_52 : decode cX10_walksFrom 52 = .ok (.iload 4, 2) := by decide +kernel
theorem dX10_walksFrom_54 : decode cX10_walksFrom 54 = .ok (.iconst 2, 1) := by decide +kernel
theorem dX10_walksFrom_55 : decode cX10_walksFrom 55 = .ok (.invokevirtual 134, 3) := by decide +kernel
theorem dX10_walksFrom_58 : decode cX10_walksFrom 58 = .ok (.iastore, 1) := by decide +kernel
theorem dX10_walksFrom_59 : decode cX10_walksFrom 59 = .ok (.iload_n 2, 1) := by decide +kernel
theorem dX10_walksFrom_60 : decode cX10_walksFrom 60 = .ok (.iload_n 3, 1) := by decide +kernel
theorem dX10_walksFrom_61 : decode cX10_walksFrom 61 = .ok (.ifCond .ge 7, 3) := by decide +kernel
theorem dX10_walksFrom_64 : decode cX10_walksFrom 64 = .ok (.iconst 5, 1) := by decide +kernel
theorem dX10_walksFrom_65 : decode cX10_walksFrom 65 = .ok (.goto 15, 3) := by decide +kernel
theorem dX10_walksFrom_68 : decode cX10_walksFrom 68 = .ok (.aload_n 0, 1) := by decide +kernel
theorem dX10_walksFrom_69 : decode cX10_walksFrom 69 = .ok (.iload_n 3, 1) := by decide +kernel
theorem dX10_walksFrom_70 : decode cX10_walksFrom 70 = .ok (.invokevirtual 200, 3) := by decide +kernel
theorem dX10_walksFrom_73 : decode cX10_walksFrom 73 = .ok (.iconst 0, 1) := by decide +kernel
theorem dX10_walksFrom_74 : decode cX10_walksFrom 74 = .ok (.sipush 999, 3) := by decide +kernel
theorem dX10_walksFrom_77 : decode cX10_walksFrom 77 = .ok (.invokestatic 203, 3) := by decide +kernel
theorem dX10_walksFrom_80 : decode cX10_walksFrom 80 = .ok (.iadd, 1) := by decide +kernel
theorem dX10_walksFrom_81 : decode cX10_walksFrom 81 = .ok (.istore_n 2, 1) := by decide +kernel
theorem dX10_walksFrom_82 : decode cX10_walksFrom 82 = .ok (.iinc 4 1, 3) := by decide +kernel
theorem dX10_walksFrom_85 : decode cX10_walksFrom 85 = .ok (.goto (-74), 3) := by decide +kernel
theorem dX10_walksFrom_88 : decode cX10_walksFrom 88 = .ok (.iload_n 2, 1) := by decide +kernel
theorem dX10_walksFrom_89 : decode cX10_walksFrom 89 = .ok (.ireturn, 1) := by decide +kernel
theorem dX10_apartFrom_0 : decode cX10_apartFrom 0 = .ok (.aload_n 0, 1) := by decide +kernel
theorem dX10_apartFrom_1 : decode cX10_apartFrom 1 = .ok (.iload_n 1, 1) := by decide +kernel
theorem dX10_apartFrom_2 : decode cX10_apartFrom 2 = .ok (.iconst 1, 1) := by decide +kernel
theorem dX10_apartFrom_3 : decode cX10_apartFrom 3 = .ok (.invokevirtual 256, 3) := by decide +kernel
theorem dX10_apartFrom_6 : decode cX10_apartFrom 6 = .ok (.istore_n 2, 1) := by decide +kernel
theorem dX10_apartFrom_7 : decode cX10_apartFrom 7 = .ok (.aload_n 0, 1) := by decide +kernel
theorem dX10_apartFrom_8 : decode cX10_apartFrom 8 = .ok (.iload_n 1, 1) := by decide +kernel
theorem dX10_apartFrom_9 : decode cX10_apartFrom 9 = .ok (.iconst 0, 1) := by decide +kernel
theorem dX10_apartFrom_10 : decode cX10_apartFrom 10 = .ok (.invokevirtual 256, 3) := by decide +kernel
theorem dX10_apartFrom_13 : decode cX10_apartFrom 13 = .ok (.istore_n 3, 1) := by decide +kernel
theorem dX10_apartFrom_14 : decode cX10_apartFrom 14 = .ok (.iload_n 2, 1) := by decide +kernel
theorem dX10_apartFrom_15 : decode cX10_apartFrom 15 = .ok (.ifCond .lt 7, 3) := by decide +kernel
theorem dX10_apartFrom_18 : decode cX10_apartFrom 18 = .ok (.iload_n 3, 1) := by decide +kernel
theorem dX10_apartFrom_19 : decode cX10_apartFrom 19 = .ok (.ifCond .ge 7, 3) := by decide +kernel
theorem dX10_apartFrom_22 : decode cX10_apartFrom 22 = .ok (.iconst (-1), 1) := by decide +kernel
theorem dX10_apartFrom_23 : decode cX10_apartFrom 23 = .ok (.goto 12, 3) := by decide +kernel
theorem dX10_apartFrom_26 : decode cX10_apartFrom 26 = .ok (.iload_n 2, 1) := by decide +kernel
theorem dX10_apartFrom_27 : decode cX10_apartFrom 27 = .ok (.iload_n 3, 1) := by decide +kernel
theorem dX10_apartFrom_28 : decode cX10_apartFrom 28 = .ok (.iadd, 1) := by decide +kernel
theorem dX10_apartFrom_29 : decode cX10_apartFrom 29 = .ok (.aload_n 0, 1) := by decide +kernel
theorem dX10_apartFrom_30 : decode cX10_apartFrom 30 = .ok (.iload_n 1, 1) := by decide +kernel
theorem dX10_apartFrom_31 : decode cX10_apartFrom 31 = .ok (.invokevirtual 260, 3) := by decide +kernel
theorem dX10_apartFrom_34 : decode cX10_apartFrom 34 = .ok (.iadd, 1) := by decide +kernel
theorem dX10_apartFrom_35 : decode cX10_apartFrom 35 = .ok (.ireturn, 1) := by decide +kernel
theorem dX10_apart_0 : decode cX10_apart 0 = .ok (.iload_n 1, 1) := by decide +kernel
theorem dX10_apart_1 : decode cX10_apart 1 = .ok (.iconst 1, 1) := by decide +kernel
theorem dX10_apart_2 : decode cX10_apart 2 = .ok (.bipush 100, 2) := by decide +kernel
theorem dX10_apart_4 : decode cX10_apart 4 = .ok (.invokestatic 117, 3) := by decide +kernel
theorem dX10_apart_7 : decode cX10_apart 7 = .ok (.ifCond .ne 6, 3) := by decide +kernel
theorem dX10_apart_10 : decode cX10_apart 10 = .ok (.ldc 125, 2) := by decide +kernel
theorem dX10_apart_12 : decode cX10_apart 12 = .ok (.ireturn, 1) := by decide +kernel
theorem dX10_apart_13 : decode cX10_apart 13 = .ok (.aload_n 0, 1) := by decide +kernel
theorem dX10_apart_14 : decode cX10_apart 14 = .ok (.invokevirtual 222, 3) := by decide +kernel
theorem dX10_apart_17 : decode cX10_apart 17 = .ok (.aload_n 0, 1) := by decide +kernel
theorem dX10_apart_18 : decode cX10_apart 18 = .ok (.iload_n 1, 1) := by decide +kernel
theorem dX10_apart_19 : decode cX10_apart 19 = .ok (.invokevirtual 263, 3) := by decide +kernel
theorem dX10_apart_22 : decode cX10_apart 22 = .ok (.istore_n 2, 1) := by decide +kernel
theorem dX10_apart_23 : decode cX10_apart 23 = .ok (.iload_n 2, 1) := by decide +kernel
theorem dX10_apart_24 : decode cX10_apart 24 = .ok (.ifCond .ge 8, 3) := by decide +kernel
theorem dX10_apart_27 : decode cX10_apart 27 = .ok (.ldc 145, 2) := by decide +kernel
theorem dX10_apart_29 : decode cX10_apart 29 = .ok (.goto 4, 3) := by decide +kernel
theorem dX10_apart_32 : decode cX10_apart 32 = .ok (.iload_n 2, 1) := by decide +kernel
theorem dX10_apart_33 : decode cX10_apart 33 = .ok (.ireturn, 1) := by decide +kernel
theorem dX10_edge_0 : decode cX10_edge 0 = .ok (.aload_n 0, 1) := by decide +kernel
theorem dX10_edge_1 : decode cX10_edge 1 = .ok (.invokevirtual 222, 3) := by decide +kernel
theorem dX10_edge_4 : decode cX10_edge 4 = .ok (.ldc 145, 2) := by decide +kernel
theorem dX10_edge_6 : decode cX10_edge 6 = .ok (.istore_n 1, 1) := by decide +kernel
theorem dX10_edge_7 : decode cX10_edge 7 = .ok (.iconst 0, 1) := by decide +kernel
theorem dX10_edge_8 : decode cX10_edge 8 = .ok (.istore_n 2, 1) := by decide +kernel
theorem dX10_edge_9 : decode cX10_edge 9 = .ok (.bipush 100, 2) := by decide +kernel
theorem dX10_edge_11 : decode cX10_edge 11 = .ok (.istore_n 3, 1) := by decide +kernel
theorem dX10_edge_12 : decode cX10_edge 12 = .ok (.iload_n 3, 1) := by decide +kernel
theorem dX10_edge_13 : decode cX10_edge 13 = .ok (.ifCond .le 38, 3) := by decide +kernel
theorem dX10_edge_16 : decode cX10_edge 16 = .ok (.aload_n 0, 1) := by decide +kernel
theorem dX10_edge_17 : decode cX10_edge 17 = .ok (.iload_n 3, 1) := by decide +kernel
theorem dX10_edge_18 : decode cX10_edge 18 = .ok (.invokevirtual 263, 3) := by decide +kernel
theorem dX10_edge_21 : decode cX10_edge 21 = .ok (.istore 4, 2) := by decide +kernel
theorem dX10_edge_23 : decode cX10_edge 23 = .ok (.iload 4, 2) := by decide +kernel
theorem dX10_edge_25 : decode cX10_edge 25 = .ok (.ifCond .lt 20, 3) := by decide +kernel
theorem dX10_edge_28 : decode cX10_edge 28 = .ok (.iload_n 1, 1) := by decide +kernel
theorem dX10_edge_29 : decode cX10_edge 29 = .ok (.ldc 145, 2) := by decide +kernel
theorem dX10_edge_31 : decode cX10_edge 31 = .ok (.if_icmp .eq 9, 3) := by decide +kernel
theorem dX10_edge_34 : decode cX10_edge 34 = .ok (.iload 4, 2) := by decide +kernel
theorem dX10_edge_36 : decode cX10_edge 36 = .ok (.iload_n 2, 1) := by decide +kernel
theorem dX10_edge_37 : decode cX10_edge 37 = .ok (.if_icmp .ge 8, 3) := by decide +kernel
theorem dX10_edge_40 : decode cX10_edge 40 = .ok (.iload_n 3, 1) := by decide +kernel
theorem dX10_edge_41 : decode cX10_edge 41 = .ok (.istore_n 1, 1) := by decide +kernel
theorem dX10_edge_42 : decode cX10_edge 42 = .ok (.iload 4, 2) := by decide +kernel
theorem dX10_edge_44 : decode cX10_edge 44 = .ok (.istore_n 2, 1) := by decide +kernel
theorem dX10_edge_45 : decode cX10_edge 45 = .ok (.iinc 3 (-1), 3) := by decide +kernel
theorem dX10_edge_48 : decode cX10_edge 48 = .ok (.goto (-36), 3) := by decide +kernel
theorem dX10_edge_51 : decode cX10_edge 51 = .ok (.iload_n 1, 1) := by decide +kernel
theorem dX10_edge_52 : decode cX10_edge 52 = .ok (.ireturn, 1) := by decide +kernel
theorem dX10_feed_0 : decode cX10_feed 0 = .ok (.aload_n 0, 1) := by decide +kernel
theorem dX10_feed_1 : decode cX10_feed 1 = .ok (.getfield 266, 3) := by decide +kernel
theorem dX10_feed_4 : decode cX10_feed 4 = .ok (.bipush 12, 2) := by decide +kernel
theorem dX10_feed_6 : decode cX10_feed 6 = .ok (.iadd, 1) := by decide +kernel
theorem dX10_feed_7 : decode cX10_feed 7 = .ok (.bipush 96, 2) := by decide +kernel
theorem dX10_feed_9 : decode cX10_feed 9 = .ok (.if_icmp .le 6, 3) := by decide +kernel
theorem dX10_feed_12 : decode cX10_feed 12 = .ok (.ldc 126, 2) := by decide +kernel
theorem dX10_feed_14 : decode cX10_feed 14 = .ok (.ireturn, 1) := by decide +kernel
theorem dX10_feed_15 : decode cX10_feed 15 = .ok (.iconst 0, 1) := by decide +kernel
theorem dX10_feed_16 : decode cX10_feed 16 = .ok (.istore 4, 2) := by decide +kernel
theorem dX10_feed_18 : decode cX10_feed 18 = .ok (.iload 4, 2) := by decide +kernel
theorem dX10_feed_20 : decode cX10_feed 20 = .ok (.bipush 12, 2) := by decide +kernel
theorem dX10_feed_22 : decode cX10_feed 22 = .ok (.if_icmp .ge 62, 3) := by decide +kernel
theorem dX10_feed_25 : decode cX10_feed 25 = .ok (.iload 4, 2) := by decide +kernel
theorem dX10_feed_27 : decode cX10_feed 27 = .ok (.iconst 4, 1) := by decide +kernel
theorem dX10_feed_28 : decode cX10_feed 28 = .ok (.if_icmp .ge 7, 3) := by decide +kernel
theorem dX10_feed_31 : decode cX10_feed 31 = .ok (.iload_n 1, 1) := by decide +kernel
theorem dX10_feed_32 : decode cX10_feed 32 = .ok (.goto 15, 3) := by decide +kernel
theorem dX10_feed_35 : decode cX10_feed 35 = .ok (.iload 4, 2) := by decide +kernel
theorem dX10_feed_37 : decode cX10_feed 37 = .ok (.bipush 8, 2) := by decide +kernel
theorem dX10_feed_39 : decode cX10_feed 39 = .ok (.if_icmp .ge 7, 3) := by decide +kernel
theorem dX10_feed_42 : decode cX10_feed 42 = .ok (.iload_n 2, 1) := by decide +kernel
theorem dX10_feed_43 : decode cX10_feed 43 = .ok (.goto 4, 3) := by decide +kernel
theorem dX10_feed_46 : decode cX10_feed 46 = .ok (.iload_n 3, 1) := by decide +kernel
theorem dX10_feed_47 : decode cX10_feed 47 = .ok (.istore 5, 2) := by decide +kernel
theorem dX10_feed_49 : decode cX10_feed 49 = .ok (.aload_n 0, 1) := by decide +kernel
theorem dX10_feed_50 : decode cX10_feed 50 = .ok (.getfield 59, 3) := by decide +kernel
theorem dX10_feed_53 : decode cX10_feed 53 = .ok (.aload_n 0, 1) := by decide +kernel
theorem dX10_feed_54 : decode cX10_feed 54 = .ok (.getfield 266, 3) := by decide +kernel
theorem dX10_feed_57 : decode cX10_feed 57 = .ok (.iload 4, 2) := by decide +kernel
theorem dX10_feed_59 : decode cX10_feed 59 = .ok (.iadd, 1) := by decide +kernel
theorem dX10_feed_60 : decode cX10_feed 60 = .ok (.iload 5, 2) := by decide +kernel
theorem dX10_feed_62 : decode cX10_feed 62 = .ok (.bipush 24, 2) := by decide +kernel
theorem dX10_feed_64 : decode cX10_feed 64 = .ok (.bipush 8, 2) := by decide +kernel
theorem dX10_feed_66 : decode cX10_feed 66 = .ok (.iload 4, 2) := by decide +kernel
theorem dX10_feed_68 : decode cX10_feed 68 = .ok (.iconst 4, 1) := by decide +kernel
theorem dX10_feed_69 : decode cX10_feed 69 = .ok (.irem, 1) := by decide +kernel
theorem dX10_feed_70 : decode cX10_feed 70 = .ok (.imul, 1) := by decide +kernel
theorem dX10_feed_71 : decode cX10_feed 71 = .ok (.isub, 1) := by decide +kernel
theorem dX10_feed_72 : decode cX10_feed 72 = .ok (.ishr, 1) := by decide +kernel
theorem dX10_feed_73 : decode cX10_feed 73 = .ok (.sipush 255, 3) := by decide +kernel
theorem dX10_feed_76 : decode cX10_feed 76 = .ok (.iand, 1) := by decide +kernel
theorem dX10_feed_77 : decode cX10_feed 77 = .ok (.iastore, 1) := by decide +kernel
theorem dX10_feed_78 : decode cX10_feed 78 = .ok (.iinc 4 1, 3) := by decide +kernel
theorem dX10_feed_81 : decode cX10_feed 81 = .ok (.goto (-63), 3) := by decide +kernel
theorem dX10_feed_84 : decode cX10_feed 84 = .ok (.aload_n 0, 1) := by decide +kernel
theorem dX10_feed_85 : decode cX10_feed 85 = .ok (.dup, 1) := by decide +kernel
theorem dX10_feed_86 : decode cX10_feed 86 = .ok (.getfield 266, 3) := by decide +kernel
theorem dX10_feed_89 : decode cX10_feed 89 = .ok (.bipush 12, 2) := by decide +kernel
theorem dX10_feed_91 : decode cX10_feed 91 = .ok (.iadd, 1) := by decide +kernel
theorem dX10_feed_92 : decode cX10_feed 92 = .ok (.putfield 266, 3) := by decide +kernel
theorem dX10_feed_95 : decode cX10_feed 95 = .ok (.aload_n 0, 1) := by decide +kernel
theorem dX10_feed_96 : decode cX10_feed 96 = .ok (.getfield 266, 3) := by decide +kernel
theorem dX10_feed_99 : decode cX10_feed 99 = .ok (.ireturn, 1) := by decide +kernel
theorem dX10_trim_0 : decode cX10_trim 0 = .ok (.iload_n 1, 1) := by decide +kernel
theorem dX10_trim_1 : decode cX10_trim 1 = .ok (.iconst 0, 1) := by decide +kernel
theorem dX10_trim_2 : decode cX10_trim 2 = .ok (.aload_n 0, 1) := by decide +kernel
theorem dX10_trim_3 : decode cX10_trim 3 = .ok (.getfield 266, 3) := by decide +kernel
theorem dX10_trim_6 : decode cX10_trim 6 = .ok (.invokestatic 117, 3) := by decide +kernel
theorem dX10_trim_9 : decode cX10_trim 9 = .ok (.ifCond .ne 6, 3) := by decide +kernel
theorem dX10_trim_12 : decode cX10_trim 12 = .ok (.ldc 125, 2) := by decide +kernel
theorem dX10_trim_14 : decode cX10_trim 14 = .ok (.ireturn, 1) := by decide +kernel
theorem dX10_trim_15 : decode cX10_trim 15 = .ok (.aload_n 0, 1) := by decide +kernel
theorem dX10_trim_16 : decode cX10_trim 16 = .ok (.iload_n 1, 1) := by decide +kernel
theorem dX10_trim_17 : decode cX10_trim 17 = .ok (.putfield 266, 3) := by decide +kernel
theorem dX10_trim_20 : decode cX10_trim 20 = .ok (.iload_n 1, 1) := by decide +kernel
theorem dX10_trim_21 : decode cX10_trim 21 = .ok (.ireturn, 1) := by decide +kernel
theorem dX10_isLetter_0 : decode cX10_isLetter 0 = .ok (.iload_n 1, 1) := by decide +kernel
theorem dX10_isLetter_1 : decode cX10_isLetter 1 = .ok (.aload_n 0, 1) := by decide +kernel
theorem dX10_isLetter_2 : decode cX10_isLetter 2 = .ok (.getfield 266, 3) := by decide +kernel
theorem dX10_isLetter_5 : decode cX10_isLetter 5 = .ok (.if_icmp .ge 29, 3) := by decide +kernel
theorem dX10_isLetter_8 : decode cX10_isLetter 8 = .ok (.aload_n 0, 1) := by decide +kernel
theorem dX10_isLetter_9 : decode cX10_isLetter 9 = .ok (.getfield 59, 3) := by decide +kernel
theorem dX10_isLetter_12 : decode cX10_isLetter 12 = .ok (.iload_n 1, 1) := by decide +kernel
theorem dX10_isLetter_13 : decode cX10_isLetter 13 = .ok (.iaload, 1) := by decide +kernel
theorem dX10_isLetter_14 : decode cX10_isLetter 14 = .ok (.bipush 97, 2) := by decide +kernel
theorem dX10_isLetter_16 : decode cX10_isLetter 16 = .ok (.if_icmp .lt 18, 3) := by decide +kernel
theorem dX10_isLetter_19 : decode cX10_isLetter 19 = .ok (.aload_n 0, 1) := by decide +kernel
theorem dX10_isLetter_20 : decode cX10_isLetter 20 = .ok (.getfield 59, 3) := by decide +kernel
theorem dX10_isLetter_23 : decode cX10_isLetter 23 = .ok (.iload_n 1, 1) := by decide +kernel
theorem dX10_isLetter_24 : decode cX10_isLetter 24 = .ok (.iaload, 1) := by decide +kernel
theorem dX10_isLetter_25 : decode cX10_isLetter 25 = .ok (.bipush 122, 2) := by decide +kernel
theorem dX10_isLetter_27 : decode cX10_isLetter 27 = .ok (.if_icmp .gt 7, 3) := by decide +kernel
theorem dX10_isLetter_30 : decode cX10_isLetter 30 = .ok (.iconst 1, 1) := by decide +kernel
theorem dX10_isLetter_31 : decode cX10_isLetter 31 = .ok (.goto 4, 3) := by decide +kernel
theorem dX10_isLetter_34 : decode cX10_isLetter 34 = .ok (.iconst 0, 1) := by decide +kernel
theorem dX10_isLetter_35 : decode cX10_isLetter 35 = .ok (.ireturn, 1) := by decide +kernel
theorem dX10_isFigure_0 : decode cX10_isFigure 0 = .ok (.iload_n 1, 1) := by decide +kernel
theorem dX10_isFigure_1 : decode cX10_isFigure 1 = .ok (.aload_n 0, 1) := by decide +kernel
theorem dX10_isFigure_2 : decode cX10_isFigure 2 = .ok (.getfield 266, 3) := by decide +kernel
theorem dX10_isFigure_5 : decode cX10_isFigure 5 = .ok (.if_icmp .ge 29, 3) := by decide +kernel
theorem dX10_isFigure_8 : decode cX10_isFigure 8 = .ok (.aload_n 0, 1) := by decide +kernel
theorem dX10_isFigure_9 : decode cX10_isFigure 9 = .ok (.getfield 59, 3) := by decide +kernel
theorem dX10_isFigure_12 : decode cX10_isFigure 12 = .ok (.iload_n 1, 1) := by decide +kernel
theorem dX10_isFigure_13 : decode cX10_isFigure 13 = .ok (.iaload, 1) := by decide +kernel
theorem dX10_isFigure_14 : decode cX10_isFigure 14 = .ok (.bipush 48, 2) := by decide +kernel
theorem dX10_isFigure_16 : decode cX10_isFigure 16 = .ok (.if_icmp .lt 18, 3) := by decide +kernel
theorem dX10_isFigure_19 : decode cX10_isFigure 19 = .ok (.aload_n 0, 1) := by decide +kernel
theorem dX10_isFigure_20 : decode cX10_isFigure 20 = .ok (.getfield 59, 3) := by decide +kernel
theorem dX10_isFigure_23 : decode cX10_isFigure 23 = .ok (.iload_n 1, 1) := by decide +kernel
theorem dX10_isFigure_24 : decode cX10_isFigure 24 = .ok (.iaload, 1) := by decide +kernel
theorem dX10_isFigure_25 : decode cX10_isFigure 25 = .ok (.bipush 57, 2) := by decide +kernel
theorem dX10_isFigure_27 : decode cX10_isFigure 27 = .ok (.if_icmp .gt 7, 3) := by decide +kernel
theorem dX10_isFigure_30 : decode cX10_isFigure 30 = .ok (.iconst 1, 1) := by decide +kernel
theorem dX10_isFigure_31 : decode cX10_isFigure 31 = .ok (.goto 4, 3) := by decide +kernel
theorem dX10_isFigure_34 : decode cX10_isFigure 34 = .ok (.iconst 0, 1) := by decide +kernel
theorem dX10_isFigure_35 : decode cX10_isFigure 35 = .ok (.ireturn, 1) := by decide +kernel
theorem dX10_go_0 : decode cX10_go 0 = .ok (.aload_n 0, 1) := by decide +kernel
theorem dX10_go_1 : decode cX10_go 1 = .ok (.getfield 269, 3) := by decide +kernel
theorem dX10_go_4 : decode cX10_go 4 = .ok (.aload_n 0, 1) := by decide +kernel
theorem dX10_go_5 : decode cX10_go 5 = .ok (.getfield 266, 3) := by decide +kernel
theorem dX10_go_8 : decode cX10_go 8 = .ok (.if_icmp .ge 30, 3) := by decide +kernel
theorem dX10_go_11 : decode cX10_go 11 = .ok (.aload_n 0, 1) := by decide +kernel
theorem dX10_go_12 : decode cX10_go 12 = .ok (.getfield 59, 3) := by decide +kernel
theorem dX10_go_15 : decode cX10_go 15 = .ok (.aload_n 0, 1) := by decide +kernel
theorem dX10_go_16 : decode cX10_go 16 = .ok (.getfield 269, 3) := by decide +kernel
theorem dX10_go_19 : decode cX10_go 19 = .ok (.iaload, 1) := by decide +kernel
theorem dX10_go_20 : decode cX10_go 20 = .ok (.bipush 32, 2) := by decide +kernel
theorem dX10_go_22 : decode cX10_go 22 = .ok (.if_icmp .ne 16, 3) := by decide +kernel
theorem dX10_go_25 : decode cX10_go 25 = .ok (.aload_n 0, 1) := by decide +kernel
theorem dX10_go_26 : decode cX10_go 26 = .ok (.dup, 1) := by decide +kernel
theorem dX10_go_27 : decode cX10_go 27 = .ok (.getfield 269, 3) := by decide +kernel
theorem dX10_go_30 : decode cX10_go 30 = .ok (.iconst 1, 1) := by decide +kernel
theorem dX10_go_31 : decode cX10_go 31 = .ok (.iadd, 1) := by decide +kernel
theorem dX10_go_32 : decode cX10_go 32 = .ok (.putfield 269, 3) := by decide +kernel
theorem dX10_go_35 : decode cX10_go 35 = .ok (.goto (-35), 3) := by decide +kernel
theorem dX10_go_38 : decode cX10_go 38 = .ok (.aload_n 0, 1) := by decide +kernel
theorem dX10_go_39 : decode cX10_go 39 = .ok (.aload_n 0, 1) := by decide +kernel
theorem dX10_go_40 : decode cX10_go 40 = .ok (.getfield 269, 3) := by decide +kernel
theorem dX10_go_43 : decode cX10_go 43 = .ok (.putfield 272, 3) := by decide +kernel
theorem dX10_go_46 : decode cX10_go 46 = .ok (.aload_n 0, 1) := by decide +kernel
theorem dX10_go_47 : decode cX10_go 47 = .ok (.getfield 272, 3) := by decide +kernel
theorem dX10_go_50 : decode cX10_go 50 = .ok (.aload_n 0, 1) := by decide +kernel
theorem dX10_go_51 : decode cX10_go 51 = .ok (.getfield 275, 3) := by decide +kernel
theorem dX10_go_54 : decode cX10_go 54 = .ok (.if_icmp .ne 7, 3) := by decide +kernel
theorem dX10_go_57 : decode cX10_go 57 = .ok (.iconst 1, 1) := by decide +kernel
theorem dX10_go_58 : decode cX10_go 58 = .ok (.goto 4, 3) := by decide +kernel
theorem dX10_go_61 : decode cX10_go 61 = .ok (.iconst 0, 1) := by decide +kernel
theorem dX10_go_62 : decode cX10_go 62 = .ok (.istore_n 1, 1) := by decide +kernel
theorem dX10_go_63 : decode cX10_go 63 = .ok (.aload_n 0, 1) := by decide +kernel
theorem dX10_go_64 : decode cX10_go 64 = .ok (.getfield 272, 3) := by decide +kernel
theorem dX10_go_67 : decode cX10_go 67 = .ok (.aload_n 0, 1) := by decide +kernel
theorem dX10_go_68 : decode cX10_go 68 = .ok (.getfield 266, 3) := by decide +kernel
theorem dX10_go_71 : decode cX10_go 71 = .ok (.if_icmp .ne 11, 3) := by decide +kernel
theorem dX10_go_74 : decode cX10_go 74 = .ok (.aload_n 0, 1) := by decide +kernel
theorem dX10_go_75 : decode cX10_go 75 = .ok (.iconst 0, 1) := by decide +kernel
theorem dX10_go_76 : decode cX10_go 76 = .ok (.putfield 278, 3) := by decide +kernel
theorem dX10_go_79 : decode cX10_go 79 = .ok (.goto 224, 3) := by decide +kernel
theorem dX10_go_82 : decode cX10_go 82 = .ok (.aload_n 0, 1) := by decide +kernel
theorem dX10_go_83 : decode cX10_go 83 = .ok (.aload_n 0, 1) := by decide +kernel
theorem dX10_go_84 : decode cX10_go 84 = .ok (.getfield 272, 3) := by decide +kernel
theorem dX10_go_87 : decode cX10_go 87 = .ok (.invokevirtual 281, 3) := by decide +kernel
theorem dX10_go_90 : decode cX10_go 90 = .ok (.ifCond .eq 64, 3) := by decide +kernel
theorem dX10_go_93 : decode cX10_go 93 = .ok (.aload_n 0, 1) := by decide +kernel
theorem dX10_go_94 : decode cX10_go 94 = .ok (.aload_n 0, 1) := by decide +kernel
theorem dX10_go_95 : decode cX10_go 95 = .ok (.getfield 269, 3) := by decide +kernel
theorem dX10_go_98 : decode cX10_go 98 = .ok (.invokevirtual 281, 3) := by decide +kernel
theorem dX10_go_101 : decode cX10_go 101 = .ok (.ifCond .eq 16, 3) := by decide +kernel
theorem dX10_go_104 : decode cX10_go 104 = .ok (.aload_n 0, 1) := by decide +kernel
theorem dX10_go_105 : decode cX10_go 105 = .ok (.dup, 1) := by decide +kernel
theorem dX10_go_106 : decode cX10_go 106 = .ok (.getfield 269, 3) := by decide +kernel
theorem dX10_go_109 : decode cX10_go 109 = .ok (.iconst 1, 1) := by decide +kernel
theorem dX10_go_110 : decode cX10_go 110 = .ok (.iadd, 1) := by decide +kernel
theorem dX10_go_111 : decode cX10_go 111 = .ok (.putfield 269, 3) := by decide +kernel
theorem dX10_go_114 : decode cX10_go 114 = .ok (.goto (-21), 3) := by decide +kernel
theorem dX10_go_117 : decode cX10_go 117 = .ok (.aload_n 0, 1) := by decide +kernel
theorem dX10_go_118 : decode cX10_go 118 = .ok (.iload_n 1, 1) := by decide +kernel
theorem dX10_go_119 : decode cX10_go 119 = .ok (.ifCond .eq 7, 3) := by decide +kernel
theorem dX10_go_122 : decode cX10_go 122 = .ok (.iconst 4, 1) := by decide +kernel
theorem dX10_go_123 : decode cX10_go 123 = .ok (.goto 4, 3) := by decide +kernel
theorem dX10_go_126 : decode cX10_go 126 = .ok (.iconst 1, 1) := by decide +kernel
theorem dX10_go_127 : decode cX10_go 127 = .ok (.putfield 278, 3) := by decide +kernel
theorem dX10_go_130 : decode cX10_go 130 = .ok (.aload_n 0, 1) := by decide +kernel
theorem dX10_go_131 : decode cX10_go 131 = .ok (.aload_n 0, 1) := by decide +kernel
theorem dX10_go_132 : decode cX10_go 132 = .ok (.getfield 59, 3) := by decide +kernel
theorem dX10_go_135 : decode cX10_go 135 = .ok (.aload_n 0, 1) := by decide +kernel
theorem dX10_go_136 : decode cX10_go 136 = .ok (.getfield 272, 3) := by decide +kernel
theorem dX10_go_139 : decode cX10_go 139 = .ok (.iaload, 1) := by decide +kernel
theorem dX10_go_140 : decode cX10_go 140 = .ok (.putfield 284, 3) := by decide +kernel
theorem dX10_go_143 : decode cX10_go 143 = .ok (.aload_n 0, 1) := by decide +kernel
theorem dX10_go_144 : decode cX10_go 144 = .ok (.aload_n 0, 1) := by decide +kernel
theorem dX10_go_145 : decode cX10_go 145 = .ok (.getfield 269, 3) := by decide +kernel
theorem dX10_go_148 : decode cX10_go 148 = .ok (.putfield 275, 3) := by decide +kernel
theorem dX10_go_151 : decode cX10_go 151 = .ok (.goto 152, 3) := by decide +kernel
theorem dX10_go_154 : decode cX10_go 154 = .ok (.aload_n 0, 1) := by decide +kernel
theorem dX10_go_155 : decode cX10_go 155 = .ok (.aload_n 0, 1) := by decide +kernel
theorem dX10_go_156 : decode cX10_go 156 = .ok (.getfield 272, 3) := by decide +kernel
theorem dX10_go_159 : decode cX10_go 159 = .ok (.invokevirtual 287, 3) := by decide +kernel
theorem dX10_go_162 : decode cX10_go 162 = .ok (.ifCond .eq 113, 3) := by decide +kernel
theorem dX10_go_165 : decode cX10_go 165 = .ok (.aload_n 0, 1) := by decide +kernel
theorem dX10_go_166 : decode cX10_go 166 = .ok (.iconst 0, 1) := by decide +kernel
theorem dX10_go_167 : decode cX10_go 167 = .ok (.putfield 284, 3) := by decide +kernel
theorem dX10_go_170 : decode cX10_go 170 = .ok (.aload_n 0, 1) := by decide +kernel
theorem dX10_go_171 : decode cX10_go 171 = .ok (.aload_n 0, 1) := by decide +kernel
theorem dX10_go_172 : decode cX10_go 172 = .ok (.getfield 269, 3) := by decide +kernel
theorem dX10_go_175 : decode cX10_go 175 = .ok (.invokevirtual 287, 3) := by decide +kernel
theorem dX10_go_178 : decode cX10_go 178 = .ok (.ifCond .eq 60, 3) := by decide +kernel
theorem dX10_go_181 : decode cX10_go 181 = .ok (.aload_n 0, 1) := by decide +kernel
theorem dX10_go_182 : decode cX10_go 182 = .ok (.aload_n 0, 1) := by decide +kernel
theorem dX10_go_183 : decode cX10_go 183 = .ok (.getfield 269, 3) := by decide +kernel
theorem dX10_go_186 : decode cX10_go 186 = .ok (.aload_n 0, 1) := by decide +kernel
theorem dX10_go_187 : decode cX10_go 187 = .ok (.getfield 272, 3) := by decide +kernel
theorem dX10_go_190 : decode cX10_go 190 = .ok (.isub, 1) := by decide +kernel
theorem dX10_go_191 : decode cX10_go 191 = .ok (.iconst 4, 1) := by decide +kernel
theorem dX10_go_192 : decode cX10_go 192 = .ok (.if_icmp .ge 26, 3) := by decide +kernel
theorem dX10_go_195 : decode cX10_go 195 = .ok (.bipush 10, 2) := by decide +kernel
theorem dX10_go_197 : decode cX10_go 197 = .ok (.aload_n 0, 1) := by decide +kernel
theorem dX10_go_198 : decode cX10_go 198 = .ok (.getfield 284, 3) := by decide +kernel
theorem dX10_go_201 : decode cX10_go 201 = .ok (.imul, 1) := by decide +kernel
theorem dX10_go_202 : decode cX10_go 202 = .ok (.aload_n 0, 1) := by decide +kernel
theorem dX10_go_203 : decode cX10_go 203 = .ok (.getfield 59, 3) := by decide +kernel
theorem dX10_go_206 : decode cX10_go 206 = .ok (.aload_n 0, 1) := by decide +kernel
theorem dX10_go_207 : decode cX10_go 207 = .ok (.getfield 269, 3) := by decide +kernel
theorem dX10_go_210 : decode cX10_go 210 = .ok (.iaload, 1) := by decide +kernel
theorem dX10_go_211 : decode cX10_go 211 = .ok (.iadd, 1) := by decide +kernel
theorem dX10_go_212 : decode cX10_go 212 = .ok (.bipush 48, 2) := by decide +kernel
theorem dX10_go_214 : decode cX10_go 214 = .ok (.isub, 1) := by decide +kernel
theorem dX10_go_215 : decode cX10_go 215 = .ok (.goto 7, 3) := by decide +kernel
theorem dX10_go_218 : decode cX10_go 218 = .ok (.aload_n 0, 1) := by decide +kernel
theorem dX10_go_219 : decode cX10_go 219 = .ok (.getfield 284, 3) := by decide +kernel
theorem dX10_go_222 : decode cX10_go 222 = .ok (.putfield 284, 3) := by decide +kernel
theorem dX10_go_225 : decode cX10_go 225 = .ok (.aload_n 0, 1) := by decide +kernel
theorem dX10_go_226 : decode cX10_go 226 = .ok (.dup, 1) := by decide +kernel
theorem dX10_go_227 : decode cX10_go 227 = .ok (.getfield 269, 3) := by decide +kernel
theorem dX10_go_230 : decode cX10_go 230 = .ok (.iconst 1, 1) := by decide +kernel
theorem dX10_go_231 : decode cX10_go 231 = .ok (.iadd, 1) := by decide +kernel
theorem dX10_go_232 : decode cX10_go 232 = .ok (.putfield 269, 3) := by decide +kernel
theorem dX10_go_235 : decode cX10_go 235 = .ok (.goto (-65), 3) := by decide +kernel
theorem dX10_go_238 : decode cX10_go 238 = .ok (.aload_n 0, 1) := by decide +kernel
theorem dX10_go_239 : decode cX10_go 239 = .ok (.iload_n 1, 1) := by decide +kernel
theorem dX10_go_240 : decode cX10_go 240 = .ok (.ifCond .ne 16, 3) := by decide +kernel
theorem dX10_go_243 : decode cX10_go 243 = .ok (.aload_n 0, 1) := by decide +kernel
theorem dX10_go_244 : decode cX10_go 244 = .ok (.getfield 269, 3) := by decide +kernel
theorem dX10_go_247 : decode cX10_go 247 = .ok (.aload_n 0, 1) := by decide +kernel
theorem dX10_go_248 : decode cX10_go 248 = .ok (.getfield 272, 3) := by decide +kernel
theorem dX10_go_251 : decode cX10_go 251 = .ok (.isub, 1) := by decide +kernel
theorem dX10_go_252 : decode cX10_go 252 = .ok (.iconst 4, 1) := by decide +kernel
theorem dX10_go_253 : decode cX10_go 253 = .ok (.if_icmp .le 7, 3) := by decide +kernel
theorem dX10_go_256 : decode cX10_go 256 = .ok (.iconst 4, 1) := by decide +kernel
theorem dX10_go_257 : decode cX10_go 257 = .ok (.goto 4, 3) := by decide +kernel
theorem dX10_go_260 : decode cX10_go 260 = .ok (.iconst 2, 1) := by decide +kernel
theorem dX10_go_261 : decode cX10_go 261 = .ok (.putfield 278, 3) := by decide +kernel
theorem dX10_go_264 : decode cX10_go 264 = .ok (.aload_n 0, 1) := by decide +kernel
theorem dX10_go_265 : decode cX10_go 265 = .ok (.aload_n 0, 1) := by decide +kernel
theorem dX10_go_266 : decode cX10_go 266 = .ok (.getfield 269, 3) := by decide +kernel
theorem dX10_go_269 : decode cX10_go 269 = .ok (.putfield 275, 3) := by decide +kernel
theorem dX10_go_272 : decode cX10_go 272 = .ok (.goto 31, 3) := by decide +kernel
theorem dX10_go_275 : decode cX10_go 275 = .ok (.aload_n 0, 1) := by decide +kernel
theorem dX10_go_276 : decode cX10_go 276 = .ok (.iconst 3, 1) := by decide +kernel
theorem dX10_go_277 : decode cX10_go 277 = .ok (.putfield 278, 3) := by decide +kernel
theorem dX10_go_280 : decode cX10_go 280 = .ok (.aload_n 0, 1) := by decide +kernel
theorem dX10_go_281 : decode cX10_go 281 = .ok (.aload_n 0, 1) := by decide +kernel
theorem dX10_go_282 : decode cX10_go 282 = .ok (.getfield 59, 3) := by decide +kernel
theorem dX10_go_285 : decode cX10_go 285 = .ok (.aload_n 0, 1) := by decide +kernel
theorem dX10_go_286 : decode cX10_go 286 = .ok (.getfield 272, 3) := by decide +kernel
theorem dX10_go_289 : decode cX10_go 289 = .ok (.iaload, 1) := by decide +kernel
theorem dX10_go_290 : decode cX10_go 290 = .ok (.putfield 284, 3) := by decide +kernel
theorem dX10_go_293 : decode cX10_go 293 = .ok (.aload_n 0, 1) := by decide +kernel
theorem dX10_go_294 : decode cX10_go 294 = .ok (.dup, 1) := by decide +kernel
theorem dX10_go_295 : decode cX10_go 295 = .ok (.getfield 269, 3) := by decide +kernel
theorem dX10_go_298 : decode cX10_go 298 = .ok (.iconst 1, 1) := by decide +kernel
theorem dX10_go_299 : decode cX10_go 299 = .ok (.iadd, 1) := by decide +kernel
theorem dX10_go_300 : decode cX10_go 300 = .ok (.putfield 269, 3) := by decide +kernel
theorem dX10_go_303 : decode cX10_go 303 = .ok (.return_, 1) := by decide +kernel
theorem dX10_takesKey_0 : decode cX10_takesKey 0 = .ok (.aload_n 0, 1) := by decide +kernel
theorem dX10_takesKey_1 : decode cX10_takesKey 1 = .ok (.getfield 278, 3) := by decide +kernel
theorem dX10_takesKey_4 : decode cX10_takesKey 4 = .ok (.iconst 1, 1) := by decide +kernel
theorem dX10_takesKey_5 : decode cX10_takesKey 5 = .ok (.if_icmp .eq 5, 3) := by decide +kernel
theorem dX10_takesKey_8 : decode cX10_takesKey 8 = .ok (.iconst 0, 1) := by decide +kernel
theorem dX10_takesKey_9 : decode cX10_takesKey 9 = .ok (.ireturn, 1) := by decide +kernel
theorem dX10_takesKey_10 : decode cX10_takesKey 10 = .ok (.iconst 0, 1) := by decide +kernel
theorem dX10_takesKey_11 : decode cX10_takesKey 11 = .ok (.istore_n 1, 1) := by decide +kernel
theorem dX10_takesKey_12 : decode cX10_takesKey 12 = .ok (.iload_n 1, 1) := by decide +kernel
theorem dX10_takesKey_13 : decode cX10_takesKey 13 = .ok (.iconst 3, 1) := by decide +kernel
theorem dX10_takesKey_14 : decode cX10_takesKey 14 = .ok (.if_icmp .ge 113, 3) := by decide +kernel
theorem dX10_takesKey_17 : decode cX10_takesKey 17 = .ok (.aload_n 0, 1) := by decide +kernel
theorem dX10_takesKey_18 : decode cX10_takesKey 18 = .ok (.getfield 66, 3) := by decide +kernel
theorem dX10_takesKey_21 : decode cX10_takesKey 21 = .ok (.iload_n 1, 1) := by decide +kernel
theorem dX10_takesKey_22 : decode cX10_takesKey 22 = .ok (.iconst 1, 1) := by decide +kernel
theorem dX10_takesKey_23 : decode cX10_takesKey 23 = .ok (.iadd, 1) := by decide +kernel
theorem dX10_takesKey_24 : decode cX10_takesKey 24 = .ok (.iaload, 1) := by decide +kernel
theorem dX10_takesKey_25 : decode cX10_takesKey 25 = .ok (.aload_n 0, 1) := by decide +kernel
theorem dX10_takesKey_26 : decode cX10_takesKey 26 = .ok (.getfield 66, 3) := by decide +kernel
theorem dX10_takesKey_29 : decode cX10_takesKey 29 = .ok (.iload_n 1, 1) := by decide +kernel
theorem dX10_takesKey_30 : decode cX10_takesKey 30 = .ok (.iaload, 1) := by decide +kernel
theorem dX10_takesKey_31 : decode cX10_takesKey 31 = .ok (.isub, 1) := by decide +kernel
theorem dX10_takesKey_32 : decode cX10_takesKey 32 = .ok (.istore_n 2, 1) := by decide +kernel
theorem dX10_takesKey_33 : decode cX10_takesKey 33 = .ok (.iload_n 2, 1) := by decide +kernel
theorem dX10_takesKey_34 : decode cX10_takesKey 34 = .ok (.aload_n 0, 1) := by decide +kernel
theorem dX10_takesKey_35 : decode cX10_takesKey 35 = .ok (.getfield 269, 3) := by decide +kernel
theorem dX10_takesKey_38 : decode cX10_takesKey 38 = .ok (.aload_n 0, 1) := by decide +kernel
theorem dX10_takesKey_39 : decode cX10_takesKey 39 = .ok (.getfield 272, 3) := by decide +kernel
theorem dX10_takesKey_42 : decode cX10_takesKey 42 = .ok (.isub, 1) := by decide +kernel
theorem dX10_takesKey_43 : decode cX10_takesKey 43 = .ok (.if_icmp .ne 7, 3) := by decide +kernel
theorem dX10_takesKey_46 : decode cX10_takesKey 46 = .ok (.iconst 1, 1) := by decide +kernel
theorem dX10_takesKey_47 : decode cX10_takesKey 47 = .ok (.goto 4, 3) := by decide +kernel
theorem dX10_takesKey_50 : decode cX10_takesKey 50 = .ok (.iconst 0, 1) := by decide +kernel
theorem dX10_takesKey_51 : decode cX10_takesKey 51 = .ok (.istore_n 3, 1) := by decide +kernel
theorem dX10_takesKey_52 : decode cX10_takesKey 52 = .ok (.iconst 0, 1) := by decide +kernel
theorem dX10_takesKey_53 : decode cX10_takesKey 53 = .ok (.istore 4, 2) := by decide +kernel
theorem dX10_takesKey_55 : decode cX10_takesKey 55 = .ok (.iload 4, 2) := by decide +kernel
theorem dX10_takesKey_57 : decode cX10_takesKey 57 = .ok (.iload_n 2, 1) := by decide +kernel
theorem dX10_takesKey_58 : decode cX10_takesKey 58 = .ok (.if_icmp .ge 48, 3) := by decide +kernel
theorem dX10_takesKey_61 : decode cX10_takesKey 61 = .ok (.iload_n 3, 1) := by decide +kernel
theorem dX10_takesKey_62 : decode cX10_takesKey 62 = .ok (.ifCond .eq 44, 3) := by decide +kernel
theorem dX10_takesKey_65 : decode cX10_takesKey 65 = .ok (.aload_n 0, 1) := by decide +kernel
theorem dX10_takesKey_66 : decode cX10_takesKey 66 = .ok (.getfield 59, 3) := by decide +kernel
theorem dX10_takesKey_69 : decode cX10_takesKey 69 = .ok (.aload_n 0, 1) := by decide +kernel
theorem dX10_takesKey_70 : decode cX10_takesKey 70 = .ok (.getfield 272, 3) := by decide +kernel
theorem dX10_takesKey_73 : decode cX10_takesKey 73 = .ok (.iload 4, 2) := by decide +kernel
theorem dX10_takesKey_75 : decode cX10_takesKey 75 = .ok (.iadd, 1) := by decide +kernel
theorem dX10_takesKey_76 : decode cX10_takesKey 76 = .ok (.iaload, 1) := by decide +kernel
theorem dX10_takesKey_77 : decode cX10_takesKey 77 = .ok (.aload_n 0, 1) := by decide +kernel
theorem dX10_takesKey_78 : decode cX10_takesKey 78 = .ok (.getfield 62, 3) := by decide +kernel
theorem dX10_takesKey_81 : decode cX10_takesKey 81 = .ok (.aload_n 0, 1) := by decide +kernel
theorem dX10_takesKey_82 : decode cX10_takesKey 82 = .ok (.getfield 66, 3) := by decide +kernel
theorem dX10_takesKey_85 : decode cX10_takesKey 85 = .ok (.iload_n 1, 1) := by decide +kernel
theorem dX10_takesKey_86 : decode cX10_takesKey 86 = .ok (.iaload, 1) := by decide +kernel
theorem dX10_takesKey_87 : decode cX10_takesKey 87 = .ok (.iload 4, 2) := by decide +kernel
theorem dX10_takesKey_89 : decode cX10_takesKey 89 = .ok (.iadd, 1) := by decide +kernel
theorem dX10_takesKey_90 : decode cX10_takesKey 90 = .ok (.caload, 1) := by decide +kernel
theorem dX10_takesKey_91 : decode cX10_takesKey 91 = .ok (.if_icmp .ne 7, 3) := by decide +kernel
theorem dX10_takesKey_94 : decode cX10_takesKey 94 = .ok (.iconst 1, 1) := by decide +kernel
theorem dX10_takesKey_95 : decode cX10_takesKey 95 = .ok (.goto 4, 3) := by decide +kernel
theorem dX10_takesKey_98 : decode cX10_takesKey 98 = .ok (.iconst 0, 1) := by decide +kernel
theorem dX10_takesKey_99 : decode cX10_takesKey 99 = .ok (.istore_n 3, 1) := by decide +kernel
theorem dX10_takesKey_100 : decode cX10_takesKey 100 = .ok (.iinc 4 1, 3) := by decide +kernel
theorem dX10_takesKey_103 : decode cX10_takesKey 103 = .ok (.goto (-48), 3) := by decide +kernel
theorem dX10_takesKey_106 : decode cX10_takesKey 106 = .ok (.iload_n 3, 1) := by decide +kernel
theorem dX10_takesKey_107 : decode cX10_takesKey 107 = .ok (.ifCond .eq 14, 3) := by decide +kernel
theorem dX10_takesKey_110 : decode cX10_takesKey 110 = .ok (.aload_n 0, 1) := by decide +kernel
theorem dX10_takesKey_111 : decode cX10_takesKey 111 = .ok (.iload_n 1, 1) := by decide +kernel
theorem dX10_takesKey_112 : decode cX10_takesKey 112 = .ok (.putfield 290, 3) := by decide +kernel
theorem dX10_takesKey_115 : decode cX10_takesKey 115 = .ok (.aload_n 0, 1) := by decide +kernel
theorem dX10_takesKey_116 : decode cX10_takesKey 116 = .ok (.invokevirtual 293, 3) := by decide +kernel
theorem dX10_takesKey_119 : decode cX10_takesKey 119 = .ok (.iconst 1, 1) := by decide +kernel
theorem dX10_takesKey_120 : decode cX10_takesKey 120 = .ok (.ireturn, 1) := by decide +kernel
theorem dX10_takesKey_121 : decode cX10_takesKey 121 = .ok (.iinc 1 1, 3) := by decide +kernel
theorem dX10_takesKey_124 : decode cX10_takesKey 124 = .ok (.goto (-112), 3) := by decide +kernel
theorem dX10_takesKey_127 : decode cX10_takesKey 127 = .ok (.iconst 0, 1) := by decide +kernel
theorem dX10_takesKey_128 : decode cX10_takesKey 128 = .ok (.ireturn, 1) := by decide +kernel
theorem dX10_nameOf_0 : decode cX10_nameOf 0 = .ok (.aload_n 0, 1) := by decide +kernel
theorem dX10_nameOf_1 : decode cX10_nameOf 1 = .ok (.getfield 290, 3) := by decide +kernel
theorem dX10_nameOf_4 : decode cX10_nameOf 4 = .ok (.lookupswitch 82 #[(0, 28), (1, 60)], 28) := by decide +kernel
theorem dX10_nameOf_32 : decode cX10_nameOf 32 = .ok (.iload_n 1, 1) := by decide +kernel
theorem dX10_nameOf_33 : decode cX10_nameOf 33 = .ok (.bipush 104, 2) := by decide +kernel
theorem dX10_nameOf_35 : decode cX10_nameOf 35 = .ok (.if_icmp .ne 7, 3) := by decide +kernel
theorem dX10_nameOf_38 : decode cX10_nameOf 38 = .ok (.iconst 0, 1) := by decide +kernel
theorem dX10_nameOf_39 : decode cX10_nameOf 39 = .ok (.goto 24, 3) := by decide +kernel
theorem dX10_nameOf_42 : decode cX10_nameOf 42 = .ok (.iload_n 1, 1) := by decide +kernel
theorem dX10_nameOf_43 : decode cX10_nameOf 43 = .ok (.bipush 110, 2) := by decide +kernel
theorem dX10_nameOf_45 : decode cX10_nameOf 45 = .ok (.if_icmp .ne 7, 3) := by decide +kernel
theorem dX10_nameOf_48 : decode cX10_nameOf 48 = .ok (.iconst 1, 1) := by decide +kernel
theorem dX10_nameOf_49 : decode cX10_nameOf 49 = .ok (.goto 14, 3) := by decide +kernel
theorem dX10_nameOf_52 : decode cX10_nameOf 52 = .ok (.iload_n 1, 1) := by decide +kernel
theorem dX10_nameOf_53 : decode cX10_nameOf 53 = .ok (.bipush 108, 2) := by decide +kernel
theorem dX10_nameOf_55 : decode cX10_nameOf 55 = .ok (.if_icmp .ne 7, 3) := by decide +kernel
theorem dX10_nameOf_58 : decode cX10_nameOf 58 = .ok (.iconst 2, 1) := by decide +kernel
theorem dX10_nameOf_59 : decode cX10_nameOf 59 = .ok (.goto 4, 3) := by decide +kernel
theorem dX10_nameOf_62 : decode cX10_nameOf 62 = .ok (.iconst (-1), 1) := by decide +kernel
theorem dX10_nameOf_63 : decode cX10_nameOf 63 = .ok (.ireturn, 1) := by decide +kernel
theorem dX10_nameOf_64 : decode cX10_nameOf 64 = .ok (.iload_n 1, 1) := by decide +kernel
theorem dX10_nameOf_65 : decode cX10_nameOf 65 = .ok (.bipush 104, 2) := by decide +kernel
theorem dX10_nameOf_67 : decode cX10_nameOf 67 = .ok (.if_icmp .ne 7, 3) := by decide +kernel
theorem dX10_nameOf_70 : decode cX10_nameOf 70 = .ok (.iconst 0, 1) := by decide +kernel
theorem dX10_nameOf_71 : decode cX10_nameOf 71 = .ok (.goto 14, 3) := by decide +kernel
theorem dX10_nameOf_74 : decode cX10_nameOf 74 = .ok (.iload_n 1, 1) := by decide +kernel
theorem dX10_nameOf_75 : decode cX10_nameOf 75 = .ok (.bipush 112, 2) := by decide +kernel
theorem dX10_nameOf_77 : decode cX10_nameOf 77 = .ok (.if_icmp .ne 7, 3) := by decide +kernel
theorem dX10_nameOf_80 : decode cX10_nameOf 80 = .ok (.iconst 1, 1) := by decide +kernel
theorem dX10_nameOf_81 : decode cX10_nameOf 81 = .ok (.goto 4, 3) := by decide +kernel
theorem dX10_nameOf_84 : decode cX10_nameOf 84 = .ok (.iconst (-1), 1) := by decide +kernel
theorem dX10_nameOf_85 : decode cX10_nameOf 85 = .ok (.ireturn, 1) := by decide +kernel
theorem dX10_nameOf_86 : decode cX10_nameOf 86 = .ok (.iload_n 1, 1) := by decide +kernel
theorem dX10_nameOf_87 : decode cX10_nameOf 87 = .ok (.bipush 112, 2) := by decide +kernel
theorem dX10_nameOf_89 : decode cX10_nameOf 89 = .ok (.if_icmp .ne 7, 3) := by decide +kernel
theorem dX10_nameOf_92 : decode cX10_nameOf 92 = .ok (.iconst 0, 1) := by decide +kernel
theorem dX10_nameOf_93 : decode cX10_nameOf 93 = .ok (.goto 14, 3) := by decide +kernel
theorem dX10_nameOf_96 : decode cX10_nameOf 96 = .ok (.iload_n 1, 1) := by decide +kernel
theorem dX10_nameOf_97 : decode cX10_nameOf 97 = .ok (.bipush 121, 2) := by decide +kernel
theorem dX10_nameOf_99 : decode cX10_nameOf 99 = .ok (.if_icmp .ne 7, 3) := by decide +kernel
theorem dX10_nameOf_102 : decode cX10_nameOf 102 = .ok (.iconst 1, 1) := by decide +kernel
theorem dX10_nameOf_103 : decode cX10_nameOf 103 = .ok (.goto 4, 3) := by decide +kernel
theorem dX10_nameOf_106 : decode cX10_nameOf 106 = .ok (.iconst (-1), 1) := by decide +kernel
theorem dX10_nameOf_107 : decode cX10_nameOf 107 = .ok (.ireturn, 1) := by decide +kernel
theorem dX10_rank_0 : decode cX10_rank 0 = .ok (.iload_n 0, 1) := by decide +kernel
theorem dX10_rank_1 : decode cX10_rank 1 = .ok (.iconst (-1), 1) := by decide +kernel
theorem dX10_rank_2 : decode cX10_rank 2 = .ok (.if_icmp .ne 7, 3) := by decide +kernel
theorem dX10_rank_5 : decode cX10_rank 5 = .ok (.iconst 1, 1) := by decide +kernel
theorem dX10_rank_6 : decode cX10_rank 6 = .ok (.goto 45, 3) := by decide +kernel
theorem dX10_rank_9 : decode cX10_rank 9 = .ok (.iload_n 0, 1) := by decide +kernel
theorem dX10_rank_10 : decode cX10_rank 10 = .ok (.bipush (-2), 2) := by decide +kernel
theorem dX10_rank_12 : decode cX10_rank 12 = .ok (.if_icmp .ne 7, 3) := by decide +kernel
theorem dX10_rank_15 : decode cX10_rank 15 = .ok (.iconst 2, 1) := by decide +kernel
theorem dX10_rank_16 : decode cX10_rank 16 = .ok (.goto 35, 3) := by decide +kernel
theorem dX10_rank_19 : decode cX10_rank 19 = .ok (.iload_n 0, 1) := by decide +kernel
theorem dX10_rank_20 : decode cX10_rank 20 = .ok (.bipush (-5), 2) := by decide +kernel
theorem dX10_rank_22 : decode cX10_rank 22 = .ok (.if_icmp .lt 7, 3) := by decide +kernel
theorem dX10_rank_25 : decode cX10_rank 25 = .ok (.iconst 3, 1) := by decide +kernel
theorem dX10_rank_26 : decode cX10_rank 26 = .ok (.goto 25, 3) := by decide +kernel
theorem dX10_rank_29 : decode cX10_rank 29 = .ok (.iload_n 0, 1) := by decide +kernel
theorem dX10_rank_30 : decode cX10_rank 30 = .ok (.bipush (-7), 2) := by decide +kernel
theorem dX10_rank_32 : decode cX10_rank 32 = .ok (.if_icmp .lt 7, 3) := by decide +kernel
theorem dX10_rank_35 : decode cX10_rank 35 = .ok (.iconst 4, 1) := by decide +kernel
theorem dX10_rank_36 : decode cX10_rank 36 = .ok (.goto 15, 3) := by decide +kernel
theorem dX10_rank_39 : decode cX10_rank 39 = .ok (.iload_n 0, 1) := by decide +kernel
theorem dX10_rank_40 : decode cX10_rank 40 = .ok (.bipush (-9), 2) := by decide +kernel
theorem dX10_rank_42 : decode cX10_rank 42 = .ok (.if_icmp .lt 7, 3) := by decide +kernel
theorem dX10_rank_45 : decode cX10_rank 45 = .ok (.iconst 5, 1) := by decide +kernel
theorem dX10_rank_46 : decode cX10_rank 46 = .ok (.goto 5, 3) := by decide +kernel
theorem dX10_rank_49 : decode cX10_rank 49 = .ok (.bipush 6, 2) := by decide +kernel
theorem dX10_rank_51 : decode cX10_rank 51 = .ok (.ireturn, 1) := by decide +kernel
theorem dX10_settle_0 : decode cX10_settle 0 = .ok (.aload_n 0, 1) := by decide +kernel
theorem dX10_settle_1 : decode cX10_settle 1 = .ok (.getfield 296, 3) := by decide +kernel
theorem dX10_settle_4 : decode cX10_settle 4 = .ok (.ifCond .le 78, 3) := by decide +kernel
theorem dX10_settle_7 : decode cX10_settle 7 = .ok (.aload_n 0, 1) := by decide +kernel
theorem dX10_settle_8 : decode cX10_settle 8 = .ok (.getfield 72, 3) := by decide +kernel
theorem dX10_settle_11 : decode cX10_settle 11 = .ok (.aload_n 0, 1) := by decide +kernel
theorem dX10_settle_12 : decode cX10_settle 12 = .ok (.getfield 296, 3) := by decide +kernel
theorem dX10_settle_15 : decode cX10_settle 15 = .ok (.iconst 1, 1) := by decide +kernel
theorem dX10_settle_16 : decode cX10_settle 16 = .ok (.isub, 1) := by decide +kernel
theorem dX10_settle_17 : decode cX10_settle 17 = .ok (.iaload, 1) := by decide +kernel
theorem dX10_settle_18 : decode cX10_settle 18 = .ok (.bipush (-11), 2) := by decide +kernel
theorem dX10_settle_20 : decode cX10_settle 20 = .ok (.if_icmp .eq 62, 3) := by decide +kernel
theorem dX10_settle_23 : decode cX10_settle 23 = .ok (.aload_n 0, 1) := by decide +kernel
theorem dX10_settle_24 : decode cX10_settle 24 = .ok (.getfield 72, 3) := by decide +kernel
theorem dX10_settle_27 : decode cX10_settle 27 = .ok (.aload_n 0, 1) := by decide +kernel
theorem dX10_settle_28 : decode cX10_settle 28 = .ok (.getfield 296, 3) := by decide +kernel
theorem dX10_settle_31 : decode cX10_settle 31 = .ok (.iconst 1, 1) := by decide +kernel
theorem dX10_settle_32 : decode cX10_settle 32 = .ok (.isub, 1) := by decide +kernel
theorem dX10_settle_33 : decode cX10_settle 33 = .ok (.iaload, 1) := by decide +kernel
theorem dX10_settle_34 : decode cX10_settle 34 = .ok (.invokestatic 299, 3) := by decide +kernel
theorem dX10_settle_37 : decode cX10_settle 37 = .ok (.iload_n 1, 1) := by decide +kernel
theorem dX10_settle_38 : decode cX10_settle 38 = .ok (.if_icmp .lt 44, 3) := by decide +kernel
theorem dX10_settle_41 : decode cX10_settle 41 = .ok (.aload_n 0, 1) := by decide +kernel
theorem dX10_settle_42 : decode cX10_settle 42 = .ok (.dup, 1) := by decide +kernel
theorem dX10_settle_43 : decode cX10_settle 43 = .ok (.getfield 296, 3) := by decide +kernel
theorem dX10_settle_46 : decode cX10_settle 46 = .ok (.iconst 1, 1) := by decide +kernel
theorem dX10_settle_47 : decode cX10_settle 47 = .ok (.isub, 1) := by decide +kernel
theorem dX10_settle_48 : decode cX10_settle 48 = .ok (.putfield 296, 3) := by decide +kernel
theorem dX10_settle_51 : decode cX10_settle 51 = .ok (.aload_n 0, 1) := by decide +kernel
theorem dX10_settle_52 : decode cX10_settle 52 = .ok (.getfield 69, 3) := by decide +kernel
theorem dX10_settle_55 : decode cX10_settle 55 = .ok (.aload_n 0, 1) := by decide +kernel
theorem dX10_settle_56 : decode cX10_settle 56 = .ok (.getfield 302, 3) := by decide +kernel
theorem dX10_settle_59 : decode cX10_settle 59 = .ok (.aload_n 0, 1) := by decide +kernel
theorem dX10_settle_60 : decode cX10_settle 60 = .ok (.getfield 72, 3) := by decide +kernel
theorem dX10_settle_63 : decode cX10_settle 63 = .ok (.aload_n 0, 1) := by decide +kernel
theorem dX10_settle_64 : decode cX10_settle 64 = .ok (.getfield 296, 3) := by decide +kernel
theorem dX10_settle_67 : decode cX10_settle 67 = .ok (.iaload, 1) := by decide +kernel
theorem dX10_settle_68 : decode cX10_settle 68 = .ok (.iastore, 1) := by decide +kernel
theorem dX10_settle_69 : decode cX10_settle 69 = .ok (.aload_n 0, 1) := by decide +kernel
theorem dX10_settle_70 : decode cX10_settle 70 = .ok (.dup, 1) := by decide +kernel
theorem dX10_settle_71 : decode cX10_settle 71 = .ok (.getfield 302, 3) := by decide +kernel
theorem dX10_settle_74 : decode cX10_settle 74 = .ok (.iconst 1, 1) := by decide +kernel
theorem dX10_settle_75 : decode cX10_settle 75 = .ok (.iadd, 1) := by decide +kernel
theorem dX10_settle_76 : decode cX10_settle 76 = .ok (.putfield 302, 3) := by decide +kernel
theorem dX10_settle_79 : decode cX10_settle 79 = .ok (.goto (-79), 3) := by decide +kernel
theorem dX10_settle_82 : decode cX10_settle 82 = .ok (.return_, 1) := by decide +kernel
theorem dX10_signHere_0 : decode cX10_signHere 0 = .ok (.aload_n 0, 1) := by decide +kernel
theorem dX10_signHere_1 : decode cX10_signHere 1 = .ok (.getfield 278, 3) := by decide +kernel
theorem dX10_signHere_4 : decode cX10_signHere 4 = .ok (.iconst 3, 1) := by decide +kernel
theorem dX10_signHere_5 : decode cX10_signHere 5 = .ok (.if_icmp .eq 5, 3) := by decide +kernel
theorem dX10_signHere_8 : decode cX10_signHere 8 = .ok (.iconst 0, 1) := by decide +kernel
theorem dX10_signHere_9 : decode cX10_signHere 9 = .ok (.ireturn, 1) := by decide +kernel
theorem dX10_signHere_10 : decode cX10_signHere 10 = .ok (.aload_n 0, 1) := by decide +kernel
theorem dX10_signHere_11 : decode cX10_signHere 11 = .ok (.getfield 284, 3) := by decide +kernel
theorem dX10_signHere_14 : decode cX10_signHere 14 = .ok (.lookupswitch 108 #[(38, 84), (42, 102), (43, 96), (45, 99), (47, 105), (60, 87), (61, 90), (62, 93), (124, 82)], 82) := by decide +kernel
theorem dX10_signHere_96 : decode cX10_signHere 96 = .ok (.iconst (-1), 1) := by decide +kernel
theorem dX10_signHere_97 : decode cX10_signHere 97 = .ok (.ireturn, 1) := by decide +kernel
theorem dX10_signHere_98 : decode cX10_signHere 98 = .ok (.bipush (-2), 2) := by decide +kernel
theorem dX10_signHere_100 : decode cX10_signHere 100 = .ok (.ireturn, 1) := by decide +kernel
theorem dX10_signHere_101 : decode cX10_signHere 101 = .ok (.bipush (-3), 2) := by decide +kernel
theorem dX10_signHere_103 : decode cX10_signHere 103 = .ok (.ireturn, 1) := by decide +kernel
theorem dX10_signHere_104 : decode cX10_signHere 104 = .ok (.bipush (-4), 2) := by decide +kernel
theorem dX10_signHere_106 : decode cX10_signHere 106 = .ok (.ireturn, 1) := by decide +kernel
theorem dX10_signHere_107 : decode cX10_signHere 107 = .ok (.bipush (-5), 2) := by decide +kernel
theorem dX10_signHere_109 : decode cX10_signHere 109 = .ok (.ireturn, 1) := by decide +kernel
theorem dX10_signHere_110 : decode cX10_signHere 110 = .ok (.bipush (-6), 2) := by decide +kernel
theorem dX10_signHere_112 : decode cX10_signHere 112 = .ok (.ireturn, 1) := by decide +kernel
theorem dX10_signHere_113 : decode cX10_signHere 113 = .ok (.bipush (-7), 2) := by decide +kernel
theorem dX10_signHere_115 : decode cX10_signHere 115 = .ok (.ireturn, 1) := by decide +kernel
theorem dX10_signHere_116 : decode cX10_signHere 116 = .ok (.bipush (-8), 2) := by decide +kernel
theorem dX10_signHere_118 : decode cX10_signHere 118 = .ok (.ireturn, 1) := by decide +kernel
theorem dX10_signHere_119 : decode cX10_signHere 119 = .ok (.bipush (-9), 2) := by decide +kernel
theorem dX10_signHere_121 : decode cX10_signHere 121 = .ok (.ireturn, 1) := by decide +kernel
theorem dX10_signHere_122 : decode cX10_signHere 122 = .ok (.iconst 0, 1) := by decide +kernel
theorem dX10_signHere_123 : decode cX10_signHere 123 = .ok (.ireturn, 1) := by decide +kernel
theorem dX10_takesPart_0 : decode cX10_takesPart 0 = .ok (.aload_n 0, 1) := by decide +kernel
theorem dX10_takesPart_1 : decode cX10_takesPart 1 = .ok (.getfield 278, 3) := by decide +kernel
theorem dX10_takesPart_4 : decode cX10_takesPart 4 = .ok (.iconst 1, 1) := by decide +kernel
theorem dX10_takesPart_5 : decode cX10_takesPart 5 = .ok (.if_icmp .ne 31, 3) := by decide +kernel
theorem dX10_takesPart_8 : decode cX10_takesPart 8 = .ok (.aload_n 0, 1) := by decide +kernel
theorem dX10_takesPart_9 : decode cX10_takesPart 9 = .ok (.getfield 269, 3) := by decide +kernel
theorem dX10_takesPart_12 : decode cX10_takesPart 12 = .ok (.aload_n 0, 1) := by decide +kernel
theorem dX10_takesPart_13 : decode cX10_takesPart 13 = .ok (.getfield 272, 3) := by decide +kernel
theorem dX10_takesPart_16 : decode cX10_takesPart 16 = .ok (.isub, 1) := by decide +kernel
theorem dX10_takesPart_17 : decode cX10_takesPart 17 = .ok (.iconst 1, 1) := by decide +kernel
theorem dX10_takesPart_18 : decode cX10_takesPart 18 = .ok (.if_icmp .ne 18, 3) := by decide +kernel
theorem dX10_takesPart_21 : decode cX10_takesPart 21 = .ok (.aload_n 0, 1) := by decide +kernel
theorem dX10_takesPart_22 : decode cX10_takesPart 22 = .ok (.aload_n 0, 1) := by decide +kernel
theorem dX10_takesPart_23 : decode cX10_takesPart 23 = .ok (.getfield 284, 3) := by decide +kernel
theorem dX10_takesPart_26 : decode cX10_takesPart 26 = .ok (.invokevirtual 305, 3) := by decide +kernel
theorem dX10_takesPart_29 : decode cX10_takesPart 29 = .ok (.ifCond .lt 7, 3) := by decide +kernel
theorem dX10_takesPart_32 : decode cX10_takesPart 32 = .ok (.iconst 1, 1) := by decide +kernel
theorem dX10_takesPart_33 : decode cX10_takesPart 33 = .ok (.goto 4, 3) := by decide +kernel
theorem dX10_takesPart_36 : decode cX10_takesPart 36 = .ok (.iconst 0, 1) := by decide +kernel
theorem dX10_takesPart_37 : decode cX10_takesPart 37 = .ok (.istore_n 1, 1) := by decide +kernel
theorem dX10_takesPart_38 : decode cX10_takesPart 38 = .ok (.aload_n 0, 1) := by decide +kernel
theorem dX10_takesPart_39 : decode cX10_takesPart 39 = .ok (.getfield 278, 3) := by decide +kernel
theorem dX10_takesPart_42 : decode cX10_takesPart 42 = .ok (.iconst 2, 1) := by decide +kernel
theorem dX10_takesPart_43 : decode cX10_takesPart 43 = .ok (.if_icmp .eq 9, 3) := by decide +kernel
theorem dX10_takesPart_46 : decode cX10_takesPart 46 = .ok (.iload_n 1, 1) := by decide +kernel
theorem dX10_takesPart_47 : decode cX10_takesPart 47 = .ok (.ifCond .ne 5, 3) := by decide +kernel
theorem dX10_takesPart_50 : decode cX10_takesPart 50 = .ok (.iconst 0, 1) := by decide +kernel
theorem dX10_takesPart_51 : decode cX10_takesPart 51 = .ok (.ireturn, 1) := by decide +kernel
theorem dX10_takesPart_52 : decode cX10_takesPart 52 = .ok (.aload_n 0, 1) := by decide +kernel
theorem dX10_takesPart_53 : decode cX10_takesPart 53 = .ok (.getfield 69, 3) := by decide +kernel
theorem dX10_takesPart_56 : decode cX10_takesPart 56 = .ok (.aload_n 0, 1) := by decide +kernel
theorem dX10_takesPart_57 : decode cX10_takesPart 57 = .ok (.getfield 302, 3) := by decide +kernel
theorem dX10_takesPart_60 : decode cX10_takesPart 60 = .ok (.aload_n 0, 1) := by decide +kernel
theorem dX10_takesPart_61 : decode cX10_takesPart 61 = .ok (.getfield 278, 3) := by decide +kernel
theorem dX10_takesPart_64 : decode cX10_takesPart 64 = .ok (.iconst 2, 1) := by decide +kernel
theorem dX10_takesPart_65 : decode cX10_takesPart 65 = .ok (.if_icmp .ne 10, 3) := by decide +kernel
theorem dX10_takesPart_68 : decode cX10_takesPart 68 = .ok (.aload_n 0, 1) := by decide +kernel
theorem dX10_takesPart_69 : decode cX10_takesPart 69 = .ok (.getfield 284, 3) := by decide +kernel
theorem dX10_takesPart_72 : decode cX10_takesPart 72 = .ok (.goto 15, 3) := by decide +kernel
theorem dX10_takesPart_75 : decode cX10_takesPart 75 = .ok (.sipush 10000, 3) := by decide +kernel
theorem dX10_takesPart_78 : decode cX10_takesPart 78 = .ok (.aload_n 0, 1) := by decide +kernel
theorem dX10_takesPart_79 : decode cX10_takesPart 79 = .ok (.aload_n 0, 1) := by decide +kernel
theorem dX10_takesPart_80 : decode cX10_takesPart 80 = .ok (.getfield 284, 3) := by decide +kernel
theorem dX10_takesPart_83 : decode cX10_takesPart 83 = .ok (.invokevirtual 305, 3) := by decide +kernel
theorem dX10_takesPart_86 : decode cX10_takesPart 86 = .ok (.iadd, 1) := by decide +kernel
theorem dX10_takesPart_87 : decode cX10_takesPart 87 = .ok (.iastore, 1) := by decide +kernel
theorem dX10_takesPart_88 : decode cX10_takesPart 88 = .ok (.aload_n 0, 1) := by decide +kernel
theorem dX10_takesPart_89 : decode cX10_takesPart 89 = .ok (.dup, 1) := by decide +kernel
theorem dX10_takesPart_90 : decode cX10_takesPart 90 = .ok (.getfield 302, 3) := by decide +kernel
theorem dX10_takesPart_93 : decode cX10_takesPart 93 = .ok (.iconst 1, 1) := by decide +kernel
theorem dX10_takesPart_94 : decode cX10_takesPart 94 = .ok (.iadd, 1) := by decide +kernel
theorem dX10_takesPart_95 : decode cX10_takesPart 95 = .ok (.putfield 302, 3) := by decide +kernel
theorem dX10_takesPart_98 : decode cX10_takesPart 98 = .ok (.aload_n 0, 1) := by decide +kernel
theorem dX10_takesPart_99 : decode cX10_takesPart 99 = .ok (.dup, 1) := by decide +kernel
theorem dX10_takesPart_100 : decode cX10_takesPart 100 = .ok (.getfield 308, 3) := by decide +kernel
theorem dX10_takesPart_103 : decode cX10_takesPart 103 = .ok (.iconst 1, 1) := by decide +kernel
theorem dX10_takesPart_104 : decode cX10_takesPart 104 = .ok (.iadd, 1) := by decide +kernel
theorem dX10_takesPart_105 : decode cX10_takesPart 105 = .ok (.putfield 308, 3) := by decide +kernel
theorem dX10_takesPart_108 : decode cX10_takesPart 108 = .ok (.aload_n 0, 1) := by decide +kernel
theorem dX10_takesPart_109 : decode cX10_takesPart 109 = .ok (.bipush 6, 2) := by decide +kernel
theorem dX10_takesPart_111 : decode cX10_takesPart 111 = .ok (.invokevirtual 311, 3) := by decide +kernel
theorem dX10_takesPart_114 : decode cX10_takesPart 114 = .ok (.aload_n 0, 1) := by decide +kernel
theorem dX10_takesPart_115 : decode cX10_takesPart 115 = .ok (.invokevirtual 293, 3) := by decide +kernel
theorem dX10_takesPart_118 : decode cX10_takesPart 118 = .ok (.iconst 1, 1) := by decide +kernel
theorem dX10_takesPart_119 : decode cX10_takesPart 119 = .ok (.ireturn, 1) := by decide +kernel
theorem dX10_takesE_0 : decode cX10_takesE 0 = .ok (.iconst 0, 1) := by decide +kernel
theorem dX10_takesE_1 : decode cX10_takesE 1 = .ok (.istore_n 1, 1) := by decide +kernel
theorem dX10_takesE_2 : decode cX10_takesE 2 = .ok (.iconst 0, 1) := by decide +kernel
theorem dX10_takesE_3 : decode cX10_takesE 3 = .ok (.istore_n 2, 1) := by decide +kernel
theorem dX10_takesE_4 : decode cX10_takesE 4 = .ok (.iconst 1, 1) := by decide +kernel
theorem dX10_takesE_5 : decode cX10_takesE 5 = .ok (.istore_n 3, 1) := by decide +kernel
theorem dX10_takesE_6 : decode cX10_takesE 6 = .ok (.aload_n 0, 1) := by decide +kernel
theorem dX10_takesE_7 : decode cX10_takesE 7 = .ok (.iconst 0, 1) := by decide +kernel
theorem dX10_takesE_8 : decode cX10_takesE 8 = .ok (.putfield 302, 3) := by decide +kernel
theorem dX10_takesE_11 : decode cX10_takesE 11 = .ok (.aload_n 0, 1) := by decide +kernel
theorem dX10_takesE_12 : decode cX10_takesE 12 = .ok (.iconst 0, 1) := by decide +kernel
theorem dX10_takesE_13 : decode cX10_takesE 13 = .ok (.putfield 308, 3) := by decide +kernel
theorem dX10_takesE_16 : decode cX10_takesE 16 = .ok (.aload_n 0, 1) := by decide +kernel
theorem dX10_takesE_17 : decode cX10_takesE 17 = .ok (.iconst 0, 1) := by decide +kernel
theorem dX10_takesE_18 : decode cX10_takesE 18 = .ok (.putfield 296, 3) := by decide +kernel
theorem dX10_takesE_21 : decode cX10_takesE 21 = .ok (.aload_n 0, 1) := by decide +kernel
theorem dX10_takesE_22 : decode cX10_takesE 22 = .ok (.getfield 75, 3) := by decide +kernel
theorem dX10_takesE_25 : decode cX10_takesE 25 = .ok (.iconst 0, 1) := by decide +kernel
theorem dX10_takesE_26 : decode cX10_takesE 26 = .ok (.iconst 0, 1) := by decide +kernel
theorem dX10_takesE_27 : decode cX10_takesE 27 = .ok (.bastore, 1) := by decide +kernel
theorem dX10_takesE_28 : decode cX10_takesE 28 = .ok (.iload_n 3, 1) := by decide +kernel
theorem dX10_takesE_29 : decode cX10_takesE 29 = .ok (.ifCond .ne 10, 3) := by decide +kernel
theorem dX10_takesE_32 : decode cX10_takesE 32 = .ok (.aload_n 0, 1) := by decide +kernel
theorem dX10_takesE_33 : decode cX10_takesE 33 = .ok (.getfield 278, 3) := by decide +kernel
theorem dX10_takesE_36 : decode cX10_takesE 36 = .ok (.ifCond .eq 309, 3) := by decide +kernel
theorem dX10_takesE_39 : decode cX10_takesE 39 = .ok (.iload_n 3, 1) := by decide +kernel
theorem dX10_takesE_40 : decode cX10_takesE 40 = .ok (.ifCond .eq 140, 3) := by decide +kernel
theorem dX10_takesE_43 : decode cX10_takesE 43 = .ok (.aload_n 0, 1) := by decide +kernel
theorem dX10_takesE_44 : decode cX10_takesE 44 = .ok (.getfield 278, 3) := by decide +kernel
theorem dX10_takesE_47 : decode cX10_takesE 47 = .ok (.iconst 3, 1) := by decide +kernel
theorem dX10_takesE_48 : decode cX10_takesE 48 = .ok (.if_icmp .ne 49, 3) := by decide +kernel
theorem dX10_takesE_51 : decode cX10_takesE 51 = .ok (.aload_n 0, 1) := by decide +kernel
theorem dX10_takesE_52 : decode cX10_takesE 52 = .ok (.getfield 284, 3) := by decide +kernel
theorem dX10_takesE_55 : decode cX10_takesE 55 = .ok (.bipush 33, 2) := by decide +kernel
theorem dX10_takesE_57 : decode cX10_takesE 57 = .ok (.if_icmp .ne 40, 3) := by decide +kernel
theorem dX10_takesE_60 : decode cX10_takesE 60 = .ok (.iload_n 2, 1) := by decide +kernel
theorem dX10_takesE_61 : decode cX10_takesE 61 = .ok (.bipush 8, 2) := by decide +kernel
theorem dX10_takesE_63 : decode cX10_takesE 63 = .ok (.if_icmp .ge 34, 3) := by decide +kernel
theorem dX10_takesE_66 : decode cX10_takesE 66 = .ok (.aload_n 0, 1) := by decide +kernel
theorem dX10_takesE_67 : decode cX10_takesE 67 = .ok (.getfield 72, 3) := by decide +kernel
theorem dX10_takesE_70 : decode cX10_takesE 70 = .ok (.aload_n 0, 1) := by decide +kernel
theorem dX10_takesE_71 : decode cX10_takesE 71 = .ok (.getfield 296, 3) := by decide +kernel
theorem dX10_takesE_74 : decode cX10_takesE 74 = .ok (.bipush (-10), 2) := by decide +kernel
theorem dX10_takesE_76 : decode cX10_takesE 76 = .ok (.iastore, 1) := by decide +kernel
theorem dX10_takesE_77 : decode cX10_takesE 77 = .ok (.aload_n 0, 1) := by decide +kernel
theorem dX10_takesE_78 : decode cX10_takesE 78 = .ok (.dup, 1) := by decide +kernel
theorem dX10_takesE_79 : decode cX10_takesE 79 = .ok (.getfield 296, 3) := by decide +kernel
theorem dX10_takesE_82 : decode cX10_takesE 82 = .ok (.iconst 1, 1) := by decide +kernel
theorem dX10_takesE_83 : decode cX10_takesE 83 = .ok (.iadd, 1) := by decide +kernel
theorem dX10_takesE_84 : decode cX10_takesE 84 = .ok (.putfield 296, 3) := by decide +kernel
theorem dX10_takesE_87 : decode cX10_takesE 87 = .ok (.iinc 2 1, 3) := by decide +kernel
theorem dX10_takesE_90 : decode cX10_takesE 90 = .ok (.aload_n 0, 1) := by decide +kernel
theorem dX10_takesE_91 : decode cX10_takesE 91 = .ok (.invokevirtual 293, 3) := by decide +kernel
theorem dX10_takesE_94 : decode cX10_takesE 94 = .ok (.goto 78, 3) := by decide +kernel
theorem dX10_takesE_97 : decode cX10_takesE 97 = .ok (.aload_n 0, 1) := by decide +kernel
theorem dX10_takesE_98 : decode cX10_takesE 98 = .ok (.getfield 278, 3) := by decide +kernel
theorem dX10_takesE_101 : decode cX10_takesE 101 = .ok (.iconst 3, 1) := by decide +kernel
theorem dX10_takesE_102 : decode cX10_takesE 102 = .ok (.if_icmp .ne 56, 3) := by decide +kernel
theorem dX10_takesE_105 : decode cX10_takesE 105 = .ok (.aload_n 0, 1) := by decide +kernel
theorem dX10_takesE_106 : decode cX10_takesE 106 = .ok (.getfield 284, 3) := by decide +kernel
theorem dX10_takesE_109 : decode cX10_takesE 109 = .ok (.bipush 40, 2) := by decide +kernel
theorem dX10_takesE_111 : decode cX10_takesE 111 = .ok (.if_icmp .ne 47, 3) := by decide +kernel
theorem dX10_takesE_114 : decode cX10_takesE 114 = .ok (.iload_n 1, 1) := by decide +kernel
theorem dX10_takesE_115 : decode cX10_takesE 115 = .ok (.bipush 8, 2) := by decide +kernel
theorem dX10_takesE_117 : decode cX10_takesE 117 = .ok (.if_icmp .ge 41, 3) := by decide +kernel
theorem dX10_takesE_120 : decode cX10_takesE 120 = .ok (.aload_n 0, 1) := by decide +kernel
theorem dX10_takesE_121 : decode cX10_takesE 121 = .ok (.getfield 72, 3) := by decide +kernel
theorem dX10_takesE_124 : decode cX10_takesE 124 = .ok (.aload_n 0, 1) := by decide +kernel
theorem dX10_takesE_125 : decode cX10_takesE 125 = .ok (.getfield 296, 3) := by decide +kernel
theorem dX10_takesE_128 : decode cX10_takesE 128 = .ok (.bipush (-11), 2) := by decide +kernel
theorem dX10_takesE_130 : decode cX10_takesE 130 = .ok (.iastore, 1) := by decide +kernel
theorem dX10_takesE_131 : decode cX10_takesE 131 = .ok (.aload_n 0, 1) := by decide +kernel
theorem dX10_takesE_132 : decode cX10_takesE 132 = .ok (.dup, 1) := by decide +kernel
theorem dX10_takesE_133 : decode cX10_takesE 133 = .ok (.getfield 296, 3) := by decide +kernel
theorem dX10_takesE_136 : decode cX10_takesE 136 = .ok (.iconst 1, 1) := by decide +kernel
theorem dX10_takesE_137 : decode cX10_takesE 137 = .ok (.iadd, 1) := by decide +kernel
theorem dX10_takesE_138 : decode cX10_takesE 138 = .ok (.putfield 296, 3) := by decide +kernel
theorem dX10_takesE_141 : decode cX10_takesE 141 = .ok (.iinc 1 1, 3) := by decide +kernel
theorem dX10_takesE_144 : decode cX10_takesE 144 = .ok (.aload_n 0, 1) := by decide +kernel
theorem dX10_takesE_145 : decode cX10_takesE 145 = .ok (.getfield 75, 3) := by decide +kernel
theorem dX10_takesE_148 : decode cX10_takesE 148 = .ok (.iload_n 1, 1) := by decide +kernel
theorem dX10_takesE_149 : decode cX10_takesE 149 = .ok (.iconst 0, 1) := by decide +kernel
theorem dX10_takesE_150 : decode cX10_takesE 150 = .ok (.bastore, 1) := by decide +kernel
theorem dX10_takesE_151 : decode cX10_takesE 151 = .ok (.aload_n 0, 1) := by decide +kernel
theorem dX10_takesE_152 : decode cX10_takesE 152 = .ok (.invokevirtual 293, 3) := by decide +kernel
theorem dX10_takesE_155 : decode cX10_takesE 155 = .ok (.goto 17, 3) := by decide +kernel
theorem dX10_takesE_158 : decode cX10_takesE 158 = .ok (.aload_n 0, 1) := by decide +kernel
theorem dX10_takesE_159 : decode cX10_takesE 159 = .ok (.invokevirtual 315, 3) := by decide +kernel
theorem dX10_takesE_162 : decode cX10_takesE 162 = .ok (.ifCond .eq 8, 3) := by decide +kernel
theorem dX10_takesE_165 : decode cX10_takesE 165 = .ok (.iconst 0, 1) := by decide +kernel
theorem dX10_takesE_166 : decode cX10_takesE 166 = .ok (.istore_n 3, 1) := by decide +kernel
theorem dX10_takesE_167 : decode cX10_takesE 167 = .ok (.goto 5, 3) := by decide +kernel
theorem dX10_takesE_170 : decode cX10_takesE 170 = .ok (.iconst 0, 1) := by decide +kernel
theorem dX10_takesE_171 : decode cX10_takesE 171 = .ok (.ireturn, 1) := by decide +kernel
theorem dX10_takesE_172 : decode cX10_takesE 172 = .ok (.aload_n 0, 1) := by decide +kernel
theorem dX10_takesE_173 : decode cX10_takesE 173 = .ok (.invokevirtual 319, 3) := by decide +kernel
theorem dX10_takesE_176 : decode cX10_takesE 176 = .ok (.istore_n 2, 1) := by decide +kernel
theorem dX10_takesE_177 : decode cX10_takesE 177 = .ok (.goto (-149), 3) := by decide +kernel
theorem dX10_takesE_180 : decode cX10_takesE 180 = .ok (.aload_n 0, 1) := by decide +kernel
theorem dX10_takesE_181 : decode cX10_takesE 181 = .ok (.getfield 278, 3) := by decide +kernel
theorem dX10_takesE_184 : decode cX10_takesE 184 = .ok (.iconst 3, 1) := by decide +kernel
theorem dX10_takesE_185 : decode cX10_takesE 185 = .ok (.if_icmp .ne 52, 3) := by decide +kernel
theorem dX10_takesE_188 : decode cX10_takesE 188 = .ok (.aload_n 0, 1) := by decide +kernel
theorem dX10_takesE_189 : decode cX10_takesE 189 = .ok (.getfield 284, 3) := by decide +kernel
theorem dX10_takesE_192 : decode cX10_takesE 192 = .ok (.bipush 41, 2) := by decide +kernel
theorem dX10_takesE_194 : decode cX10_takesE 194 = .ok (.if_icmp .ne 43, 3) := by decide +kernel
theorem dX10_takesE_197 : decode cX10_takesE 197 = .ok (.iload_n 1, 1) := by decide +kernel
theorem dX10_takesE_198 : decode cX10_takesE 198 = .ok (.ifCond .le 39, 3) := by decide +kernel
theorem dX10_takesE_201 : decode cX10_takesE 201 = .ok (.aload_n 0, 1) := by decide +kernel
theorem dX10_takesE_202 : decode cX10_takesE 202 = .ok (.iconst 0, 1) := by decide +kernel
theorem dX10_takesE_203 : decode cX10_takesE 203 = .ok (.invokevirtual 311, 3) := by decide +kernel
theorem dX10_takesE_206 : decode cX10_takesE 206 = .ok (.aload_n 0, 1) := by decide +kernel
theorem dX10_takesE_207 : decode cX10_takesE 207 = .ok (.dup, 1) := by decide +kernel
theorem dX10_takesE_208 : decode cX10_takesE 208 = .ok (.getfield 296, 3) := by decide +kernel
theorem dX10_takesE_211 : decode cX10_takesE 211 = .ok (.iconst 1, 1) := by decide +kernel
theorem dX10_takesE_212 : decode cX10_takesE 212 = .ok (.isub, 1) := by decide +kernel
theorem dX10_takesE_213 : decode cX10_takesE 213 = .ok (.putfield 296, 3) := by decide +kernel
theorem dX10_takesE_216 : decode cX10_takesE 216 = .ok (.iinc 1 (-1), 3) := by decide +kernel
theorem dX10_takesE_219 : decode cX10_takesE 219 = .ok (.aload_n 0, 1) := by decide +kernel
theorem dX10_takesE_220 : decode cX10_takesE 220 = .ok (.bipush 6, 2) := by decide +kernel
theorem dX10_takesE_222 : decode cX10_takesE 222 = .ok (.invokevirtual 311, 3) := by decide +kernel
theorem dX10_takesE_225 : decode cX10_takesE 225 = .ok (.aload_n 0, 1) := by decide +kernel
theorem dX10_takesE_226 : decode cX10_takesE 226 = .ok (.invokevirtual 319, 3) := by decide +kernel
theorem dX10_takesE_229 : decode cX10_takesE 229 = .ok (.istore_n 2, 1) := by decide +kernel
theorem dX10_takesE_230 : decode cX10_takesE 230 = .ok (.aload_n 0, 1) := by decide +kernel
theorem dX10_takesE_231 : decode cX10_takesE 231 = .ok (.invokevirtual 293, 3) := by decide +kernel
theorem dX10_takesE_234 : decode cX10_takesE 234 = .ok (.goto (-206), 3) := by decide +kernel
theorem dX10_takesE_237 : decode cX10_takesE 237 = .ok (.aload_n 0, 1) := by decide +kernel
theorem dX10_takesE_238 : decode cX10_takesE 238 = .ok (.invokevirtual 322, 3) := by decide +kernel
theorem dX10_takesE_241 : decode cX10_takesE 241 = .ok (.istore 4, 2) := by decide +kernel
theorem dX10_takesE_243 : decode cX10_takesE 243 = .ok (.iload 4, 2) := by decide +kernel
theorem dX10_takesE_245 : decode cX10_takesE 245 = .ok (.ifCond .eq 21, 3) := by decide +kernel
theorem dX10_takesE_248 : decode cX10_takesE 248 = .ok (.iload 4, 2) := by decide +kernel
theorem dX10_takesE_250 : decode cX10_takesE 250 = .ok (.invokestatic 299, 3) := by decide +kernel
theorem dX10_takesE_253 : decode cX10_takesE 253 = .ok (.iconst 3, 1) := by decide +kernel
theorem dX10_takesE_254 : decode cX10_takesE 254 = .ok (.if_icmp .ne 14, 3) := by decide +kernel
theorem dX10_takesE_257 : decode cX10_takesE 257 = .ok (.aload_n 0, 1) := by decide +kernel
theorem dX10_takesE_258 : decode cX10_takesE 258 = .ok (.getfield 75, 3) := by decide +kernel
theorem dX10_takesE_261 : decode cX10_takesE 261 = .ok (.iload_n 1, 1) := by decide +kernel
theorem dX10_takesE_262 : decode cX10_takesE 262 = .ok (.baload, 1) := by decide +kernel
theorem dX10_takesE_263 : decode cX10_takesE 263 = .ok (.ifCond .eq 5, 3) := by decide +kernel
theorem dX10_takesE_266 : decode cX10_takesE 266 = .ok (.iconst 0, 1) := by decide +kernel
theorem dX10_takesE_267 : decode cX10_takesE 267 = .ok (.ireturn, 1) := by decide +kernel
theorem dX10_takesE_268 : decode cX10_takesE 268 = .ok (.aload_n 0, 1) := by decide +kernel
theorem dX10_takesE_269 : decode cX10_takesE 269 = .ok (.getfield 75, 3) := by decide +kernel
theorem dX10_takesE_272 : decode cX10_takesE 272 = .ok (.iload_n 1, 1) := by decide +kernel
theorem dX10_takesE_273 : decode cX10_takesE 273 = .ok (.iload 4, 2) := by decide +kernel
theorem dX10_takesE_275 : decode cX10_takesE 275 = .ok (.invokestatic 299, 3) := by decide +kernel
theorem dX10_takesE_278 : decode cX10_takesE 278 = .ok (.iconst 3, 1) := by decide +kernel
theorem dX10_takesE_279 : decode cX10_takesE 279 = .ok (.if_icmp .eq 21, 3) := by decide +kernel
theorem dX10_takesE_282 : decode cX10_takesE 282 = .ok (.iload 4, 2) := by decide +kernel
theorem dX10_takesE_284 : decode cX10_takesE 284 = .ok (.invokestatic 299, 3) := by decide +kernel
theorem dX10_takesE_287 : decode cX10_takesE 287 = .ok (.iconst 3, 1) := by decide +kernel
theorem dX10_takesE_288 : decode cX10_takesE 288 = .ok (.if_icmp .le 16, 3) := by decide +kernel
theorem dX10_takesE_291 : decode cX10_takesE 291 = .ok (.aload_n 0, 1) := by decide +kernel
theorem dX10_takesE_292 : decode cX10_takesE 292 = .ok (.getfield 75, 3) := by decide +kernel
theorem dX10_takesE_295 : decode cX10_takesE 295 = .ok (.iload_n 1, 1) := by decide +kernel
theorem dX10_takesE_296 : decode cX10_takesE 296 = .ok (.baload, 1) := by decide +kernel
theorem dX10_takesE_297 : decode cX10_takesE 297 = .ok (.ifCond .eq 7, 3) := by decide +kernel
theorem dX10_takesE_300 : decode cX10_takesE 300 = .ok (.iconst 1, 1) := by decide +kernel
theorem dX10_takesE_301 : decode cX10_takesE 301 = .ok (.goto 4, 3) := by decide +kernel
theorem dX10_takesE_304 : decode cX10_takesE 304 = .ok (.iconst 0, 1) := by decide +kernel
theorem dX10_takesE_305 : decode cX10_takesE 305 = .ok (.bastore, 1) := by decide +kernel
theorem dX10_takesE_306 : decode cX10_takesE 306 = .ok (.aload_n 0, 1) := by decide +kernel
theorem dX10_takesE_307 : decode cX10_takesE 307 = .ok (.iload 4, 2) := by decide +kernel
theorem dX10_takesE_309 : decode cX10_takesE 309 = .ok (.invokestatic 299, 3) := by decide +kernel
theorem dX10_takesE_312 : decode cX10_takesE 312 = .ok (.invokevirtual 311, 3) := by decide +kernel
theorem dX10_takesE_315 : decode cX10_takesE 315 = .ok (.aload_n 0, 1) := by decide +kernel
theorem dX10_takesE_316 : decode cX10_takesE 316 = .ok (.getfield 72, 3) := by decide +kernel
theorem dX10_takesE_319 : decode cX10_takesE 319 = .ok (.aload_n 0, 1) := by decide +kernel
theorem dX10_takesE_320 : decode cX10_takesE 320 = .ok (.getfield 296, 3) := by decide +kernel
theorem dX10_takesE_323 : decode cX10_takesE 323 = .ok (.iload 4, 2) := by decide +kernel
theorem dX10_takesE_325 : decode cX10_takesE 325 = .ok (.iastore, 1) := by decide +kernel
theorem dX10_takesE_326 : decode cX10_takesE 326 = .ok (.aload_n 0, 1) := by decide +kernel
theorem dX10_takesE_327 : decode cX10_takesE 327 = .ok (.dup, 1) := by decide +kernel
theorem dX10_takesE_328 : decode cX10_takesE 328 = .ok (.getfield 296, 3) := by decide +kernel
theorem dX10_takesE_331 : decode cX10_takesE 331 = .ok (.iconst 1, 1) := by decide +kernel
theorem dX10_takesE_332 : decode cX10_takesE 332 = .ok (.iadd, 1) := by decide +kernel
theorem dX10_takesE_333 : decode cX10_takesE 333 = .ok (.putfield 296, 3) := by decide +kernel
theorem dX10_takesE_336 : decode cX10_takesE 336 = .ok (.iconst 1, 1) := by decide +kernel
theorem dX10_takesE_337 : decode cX10_takesE 337 = .ok (.istore_n 3, 1) := by decide +kernel
theorem dX10_takesE_338 : decode cX10_takesE 338 = .ok (.aload_n 0, 1) := by decide +kernel
theorem dX10_takesE_339 : decode cX10_takesE 339 = .ok (.invokevirtual 293, 3) := by decide +kernel
theorem dX10_takesE_342 : decode cX10_takesE 342 = .ok (.goto (-314), 3) := by decide +kernel
theorem dX10_takesE_345 : decode cX10_takesE 345 = .ok (.aload_n 0, 1) := by decide +kernel
theorem dX10_takesE_346 : decode cX10_takesE 346 = .ok (.iconst 0, 1) := by decide +kernel
theorem dX10_takesE_347 : decode cX10_takesE 347 = .ok (.invokevirtual 311, 3) := by decide +kernel
theorem dX10_takesE_350 : decode cX10_takesE 350 = .ok (.iload_n 1, 1) := by decide +kernel
theorem dX10_takesE_351 : decode cX10_takesE 351 = .ok (.ifCond .ne 7, 3) := by decide +kernel
theorem dX10_takesE_354 : decode cX10_takesE 354 = .ok (.iconst 1, 1) := by decide +kernel
theorem dX10_takesE_355 : decode cX10_takesE 355 = .ok (.goto 4, 3) := by decide +kernel
theorem dX10_takesE_358 : decode cX10_takesE 358 = .ok (.iconst 0, 1) := by decide +kernel
theorem dX10_takesE_359 : decode cX10_takesE 359 = .ok (.ireturn, 1) := by decide +kernel
theorem dX10_notsOpen_0 : decode cX10_notsOpen 0 = .ok (.iconst 0, 1) := by decide +kernel
theorem dX10_notsOpen_1 : decode cX10_notsOpen 1 = .ok (.istore_n 1, 1) := by decide +kernel
theorem dX10_notsOpen_2 : decode cX10_notsOpen 2 = .ok (.iconst 0, 1) := by decide +kernel
theorem dX10_notsOpen_3 : decode cX10_notsOpen 3 = .ok (.istore_n 2, 1) := by decide +kernel
theorem dX10_notsOpen_4 : decode cX10_notsOpen 4 = .ok (.iload_n 2, 1) := by decide +kernel
theorem dX10_notsOpen_5 : decode cX10_notsOpen 5 = .ok (.aload_n 0, 1) := by decide +kernel
theorem dX10_notsOpen_6 : decode cX10_notsOpen 6 = .ok (.getfield 296, 3) := by decide +kernel
theorem dX10_notsOpen_9 : decode cX10_notsOpen 9 = .ok (.if_icmp .ge 28, 3) := by decide +kernel
theorem dX10_notsOpen_12 : decode cX10_notsOpen 12 = .ok (.iload_n 1, 1) := by decide +kernel
theorem dX10_notsOpen_13 : decode cX10_notsOpen 13 = .ok (.aload_n 0, 1) := by decide +kernel
theorem dX10_notsOpen_14 : decode cX10_notsOpen 14 = .ok (.getfield 72, 3) := by decide +kernel
theorem dX10_notsOpen_17 : decode cX10_notsOpen 17 = .ok (.iload_n 2, 1) := by decide +kernel
theorem dX10_notsOpen_18 : decode cX10_notsOpen 18 = .ok (.iaload, 1) := by decide +kernel
theorem dX10_notsOpen_19 : decode cX10_notsOpen 19 = .ok (.bipush (-10), 2) := by decide +kernel
theorem dX10_notsOpen_21 : decode cX10_notsOpen 21 = .ok (.if_icmp .ne 7, 3) := by decide +kernel
theorem dX10_notsOpen_24 : decode cX10_notsOpen 24 = .ok (.iconst 1, 1) := by decide +kernel
theorem dX10_notsOpen_25 : decode cX10_notsOpen 25 = .ok (.goto 4, 3) := by decide +kernel
theorem dX10_notsOpen_28 : decode cX10_notsOpen 28 = .ok (.iconst 0, 1) := by decide +kernel
theorem dX10_notsOpen_29 : decode cX10_notsOpen 29 = .ok (.iadd, 1) := by decide +kernel
theorem dX10_notsOpen_30 : decode cX10_notsOpen 30 = .ok (.istore_n 1, 1) := by decide +kernel
theorem dX10_notsOpen_31 : decode cX10_notsOpen 31 = .ok (.iinc 2 1, 3) := by decide +kernel
theorem dX10_notsOpen_34 : decode cX10_notsOpen 34 = .ok (.goto (-30), 3) := by decide +kernel
theorem dX10_notsOpen_37 : decode cX10_notsOpen 37 = .ok (.iload_n 1, 1) := by decide +kernel
theorem dX10_notsOpen_38 : decode cX10_notsOpen 38 = .ok (.ireturn, 1) := by decide +kernel
theorem dX10_text_0 : decode cX10_text 0 = .ok (.aload_n 0, 1) := by decide +kernel
theorem dX10_text_1 : decode cX10_text 1 = .ok (.iconst 0, 1) := by decide +kernel
theorem dX10_text_2 : decode cX10_text 2 = .ok (.putfield 269, 3) := by decide +kernel
theorem dX10_text_5 : decode cX10_text 5 = .ok (.aload_n 0, 1) := by decide +kernel
theorem dX10_text_6 : decode cX10_text 6 = .ok (.iconst (-1), 1) := by decide +kernel
theorem dX10_text_7 : decode cX10_text 7 = .ok (.putfield 275, 3) := by decide +kernel
theorem dX10_text_10 : decode cX10_text 10 = .ok (.aload_n 0, 1) := by decide +kernel
theorem dX10_text_11 : decode cX10_text 11 = .ok (.invokevirtual 293, 3) := by decide +kernel
theorem dX10_text_14 : decode cX10_text 14 = .ok (.aload_n 0, 1) := by decide +kernel
theorem dX10_text_15 : decode cX10_text 15 = .ok (.invokevirtual 325, 3) := by decide +kernel
theorem dX10_text_18 : decode cX10_text 18 = .ok (.ifCond .eq 14, 3) := by decide +kernel
theorem dX10_text_21 : decode cX10_text 21 = .ok (.aload_n 0, 1) := by decide +kernel
theorem dX10_text_22 : decode cX10_text 22 = .ok (.invokevirtual 328, 3) := by decide +kernel
theorem dX10_text_25 : decode cX10_text 25 = .ok (.ifCond .eq 7, 3) := by decide +kernel
theorem dX10_text_28 : decode cX10_text 28 = .ok (.iconst 1, 1) := by decide +kernel
theorem dX10_text_29 : decode cX10_text 29 = .ok (.goto 4, 3) := by decide +kernel
theorem dX10_text_32 : decode cX10_text 32 = .ok (.iconst 0, 1) := by decide +kernel
theorem dX10_text_33 : decode cX10_text 33 = .ok (.istore_n 1, 1) := by decide +kernel
theorem dX10_text_34 : decode cX10_text 34 = .ok (.aload_n 0, 1) := by decide +kernel
theorem dX10_text_35 : decode cX10_text 35 = .ok (.iconst 0, 1) := by decide +kernel
theorem dX10_text_36 : decode cX10_text 36 = .ok (.putfield 266, 3) := by decide +kernel
theorem dX10_text_39 : decode cX10_text 39 = .ok (.iload_n 1, 1) := by decide +kernel
theorem dX10_text_40 : decode cX10_text 40 = .ok (.ifCond .ne 11, 3) := by decide +kernel
theorem dX10_text_43 : decode cX10_text 43 = .ok (.bipush (-100), 2) := by decide +kernel
theorem dX10_text_45 : decode cX10_text 45 = .ok (.aload_n 0, 1) := by decide +kernel
theorem dX10_text_46 : decode cX10_text 46 = .ok (.getfield 272, 3) := by decide +kernel
theorem dX10_text_49 : decode cX10_text 49 = .ok (.isub, 1) := by decide +kernel
theorem dX10_text_50 : decode cX10_text 50 = .ok (.ireturn, 1) := by decide +kernel
theorem dX10_text_51 : decode cX10_text 51 = .ok (.aload_n 0, 1) := by decide +kernel
theorem dX10_text_52 : decode cX10_text 52 = .ok (.getfield 9, 3) := by decide +kernel
theorem dX10_text_55 : decode cX10_text 55 = .ok (.bipush 6, 2) := by decide +kernel
theorem dX10_text_57 : decode cX10_text 57 = .ok (.iaload, 1) := by decide +kernel
theorem dX10_text_58 : decode cX10_text 58 = .ok (.bipush 14, 2) := by decide +kernel
theorem dX10_text_60 : decode cX10_text 60 = .ok (.if_icmp .ne 6, 3) := by decide +kernel
theorem dX10_text_63 : decode cX10_text 63 = .ok (.ldc 126, 2) := by decide +kernel
theorem dX10_text_65 : decode cX10_text 65 = .ok (.ireturn, 1) := by decide +kernel
theorem dX10_text_66 : decode cX10_text 66 = .ok (.aload_n 0, 1) := by decide +kernel
theorem dX10_text_67 : decode cX10_text 67 = .ok (.getfield 9, 3) := by decide +kernel
theorem dX10_text_70 : decode cX10_text 70 = .ok (.bipush 6, 2) := by decide +kernel
theorem dX10_text_72 : decode cX10_text 72 = .ok (.iaload, 1) := by decide +kernel
theorem dX10_text_73 : decode cX10_text 73 = .ok (.istore_n 2, 1) := by decide +kernel
theorem dX10_text_74 : decode cX10_text 74 = .ok (.aload_n 0, 1) := by decide +kernel
theorem dX10_text_75 : decode cX10_text 75 = .ok (.getfield 9, 3) := by decide +kernel
theorem dX10_text_78 : decode cX10_text 78 = .ok (.sipush 158, 3) := by decide +kernel
theorem dX10_text_81 : decode cX10_text 81 = .ok (.iconst 2, 1) := by decide +kernel
theorem dX10_text_82 : decode cX10_text 82 = .ok (.iload_n 2, 1) := by decide +kernel
theorem dX10_text_83 : decode cX10_text 83 = .ok (.imul, 1) := by decide +kernel
theorem dX10_text_84 : decode cX10_text 84 = .ok (.iadd, 1) := by decide +kernel
theorem dX10_text_85 : decode cX10_text 85 = .ok (.sipush 1000, 3) := by decide +kernel
theorem dX10_text_88 : decode cX10_text 88 = .ok (.aload_n 0, 1) := by decide +kernel
theorem dX10_text_89 : decode cX10_text 89 = .ok (.getfield 290, 3) := by decide +kernel
theorem dX10_text_92 : decode cX10_text 92 = .ok (.imul, 1) := by decide +kernel
theorem dX10_text_93 : decode cX10_text 93 = .ok (.aload_n 0, 1) := by decide +kernel
theorem dX10_text_94 : decode cX10_text 94 = .ok (.getfield 302, 3) := by decide +kernel
theorem dX10_text_97 : decode cX10_text 97 = .ok (.iadd, 1) := by decide +kernel
theorem dX10_text_98 : decode cX10_text 98 = .ok (.iastore, 1) := by decide +kernel
theorem dX10_text_99 : decode cX10_text 99 = .ok (.aload_n 0, 1) := by decide +kernel
theorem dX10_text_100 : decode cX10_text 100 = .ok (.getfield 9, 3) := by decide +kernel
theorem dX10_text_103 : decode cX10_text 103 = .ok (.sipush 158, 3) := by decide +kernel
theorem dX10_text_106 : decode cX10_text 106 = .ok (.iconst 2, 1) := by decide +kernel
theorem dX10_text_107 : decode cX10_text 107 = .ok (.iload_n 2, 1) := by decide +kernel
theorem dX10_text_108 : decode cX10_text 108 = .ok (.imul, 1) := by decide +kernel
theorem dX10_text_109 : decode cX10_text 109 = .ok (.iadd, 1) := by decide +kernel
theorem dX10_text_110 : decode cX10_text 110 = .ok (.iconst 1, 1) := by decide +kernel
theorem dX10_text_111 : decode cX10_text 111 = .ok (.iadd, 1) := by decide +kernel
theorem dX10_text_112 : decode cX10_text 112 = .ok (.aload_n 0, 1) := by decide +kernel
theorem dX10_text_113 : decode cX10_text 113 = .ok (.getfield 308, 3) := by decide +kernel
theorem dX10_text_116 : decode cX10_text 116 = .ok (.iastore, 1) := by decide +kernel
theorem dX10_text_117 : decode cX10_text 117 = .ok (.iconst 0, 1) := by decide +kernel
theorem dX10_text_118 : decode cX10_text 118 = .ok (.istore_n 3, 1) := by decide +kernel
theorem dX10_text_119 : decode cX10_text 119 = .ok (.iload_n 3, 1) := by decide +kernel
theorem dX10_text_120 : decode cX10_text 120 = .ok (.aload_n 0, 1) := by decide +kernel
theorem dX10_text_121 : decode cX10_text 121 = .ok (.getfield 302, 3) := by decide +kernel
theorem dX10_text_124 : decode cX10_text 124 = .ok (.if_icmp .ge 30, 3) := by decide +kernel
theorem dX10_text_127 : decode cX10_text 127 = .ok (.aload_n 0, 1) := by decide +kernel
theorem dX10_text_128 : decode cX10_text 128 = .ok (.getfield 9, 3) := by decide +kernel
theorem dX10_text_131 : decode cX10_text 131 = .ok (.sipush 186, 3) := by decide +kernel
theorem dX10_text_134 : decode cX10_text 134 = .ok (.bipush 96, 2) := by decide +kernel
theorem dX10_text_136 : decode cX10_text 136 = .ok (.iload_n 2, 1) := by decide +kernel
theorem dX10_text_137 : decode cX10_text 137 = .ok (.imul, 1) := by decide +kernel
theorem dX10_text_138 : decode cX10_text 138 = .ok (.iadd, 1) := by decide +kernel
theorem dX10_text_139 : decode cX10_text 139 = .ok (.iload_n 3, 1) := by decide +kernel
theorem dX10_text_140 : decode cX10_text 140 = .ok (.iadd, 1) := by decide +kernel
theorem dX10_text_141 : decode cX10_text 141 = .ok (.aload_n 0, 1) := by decide +kernel
theorem dX10_text_142 : decode cX10_text 142 = .ok (.getfield 69, 3) := by decide +kernel
theorem dX10_text_145 : decode cX10_text 145 = .ok (.iload_n 3, 1) := by decide +kernel
theorem dX10_text_146 : decode cX10_text 146 = .ok (.iaload, 1) := by decide +kernel
theorem dX10_text_147 : decode cX10_text 147 = .ok (.iastore, 1) := by decide +kernel
theorem dX10_text_148 : decode cX10_text 148 = .ok (.iinc 3 1, 3) := by decide +kernel
theorem dX10_text_151 : decode cX10_text 151 = .ok (.goto (-32), 3) := by decide +kernel
theorem dX10_text_154 : decode cX10_text 154 = .ok (.aload_n 0, 1) := by decide +kernel
theorem dX10_text_155 : decode cX10_text 155 = .ok (.getfield 9, 3) := by decide +kernel
theorem dX10_text_158 : decode cX10_text 158 = .ok (.bipush 6, 2) := by decide +kernel
theorem dX10_text_160 : decode cX10_text 160 = .ok (.dup2, 1) := by decide +kernel
theorem dX10_text_161 : decode cX10_text 161 = .ok (.iaload, 1) := by decide +kernel
theorem dX10_text_162 : decode cX10_text 162 = .ok (.iconst 1, 1) := by decide +kernel
theorem dX10_text_163 : decode cX10_text 163 = .ok (.iadd, 1) := by decide +kernel
theorem dX10_text_164 : decode cX10_text 164 = .ok (.iastore, 1) := by decide +kernel
theorem dX10_text_165 : decode cX10_text 165 = .ok (.iload_n 2, 1) := by decide +kernel
theorem dX10_text_166 : decode cX10_text 166 = .ok (.ireturn, 1) := by decide +kernel
theorem dX10_textTold_0 : decode cX10_textTold 0 = .ok (.iload_n 1, 1) := by decide +kernel
theorem dX10_textTold_1 : decode cX10_textTold 1 = .ok (.iconst 0, 1) := by decide +kernel
theorem dX10_textTold_2 : decode cX10_textTold 2 = .ok (.aload_n 0, 1) := by decide +kernel
theorem dX10_textTold_3 : decode cX10_textTold 3 = .ok (.getfield 9, 3) := by decide +kernel
theorem dX10_textTold_6 : decode cX10_textTold 6 = .ok (.bipush 6, 2) := by decide +kernel
theorem dX10_textTold_8 : decode cX10_textTold 8 = .ok (.iaload, 1) := by decide +kernel
theorem dX10_textTold_9 : decode cX10_textTold 9 = .ok (.iconst 1, 1) := by decide +kernel
theorem dX10_textTold_10 : decode cX10_textTold 10 = .ok (.isub, 1) := by decide +kernel
theorem dX10_textTold_11 : decode cX10_textTold 11 = .ok (.invokestatic 117, 3) := by decide +kernel
theorem dX10_textTold_14 : decode cX10_textTold 14 = .ok (.ifCond .eq 12, 3) := by decide +kernel
theorem dX10_textTold_17 : decode cX10_textTold 17 = .ok (.iload_n 2, 1) := by decide +kernel
theorem dX10_textTold_18 : decode cX10_textTold 18 = .ok (.iconst 0, 1) := by decide +kernel
theorem dX10_textTold_19 : decode cX10_textTold 19 = .ok (.iconst 1, 1) := by decide +kernel
theorem dX10_textTold_20 : decode cX10_textTold 20 = .ok (.invokestatic 117, 3) := by decide +kernel
theorem dX10_textTold_23 : decode cX10_textTold 23 = .ok (.ifCond .ne 6, 3) := by decide +kernel
theorem dX10_textTold_26 : decode cX10_textTold 26 = .ok (.ldc 125, 2) := by decide +kernel
theorem dX10_textTold_28 : decode cX10_textTold 28 = .ok (.ireturn, 1) := by decide +kernel
theorem dX10_textTold_29 : decode cX10_textTold 29 = .ok (.iload_n 2, 1) := by decide +kernel
theorem dX10_textTold_30 : decode cX10_textTold 30 = .ok (.ifCond .ne 22, 3) := by decide +kernel
theorem dX10_textTold_33 : decode cX10_textTold 33 = .ok (.aload_n 0, 1) := by decide +kernel
theorem dX10_textTold_34 : decode cX10_textTold 34 = .ok (.getfield 9, 3) := by decide +kernel
theorem dX10_textTold_37 : decode cX10_textTold 37 = .ok (.sipush 158, 3) := by decide +kernel
theorem dX10_textTold_40 : decode cX10_textTold 40 = .ok (.iconst 2, 1) := by decide +kernel
theorem dX10_textTold_41 : decode cX10_textTold 41 = .ok (.iload_n 1, 1) := by decide +kernel
theorem dX10_textTold_42 : decode cX10_textTold 42 = .ok (.imul, 1) := by decide +kernel
theorem dX10_textTold_43 : decode cX10_textTold 43 = .ok (.iadd, 1) := by decide +kernel
theorem dX10_textTold_44 : decode cX10_textTold 44 = .ok (.iaload, 1) := by decide +kernel
theorem dX10_textTold_45 : decode cX10_textTold 45 = .ok (.sipush 1000, 3) := by decide +kernel
theorem dX10_textTold_48 : decode cX10_textTold 48 = .ok (.idiv, 1) := by decide +kernel
theorem dX10_textTold_49 : decode cX10_textTold 49 = .ok (.goto 17, 3) := by decide +kernel
theorem dX10_textTold_52 : decode cX10_textTold 52 = .ok (.aload_n 0, 1) := by decide +kernel
theorem dX10_textTold_53 : decode cX10_textTold 53 = .ok (.getfield 9, 3) := by decide +kernel
theorem dX10_textTold_56 : decode cX10_textTold 56 = .ok (.sipush 158, 3) := by decide +kernel
theorem dX10_textTold_59 : decode cX10_textTold 59 = .ok (.iconst 2, 1) := by decide +kernel
theorem dX10_textTold_60 : decode cX10_textTold 60 = .ok (.iload_n 1, 1) := by decide +kernel
theorem dX10_textTold_61 : decode cX10_textTold 61 = .ok (.imul, 1) := by decide +kernel
theorem dX10_textTold_62 : decode cX10_textTold 62 = .ok (.iadd, 1) := by decide +kernel
theorem dX10_textTold_63 : decode cX10_textTold 63 = .ok (.iconst 1, 1) := by decide +kernel
theorem dX10_textTold_64 : decode cX10_textTold 64 = .ok (.iadd, 1) := by decide +kernel
theorem dX10_textTold_65 : decode cX10_textTold 65 = .ok (.iaload, 1) := by decide +kernel
theorem dX10_textTold_66 : decode cX10_textTold 66 = .ok (.ireturn, 1) := by decide +kernel
theorem dX10_counts_0 : decode cX10_counts 0 = .ok (.aload_n 0, 1) := by decide +kernel
theorem dX10_counts_1 : decode cX10_counts 1 = .ok (.getfield 9, 3) := by decide +kernel
theorem dX10_counts_4 : decode cX10_counts 4 = .ok (.bipush 6, 2) := by decide +kernel
theorem dX10_counts_6 : decode cX10_counts 6 = .ok (.iaload, 1) := by decide +kernel
theorem dX10_counts_7 : decode cX10_counts 7 = .ok (.iconst 1, 1) := by decide +kernel
theorem dX10_counts_8 : decode cX10_counts 8 = .ok (.isub, 1) := by decide +kernel
theorem dX10_counts_9 : decode cX10_counts 9 = .ok (.istore_n 2, 1) := by decide +kernel
theorem dX10_counts_10 : decode cX10_counts 10 = .ok (.iload_n 2, 1) := by decide +kernel
theorem dX10_counts_11 : decode cX10_counts 11 = .ok (.ifCond .lt 31, 3) := by decide +kernel
theorem dX10_counts_14 : decode cX10_counts 14 = .ok (.aload_n 0, 1) := by decide +kernel
theorem dX10_counts_15 : decode cX10_counts 15 = .ok (.getfield 9, 3) := by decide +kernel
theorem dX10_counts_18 : decode cX10_counts 18 = .ok (.sipush 158, 3) := by decide +kernel
theorem dX10_counts_21 : decode cX10_counts 21 = .ok (.iconst 2, 1) := by decide +kernel
theorem dX10_counts_22 : decode cX10_counts 22 = .ok (.iload_n 2, 1) := by decide +kernel
theorem dX10_counts_23 : decode cX10_counts 23 = .ok (.imul, 1) := by decide +kernel
theorem dX10_counts_24 : decode cX10_counts 24 = .ok (.iadd, 1) := by decide +kernel
theorem dX10_counts_25 : decode cX10_counts 25 = .ok (.iaload, 1) := by decide +kernel
theorem dX10_counts_26 : decode cX10_counts 26 = .ok (.sipush 1000, 3) := by decide +kernel
theorem dX10_counts_29 : decode cX10_counts 29 = .ok (.idiv, 1) := by decide +kernel
theorem dX10_counts_30 : decode cX10_counts 30 = .ok (.iload_n 1, 1) := by decide +kernel
theorem dX10_counts_31 : decode cX10_counts 31 = .ok (.if_icmp .ne 5, 3) := by decide +kernel
theorem dX10_counts_34 : decode cX10_counts 34 = .ok (.iload_n 2, 1) := by decide +kernel
theorem dX10_counts_35 : decode cX10_counts 35 = .ok (.ireturn, 1) := by decide +kernel
theorem dX10_counts_36 : decode cX10_counts 36 = .ok (.iinc 2 (-1), 3) := by decide +kernel
theorem dX10_counts_39 : decode cX10_counts 39 = .ok (.goto (-29), 3) := by decide +kernel
theorem dX10_counts_42 : decode cX10_counts 42 = .ok (.iconst (-1), 1) := by decide +kernel
theorem dX10_counts_43 : decode cX10_counts 43 = .ok (.ireturn, 1) := by decide +kernel
theorem dX10_why_0 : decode cX10_why 0 = .ok (.iload_n 1, 1) := by decide +kernel
theorem dX10_why_1 : decode cX10_why 1 = .ok (.iconst 0, 1) := by decide +kernel
theorem dX10_why_2 : decode cX10_why 2 = .ok (.iconst 2, 1) := by decide +kernel
theorem dX10_why_3 : decode cX10_why 3 = .ok (.invokestatic 117, 3) := by decide +kernel
theorem dX10_why_6 : decode cX10_why 6 = .ok (.ifCond .ne 6, 3) := by decide +kernel
theorem dX10_why_9 : decode cX10_why 9 = .ok (.ldc 125, 2) := by decide +kernel
theorem dX10_why_11 : decode cX10_why 11 = .ok (.ireturn, 1) := by decide +kernel
theorem dX10_why_12 : decode cX10_why 12 = .ok (.aload_n 0, 1) := by decide +kernel
theorem dX10_why_13 : decode cX10_why 13 = .ok (.iload_n 1, 1) := by decide +kernel
theorem dX10_why_14 : decode cX10_why 14 = .ok (.invokevirtual 197, 3) := by decide +kernel
theorem dX10_why_17 : decode cX10_why 17 = .ok (.istore_n 2, 1) := by decide +kernel
theorem dX10_why_18 : decode cX10_why 18 = .ok (.iload_n 2, 1) := by decide +kernel
theorem dX10_why_19 : decode cX10_why 19 = .ok (.ifCond .ge 8, 3) := by decide +kernel
theorem dX10_why_22 : decode cX10_why 22 = .ok (.ldc 145, 2) := by decide +kernel
theorem dX10_why_24 : decode cX10_why 24 = .ok (.goto 4, 3) := by decide +kernel
theorem dX10_why_27 : decode cX10_why 27 = .ok (.iload_n 2, 1) := by decide +kernel
theorem dX10_why_28 : decode cX10_why 28 = .ok (.ireturn, 1) := by decide +kernel
theorem dX10_two_0 : decode cX10_two 0 = .ok (.iload_n 0, 1) := by decide +kernel
theorem dX10_two_1 : decode cX10_two 1 = .ok (.tableswitch 120 (-8) (-1) #[116, 112, 108, 97, 86, 75, 61, 47], 47) := by decide +kernel
theorem dX10_two_48 : decode cX10_two 48 = .ok (.iload_n 1, 1) := by decide +kernel
theorem dX10_two_49 : decode cX10_two 49 = .ok (.ifCond .ne 7, 3) := by decide +kernel
theorem dX10_two_52 : decode cX10_two 52 = .ok (.iload_n 2, 1) := by decide +kernel
theorem dX10_two_53 : decode cX10_two 53 = .ok (.ifCond .eq 7, 3) := by decide +kernel
theorem dX10_two_56 : decode cX10_two 56 = .ok (.iconst 1, 1) := by decide +kernel
theorem dX10_two_57 : decode cX10_two 57 = .ok (.goto 4, 3) := by decide +kernel
theorem dX10_two_60 : decode cX10_two 60 = .ok (.iconst 0, 1) := by decide +kernel
theorem dX10_two_61 : decode cX10_two 61 = .ok (.ireturn, 1) := by decide +kernel
theorem dX10_two_62 : decode cX10_two 62 = .ok (.iload_n 1, 1) := by decide +kernel
theorem dX10_two_63 : decode cX10_two 63 = .ok (.ifCond .eq 11, 3) := by decide +kernel
theorem dX10_two_66 : decode cX10_two 66 = .ok (.iload_n 2, 1) := by decide +kernel
theorem dX10_two_67 : decode cX10_two 67 = .ok (.ifCond .eq 7, 3) := by decide +kernel
theorem dX10_two_70 : decode cX10_two 70 = .ok (.iconst 1, 1) := by decide +kernel
theorem dX10_two_71 : decode cX10_two 71 = .ok (.goto 4, 3) := by decide +kernel
theorem dX10_two_74 : decode cX10_two 74 = .ok (.iconst 0, 1) := by decide +kernel
theorem dX10_two_75 : decode cX10_two 75 = .ok (.ireturn, 1) := by decide +kernel
theorem dX10_two_76 : decode cX10_two 76 = .ok (.iload_n 1, 1) := by decide +kernel
theorem dX10_two_77 : decode cX10_two 77 = .ok (.iload_n 2, 1) := by decide +kernel
theorem dX10_two_78 : decode cX10_two 78 = .ok (.if_icmp .ge 7, 3) := by decide +kernel
theorem dX10_two_81 : decode cX10_two 81 = .ok (.iconst 1, 1) := by decide +kernel
theorem dX10_two_82 : decode cX10_two 82 = .ok (.goto 4, 3) := by decide +kernel
theorem dX10_two_85 : decode cX10_two 85 = .ok (.iconst 0, 1) := by decide +kernel
theorem dX10_two_86 : decode cX10_two 86 = .ok (.ireturn, 1) := by decide +kernel
theorem dX10_two_87 : decode cX10_two 87 = .ok (.iload_n 1, 1) := by decide +kernel
theorem dX10_two_88 : decode cX10_two 88 = .ok (.iload_n 2, 1) := by decide +kernel
theorem dX10_two_89 : decode cX10_two 89 = .ok (.if_icmp .ne 7, 3) := by decide +kernel
theorem dX10_two_92 : decode cX10_two 92 = .ok (.iconst 1, 1) := by decide +kernel
theorem dX10_two_93 : decode cX10_two 93 = .ok (.goto 4, 3) := by decide +kernel
theorem dX10_two_96 : decode cX10_two 96 = .ok (.iconst 0, 1) := by decide +kernel
theorem dX10_two_97 : decode cX10_two 97 = .ok (.ireturn, 1) := by decide +kernel
theorem dX10_two_98 : decode cX10_two 98 = .ok (.iload_n 1, 1) := by decide +kernel
theorem dX10_two_99 : decode cX10_two 99 = .ok (.iload_n 2, 1) := by decide +kernel
theorem dX10_two_100 : decode cX10_two 100 = .ok (.if_icmp .le 7, 3) := by decide +kernel
theorem dX10_two_103 : decode cX10_two 103 = .ok (.iconst 1, 1) := by decide +kernel
theorem dX10_two_104 : decode cX10_two 104 = .ok (.goto 4, 3) := by decide +kernel
theorem dX10_two_107 : decode cX10_two 107 = .ok (.iconst 0, 1) := by decide +kernel
theorem dX10_two_108 : decode cX10_two 108 = .ok (.ireturn, 1) := by decide +kernel
theorem dX10_two_109 : decode cX10_two 109 = .ok (.iload_n 1, 1) := by decide +kernel
theorem dX10_two_110 : decode cX10_two 110 = .ok (.iload_n 2, 1) := by decide +kernel
theorem dX10_two_111 : decode cX10_two 111 = .ok (.iadd, 1) := by decide +kernel
theorem dX10_two_112 : decode cX10_two 112 = .ok (.ireturn, 1) := by decide +kernel
theorem dX10_two_113 : decode cX10_two 113 = .ok (.iload_n 1, 1) := by decide +kernel
theorem dX10_two_114 : decode cX10_two 114 = .ok (.iload_n 2, 1) := by decide +kernel
theorem dX10_two_115 : decode cX10_two 115 = .ok (.isub, 1) := by decide +kernel
theorem dX10_two_116 : decode cX10_two 116 = .ok (.ireturn, 1) := by decide +kernel
theorem dX10_two_117 : decode cX10_two 117 = .ok (.iload_n 1, 1) := by decide +kernel
theorem dX10_two_118 : decode cX10_two 118 = .ok (.iload_n 2, 1) := by decide +kernel
theorem dX10_two_119 : decode cX10_two 119 = .ok (.imul, 1) := by decide +kernel
theorem dX10_two_120 : decode cX10_two 120 = .ok (.ireturn, 1) := by decide +kernel
theorem dX10_two_121 : decode cX10_two 121 = .ok (.iload_n 2, 1) := by decide +kernel
theorem dX10_two_122 : decode cX10_two 122 = .ok (.ifCond .ne 7, 3) := by decide +kernel
theorem dX10_two_125 : decode cX10_two 125 = .ok (.iconst 0, 1) := by decide +kernel
theorem dX10_two_126 : decode cX10_two 126 = .ok (.goto 6, 3) := by decide +kernel
theorem dX10_two_129 : decode cX10_two 129 = .ok (.iload_n 1, 1) := by decide +kernel
theorem dX10_two_130 : decode cX10_two 130 = .ok (.iload_n 2, 1) := by decide +kernel
theorem dX10_two_131 : decode cX10_two 131 = .ok (.idiv, 1) := by decide +kernel
theorem dX10_two_132 : decode cX10_two 132 = .ok (.ireturn, 1) := by decide +kernel
theorem dX10_worksOut_0 : decode cX10_worksOut 0 = .ok (.iconst 0, 1) := by decide +kernel
theorem dX10_worksOut_1 : decode cX10_worksOut 1 = .ok (.istore_n 2, 1) := by decide +kernel
theorem dX10_worksOut_2 : decode cX10_worksOut 2 = .ok (.aload_n 0, 1) := by decide +kernel
theorem dX10_worksOut_3 : decode cX10_worksOut 3 = .ok (.getfield 9, 3) := by decide +kernel
theorem dX10_worksOut_6 : decode cX10_worksOut 6 = .ok (.sipush 158, 3) := by decide +kernel
theorem dX10_worksOut_9 : decode cX10_worksOut 9 = .ok (.iconst 2, 1) := by decide +kernel
theorem dX10_worksOut_10 : decode cX10_worksOut 10 = .ok (.iload_n 1, 1) := by decide +kernel
theorem dX10_worksOut_11 : decode cX10_worksOut 11 = .ok (.imul, 1) := by decide +kernel
theorem dX10_worksOut_12 : decode cX10_worksOut 12 = .ok (.iadd, 1) := by decide +kernel
theorem dX10_worksOut_13 : decode cX10_worksOut 13 = .ok (.iaload, 1) := by decide +kernel
theorem dX10_worksOut_14 : decode cX10_worksOut 14 = .ok (.sipush 1000, 3) := by decide +kernel
theorem dX10_worksOut_17 : decode cX10_worksOut 17 = .ok (.irem, 1) := by decide +kernel
theorem dX10_worksOut_18 : decode cX10_worksOut 18 = .ok (.istore_n 3, 1) := by decide +kernel
theorem dX10_worksOut_19 : decode cX10_worksOut 19 = .ok (.iconst 0, 1) := by decide +kernel
theorem dX10_worksOut_20 : decode cX10_worksOut 20 = .ok (.istore 4, 2) := by decide +kernel
theorem dX10_worksOut_22 : decode cX10_worksOut 22 = .ok (.iload 4, 2) := by decide +kernel
theorem dX10_worksOut_24 : decode cX10_worksOut 24 = .ok (.iload_n 3, 1) := by decide +kernel
theorem dX10_worksOut_25 : decode cX10_worksOut 25 = .ok (.if_icmp .ge 132, 3) := by decide +kernel
theorem dX10_worksOut_28 : decode cX10_worksOut 28 = .ok (.aload_n 0, 1) := by decide +kernel
theorem dX10_worksOut_29 : decode cX10_worksOut 29 = .ok (.getfield 9, 3) := by decide +kernel
theorem dX10_worksOut_32 : decode cX10_worksOut 32 = .ok (.sipush 186, 3) := by decide +kernel
theorem dX10_worksOut_35 : decode cX10_worksOut 35 = .ok (.bipush 96, 2) := by decide +kernel
theorem dX10_worksOut_37 : decode cX10_worksOut 37 = .ok (.iload_n 1, 1) := by decide +kernel
theorem dX10_worksOut_38 : decode cX10_worksOut 38 = .ok (.imul, 1) := by decide +kernel
theorem dX10_worksOut_39 : decode cX10_worksOut 39 = .ok (.iadd, 1) := by decide +kernel
theorem dX10_worksOut_40 : decode cX10_worksOut 40 = .ok (.iload 4, 2) := by decide +kernel
theorem dX10_worksOut_42 : decode cX10_worksOut 42 = .ok (.iadd, 1) := by decide +kernel
theorem dX10_worksOut_43 : decode cX10_worksOut 43 = .ok (.iaload, 1) := by decide +kernel
theorem dX10_worksOut_44 : decode cX10_worksOut 44 = .ok (.istore 5, 2) := by decide +kernel
theorem dX10_worksOut_46 : decode cX10_worksOut 46 = .ok (.iload 5, 2) := by decide +kernel
theorem dX10_worksOut_48 : decode cX10_worksOut 48 = .ok (.ifCond .lt 39, 3) := by decide +kernel
theorem dX10_worksOut_51 : decode cX10_worksOut 51 = .ok (.aload_n 0, 1) := by decide +kernel
theorem dX10_worksOut_52 : decode cX10_worksOut 52 = .ok (.getfield 78, 3) := by decide +kernel
theorem dX10_worksOut_55 : decode cX10_worksOut 55 = .ok (.iload_n 2, 1) := by decide +kernel
theorem dX10_worksOut_56 : decode cX10_worksOut 56 = .ok (.iload 5, 2) := by decide +kernel
theorem dX10_worksOut_58 : decode cX10_worksOut 58 = .ok (.sipush 10000, 3) := by decide +kernel
theorem dX10_worksOut_61 : decode cX10_worksOut 61 = .ok (.if_icmp .ge 8, 3) := by decide +kernel
theorem dX10_worksOut_64 : decode cX10_worksOut 64 = .ok (.iload 5, 2) := by decide +kernel
theorem dX10_worksOut_66 : decode cX10_worksOut 66 = .ok (.goto 14, 3) := by decide +kernel
theorem dX10_worksOut_69 : decode cX10_worksOut 69 = .ok (.aload_n 0, 1) := by decide +kernel
theorem dX10_worksOut_70 : decode cX10_worksOut 70 = .ok (.getfield 81, 3) := by decide +kernel
theorem dX10_worksOut_73 : decode cX10_worksOut 73 = .ok (.iload 5, 2) := by decide +kernel
theorem dX10_worksOut_75 : decode cX10_worksOut 75 = .ok (.sipush 10000, 3) := by decide +kernel
theorem dX10_worksOut_78 : decode cX10_worksOut 78 = .ok (.isub, 1) := by decide +kernel
theorem dX10_worksOut_79 : decode cX10_worksOut 79 = .ok (.iaload, 1) := by decide +kernel
theorem dX10_worksOut_80 : decode cX10_worksOut 80 = .ok (.iastore, 1) := by decide +kernel
theorem dX10_worksOut_81 : decode cX10_worksOut 81 = .ok (.iinc 2 1, 3) := by decide +kernel
theorem dX10_worksOut_84 : decode cX10_worksOut 84 = .ok (.goto 67, 3) := by decide +kernel
theorem dX10_worksOut_87 : decode cX10_worksOut 87 = .ok (.iload 5, 2) := by decide +kernel
theorem dX10_worksOut_89 : decode cX10_worksOut 89 = .ok (.bipush (-10), 2) := by decide +kernel
theorem dX10_worksOut_91 : decode cX10_worksOut 91 = .ok (.if_icmp .ne 30, 3) := by decide +kernel
theorem dX10_worksOut_94 : decode cX10_worksOut 94 = .ok (.aload_n 0, 1) := by decide +kernel
theorem dX10_worksOut_95 : decode cX10_worksOut 95 = .ok (.getfield 78, 3) := by decide +kernel
theorem dX10_worksOut_98 : decode cX10_worksOut 98 = .ok (.iload_n 2, 1) := by decide +kernel
theorem dX10_worksOut_99 : decode cX10_worksOut 99 = .ok (.iconst 1, 1) := by decide +kernel
theorem dX10_worksOut_100 : decode cX10_worksOut 100 = .ok (.isub, 1) := by decide +kernel
theorem dX10_worksOut_101 : decode cX10_worksOut 101 = .ok (.aload_n 0, 1) := by decide +kernel
theorem dX10_worksOut_102 : decode cX10_worksOut 102 = .ok (.getfield 78, 3) := by decide +kernel
theorem dX10_worksOut_105 : decode cX10_worksOut 105 = .ok (.iload_n 2, 1) := by decide +kernel
theorem dX10_worksOut_106 : decode cX10_worksOut 106 = .ok (.iconst 1, 1) := by decide +kernel
theorem dX10_worksOut_107 : decode cX10_worksOut 107 = .ok (.isub, 1) := by decide +kernel
theorem dX10_worksOut_108 : decode cX10_worksOut 108 = .ok (.iaload, 1) := by decide +kernel
theorem dX10_worksOut_109 : decode cX10_worksOut 109 = .ok (.ifCond .ne 7, 3) := by decide +kernel
theorem dX10_worksOut_112 : decode cX10_worksOut 112 = .ok (.iconst 1, 1) := by decide +kernel
theorem dX10_worksOut_113 : decode cX10_worksOut 113 = .ok (.goto 4, 3) := by decide +kernel
theorem dX10_worksOut_116 : decode cX10_worksOut 116 = .ok (.iconst 0, 1) := by decide +kernel
theorem dX10_worksOut_117 : decode cX10_worksOut 117 = .ok (.iastore, 1) := by decide +kernel
theorem dX10_worksOut_118 : decode cX10_worksOut 118 = .ok (.goto 33, 3) := by decide +kernel
theorem dX10_worksOut_121 : decode cX10_worksOut 121 = .ok (.iinc 2 (-1), 3) := by decide +kernel
theorem dX10_worksOut_124 : decode cX10_worksOut 124 = .ok (.aload_n 0, 1) := by decide +kernel
theorem dX10_worksOut_125 : decode cX10_worksOut 125 = .ok (.getfield 78, 3) := by decide +kernel
theorem dX10_worksOut_128 : decode cX10_worksOut 128 = .ok (.iload_n 2, 1) := by decide +kernel
theorem dX10_worksOut_129 : decode cX10_worksOut 129 = .ok (.iconst 1, 1) := by decide +kernel
theorem dX10_worksOut_130 : decode cX10_worksOut 130 = .ok (.isub, 1) := by decide +kernel
theorem dX10_worksOut_131 : decode cX10_worksOut 131 = .ok (.iload 5, 2) := by decide +kernel
theorem dX10_worksOut_133 : decode cX10_worksOut 133 = .ok (.aload_n 0, 1) := by decide +kernel
theorem dX10_worksOut_134 : decode cX10_worksOut 134 = .ok (.getfield 78, 3) := by decide +kernel
theorem dX10_worksOut_137 : decode cX10_worksOut 137 = .ok (.iload_n 2, 1) := by decide +kernel
theorem dX10_worksOut_138 : decode cX10_worksOut 138 = .ok (.iconst 1, 1) := by decide +kernel
theorem dX10_worksOut_139 : decode cX10_worksOut 139 = .ok (.isub, 1) := by decide +kernel
theorem dX10_worksOut_140 : decode cX10_worksOut 140 = .ok (.iaload, 1) := by decide +kernel
theorem dX10_worksOut_141 : decode cX10_worksOut 141 = .ok (.aload_n 0, 1) := by decide +kernel
theorem dX10_worksOut_142 : decode cX10_worksOut 142 = .ok (.getfield 78, 3) := by decide +kernel
theorem dX10_worksOut_145 : decode cX10_worksOut 145 = .ok (.iload_n 2, 1) := by decide +kernel
theorem dX10_worksOut_146 : decode cX10_worksOut 146 = .ok (.iaload, 1) := by decide +kernel
theorem dX10_worksOut_147 : decode cX10_worksOut 147 = .ok (.invokestatic 331, 3) := by decide +kernel
theorem dX10_worksOut_150 : decode cX10_worksOut 150 = .ok (.iastore, 1) := by decide +kernel
theorem dX10_worksOut_151 : decode cX10_worksOut 151 = .ok (.iinc 4 1, 3) := by decide +kernel
theorem dX10_worksOut_154 : decode cX10_worksOut 154 = .ok (.goto (-132), 3) := by decide +kernel
theorem dX10_worksOut_157 : decode cX10_worksOut 157 = .ok (.aload_n 0, 1) := by decide +kernel
theorem dX10_worksOut_158 : decode cX10_worksOut 158 = .ok (.getfield 78, 3) := by decide +kernel
theorem dX10_worksOut_161 : decode cX10_worksOut 161 = .ok (.iconst 0, 1) := by decide +kernel
theorem dX10_worksOut_162 : decode cX10_worksOut 162 = .ok (.iaload, 1) := by decide +kernel
theorem dX10_worksOut_163 : decode cX10_worksOut 163 = .ok (.ireturn, 1) := by decide +kernel
theorem dX10_beginsYears_0 : decode cX10_beginsYears 0 = .ok (.aload_n 0, 1) := by decide +kernel
theorem dX10_beginsYears_1 : decode cX10_beginsYears 1 = .ok (.invokevirtual 138, 3) := by decide +kernel
theorem dX10_beginsYears_4 : decode cX10_beginsYears 4 = .ok (.iconst 0, 1) := by decide +kernel
theorem dX10_beginsYears_5 : decode cX10_beginsYears 5 = .ok (.istore_n 1, 1) := by decide +kernel
theorem dX10_beginsYears_6 : decode cX10_beginsYears 6 = .ok (.iload_n 1, 1) := by decide +kernel
theorem dX10_beginsYears_7 : decode cX10_beginsYears 7 = .ok (.aload_n 0, 1) := by decide +kernel
theorem dX10_beginsYears_8 : decode cX10_beginsYears 8 = .ok (.getfield 219, 3) := by decide +kernel
theorem dX10_beginsYears_11 : decode cX10_beginsYears 11 = .ok (.if_icmp .ge 20, 3) := by decide +kernel
theorem dX10_beginsYears_14 : decode cX10_beginsYears 14 = .ok (.aload_n 0, 1) := by decide +kernel
theorem dX10_beginsYears_15 : decode cX10_beginsYears 15 = .ok (.getfield 84, 3) := by decide +kernel
theorem dX10_beginsYears_18 : decode cX10_beginsYears 18 = .ok (.iload_n 1, 1) := by decide +kernel
theorem dX10_beginsYears_19 : decode cX10_beginsYears 19 = .ok (.aload_n 0, 1) := by decide +kernel
theorem dX10_beginsYears_20 : decode cX10_beginsYears 20 = .ok (.iload_n 1, 1) := by decide +kernel
theorem dX10_beginsYears_21 : decode cX10_beginsYears 21 = .ok (.invokevirtual 234, 3) := by decide +kernel
theorem dX10_beginsYears_24 : decode cX10_beginsYears 24 = .ok (.iastore, 1) := by decide +kernel
theorem dX10_beginsYears_25 : decode cX10_beginsYears 25 = .ok (.iinc 1 1, 3) := by decide +kernel
theorem dX10_beginsYears_28 : decode cX10_beginsYears 28 = .ok (.goto (-22), 3) := by decide +kernel
theorem dX10_beginsYears_31 : decode cX10_beginsYears 31 = .ok (.return_, 1) := by decide +kernel
theorem dX10_growsIn_0 : decode cX10_growsIn 0 = .ok (.aload_n 0, 1) := by decide +kernel
theorem dX10_growsIn_1 : decode cX10_growsIn 1 = .ok (.iconst 2, 1) := by decide +kernel
theorem dX10_growsIn_2 : decode cX10_growsIn 2 = .ok (.invokevirtual 197, 3) := by decide +kernel
theorem dX10_growsIn_5 : decode cX10_growsIn 5 = .ok (.istore_n 2, 1) := by decide +kernel
theorem dX10_growsIn_6 : decode cX10_growsIn 6 = .ok (.iconst 0, 1) := by decide +kernel
theorem dX10_growsIn_7 : decode cX10_growsIn 7 = .ok (.istore_n 3, 1) := by decide +kernel
theorem dX10_growsIn_8 : decode cX10_growsIn 8 = .ok (.iload_n 3, 1) := by decide +kernel
theorem dX10_growsIn_9 : decode cX10_growsIn 9 = .ok (.bipush 8, 2) := by decide +kernel
theorem dX10_growsIn_11 : decode cX10_growsIn 11 = .ok (.if_icmp .ge 105, 3) := by decide +kernel
theorem dX10_growsIn_14 : decode cX10_growsIn 14 = .ok (.iconst (-1), 1) := by decide +kernel
theorem dX10_growsIn_15 : decode cX10_growsIn 15 = .ok (.istore 4, 2) := by decide +kernel
theorem dX10_growsIn_17 : decode cX10_growsIn 17 = .ok (.iconst 0, 1) := by decide +kernel
theorem dX10_growsIn_18 : decode cX10_growsIn 18 = .ok (.istore 5, 2) := by decide +kernel
theorem dX10_growsIn_20 : decode cX10_growsIn 20 = .ok (.iload 5, 2) := by decide +kernel
theorem dX10_growsIn_22 : decode cX10_growsIn 22 = .ok (.aload_n 0, 1) := by decide +kernel
theorem dX10_growsIn_23 : decode cX10_growsIn 23 = .ok (.getfield 9, 3) := by decide +kernel
theorem dX10_growsIn_26 : decode cX10_growsIn 26 = .ok (.iconst 4, 1) := by decide +kernel
theorem dX10_growsIn_27 : decode cX10_growsIn 27 = .ok (.iaload, 1) := by decide +kernel
theorem dX10_growsIn_28 : decode cX10_growsIn 28 = .ok (.if_icmp .ge 29, 3) := by decide +kernel
theorem dX10_growsIn_31 : decode cX10_growsIn 31 = .ok (.aload_n 0, 1) := by decide +kernel
theorem dX10_growsIn_32 : decode cX10_growsIn 32 = .ok (.iload 5, 2) := by decide +kernel
theorem dX10_growsIn_34 : decode cX10_growsIn 34 = .ok (.iconst 2, 1) := by decide +kernel
theorem dX10_growsIn_35 : decode cX10_growsIn 35 = .ok (.invokevirtual 134, 3) := by decide +kernel
theorem dX10_growsIn_38 : decode cX10_growsIn 38 = .ok (.iload_n 3, 1) := by decide +kernel
theorem dX10_growsIn_39 : decode cX10_growsIn 39 = .ok (.if_icmp .ne 8, 3) := by decide +kernel
theorem dX10_growsIn_42 : decode cX10_growsIn 42 = .ok (.iload 5, 2) := by decide +kernel
theorem dX10_growsIn_44 : decode cX10_growsIn 44 = .ok (.goto 5, 3) := by decide +kernel
theorem dX10_growsIn_47 : decode cX10_growsIn 47 = .ok (.iload 4, 2) := by decide +kernel
theorem dX10_growsIn_49 : decode cX10_growsIn 49 = .ok (.istore 4, 2) := by decide +kernel
theorem dX10_growsIn_51 : decode cX10_growsIn 51 = .ok (.iinc 5 1, 3) := by decide +kernel
theorem dX10_growsIn_54 : decode cX10_growsIn 54 = .ok (.goto (-34), 3) := by decide +kernel
theorem dX10_growsIn_57 : decode cX10_growsIn 57 = .ok (.iload 4, 2) := by decide +kernel
theorem dX10_growsIn_59 : decode cX10_growsIn 59 = .ok (.ifCond .lt 51, 3) := by decide +kernel
theorem dX10_growsIn_62 : decode cX10_growsIn 62 = .ok (.aload_n 0, 1) := by decide +kernel
theorem dX10_growsIn_63 : decode cX10_growsIn 63 = .ok (.getfield 81, 3) := by decide +kernel
theorem dX10_growsIn_66 : decode cX10_growsIn 66 = .ok (.iconst 0, 1) := by decide +kernel
theorem dX10_growsIn_67 : decode cX10_growsIn 67 = .ok (.iload_n 3, 1) := by decide +kernel
theorem dX10_growsIn_68 : decode cX10_growsIn 68 = .ok (.iastore, 1) := by decide +kernel
theorem dX10_growsIn_69 : decode cX10_growsIn 69 = .ok (.aload_n 0, 1) := by decide +kernel
theorem dX10_growsIn_70 : decode cX10_growsIn 70 = .ok (.getfield 81, 3) := by decide +kernel
theorem dX10_growsIn_73 : decode cX10_growsIn 73 = .ok (.iconst 1, 1) := by decide +kernel
theorem dX10_growsIn_74 : decode cX10_growsIn 74 = .ok (.iload_n 1, 1) := by decide +kernel
theorem dX10_growsIn_75 : decode cX10_growsIn 75 = .ok (.iastore, 1) := by decide +kernel
theorem dX10_growsIn_76 : decode cX10_growsIn 76 = .ok (.aload_n 0, 1) := by decide +kernel
theorem dX10_growsIn_77 : decode cX10_growsIn 77 = .ok (.getfield 84, 3) := by decide +kernel
theorem dX10_growsIn_80 : decode cX10_growsIn 80 = .ok (.aload_n 0, 1) := by decide +kernel
theorem dX10_growsIn_81 : decode cX10_growsIn 81 = .ok (.getfield 47, 3) := by decide +kernel
theorem dX10_growsIn_84 : decode cX10_growsIn 84 = .ok (.iload 4, 2) := by decide +kernel
theorem dX10_growsIn_86 : decode cX10_growsIn 86 = .ok (.iaload, 1) := by decide +kernel
theorem dX10_growsIn_87 : decode cX10_growsIn 87 = .ok (.dup2, 1) := by decide +kernel
theorem dX10_growsIn_88 : decode cX10_growsIn 88 = .ok (.iaload, 1) := by decide +kernel
theorem dX10_growsIn_89 : decode cX10_growsIn 89 = .ok (.iload_n 2, 1) := by decide +kernel
theorem dX10_growsIn_90 : decode cX10_growsIn 90 = .ok (.ifCond .ge 7, 3) := by decide +kernel
theorem dX10_growsIn_93 : decode cX10_growsIn 93 = .ok (.iconst 1, 1) := by decide +kernel
theorem dX10_growsIn_94 : decode cX10_growsIn 94 = .ok (.goto 14, 3) := by decide +kernel
theorem dX10_growsIn_97 : decode cX10_growsIn 97 = .ok (.aload_n 0, 1) := by decide +kernel
theorem dX10_growsIn_98 : decode cX10_growsIn 98 = .ok (.iload_n 2, 1) := by decide +kernel
theorem dX10_growsIn_99 : decode cX10_growsIn 99 = .ok (.invokevirtual 200, 3) := by decide +kernel
theorem dX10_growsIn_102 : decode cX10_growsIn 102 = .ok (.iconst 0, 1) := by decide +kernel
theorem dX10_growsIn_103 : decode cX10_growsIn 103 = .ok (.bipush 99, 2) := by decide +kernel
theorem dX10_growsIn_105 : decode cX10_growsIn 105 = .ok (.invokestatic 203, 3) := by decide +kernel
theorem dX10_growsIn_108 : decode cX10_growsIn 108 = .ok (.iadd, 1) := by decide +kernel
theorem dX10_growsIn_109 : decode cX10_growsIn 109 = .ok (.iastore, 1) := by decide +kernel
theorem dX10_growsIn_110 : decode cX10_growsIn 110 = .ok (.iinc 3 1, 3) := by decide +kernel
theorem dX10_growsIn_113 : decode cX10_growsIn 113 = .ok (.goto (-105), 3) := by decide +kernel
theorem dX10_growsIn_116 : decode cX10_growsIn 116 = .ok (.return_, 1) := by decide +kernel
theorem dX10_mostFull_0 : decode cX10_mostFull 0 = .ok (.iconst 0, 1) := by decide +kernel
theorem dX10_mostFull_1 : decode cX10_mostFull 1 = .ok (.istore_n 1, 1) := by decide +kernel
theorem dX10_mostFull_2 : decode cX10_mostFull 2 = .ok (.iconst 1, 1) := by decide +kernel
theorem dX10_mostFull_3 : decode cX10_mostFull 3 = .ok (.istore_n 2, 1) := by decide +kernel
theorem dX10_mostFull_4 : decode cX10_mostFull 4 = .ok (.iload_n 2, 1) := by decide +kernel
theorem dX10_mostFull_5 : decode cX10_mostFull 5 = .ok (.aload_n 0, 1) := by decide +kernel
theorem dX10_mostFull_6 : decode cX10_mostFull 6 = .ok (.getfield 219, 3) := by decide +kernel
theorem dX10_mostFull_9 : decode cX10_mostFull 9 = .ok (.if_icmp .ge 30, 3) := by decide +kernel
theorem dX10_mostFull_12 : decode cX10_mostFull 12 = .ok (.aload_n 0, 1) := by decide +kernel
theorem dX10_mostFull_13 : decode cX10_mostFull 13 = .ok (.getfield 84, 3) := by decide +kernel
theorem dX10_mostFull_16 : decode cX10_mostFull 16 = .ok (.iload_n 2, 1) := by decide +kernel
theorem dX10_mostFull_17 : decode cX10_mostFull 17 = .ok (.iaload, 1) := by decide +kernel
theorem dX10_mostFull_18 : decode cX10_mostFull 18 = .ok (.aload_n 0, 1) := by decide +kernel
theorem dX10_mostFull_19 : decode cX10_mostFull 19 = .ok (.getfield 84, 3) := by decide +kernel
theorem dX10_mostFull_22 : decode cX10_mostFull 22 = .ok (.iload_n 1, 1) := by decide +kernel
theorem dX10_mostFull_23 : decode cX10_mostFull 23 = .ok (.iaload, 1) := by decide +kernel
theorem dX10_mostFull_24 : decode cX10_mostFull 24 = .ok (.if_icmp .le 7, 3) := by decide +kernel
theorem dX10_mostFull_27 : decode cX10_mostFull 27 = .ok (.iload_n 2, 1) := by decide +kernel
theorem dX10_mostFull_28 : decode cX10_mostFull 28 = .ok (.goto 4, 3) := by decide +kernel
theorem dX10_mostFull_31 : decode cX10_mostFull 31 = .ok (.iload_n 1, 1) := by decide +kernel
theorem dX10_mostFull_32 : decode cX10_mostFull 32 = .ok (.istore_n 1, 1) := by decide +kernel
theorem dX10_mostFull_33 : decode cX10_mostFull 33 = .ok (.iinc 2 1, 3) := by decide +kernel
theorem dX10_mostFull_36 : decode cX10_mostFull 36 = .ok (.goto (-32), 3) := by decide +kernel
theorem dX10_mostFull_39 : decode cX10_mostFull 39 = .ok (.iload_n 1, 1) := by decide +kernel
theorem dX10_mostFull_40 : decode cX10_mostFull 40 = .ok (.ireturn, 1) := by decide +kernel
theorem dX10_fullBy_0 : decode cX10_fullBy 0 = .ok (.aload_n 0, 1) := by decide +kernel
theorem dX10_fullBy_1 : decode cX10_fullBy 1 = .ok (.invokevirtual 334, 3) := by decide +kernel
theorem dX10_fullBy_4 : decode cX10_fullBy 4 = .ok (.aload_n 0, 1) := by decide +kernel
theorem dX10_fullBy_5 : decode cX10_fullBy 5 = .ok (.getfield 141, 3) := by decide +kernel
theorem dX10_fullBy_8 : decode cX10_fullBy 8 = .ok (.ifCond .lt 10, 3) := by decide +kernel
theorem dX10_fullBy_11 : decode cX10_fullBy 11 = .ok (.aload_n 0, 1) := by decide +kernel
theorem dX10_fullBy_12 : decode cX10_fullBy 12 = .ok (.getfield 219, 3) := by decide +kernel
theorem dX10_fullBy_15 : decode cX10_fullBy 15 = .ok (.ifCond .ne 6, 3) := by decide +kernel
theorem dX10_fullBy_18 : decode cX10_fullBy 18 = .ok (.ldc 145, 2) := by decide +kernel
theorem dX10_fullBy_20 : decode cX10_fullBy 20 = .ok (.ireturn, 1) := by decide +kernel
theorem dX10_fullBy_21 : decode cX10_fullBy 21 = .ok (.iconst 1, 1) := by decide +kernel
theorem dX10_fullBy_22 : decode cX10_fullBy 22 = .ok (.istore_n 1, 1) := by decide +kernel
theorem dX10_fullBy_23 : decode cX10_fullBy 23 = .ok (.iload_n 1, 1) := by decide +kernel
theorem dX10_fullBy_24 : decode cX10_fullBy 24 = .ok (.bipush 60, 2) := by decide +kernel
theorem dX10_fullBy_26 : decode cX10_fullBy 26 = .ok (.if_icmp .gt 34, 3) := by decide +kernel
theorem dX10_fullBy_29 : decode cX10_fullBy 29 = .ok (.aload_n 0, 1) := by decide +kernel
theorem dX10_fullBy_30 : decode cX10_fullBy 30 = .ok (.iload_n 1, 1) := by decide +kernel
theorem dX10_fullBy_31 : decode cX10_fullBy 31 = .ok (.invokevirtual 337, 3) := by decide +kernel
theorem dX10_fullBy_34 : decode cX10_fullBy 34 = .ok (.aload_n 0, 1) := by decide +kernel
theorem dX10_fullBy_35 : decode cX10_fullBy 35 = .ok (.getfield 84, 3) := by decide +kernel
theorem dX10_fullBy_38 : decode cX10_fullBy 38 = .ok (.aload_n 0, 1) := by decide +kernel
theorem dX10_fullBy_39 : decode cX10_fullBy 39 = .ok (.invokevirtual 340, 3) := by decide +kernel
theorem dX10_fullBy_42 : decode cX10_fullBy 42 = .ok (.iaload, 1) := by decide +kernel
theorem dX10_fullBy_43 : decode cX10_fullBy 43 = .ok (.aload_n 0, 1) := by decide +kernel
theorem dX10_fullBy_44 : decode cX10_fullBy 44 = .ok (.getfield 9, 3) := by decide +kernel
theorem dX10_fullBy_47 : decode cX10_fullBy 47 = .ok (.iconst 1, 1) := by decide +kernel
theorem dX10_fullBy_48 : decode cX10_fullBy 48 = .ok (.iaload, 1) := by decide +kernel
theorem dX10_fullBy_49 : decode cX10_fullBy 49 = .ok (.if_icmp .le 5, 3) := by decide +kernel
theorem dX10_fullBy_52 : decode cX10_fullBy 52 = .ok (.iload_n 1, 1) := by decide +kernel
theorem dX10_fullBy_53 : decode cX10_fullBy 53 = .ok (.ireturn, 1) := by decide +kernel
theorem dX10_fullBy_54 : decode cX10_fullBy 54 = .ok (.iinc 1 1, 3) := by decide +kernel
theorem dX10_fullBy_57 : decode cX10_fullBy 57 = .ok (.goto (-34), 3) := by decide +kernel
theorem dX10_fullBy_60 : decode cX10_fullBy 60 = .ok (.ldc 145, 2) := by decide +kernel
theorem dX10_fullBy_62 : decode cX10_fullBy 62 = .ok (.ireturn, 1) := by decide +kernel
theorem dX10_most_0 : decode cX10_most 0 = .ok (.iload_n 1, 1) := by decide +kernel
theorem dX10_most_1 : decode cX10_most 1 = .ok (.iconst 0, 1) := by decide +kernel
theorem dX10_most_2 : decode cX10_most 2 = .ok (.bipush 60, 2) := by decide +kernel
theorem dX10_most_4 : decode cX10_most 4 = .ok (.invokestatic 117, 3) := by decide +kernel
theorem dX10_most_7 : decode cX10_most 7 = .ok (.ifCond .eq 12, 3) := by decide +kernel
theorem dX10_most_10 : decode cX10_most 10 = .ok (.iload_n 2, 1) := by decide +kernel
theorem dX10_most_11 : decode cX10_most 11 = .ok (.iconst 0, 1) := by decide +kernel
theorem dX10_most_12 : decode cX10_most 12 = .ok (.iconst 1, 1) := by decide +kernel
theorem dX10_most_13 : decode cX10_most 13 = .ok (.invokestatic 117, 3) := by decide +kernel
theorem dX10_most_16 : decode cX10_most 16 = .ok (.ifCond .ne 6, 3) := by decide +kernel
theorem dX10_most_19 : decode cX10_most 19 = .ok (.ldc 125, 2) := by decide +kernel
theorem dX10_most_21 : decode cX10_most 21 = .ok (.ireturn, 1) := by decide +kernel
theorem dX10_most_22 : decode cX10_most 22 = .ok (.aload_n 0, 1) := by decide +kernel
theorem dX10_most_23 : decode cX10_most 23 = .ok (.invokevirtual 334, 3) := by decide +kernel
theorem dX10_most_26 : decode cX10_most 26 = .ok (.aload_n 0, 1) := by decide +kernel
theorem dX10_most_27 : decode cX10_most 27 = .ok (.getfield 141, 3) := by decide +kernel
theorem dX10_most_30 : decode cX10_most 30 = .ok (.ifCond .lt 10, 3) := by decide +kernel
theorem dX10_most_33 : decode cX10_most 33 = .ok (.aload_n 0, 1) := by decide +kernel
theorem dX10_most_34 : decode cX10_most 34 = .ok (.getfield 219, 3) := by decide +kernel
theorem dX10_most_37 : decode cX10_most 37 = .ok (.ifCond .ne 6, 3) := by decide +kernel
theorem dX10_most_40 : decode cX10_most 40 = .ok (.ldc 145, 2) := by decide +kernel
theorem dX10_most_42 : decode cX10_most 42 = .ok (.ireturn, 1) := by decide +kernel
theorem dX10_most_43 : decode cX10_most 43 = .ok (.iconst 1, 1) := by decide +kernel
theorem dX10_most_44 : decode cX10_most 44 = .ok (.istore_n 3, 1) := by decide +kernel
theorem dX10_most_45 : decode cX10_most 45 = .ok (.iload_n 3, 1) := by decide +kernel
theorem dX10_most_46 : decode cX10_most 46 = .ok (.iload_n 1, 1) := by decide +kernel
theorem dX10_most_47 : decode cX10_most 47 = .ok (.if_icmp .gt 14, 3) := by decide +kernel
theorem dX10_most_50 : decode cX10_most 50 = .ok (.aload_n 0, 1) := by decide +kernel
theorem dX10_most_51 : decode cX10_most 51 = .ok (.iload_n 3, 1) := by decide +kernel
theorem dX10_most_52 : decode cX10_most 52 = .ok (.invokevirtual 337, 3) := by decide +kernel
theorem dX10_most_55 : decode cX10_most 55 = .ok (.iinc 3 1, 3) := by decide +kernel
theorem dX10_most_58 : decode cX10_most 58 = .ok (.goto (-13), 3) := by decide +kernel
theorem dX10_most_61 : decode cX10_most 61 = .ok (.iload_n 2, 1) := by decide +kernel
theorem dX10_most_62 : decode cX10_most 62 = .ok (.ifCond .ne 10, 3) := by decide +kernel
theorem dX10_most_65 : decode cX10_most 65 = .ok (.aload_n 0, 1) := by decide +kernel
theorem dX10_most_66 : decode cX10_most 66 = .ok (.invokevirtual 340, 3) := by decide +kernel
theorem dX10_most_69 : decode cX10_most 69 = .ok (.goto 12, 3) := by decide +kernel
theorem dX10_most_72 : decode cX10_most 72 = .ok (.aload_n 0, 1) := by decide +kernel
theorem dX10_most_73 : decode cX10_most 73 = .ok (.getfield 84, 3) := by decide +kernel
theorem dX10_most_76 : decode cX10_most 76 = .ok (.aload_n 0, 1) := by decide +kernel
theorem dX10_most_77 : decode cX10_most 77 = .ok (.invokevirtual 340, 3) := by decide +kernel
theorem dX10_most_80 : decode cX10_most 80 = .ok (.iaload, 1) := by decide +kernel
theorem dX10_most_81 : decode cX10_most 81 = .ok (.ireturn, 1) := by decide +kernel
theorem dX10_wall_0 : decode cX10_wall 0 = .ok (.iload_n 1, 1) := by decide +kernel
theorem dX10_wall_1 : decode cX10_wall 1 = .ok (.iconst 0, 1) := by decide +kernel
theorem dX10_wall_2 : decode cX10_wall 2 = .ok (.bipush 24, 2) := by decide +kernel
theorem dX10_wall_4 : decode cX10_wall 4 = .ok (.invokestatic 117, 3) := by decide +kernel
theorem dX10_wall_7 : decode cX10_wall 7 = .ok (.ifCond .eq 13, 3) := by decide +kernel
theorem dX10_wall_10 : decode cX10_wall 10 = .ok (.iload_n 2, 1) := by decide +kernel
theorem dX10_wall_11 : decode cX10_wall 11 = .ok (.iconst 1, 1) := by decide +kernel
theorem dX10_wall_12 : decode cX10_wall 12 = .ok (.bipush 99, 2) := by decide +kernel
theorem dX10_wall_14 : decode cX10_wall 14 = .ok (.invokestatic 117, 3) := by decide +kernel
theorem dX10_wall_17 : decode cX10_wall 17 = .ok (.ifCond .ne 6, 3) := by decide +kernel
theorem dX10_wall_20 : decode cX10_wall 20 = .ok (.ldc 125, 2) := by decide +kernel
theorem dX10_wall_22 : decode cX10_wall 22 = .ok (.ireturn, 1) := by decide +kernel
theorem dX10_wall_23 : decode cX10_wall 23 = .ok (.iconst 0, 1) := by decide +kernel
theorem dX10_wall_24 : decode cX10_wall 24 = .ok (.istore_n 3, 1) := by decide +kernel
theorem dX10_wall_25 : decode cX10_wall 25 = .ok (.iconst 0, 1) := by decide +kernel
theorem dX10_wall_26 : decode cX10_wall 26 = .ok (.istore 4, 2) := by decide +kernel
theorem dX10_wall_28 : decode cX10_wall 28 = .ok (.iconst 0, 1) := by decide +kernel
theorem dX10_wall_29 : decode cX10_wall 29 = .ok (.istore 5, 2) := by decide +kernel
theorem dX10_wall_31 : decode cX10_wall 31 = .ok (.iload 5, 2) := by decide +kernel
theorem dX10_wall_33 : decode cX10_wall 33 = .ok (.aload_n 0, 1) := by decide +kernel
theorem dX10_wall_34 : decode cX10_wall 34 = .ok (.getfield 9, 3) := by decide +kernel
theorem dX10_wall_37 : decode cX10_wall 37 = .ok (.iconst 4, 1) := by decide +kernel
theorem dX10_wall_38 : decode cX10_wall 38 = .ok (.iaload, 1) := by decide +kernel
theorem dX10_wall_39 : decode cX10_wall 39 = .ok (.if_icmp .ge 79, 3) := by decide +kernel
theorem dX10_wall_42 : decode cX10_wall 42 = .ok (.aload_n 0, 1) := by decide +kernel
theorem dX10_wall_43 : decode cX10_wall 43 = .ok (.iload 5, 2) := by decide +kernel
theorem dX10_wall_45 : decode cX10_wall 45 = .ok (.iconst 0, 1) := by decide +kernel
theorem dX10_wall_46 : decode cX10_wall 46 = .ok (.invokevirtual 134, 3) := by decide +kernel
theorem dX10_wall_49 : decode cX10_wall 49 = .ok (.iload_n 2, 1) := by decide +kernel
theorem dX10_wall_50 : decode cX10_wall 50 = .ok (.if_icmp .gt 68, 3) := by decide +kernel
theorem dX10_wall_53 : decode cX10_wall 53 = .ok (.aload_n 0, 1) := by decide +kernel
theorem dX10_wall_54 : decode cX10_wall 54 = .ok (.iload 5, 2) := by decide +kernel
theorem dX10_wall_56 : decode cX10_wall 56 = .ok (.iconst 1, 1) := by decide +kernel
theorem dX10_wall_57 : decode cX10_wall 57 = .ok (.invokevirtual 134, 3) := by decide +kernel
theorem dX10_wall_60 : decode cX10_wall 60 = .ok (.aload_n 0, 1) := by decide +kernel
theorem dX10_wall_61 : decode cX10_wall 61 = .ok (.getfield 9, 3) := by decide +kernel
theorem dX10_wall_64 : decode cX10_wall 64 = .ok (.iconst 1, 1) := by decide +kernel
theorem dX10_wall_65 : decode cX10_wall 65 = .ok (.iaload, 1) := by decide +kernel
theorem dX10_wall_66 : decode cX10_wall 66 = .ok (.if_icmp .gt 52, 3) := by decide +kernel
theorem dX10_wall_69 : decode cX10_wall 69 = .ok (.aload_n 0, 1) := by decide +kernel
theorem dX10_wall_70 : decode cX10_wall 70 = .ok (.iload 5, 2) := by decide +kernel
theorem dX10_wall_72 : decode cX10_wall 72 = .ok (.iconst 1, 1) := by decide +kernel
theorem dX10_wall_73 : decode cX10_wall 73 = .ok (.invokevirtual 134, 3) := by decide +kernel
theorem dX10_wall_76 : decode cX10_wall 76 = .ok (.iload 4, 2) := by decide +kernel
theorem dX10_wall_78 : decode cX10_wall 78 = .ok (.if_icmp .le 22, 3) := by decide +kernel
theorem dX10_wall_81 : decode cX10_wall 81 = .ok (.iinc 3 1, 3) := by decide +kernel
theorem dX10_wall_84 : decode cX10_wall 84 = .ok (.aload_n 0, 1) := by decide +kernel
theorem dX10_wall_85 : decode cX10_wall 85 = .ok (.getfield 9, 3) := by decide +kernel
theorem dX10_wall_88 : decode cX10_wall 88 = .ok (.iconst 1, 1) := by decide +kernel
theorem dX10_wall_89 : decode cX10_wall 89 = .ok (.iaload, 1) := by decide +kernel
theorem dX10_wall_90 : decode cX10_wall 90 = .ok (.istore 4, 2) := by decide +kernel
theorem dX10_wall_92 : decode cX10_wall 92 = .ok (.iload_n 3, 1) := by decide +kernel
theorem dX10_wall_93 : decode cX10_wall 93 = .ok (.iload_n 1, 1) := by decide +kernel
theorem dX10_wall_94 : decode cX10_wall 94 = .ok (.if_icmp .le 6, 3) := by decide +kernel
theorem dX10_wall_97 : decode cX10_wall 97 = .ok (.iload 5, 2) := by decide +kernel
theorem dX10_wall_99 : decode cX10_wall 99 = .ok (.ireturn, 1) := by decide +kernel
theorem dX10_wall_100 : decode cX10_wall 100 = .ok (.iload 4, 2) := by decide +kernel
theorem dX10_wall_102 : decode cX10_wall 102 = .ok (.aload_n 0, 1) := by decide +kernel
theorem dX10_wall_103 : decode cX10_wall 103 = .ok (.iload 5, 2) := by decide +kernel
theorem dX10_wall_105 : decode cX10_wall 105 = .ok (.iconst 1, 1) := by decide +kernel
theorem dX10_wall_106 : decode cX10_wall 106 = .ok (.invokevirtual 134, 3) := by decide +kernel
theorem dX10_wall_109 : decode cX10_wall 109 = .ok (.isub, 1) := by decide +kernel
theorem dX10_wall_110 : decode cX10_wall 110 = .ok (.istore 4, 2) := by decide +kernel
theorem dX10_wall_112 : decode cX10_wall 112 = .ok (.iinc 5 1, 3) := by decide +kernel
theorem dX10_wall_115 : decode cX10_wall 115 = .ok (.goto (-84), 3) := by decide +kernel
theorem dX10_wall_118 : decode cX10_wall 118 = .ok (.iload 5, 2) := by decide +kernel
theorem dX10_wall_120 : decode cX10_wall 120 = .ok (.ireturn, 1) := by decide +kernel
theorem dX10_inch_0 : decode cX10_inch 0 = .ok (.iload_n 1, 1) := by decide +kernel
theorem dX10_inch_1 : decode cX10_inch 1 = .ok (.iconst 1, 1) := by decide +kernel
theorem dX10_inch_2 : decode cX10_inch 2 = .ok (.aload_n 0, 1) := by decide +kernel
theorem dX10_inch_3 : decode cX10_inch 3 = .ok (.getfield 9, 3) := by decide +kernel
theorem dX10_inch_6 : decode cX10_inch 6 = .ok (.iconst 1, 1) := by decide +kernel
theorem dX10_inch_7 : decode cX10_inch 7 = .ok (.iaload, 1) := by decide +kernel
theorem dX10_inch_8 : decode cX10_inch 8 = .ok (.isub, 1) := by decide +kernel
theorem dX10_inch_9 : decode cX10_inch 9 = .ok (.sipush 999, 3) := by decide +kernel
theorem dX10_inch_12 : decode cX10_inch 12 = .ok (.aload_n 0, 1) := by decide +kernel
theorem dX10_inch_13 : decode cX10_inch 13 = .ok (.getfield 9, 3) := by decide +kernel
theorem dX10_inch_16 : decode cX10_inch 16 = .ok (.iconst 1, 1) := by decide +kernel
theorem dX10_inch_17 : decode cX10_inch 17 = .ok (.iaload, 1) := by decide +kernel
theorem dX10_inch_18 : decode cX10_inch 18 = .ok (.isub, 1) := by decide +kernel
theorem dX10_inch_19 : decode cX10_inch 19 = .ok (.invokestatic 117, 3) := by decide +kernel
theorem dX10_inch_22 : decode cX10_inch 22 = .ok (.ifCond .ne 6, 3) := by decide +kernel
theorem dX10_inch_25 : decode cX10_inch 25 = .ok (.ldc 125, 2) := by decide +kernel
theorem dX10_inch_27 : decode cX10_inch 27 = .ok (.ireturn, 1) := by decide +kernel
theorem dX10_inch_28 : decode cX10_inch 28 = .ok (.aload_n 0, 1) := by decide +kernel
theorem dX10_inch_29 : decode cX10_inch 29 = .ok (.invokevirtual 222, 3) := by decide +kernel
theorem dX10_inch_32 : decode cX10_inch 32 = .ok (.aload_n 0, 1) := by decide +kernel
theorem dX10_inch_33 : decode cX10_inch 33 = .ok (.invokevirtual 225, 3) := by decide +kernel
theorem dX10_inch_36 : decode cX10_inch 36 = .ok (.aload_n 0, 1) := by decide +kernel
theorem dX10_inch_37 : decode cX10_inch 37 = .ok (.invokevirtual 228, 3) := by decide +kernel
theorem dX10_inch_40 : decode cX10_inch 40 = .ok (.istore_n 2, 1) := by decide +kernel
theorem dX10_inch_41 : decode cX10_inch 41 = .ok (.aload_n 0, 1) := by decide +kernel
theorem dX10_inch_42 : decode cX10_inch 42 = .ok (.dup, 1) := by decide +kernel
theorem dX10_inch_43 : decode cX10_inch 43 = .ok (.getfield 191, 3) := by decide +kernel
theorem dX10_inch_46 : decode cX10_inch 46 = .ok (.iload_n 1, 1) := by decide +kernel
theorem dX10_inch_47 : decode cX10_inch 47 = .ok (.iadd, 1) := by decide +kernel
theorem dX10_inch_48 : decode cX10_inch 48 = .ok (.putfield 191, 3) := by decide +kernel
theorem dX10_inch_51 : decode cX10_inch 51 = .ok (.aload_n 0, 1) := by decide +kernel
theorem dX10_inch_52 : decode cX10_inch 52 = .ok (.invokevirtual 228, 3) := by decide +kernel
theorem dX10_inch_55 : decode cX10_inch 55 = .ok (.istore_n 3, 1) := by decide +kernel
theorem dX10_inch_56 : decode cX10_inch 56 = .ok (.iload_n 2, 1) := by decide +kernel
theorem dX10_inch_57 : decode cX10_inch 57 = .ok (.ifCond .lt 7, 3) := by decide +kernel
theorem dX10_inch_60 : decode cX10_inch 60 = .ok (.iload_n 3, 1) := by decide +kernel
theorem dX10_inch_61 : decode cX10_inch 61 = .ok (.ifCond .ge 8, 3) := by decide +kernel
theorem dX10_inch_64 : decode cX10_inch 64 = .ok (.ldc 145, 2) := by decide +kernel
theorem dX10_inch_66 : decode cX10_inch 66 = .ok (.goto 6, 3) := by decide +kernel
theorem dX10_inch_69 : decode cX10_inch 69 = .ok (.iload_n 3, 1) := by decide +kernel
theorem dX10_inch_70 : decode cX10_inch 70 = .ok (.iload_n 2, 1) := by decide +kernel
theorem dX10_inch_71 : decode cX10_inch 71 = .ok (.isub, 1) := by decide +kernel
theorem dX10_inch_72 : decode cX10_inch 72 = .ok (.ireturn, 1) := by decide +kernel
theorem dX10_shift_0 : decode cX10_shift 0 = .ok (.iload_n 1, 1) := by decide +kernel
theorem dX10_shift_1 : decode cX10_shift 1 = .ok (.iconst 0, 1) := by decide +kernel
theorem dX10_shift_2 : decode cX10_shift 2 = .ok (.aload_n 0, 1) := by decide +kernel
theorem dX10_shift_3 : decode cX10_shift 3 = .ok (.getfield 9, 3) := by decide +kernel
theorem dX10_shift_6 : decode cX10_shift 6 = .ok (.iconst 4, 1) := by decide +kernel
theorem dX10_shift_7 : decode cX10_shift 7 = .ok (.iaload, 1) := by decide +kernel
theorem dX10_shift_8 : decode cX10_shift 8 = .ok (.invokestatic 117, 3) := by decide +kernel
theorem dX10_shift_11 : decode cX10_shift 11 = .ok (.ifCond .eq 10, 3) := by decide +kernel
theorem dX10_shift_14 : decode cX10_shift 14 = .ok (.iload_n 2, 1) := by decide +kernel
theorem dX10_shift_15 : decode cX10_shift 15 = .ok (.invokestatic 121, 3) := by decide +kernel
theorem dX10_shift_18 : decode cX10_shift 18 = .ok (.ifCond .ne 6, 3) := by decide +kernel
theorem dX10_shift_21 : decode cX10_shift 21 = .ok (.ldc 125, 2) := by decide +kernel
theorem dX10_shift_23 : decode cX10_shift 23 = .ok (.ireturn, 1) := by decide +kernel
theorem dX10_shift_24 : decode cX10_shift 24 = .ok (.aload_n 0, 1) := by decide +kernel
theorem dX10_shift_25 : decode cX10_shift 25 = .ok (.getfield 9, 3) := by decide +kernel
theorem dX10_shift_28 : decode cX10_shift 28 = .ok (.iconst 4, 1) := by decide +kernel
theorem dX10_shift_29 : decode cX10_shift 29 = .ok (.iaload, 1) := by decide +kernel
theorem dX10_shift_30 : decode cX10_shift 30 = .ok (.bipush 24, 2) := by decide +kernel
theorem dX10_shift_32 : decode cX10_shift 32 = .ok (.if_icmp .ne 6, 3) := by decide +kernel
theorem dX10_shift_35 : decode cX10_shift 35 = .ok (.ldc 126, 2) := by decide +kernel
theorem dX10_shift_37 : decode cX10_shift 37 = .ok (.ireturn, 1) := by decide +kernel
theorem dX10_shift_38 : decode cX10_shift 38 = .ok (.aload_n 0, 1) := by decide +kernel
theorem dX10_shift_39 : decode cX10_shift 39 = .ok (.invokevirtual 138, 3) := by decide +kernel
theorem dX10_shift_42 : decode cX10_shift 42 = .ok (.aload_n 0, 1) := by decide +kernel
theorem dX10_shift_43 : decode cX10_shift 43 = .ok (.getfield 141, 3) := by decide +kernel
theorem dX10_shift_46 : decode cX10_shift 46 = .ok (.ifCond .lt 7, 3) := by decide +kernel
theorem dX10_shift_49 : decode cX10_shift 49 = .ok (.iconst 1, 1) := by decide +kernel
theorem dX10_shift_50 : decode cX10_shift 50 = .ok (.goto 4, 3) := by decide +kernel
theorem dX10_shift_53 : decode cX10_shift 53 = .ok (.iconst 0, 1) := by decide +kernel
theorem dX10_shift_54 : decode cX10_shift 54 = .ok (.istore_n 3, 1) := by decide +kernel
theorem dX10_shift_55 : decode cX10_shift 55 = .ok (.iconst 0, 1) := by decide +kernel
theorem dX10_shift_56 : decode cX10_shift 56 = .ok (.istore 4, 2) := by decide +kernel
theorem dX10_shift_58 : decode cX10_shift 58 = .ok (.iload 4, 2) := by decide +kernel
theorem dX10_shift_60 : decode cX10_shift 60 = .ok (.aload_n 0, 1) := by decide +kernel
theorem dX10_shift_61 : decode cX10_shift 61 = .ok (.getfield 9, 3) := by decide +kernel
theorem dX10_shift_64 : decode cX10_shift 64 = .ok (.iconst 4, 1) := by decide +kernel
theorem dX10_shift_65 : decode cX10_shift 65 = .ok (.iaload, 1) := by decide +kernel
theorem dX10_shift_66 : decode cX10_shift 66 = .ok (.if_icmp .ge 23, 3) := by decide +kernel
theorem dX10_shift_69 : decode cX10_shift 69 = .ok (.aload_n 0, 1) := by decide +kernel
theorem dX10_shift_70 : decode cX10_shift 70 = .ok (.getfield 87, 3) := by decide +kernel
theorem dX10_shift_73 : decode cX10_shift 73 = .ok (.iload 4, 2) := by decide +kernel
theorem dX10_shift_75 : decode cX10_shift 75 = .ok (.aload_n 0, 1) := by decide +kernel
theorem dX10_shift_76 : decode cX10_shift 76 = .ok (.getfield 47, 3) := by decide +kernel
theorem dX10_shift_79 : decode cX10_shift 79 = .ok (.iload 4, 2) := by decide +kernel
theorem dX10_shift_81 : decode cX10_shift 81 = .ok (.iaload, 1) := by decide +kernel
theorem dX10_shift_82 : decode cX10_shift 82 = .ok (.iastore, 1) := by decide +kernel
theorem dX10_shift_83 : decode cX10_shift 83 = .ok (.iinc 4 1, 3) := by decide +kernel
theorem dX10_shift_86 : decode cX10_shift 86 = .ok (.goto (-28), 3) := by decide +kernel
theorem dX10_shift_89 : decode cX10_shift 89 = .ok (.aload_n 0, 1) := by decide +kernel
theorem dX10_shift_90 : decode cX10_shift 90 = .ok (.iconst 0, 1) := by decide +kernel
theorem dX10_shift_91 : decode cX10_shift 91 = .ok (.putfield 206, 3) := by decide +kernel
theorem dX10_shift_94 : decode cX10_shift 94 = .ok (.iconst 0, 1) := by decide +kernel
theorem dX10_shift_95 : decode cX10_shift 95 = .ok (.istore 4, 2) := by decide +kernel
theorem dX10_shift_97 : decode cX10_shift 97 = .ok (.iload 4, 2) := by decide +kernel
theorem dX10_shift_99 : decode cX10_shift 99 = .ok (.aload_n 0, 1) := by decide +kernel
theorem dX10_shift_100 : decode cX10_shift 100 = .ok (.getfield 9, 3) := by decide +kernel
theorem dX10_shift_103 : decode cX10_shift 103 = .ok (.iconst 4, 1) := by decide +kernel
theorem dX10_shift_104 : decode cX10_shift 104 = .ok (.iaload, 1) := by decide +kernel
theorem dX10_shift_105 : decode cX10_shift 105 = .ok (.if_icmp .gt 81, 3) := by decide +kernel
theorem dX10_shift_108 : decode cX10_shift 108 = .ok (.iload 4, 2) := by decide +kernel
theorem dX10_shift_110 : decode cX10_shift 110 = .ok (.iload_n 1, 1) := by decide +kernel
theorem dX10_shift_111 : decode cX10_shift 111 = .ok (.if_icmp .ne 16, 3) := by decide +kernel
theorem dX10_shift_114 : decode cX10_shift 114 = .ok (.aload_n 0, 1) := by decide +kernel
theorem dX10_shift_115 : decode cX10_shift 115 = .ok (.iload_n 2, 1) := by decide +kernel
theorem dX10_shift_116 : decode cX10_shift 116 = .ok (.bipush 100, 2) := by decide +kernel
theorem dX10_shift_118 : decode cX10_shift 118 = .ok (.idiv, 1) := by decide +kernel
theorem dX10_shift_119 : decode cX10_shift 119 = .ok (.iload_n 2, 1) := by decide +kernel
theorem dX10_shift_120 : decode cX10_shift 120 = .ok (.bipush 100, 2) := by decide +kernel
theorem dX10_shift_122 : decode cX10_shift 122 = .ok (.irem, 1) := by decide +kernel
theorem dX10_shift_123 : decode cX10_shift 123 = .ok (.iconst 0, 1) := by decide +kernel
theorem dX10_shift_124 : decode cX10_shift 124 = .ok (.invokevirtual 209, 3) := by decide +kernel
theorem dX10_shift_127 : decode cX10_shift 127 = .ok (.iload 4, 2) := by decide +kernel
theorem dX10_shift_129 : decode cX10_shift 129 = .ok (.aload_n 0, 1) := by decide +kernel
theorem dX10_shift_130 : decode cX10_shift 130 = .ok (.getfield 9, 3) := by decide +kernel
theorem dX10_shift_133 : decode cX10_shift 133 = .ok (.iconst 4, 1) := by decide +kernel
theorem dX10_shift_134 : decode cX10_shift 134 = .ok (.iaload, 1) := by decide +kernel
theorem dX10_shift_135 : decode cX10_shift 135 = .ok (.if_icmp .ge 45, 3) := by decide +kernel
theorem dX10_shift_138 : decode cX10_shift 138 = .ok (.aload_n 0, 1) := by decide +kernel
theorem dX10_shift_139 : decode cX10_shift 139 = .ok (.aload_n 0, 1) := by decide +kernel
theorem dX10_shift_140 : decode cX10_shift 140 = .ok (.iload 4, 2) := by decide +kernel
theorem dX10_shift_142 : decode cX10_shift 142 = .ok (.iconst 0, 1) := by decide +kernel
theorem dX10_shift_143 : decode cX10_shift 143 = .ok (.invokevirtual 134, 3) := by decide +kernel
theorem dX10_shift_146 : decode cX10_shift 146 = .ok (.aload_n 0, 1) := by decide +kernel
theorem dX10_shift_147 : decode cX10_shift 147 = .ok (.iload 4, 2) := by decide +kernel
theorem dX10_shift_149 : decode cX10_shift 149 = .ok (.iconst 1, 1) := by decide +kernel
theorem dX10_shift_150 : decode cX10_shift 150 = .ok (.invokevirtual 134, 3) := by decide +kernel
theorem dX10_shift_153 : decode cX10_shift 153 = .ok (.aload_n 0, 1) := by decide +kernel
theorem dX10_shift_154 : decode cX10_shift 154 = .ok (.iload 4, 2) := by decide +kernel
theorem dX10_shift_156 : decode cX10_shift 156 = .ok (.iconst 3, 1) := by decide +kernel
theorem dX10_shift_157 : decode cX10_shift 157 = .ok (.invokevirtual 134, 3) := by decide +kernel
theorem dX10_shift_160 : decode cX10_shift 160 = .ok (.iconst 1, 1) := by decide +kernel
theorem dX10_shift_161 : decode cX10_shift 161 = .ok (.if_icmp .ne 15, 3) := by decide +kernel
theorem dX10_shift_164 : decode cX10_shift 164 = .ok (.iload 4, 2) := by decide +kernel
theorem dX10_shift_166 : decode cX10_shift 166 = .ok (.iload_n 1, 1) := by decide +kernel
theorem dX10_shift_167 : decode cX10_shift 167 = .ok (.iconst 1, 1) := by decide +kernel
theorem dX10_shift_168 : decode cX10_shift 168 = .ok (.isub, 1) := by decide +kernel
theorem dX10_shift_169 : decode cX10_shift 169 = .ok (.if_icmp .eq 7, 3) := by decide +kernel
theorem dX10_shift_172 : decode cX10_shift 172 = .ok (.iconst 1, 1) := by decide +kernel
theorem dX10_shift_173 : decode cX10_shift 173 = .ok (.goto 4, 3) := by decide +kernel
theorem dX10_shift_176 : decode cX10_shift 176 = .ok (.iconst 0, 1) := by decide +kernel
theorem dX10_shift_177 : decode cX10_shift 177 = .ok (.invokevirtual 209, 3) := by decide +kernel
theorem dX10_shift_180 : decode cX10_shift 180 = .ok (.iinc 4 1, 3) := by decide +kernel
theorem dX10_shift_183 : decode cX10_shift 183 = .ok (.goto (-86), 3) := by decide +kernel
theorem dX10_shift_186 : decode cX10_shift 186 = .ok (.aload_n 0, 1) := by decide +kernel
theorem dX10_shift_187 : decode cX10_shift 187 = .ok (.aload_n 0, 1) := by decide +kernel
theorem dX10_shift_188 : decode cX10_shift 188 = .ok (.invokevirtual 228, 3) := by decide +kernel
theorem dX10_shift_191 : decode cX10_shift 191 = .ok (.putfield 141, 3) := by decide +kernel
theorem dX10_shift_194 : decode cX10_shift 194 = .ok (.aload_n 0, 1) := by decide +kernel
theorem dX10_shift_195 : decode cX10_shift 195 = .ok (.invokevirtual 231, 3) := by decide +kernel
theorem dX10_shift_198 : decode cX10_shift 198 = .ok (.iload_n 3, 1) := by decide +kernel
theorem dX10_shift_199 : decode cX10_shift 199 = .ok (.ifCond .eq 10, 3) := by decide +kernel
theorem dX10_shift_202 : decode cX10_shift 202 = .ok (.aload_n 0, 1) := by decide +kernel
theorem dX10_shift_203 : decode cX10_shift 203 = .ok (.getfield 141, 3) := by decide +kernel
theorem dX10_shift_206 : decode cX10_shift 206 = .ok (.ifCond .ge 6, 3) := by decide +kernel
theorem dX10_shift_209 : decode cX10_shift 209 = .ok (.ldc 145, 2) := by decide +kernel
theorem dX10_shift_211 : decode cX10_shift 211 = .ok (.ireturn, 1) := by decide +kernel
theorem dX10_shift_212 : decode cX10_shift 212 = .ok (.iconst 0, 1) := by decide +kernel
theorem dX10_shift_213 : decode cX10_shift 213 = .ok (.istore 4, 2) := by decide +kernel
theorem dX10_shift_215 : decode cX10_shift 215 = .ok (.iconst 0, 1) := by decide +kernel
theorem dX10_shift_216 : decode cX10_shift 216 = .ok (.istore 5, 2) := by decide +kernel
theorem dX10_shift_218 : decode cX10_shift 218 = .ok (.iload 5, 2) := by decide +kernel
theorem dX10_shift_220 : decode cX10_shift 220 = .ok (.aload_n 0, 1) := by decide +kernel
theorem dX10_shift_221 : decode cX10_shift 221 = .ok (.getfield 9, 3) := by decide +kernel
theorem dX10_shift_224 : decode cX10_shift 224 = .ok (.iconst 4, 1) := by decide +kernel
theorem dX10_shift_225 : decode cX10_shift 225 = .ok (.iaload, 1) := by decide +kernel
theorem dX10_shift_226 : decode cX10_shift 226 = .ok (.if_icmp .ge 49, 3) := by decide +kernel
theorem dX10_shift_229 : decode cX10_shift 229 = .ok (.iload 4, 2) := by decide +kernel
theorem dX10_shift_231 : decode cX10_shift 231 = .ok (.aload_n 0, 1) := by decide +kernel
theorem dX10_shift_232 : decode cX10_shift 232 = .ok (.getfield 87, 3) := by decide +kernel
theorem dX10_shift_235 : decode cX10_shift 235 = .ok (.iload 5, 2) := by decide +kernel
theorem dX10_shift_237 : decode cX10_shift 237 = .ok (.iaload, 1) := by decide +kernel
theorem dX10_shift_238 : decode cX10_shift 238 = .ok (.aload_n 0, 1) := by decide +kernel
theorem dX10_shift_239 : decode cX10_shift 239 = .ok (.getfield 47, 3) := by decide +kernel
theorem dX10_shift_242 : decode cX10_shift 242 = .ok (.iload 5, 2) := by decide +kernel
theorem dX10_shift_244 : decode cX10_shift 244 = .ok (.iload_n 1, 1) := by decide +kernel
theorem dX10_shift_245 : decode cX10_shift 245 = .ok (.if_icmp .ge 8, 3) := by decide +kernel
theorem dX10_shift_248 : decode cX10_shift 248 = .ok (.iload 5, 2) := by decide +kernel
theorem dX10_shift_250 : decode cX10_shift 250 = .ok (.goto 7, 3) := by decide +kernel
theorem dX10_shift_253 : decode cX10_shift 253 = .ok (.iload 5, 2) := by decide +kernel
theorem dX10_shift_255 : decode cX10_shift 255 = .ok (.iconst 1, 1) := by decide +kernel
theorem dX10_shift_256 : decode cX10_shift 256 = .ok (.iadd, 1) := by decide +kernel
theorem dX10_shift_257 : decode cX10_shift 257 = .ok (.iaload, 1) := by decide +kernel
theorem dX10_shift_258 : decode cX10_shift 258 = .ok (.if_icmp .eq 7, 3) := by decide +kernel
theorem dX10_shift_261 : decode cX10_shift 261 = .ok (.iconst 1, 1) := by decide +kernel
theorem dX10_shift_262 : decode cX10_shift 262 = .ok (.goto 4, 3) := by decide +kernel
theorem dX10_shift_265 : decode cX10_shift 265 = .ok (.iconst 0, 1) := by decide +kernel
theorem dX10_shift_266 : decode cX10_shift 266 = .ok (.iadd, 1) := by decide +kernel
theorem dX10_shift_267 : decode cX10_shift 267 = .ok (.istore 4, 2) := by decide +kernel
theorem dX10_shift_269 : decode cX10_shift 269 = .ok (.iinc 5 1, 3) := by decide +kernel
theorem dX10_shift_272 : decode cX10_shift 272 = .ok (.goto (-54), 3) := by decide +kernel
theorem dX10_shift_275 : decode cX10_shift 275 = .ok (.iload 4, 2) := by decide +kernel
theorem dX10_shift_277 : decode cX10_shift 277 = .ok (.ireturn, 1) := by decide +kernel
theorem dX10_isSheet_0 : decode cX10_isSheet 0 = .ok (.iload_n 0, 1) := by decide +kernel
theorem dX10_isSheet_1 : decode cX10_isSheet 1 = .ok (.iconst 0, 1) := by decide +kernel
theorem dX10_isSheet_2 : decode cX10_isSheet 2 = .ok (.iconst 3, 1) := by decide +kernel
theorem dX10_isSheet_3 : decode cX10_isSheet 3 = .ok (.invokestatic 117, 3) := by decide +kernel
theorem dX10_isSheet_6 : decode cX10_isSheet 6 = .ok (.ireturn, 1) := by decide +kernel
theorem dX10_isSlot_0 : decode cX10_isSlot 0 = .ok (.iload_n 0, 1) := by decide +kernel
theorem dX10_isSlot_1 : decode cX10_isSlot 1 = .ok (.iconst 0, 1) := by decide +kernel
theorem dX10_isSlot_2 : decode cX10_isSlot 2 = .ok (.iconst 4, 1) := by decide +kernel
theorem dX10_isSlot_3 : decode cX10_isSlot 3 = .ok (.invokestatic 117, 3) := by decide +kernel
theorem dX10_isSlot_6 : decode cX10_isSlot 6 = .ok (.ireturn, 1) := by decide +kernel
theorem dX10_sheet_0 : decode cX10_sheet 0 = .ok (.iload_n 1, 1) := by decide +kernel
theorem dX10_sheet_1 : decode cX10_sheet 1 = .ok (.invokestatic 343, 3) := by decide +kernel
theorem dX10_sheet_4 : decode cX10_sheet 4 = .ok (.ifCond .eq 22, 3) := by decide +kernel
theorem dX10_sheet_7 : decode cX10_sheet 7 = .ok (.iload_n 2, 1) := by decide +kernel
theorem dX10_sheet_8 : decode cX10_sheet 8 = .ok (.iconst (-1), 1) := by decide +kernel
theorem dX10_sheet_9 : decode cX10_sheet 9 = .ok (.iconst 1, 1) := by decide +kernel
theorem dX10_sheet_10 : decode cX10_sheet 10 = .ok (.invokestatic 117, 3) := by decide +kernel
theorem dX10_sheet_13 : decode cX10_sheet 13 = .ok (.ifCond .eq 13, 3) := by decide +kernel
theorem dX10_sheet_16 : decode cX10_sheet 16 = .ok (.iload_n 2, 1) := by decide +kernel
theorem dX10_sheet_17 : decode cX10_sheet 17 = .ok (.ifCond .lt 12, 3) := by decide +kernel
theorem dX10_sheet_20 : decode cX10_sheet 20 = .ok (.iload_n 3, 1) := by decide +kernel
theorem dX10_sheet_21 : decode cX10_sheet 21 = .ok (.bipush 24, 2) := by decide +kernel
theorem dX10_sheet_23 : decode cX10_sheet 23 = .ok (.if_icmp .le 6, 3) := by decide +kernel
theorem dX10_sheet_26 : decode cX10_sheet 26 = .ok (.ldc 125, 2) := by decide +kernel
theorem dX10_sheet_28 : decode cX10_sheet 28 = .ok (.ireturn, 1) := by decide +kernel
theorem dX10_sheet_29 : decode cX10_sheet 29 = .ok (.iload_n 2, 1) := by decide +kernel
theorem dX10_sheet_30 : decode cX10_sheet 30 = .ok (.ifCond .lt 11, 3) := by decide +kernel
theorem dX10_sheet_33 : decode cX10_sheet 33 = .ok (.iload_n 3, 1) := by decide +kernel
theorem dX10_sheet_34 : decode cX10_sheet 34 = .ok (.ifCond .ge 7, 3) := by decide +kernel
theorem dX10_sheet_37 : decode cX10_sheet 37 = .ok (.ldc_w 346, 3) := by decide +kernel
theorem dX10_sheet_40 : decode cX10_sheet 40 = .ok (.ireturn, 1) := by decide +kernel
theorem dX10_sheet_41 : decode cX10_sheet 41 = .ok (.aload_n 0, 1) := by decide +kernel
theorem dX10_sheet_42 : decode cX10_sheet 42 = .ok (.getfield 90, 3) := by decide +kernel
theorem dX10_sheet_45 : decode cX10_sheet 45 = .ok (.iload_n 1, 1) := by decide +kernel
theorem dX10_sheet_46 : decode cX10_sheet 46 = .ok (.iload_n 2, 1) := by decide +kernel
theorem dX10_sheet_47 : decode cX10_sheet 47 = .ok (.iastore, 1) := by decide +kernel
theorem dX10_sheet_48 : decode cX10_sheet 48 = .ok (.aload_n 0, 1) := by decide +kernel
theorem dX10_sheet_49 : decode cX10_sheet 49 = .ok (.getfield 93, 3) := by decide +kernel
theorem dX10_sheet_52 : decode cX10_sheet 52 = .ok (.iload_n 1, 1) := by decide +kernel
theorem dX10_sheet_53 : decode cX10_sheet 53 = .ok (.iload_n 2, 1) := by decide +kernel
theorem dX10_sheet_54 : decode cX10_sheet 54 = .ok (.ifCond .ge 7, 3) := by decide +kernel
theorem dX10_sheet_57 : decode cX10_sheet 57 = .ok (.iconst 0, 1) := by decide +kernel
theorem dX10_sheet_58 : decode cX10_sheet 58 = .ok (.goto 4, 3) := by decide +kernel
theorem dX10_sheet_61 : decode cX10_sheet 61 = .ok (.iload_n 3, 1) := by decide +kernel
theorem dX10_sheet_62 : decode cX10_sheet 62 = .ok (.iastore, 1) := by decide +kernel
theorem dX10_sheet_63 : decode cX10_sheet 63 = .ok (.iconst 0, 1) := by decide +kernel
theorem dX10_sheet_64 : decode cX10_sheet 64 = .ok (.istore 4, 2) := by decide +kernel
theorem dX10_sheet_66 : decode cX10_sheet 66 = .ok (.iload 4, 2) := by decide +kernel
theorem dX10_sheet_68 : decode cX10_sheet 68 = .ok (.bipush 24, 2) := by decide +kernel
theorem dX10_sheet_70 : decode cX10_sheet 70 = .ok (.if_icmp .ge 22, 3) := by decide +kernel
theorem dX10_sheet_73 : decode cX10_sheet 73 = .ok (.aload_n 0, 1) := by decide +kernel
theorem dX10_sheet_74 : decode cX10_sheet 74 = .ok (.getfield 96, 3) := by decide +kernel
theorem dX10_sheet_77 : decode cX10_sheet 77 = .ok (.bipush 24, 2) := by decide +kernel
theorem dX10_sheet_79 : decode cX10_sheet 79 = .ok (.iload_n 1, 1) := by decide +kernel
theorem dX10_sheet_80 : decode cX10_sheet 80 = .ok (.imul, 1) := by decide +kernel
theorem dX10_sheet_81 : decode cX10_sheet 81 = .ok (.iload 4, 2) := by decide +kernel
theorem dX10_sheet_83 : decode cX10_sheet 83 = .ok (.iadd, 1) := by decide +kernel
theorem dX10_sheet_84 : decode cX10_sheet 84 = .ok (.iconst 0, 1) := by decide +kernel
theorem dX10_sheet_85 : decode cX10_sheet 85 = .ok (.iastore, 1) := by decide +kernel
theorem dX10_sheet_86 : decode cX10_sheet 86 = .ok (.iinc 4 1, 3) := by decide +kernel
theorem dX10_sheet_89 : decode cX10_sheet 89 = .ok (.goto (-23), 3) := by decide +kernel
theorem dX10_sheet_92 : decode cX10_sheet 92 = .ok (.aload_n 0, 1) := by decide +kernel
theorem dX10_sheet_93 : decode cX10_sheet 93 = .ok (.getfield 93, 3) := by decide +kernel
theorem dX10_sheet_96 : decode cX10_sheet 96 = .ok (.iload_n 1, 1) := by decide +kernel
theorem dX10_sheet_97 : decode cX10_sheet 97 = .ok (.iaload, 1) := by decide +kernel
theorem dX10_sheet_98 : decode cX10_sheet 98 = .ok (.ireturn, 1) := by decide +kernel
theorem dX10_mark_0 : decode cX10_mark 0 = .ok (.iload_n 1, 1) := by decide +kernel
theorem dX10_mark_1 : decode cX10_mark 1 = .ok (.invokestatic 343, 3) := by decide +kernel
theorem dX10_mark_4 : decode cX10_mark 4 = .ok (.ifCond .ne 6, 3) := by decide +kernel
theorem dX10_mark_7 : decode cX10_mark 7 = .ok (.ldc 125, 2) := by decide +kernel
theorem dX10_mark_9 : decode cX10_mark 9 = .ok (.ireturn, 1) := by decide +kernel
theorem dX10_mark_10 : decode cX10_mark 10 = .ok (.aload_n 0, 1) := by decide +kernel
theorem dX10_mark_11 : decode cX10_mark 11 = .ok (.getfield 90, 3) := by decide +kernel
theorem dX10_mark_14 : decode cX10_mark 14 = .ok (.iload_n 1, 1) := by decide +kernel
theorem dX10_mark_15 : decode cX10_mark 15 = .ok (.iaload, 1) := by decide +kernel
theorem dX10_mark_16 : decode cX10_mark 16 = .ok (.ifCond .ge 7, 3) := by decide +kernel
theorem dX10_mark_19 : decode cX10_mark 19 = .ok (.ldc_w 347, 3) := by decide +kernel
theorem dX10_mark_22 : decode cX10_mark 22 = .ok (.ireturn, 1) := by decide +kernel
theorem dX10_mark_23 : decode cX10_mark 23 = .ok (.iload_n 2, 1) := by decide +kernel
theorem dX10_mark_24 : decode cX10_mark 24 = .ok (.iconst 0, 1) := by decide +kernel
theorem dX10_mark_25 : decode cX10_mark 25 = .ok (.aload_n 0, 1) := by decide +kernel
theorem dX10_mark_26 : decode cX10_mark 26 = .ok (.getfield 93, 3) := by decide +kernel
theorem dX10_mark_29 : decode cX10_mark 29 = .ok (.iload_n 1, 1) := by decide +kernel
theorem dX10_mark_30 : decode cX10_mark 30 = .ok (.iaload, 1) := by decide +kernel
theorem dX10_mark_31 : decode cX10_mark 31 = .ok (.iconst 1, 1) := by decide +kernel
theorem dX10_mark_32 : decode cX10_mark 32 = .ok (.isub, 1) := by decide +kernel
theorem dX10_mark_33 : decode cX10_mark 33 = .ok (.invokestatic 117, 3) := by decide +kernel
theorem dX10_mark_36 : decode cX10_mark 36 = .ok (.ifCond .ne 7, 3) := by decide +kernel
theorem dX10_mark_39 : decode cX10_mark 39 = .ok (.ldc_w 348, 3) := by decide +kernel
theorem dX10_mark_42 : decode cX10_mark 42 = .ok (.ireturn, 1) := by decide +kernel
theorem dX10_mark_43 : decode cX10_mark 43 = .ok (.aload_n 0, 1) := by decide +kernel
theorem dX10_mark_44 : decode cX10_mark 44 = .ok (.getfield 90, 3) := by decide +kernel
theorem dX10_mark_47 : decode cX10_mark 47 = .ok (.iload_n 1, 1) := by decide +kernel
theorem dX10_mark_48 : decode cX10_mark 48 = .ok (.iaload, 1) := by decide +kernel
theorem dX10_mark_49 : decode cX10_mark 49 = .ok (.ifCond .ne 12, 3) := by decide +kernel
theorem dX10_mark_52 : decode cX10_mark 52 = .ok (.iload_n 3, 1) := by decide +kernel
theorem dX10_mark_53 : decode cX10_mark 53 = .ok (.ldc 145, 2) := by decide +kernel
theorem dX10_mark_55 : decode cX10_mark 55 = .ok (.if_icmp .ne 6, 3) := by decide +kernel
theorem dX10_mark_58 : decode cX10_mark 58 = .ok (.ldc 181, 2) := by decide +kernel
theorem dX10_mark_60 : decode cX10_mark 60 = .ok (.ireturn, 1) := by decide +kernel
theorem dX10_mark_61 : decode cX10_mark 61 = .ok (.aload_n 0, 1) := by decide +kernel
theorem dX10_mark_62 : decode cX10_mark 62 = .ok (.getfield 90, 3) := by decide +kernel
theorem dX10_mark_65 : decode cX10_mark 65 = .ok (.iload_n 1, 1) := by decide +kernel
theorem dX10_mark_66 : decode cX10_mark 66 = .ok (.iaload, 1) := by decide +kernel
theorem dX10_mark_67 : decode cX10_mark 67 = .ok (.iconst 1, 1) := by decide +kernel
theorem dX10_mark_68 : decode cX10_mark 68 = .ok (.if_icmp .ne 25, 3) := by decide +kernel
theorem dX10_mark_71 : decode cX10_mark 71 = .ok (.iload_n 3, 1) := by decide +kernel
theorem dX10_mark_72 : decode cX10_mark 72 = .ok (.ldc 145, 2) := by decide +kernel
theorem dX10_mark_74 : decode cX10_mark 74 = .ok (.if_icmp .eq 19, 3) := by decide +kernel
theorem dX10_mark_77 : decode cX10_mark 77 = .ok (.iload_n 3, 1) := by decide +kernel
theorem dX10_mark_78 : decode cX10_mark 78 = .ok (.ldc_w 349, 3) := by decide +kernel
theorem dX10_mark_81 : decode cX10_mark 81 = .ok (.ldc_w 350, 3) := by decide +kernel
theorem dX10_mark_84 : decode cX10_mark 84 = .ok (.invokestatic 117, 3) := by decide +kernel
theorem dX10_mark_87 : decode cX10_mark 87 = .ok (.ifCond .ne 6, 3) := by decide +kernel
theorem dX10_mark_90 : decode cX10_mark 90 = .ok (.ldc 125, 2) := by decide +kernel
theorem dX10_mark_92 : decode cX10_mark 92 = .ok (.ireturn, 1) := by decide +kernel
theorem dX10_mark_93 : decode cX10_mark 93 = .ok (.aload_n 0, 1) := by decide +kernel
theorem dX10_mark_94 : decode cX10_mark 94 = .ok (.getfield 96, 3) := by decide +kernel
theorem dX10_mark_97 : decode cX10_mark 97 = .ok (.bipush 24, 2) := by decide +kernel
theorem dX10_mark_99 : decode cX10_mark 99 = .ok (.iload_n 1, 1) := by decide +kernel
theorem dX10_mark_100 : decode cX10_mark 100 = .ok (.imul, 1) := by decide +kernel
theorem dX10_mark_101 : decode cX10_mark 101 = .ok (.iload_n 2, 1) := by decide +kernel
theorem dX10_mark_102 : decode cX10_mark 102 = .ok (.iadd, 1) := by decide +kernel
theorem dX10_mark_103 : decode cX10_mark 103 = .ok (.aload_n 0, 1) := by decide +kernel
theorem dX10_mark_104 : decode cX10_mark 104 = .ok (.getfield 90, 3) := by decide +kernel
theorem dX10_mark_107 : decode cX10_mark 107 = .ok (.iload_n 1, 1) := by decide +kernel
theorem dX10_mark_108 : decode cX10_mark 108 = .ok (.iaload, 1) := by decide +kernel
theorem dX10_mark_109 : decode cX10_mark 109 = .ok (.ifCond .ne 8, 3) := by decide +kernel
theorem dX10_mark_112 : decode cX10_mark 112 = .ok (.iload_n 3, 1) := by decide +kernel
theorem dX10_mark_113 : decode cX10_mark 113 = .ok (.i2s, 1) := by decide +kernel
theorem dX10_mark_114 : decode cX10_mark 114 = .ok (.goto 4, 3) := by decide +kernel
theorem dX10_mark_117 : decode cX10_mark 117 = .ok (.iload_n 3, 1) := by decide +kernel
theorem dX10_mark_118 : decode cX10_mark 118 = .ok (.iastore, 1) := by decide +kernel
theorem dX10_mark_119 : decode cX10_mark 119 = .ok (.iconst 1, 1) := by decide +kernel
theorem dX10_mark_120 : decode cX10_mark 120 = .ok (.ireturn, 1) := by decide +kernel
theorem dX10_pour_0 : decode cX10_pour 0 = .ok (.iload_n 1, 1) := by decide +kernel
theorem dX10_pour_1 : decode cX10_pour 1 = .ok (.invokestatic 343, 3) := by decide +kernel
theorem dX10_pour_4 : decode cX10_pour 4 = .ok (.ifCond .eq 13, 3) := by decide +kernel
theorem dX10_pour_7 : decode cX10_pour 7 = .ok (.iload_n 2, 1) := by decide +kernel
theorem dX10_pour_8 : decode cX10_pour 8 = .ok (.iconst 0, 1) := by decide +kernel
theorem dX10_pour_9 : decode cX10_pour 9 = .ok (.bipush 7, 2) := by decide +kernel
theorem dX10_pour_11 : decode cX10_pour 11 = .ok (.invokestatic 117, 3) := by decide +kernel
theorem dX10_pour_14 : decode cX10_pour 14 = .ok (.ifCond .ne 6, 3) := by decide +kernel
theorem dX10_pour_17 : decode cX10_pour 17 = .ok (.ldc 125, 2) := by decide +kernel
theorem dX10_pour_19 : decode cX10_pour 19 = .ok (.ireturn, 1) := by decide +kernel
theorem dX10_pour_20 : decode cX10_pour 20 = .ok (.aload_n 0, 1) := by decide +kernel
theorem dX10_pour_21 : decode cX10_pour 21 = .ok (.getfield 90, 3) := by decide +kernel
theorem dX10_pour_24 : decode cX10_pour 24 = .ok (.iload_n 1, 1) := by decide +kernel
theorem dX10_pour_25 : decode cX10_pour 25 = .ok (.iaload, 1) := by decide +kernel
theorem dX10_pour_26 : decode cX10_pour 26 = .ok (.ifCond .ge 7, 3) := by decide +kernel
theorem dX10_pour_29 : decode cX10_pour 29 = .ok (.ldc_w 347, 3) := by decide +kernel
theorem dX10_pour_32 : decode cX10_pour 32 = .ok (.ireturn, 1) := by decide +kernel
theorem dX10_pour_33 : decode cX10_pour 33 = .ok (.iconst 0, 1) := by decide +kernel
theorem dX10_pour_34 : decode cX10_pour 34 = .ok (.istore_n 3, 1) := by decide +kernel
theorem dX10_pour_35 : decode cX10_pour 35 = .ok (.iload_n 3, 1) := by decide +kernel
theorem dX10_pour_36 : decode cX10_pour 36 = .ok (.aload_n 0, 1) := by decide +kernel
theorem dX10_pour_37 : decode cX10_pour 37 = .ok (.getfield 93, 3) := by decide +kernel
theorem dX10_pour_40 : decode cX10_pour 40 = .ok (.iload_n 1, 1) := by decide +kernel
theorem dX10_pour_41 : decode cX10_pour 41 = .ok (.iaload, 1) := by decide +kernel
theorem dX10_pour_42 : decode cX10_pour 42 = .ok (.if_icmp .ge 26, 3) := by decide +kernel
theorem dX10_pour_45 : decode cX10_pour 45 = .ok (.aload_n 0, 1) := by decide +kernel
theorem dX10_pour_46 : decode cX10_pour 46 = .ok (.getfield 96, 3) := by decide +kernel
theorem dX10_pour_49 : decode cX10_pour 49 = .ok (.bipush 24, 2) := by decide +kernel
theorem dX10_pour_51 : decode cX10_pour 51 = .ok (.iload_n 1, 1) := by decide +kernel
theorem dX10_pour_52 : decode cX10_pour 52 = .ok (.imul, 1) := by decide +kernel
theorem dX10_pour_53 : decode cX10_pour 53 = .ok (.iload_n 3, 1) := by decide +kernel
theorem dX10_pour_54 : decode cX10_pour 54 = .ok (.iadd, 1) := by decide +kernel
theorem dX10_pour_55 : decode cX10_pour 55 = .ok (.iaload, 1) := by decide +kernel
theorem dX10_pour_56 : decode cX10_pour 56 = .ok (.invokestatic 121, 3) := by decide +kernel
theorem dX10_pour_59 : decode cX10_pour 59 = .ok (.ifCond .eq 9, 3) := by decide +kernel
theorem dX10_pour_62 : decode cX10_pour 62 = .ok (.iinc 3 1, 3) := by decide +kernel
theorem dX10_pour_65 : decode cX10_pour 65 = .ok (.goto (-30), 3) := by decide +kernel
theorem dX10_pour_68 : decode cX10_pour 68 = .ok (.aload_n 0, 1) := by decide +kernel
theorem dX10_pour_69 : decode cX10_pour 69 = .ok (.getfield 9, 3) := by decide +kernel
theorem dX10_pour_72 : decode cX10_pour 72 = .ok (.iconst 4, 1) := by decide +kernel
theorem dX10_pour_73 : decode cX10_pour 73 = .ok (.iaload, 1) := by decide +kernel
theorem dX10_pour_74 : decode cX10_pour 74 = .ok (.iload_n 3, 1) := by decide +kernel
theorem dX10_pour_75 : decode cX10_pour 75 = .ok (.iadd, 1) := by decide +kernel
theorem dX10_pour_76 : decode cX10_pour 76 = .ok (.bipush 24, 2) := by decide +kernel
theorem dX10_pour_78 : decode cX10_pour 78 = .ok (.if_icmp .le 6, 3) := by decide +kernel
theorem dX10_pour_81 : decode cX10_pour 81 = .ok (.ldc 126, 2) := by decide +kernel
theorem dX10_pour_83 : decode cX10_pour 83 = .ok (.ireturn, 1) := by decide +kernel
theorem dX10_pour_84 : decode cX10_pour 84 = .ok (.iconst 0, 1) := by decide +kernel
theorem dX10_pour_85 : decode cX10_pour 85 = .ok (.istore 4, 2) := by decide +kernel
theorem dX10_pour_87 : decode cX10_pour 87 = .ok (.iload 4, 2) := by decide +kernel
theorem dX10_pour_89 : decode cX10_pour 89 = .ok (.iload_n 3, 1) := by decide +kernel
theorem dX10_pour_90 : decode cX10_pour 90 = .ok (.if_icmp .ge 38, 3) := by decide +kernel
theorem dX10_pour_93 : decode cX10_pour 93 = .ok (.aload_n 0, 1) := by decide +kernel
theorem dX10_pour_94 : decode cX10_pour 94 = .ok (.getfield 96, 3) := by decide +kernel
theorem dX10_pour_97 : decode cX10_pour 97 = .ok (.bipush 24, 2) := by decide +kernel
theorem dX10_pour_99 : decode cX10_pour 99 = .ok (.iload_n 1, 1) := by decide +kernel
theorem dX10_pour_100 : decode cX10_pour 100 = .ok (.imul, 1) := by decide +kernel
theorem dX10_pour_101 : decode cX10_pour 101 = .ok (.iload 4, 2) := by decide +kernel
theorem dX10_pour_103 : decode cX10_pour 103 = .ok (.iadd, 1) := by decide +kernel
theorem dX10_pour_104 : decode cX10_pour 104 = .ok (.iaload, 1) := by decide +kernel
theorem dX10_pour_105 : decode cX10_pour 105 = .ok (.istore 5, 2) := by decide +kernel
theorem dX10_pour_107 : decode cX10_pour 107 = .ok (.aload_n 0, 1) := by decide +kernel
theorem dX10_pour_108 : decode cX10_pour 108 = .ok (.iload 5, 2) := by decide +kernel
theorem dX10_pour_110 : decode cX10_pour 110 = .ok (.bipush 100, 2) := by decide +kernel
theorem dX10_pour_112 : decode cX10_pour 112 = .ok (.idiv, 1) := by decide +kernel
theorem dX10_pour_113 : decode cX10_pour 113 = .ok (.iload 5, 2) := by decide +kernel
theorem dX10_pour_115 : decode cX10_pour 115 = .ok (.bipush 100, 2) := by decide +kernel
theorem dX10_pour_117 : decode cX10_pour 117 = .ok (.irem, 1) := by decide +kernel
theorem dX10_pour_118 : decode cX10_pour 118 = .ok (.iload_n 2, 1) := by decide +kernel
theorem dX10_pour_119 : decode cX10_pour 119 = .ok (.invokevirtual 127, 3) := by decide +kernel
theorem dX10_pour_122 : decode cX10_pour 122 = .ok (.iinc 4 1, 3) := by decide +kernel
theorem dX10_pour_125 : decode cX10_pour 125 = .ok (.goto (-38), 3) := by decide +kernel
theorem dX10_pour_128 : decode cX10_pour 128 = .ok (.iload_n 3, 1) := by decide +kernel
theorem dX10_pour_129 : decode cX10_pour 129 = .ok (.ireturn, 1) := by decide +kernel
theorem dX10_copy_0 : decode cX10_copy 0 = .ok (.iload_n 1, 1) := by decide +kernel
theorem dX10_copy_1 : decode cX10_copy 1 = .ok (.invokestatic 343, 3) := by decide +kernel
theorem dX10_copy_4 : decode cX10_copy 4 = .ok (.ifCond .eq 10, 3) := by decide +kernel
theorem dX10_copy_7 : decode cX10_copy 7 = .ok (.iload_n 3, 1) := by decide +kernel
theorem dX10_copy_8 : decode cX10_copy 8 = .ok (.invokestatic 343, 3) := by decide +kernel
theorem dX10_copy_11 : decode cX10_copy 11 = .ok (.ifCond .ne 6, 3) := by decide +kernel
theorem dX10_copy_14 : decode cX10_copy 14 = .ok (.ldc 125, 2) := by decide +kernel
theorem dX10_copy_16 : decode cX10_copy 16 = .ok (.ireturn, 1) := by decide +kernel
theorem dX10_copy_17 : decode cX10_copy 17 = .ok (.aload_n 0, 1) := by decide +kernel
theorem dX10_copy_18 : decode cX10_copy 18 = .ok (.getfield 90, 3) := by decide +kernel
theorem dX10_copy_21 : decode cX10_copy 21 = .ok (.iload_n 1, 1) := by decide +kernel
theorem dX10_copy_22 : decode cX10_copy 22 = .ok (.iaload, 1) := by decide +kernel
theorem dX10_copy_23 : decode cX10_copy 23 = .ok (.ifCond .lt 12, 3) := by decide +kernel
theorem dX10_copy_26 : decode cX10_copy 26 = .ok (.aload_n 0, 1) := by decide +kernel
theorem dX10_copy_27 : decode cX10_copy 27 = .ok (.getfield 90, 3) := by decide +kernel
theorem dX10_copy_30 : decode cX10_copy 30 = .ok (.iload_n 3, 1) := by decide +kernel
theorem dX10_copy_31 : decode cX10_copy 31 = .ok (.iaload, 1) := by decide +kernel
theorem dX10_copy_32 : decode cX10_copy 32 = .ok (.ifCond .ge 7, 3) := by decide +kernel
theorem dX10_copy_35 : decode cX10_copy 35 = .ok (.ldc_w 347, 3) := by decide +kernel
theorem dX10_copy_38 : decode cX10_copy 38 = .ok (.ireturn, 1) := by decide +kernel
theorem dX10_copy_39 : decode cX10_copy 39 = .ok (.aload_n 0, 1) := by decide +kernel
theorem dX10_copy_40 : decode cX10_copy 40 = .ok (.getfield 90, 3) := by decide +kernel
theorem dX10_copy_43 : decode cX10_copy 43 = .ok (.iload_n 1, 1) := by decide +kernel
theorem dX10_copy_44 : decode cX10_copy 44 = .ok (.iaload, 1) := by decide +kernel
theorem dX10_copy_45 : decode cX10_copy 45 = .ok (.aload_n 0, 1) := by decide +kernel
theorem dX10_copy_46 : decode cX10_copy 46 = .ok (.getfield 90, 3) := by decide +kernel
theorem dX10_copy_49 : decode cX10_copy 49 = .ok (.iload_n 3, 1) := by decide +kernel
theorem dX10_copy_50 : decode cX10_copy 50 = .ok (.iaload, 1) := by decide +kernel
theorem dX10_copy_51 : decode cX10_copy 51 = .ok (.if_icmp .eq 6, 3) := by decide +kernel
theorem dX10_copy_54 : decode cX10_copy 54 = .ok (.ldc 181, 2) := by decide +kernel
theorem dX10_copy_56 : decode cX10_copy 56 = .ok (.ireturn, 1) := by decide +kernel
theorem dX10_copy_57 : decode cX10_copy 57 = .ok (.iload_n 2, 1) := by decide +kernel
theorem dX10_copy_58 : decode cX10_copy 58 = .ok (.ifCond .lt 40, 3) := by decide +kernel
theorem dX10_copy_61 : decode cX10_copy 61 = .ok (.iload 4, 2) := by decide +kernel
theorem dX10_copy_63 : decode cX10_copy 63 = .ok (.ifCond .lt 35, 3) := by decide +kernel
theorem dX10_copy_66 : decode cX10_copy 66 = .ok (.iload 5, 2) := by decide +kernel
theorem dX10_copy_68 : decode cX10_copy 68 = .ok (.ifCond .lt 30, 3) := by decide +kernel
theorem dX10_copy_71 : decode cX10_copy 71 = .ok (.iload_n 2, 1) := by decide +kernel
theorem dX10_copy_72 : decode cX10_copy 72 = .ok (.aload_n 0, 1) := by decide +kernel
theorem dX10_copy_73 : decode cX10_copy 73 = .ok (.getfield 93, 3) := by decide +kernel
theorem dX10_copy_76 : decode cX10_copy 76 = .ok (.iload_n 1, 1) := by decide +kernel
theorem dX10_copy_77 : decode cX10_copy 77 = .ok (.iaload, 1) := by decide +kernel
theorem dX10_copy_78 : decode cX10_copy 78 = .ok (.iload 5, 2) := by decide +kernel
theorem dX10_copy_80 : decode cX10_copy 80 = .ok (.isub, 1) := by decide +kernel
theorem dX10_copy_81 : decode cX10_copy 81 = .ok (.if_icmp .gt 17, 3) := by decide +kernel
theorem dX10_copy_84 : decode cX10_copy 84 = .ok (.iload 4, 2) := by decide +kernel
theorem dX10_copy_86 : decode cX10_copy 86 = .ok (.aload_n 0, 1) := by decide +kernel
theorem dX10_copy_87 : decode cX10_copy 87 = .ok (.getfield 93, 3) := by decide +kernel
theorem dX10_copy_90 : decode cX10_copy 90 = .ok (.iload_n 3, 1) := by decide +kernel
theorem dX10_copy_91 : decode cX10_copy 91 = .ok (.iaload, 1) := by decide +kernel
theorem dX10_copy_92 : decode cX10_copy 92 = .ok (.iload 5, 2) := by decide +kernel
theorem dX10_copy_94 : decode cX10_copy 94 = .ok (.isub, 1) := by decide +kernel
theorem dX10_copy_95 : decode cX10_copy 95 = .ok (.if_icmp .le 7, 3) := by decide +kernel
theorem dX10_copy_98 : decode cX10_copy 98 = .ok (.ldc_w 348, 3) := by decide +kernel
theorem dX10_copy_101 : decode cX10_copy 101 = .ok (.ireturn, 1) := by decide +kernel
theorem dX10_copy_102 : decode cX10_copy 102 = .ok (.iconst 0, 1) := by decide +kernel
theorem dX10_copy_103 : decode cX10_copy 103 = .ok (.istore 6, 2) := by decide +kernel
theorem dX10_copy_105 : decode cX10_copy 105 = .ok (.iload 6, 2) := by decide +kernel
theorem dX10_copy_107 : decode cX10_copy 107 = .ok (.iload 5, 2) := by decide +kernel
theorem dX10_copy_109 : decode cX10_copy 109 = .ok (.if_icmp .ge 30, 3) := by decide +kernel
theorem dX10_copy_112 : decode cX10_copy 112 = .ok (.aload_n 0, 1) := by decide +kernel
theorem dX10_copy_113 : decode cX10_copy 113 = .ok (.getfield 111, 3) := by decide +kernel
theorem dX10_copy_116 : decode cX10_copy 116 = .ok (.iload 6, 2) := by decide +kernel
theorem dX10_copy_118 : decode cX10_copy 118 = .ok (.aload_n 0, 1) := by decide +kernel
theorem dX10_copy_119 : decode cX10_copy 119 = .ok (.getfield 96, 3) := by decide +kernel
theorem dX10_copy_122 : decode cX10_copy 122 = .ok (.bipush 24, 2) := by decide +kernel
theorem dX10_copy_124 : decode cX10_copy 124 = .ok (.iload_n 1, 1) := by decide +kernel
theorem dX10_copy_125 : decode cX10_copy 125 = .ok (.imul, 1) := by decide +kernel
theorem dX10_copy_126 : decode cX10_copy 126 = .ok (.iload_n 2, 1) := by decide +kernel
theorem dX10_copy_127 : decode cX10_copy 127 = .ok (.iadd, 1) := by decide +kernel
theorem dX10_copy_128 : decode cX10_copy 128 = .ok (.iload 6, 2) := by decide +kernel
theorem dX10_copy_130 : decode cX10_copy 130 = .ok (.iadd, 1) := by decide +kernel
theorem dX10_copy_131 : decode cX10_copy 131 = .ok (.iaload, 1) := by decide +kernel
theorem dX10_copy_132 : decode cX10_copy 132 = .ok (.iastore, 1) := by decide +kernel
theorem dX10_copy_133 : decode cX10_copy 133 = .ok (.iinc 6 1, 3) := by decide +kernel
theorem dX10_copy_136 : decode cX10_copy 136 = .ok (.goto (-31), 3) := by decide +kernel
theorem dX10_copy_139 : decode cX10_copy 139 = .ok (.iconst 0, 1) := by decide +kernel
theorem dX10_copy_140 : decode cX10_copy 140 = .ok (.istore 6, 2) := by decide +kernel
theorem dX10_copy_142 : decode cX10_copy 142 = .ok (.iload 6, 2) := by decide +kernel
theorem dX10_copy_144 : decode cX10_copy 144 = .ok (.iload 5, 2) := by decide +kernel
theorem dX10_copy_146 : decode cX10_copy 146 = .ok (.if_icmp .ge 31, 3) := by decide +kernel
theorem dX10_copy_149 : decode cX10_copy 149 = .ok (.aload_n 0, 1) := by decide +kernel
theorem dX10_copy_150 : decode cX10_copy 150 = .ok (.getfield 96, 3) := by decide +kernel
theorem dX10_copy_153 : decode cX10_copy 153 = .ok (.bipush 24, 2) := by decide +kernel
theorem dX10_copy_155 : decode cX10_copy 155 = .ok (.iload_n 3, 1) := by decide +kernel
theorem dX10_copy_156 : decode cX10_copy 156 = .ok (.imul, 1) := by decide +kernel
theorem dX10_copy_157 : decode cX10_copy 157 = .ok (.iload 4, 2) := by decide +kernel
theorem dX10_copy_159 : decode cX10_copy 159 = .ok (.iadd, 1) := by decide +kernel
theorem dX10_copy_160 : decode cX10_copy 160 = .ok (.iload 6, 2) := by decide +kernel
theorem dX10_copy_162 : decode cX10_copy 162 = .ok (.iadd, 1) := by decide +kernel
theorem dX10_copy_163 : decode cX10_copy 163 = .ok (.aload_n 0, 1) := by decide +kernel
theorem dX10_copy_164 : decode cX10_copy 164 = .ok (.getfield 111, 3) := by decide +kernel
theorem dX10_copy_167 : decode cX10_copy 167 = .ok (.iload 6, 2) := by decide +kernel
theorem dX10_copy_169 : decode cX10_copy 169 = .ok (.iaload, 1) := by decide +kernel
theorem dX10_copy_170 : decode cX10_copy 170 = .ok (.iastore, 1) := by decide +kernel
theorem dX10_copy_171 : decode cX10_copy 171 = .ok (.iinc 6 1, 3) := by decide +kernel
theorem dX10_copy_174 : decode cX10_copy 174 = .ok (.goto (-32), 3) := by decide +kernel
theorem dX10_copy_177 : decode cX10_copy 177 = .ok (.iload 5, 2) := by decide +kernel
theorem dX10_copy_179 : decode cX10_copy 179 = .ok (.ireturn, 1) := by decide +kernel
theorem dX10_lay_0 : decode cX10_lay 0 = .ok (.iload_n 1, 1) := by decide +kernel
theorem dX10_lay_1 : decode cX10_lay 1 = .ok (.invokestatic 351, 3) := by decide +kernel
theorem dX10_lay_4 : decode cX10_lay 4 = .ok (.ifCond .eq 37, 3) := by decide +kernel
theorem dX10_lay_7 : decode cX10_lay 7 = .ok (.iload_n 2, 1) := by decide +kernel
theorem dX10_lay_8 : decode cX10_lay 8 = .ok (.iconst 0, 1) := by decide +kernel
theorem dX10_lay_9 : decode cX10_lay 9 = .ok (.iconst 3, 1) := by decide +kernel
theorem dX10_lay_10 : decode cX10_lay 10 = .ok (.invokestatic 117, 3) := by decide +kernel
theorem dX10_lay_13 : decode cX10_lay 13 = .ok (.ifCond .eq 28, 3) := by decide +kernel
theorem dX10_lay_16 : decode cX10_lay 16 = .ok (.iload_n 2, 1) := by decide +kernel
theorem dX10_lay_17 : decode cX10_lay 17 = .ok (.iconst 1, 1) := by decide +kernel
theorem dX10_lay_18 : decode cX10_lay 18 = .ok (.if_icmp .ne 11, 3) := by decide +kernel
theorem dX10_lay_21 : decode cX10_lay 21 = .ok (.aload_n 0, 1) := by decide +kernel
theorem dX10_lay_22 : decode cX10_lay 22 = .ok (.iload_n 3, 1) := by decide +kernel
theorem dX10_lay_23 : decode cX10_lay 23 = .ok (.invokevirtual 161, 3) := by decide +kernel
theorem dX10_lay_26 : decode cX10_lay 26 = .ok (.ifCond .eq 15, 3) := by decide +kernel
theorem dX10_lay_29 : decode cX10_lay 29 = .ok (.iload_n 2, 1) := by decide +kernel
theorem dX10_lay_30 : decode cX10_lay 30 = .ok (.iconst 2, 1) := by decide +kernel
theorem dX10_lay_31 : decode cX10_lay 31 = .ok (.if_icmp .ne 13, 3) := by decide +kernel
theorem dX10_lay_34 : decode cX10_lay 34 = .ok (.iload_n 3, 1) := by decide +kernel
theorem dX10_lay_35 : decode cX10_lay 35 = .ok (.invokestatic 343, 3) := by decide +kernel
theorem dX10_lay_38 : decode cX10_lay 38 = .ok (.ifCond .ne 6, 3) := by decide +kernel
theorem dX10_lay_41 : decode cX10_lay 41 = .ok (.ldc 125, 2) := by decide +kernel
theorem dX10_lay_43 : decode cX10_lay 43 = .ok (.ireturn, 1) := by decide +kernel
theorem dX10_lay_44 : decode cX10_lay 44 = .ok (.iload_n 2, 1) := by decide +kernel
theorem dX10_lay_45 : decode cX10_lay 45 = .ok (.iconst 2, 1) := by decide +kernel
theorem dX10_lay_46 : decode cX10_lay 46 = .ok (.if_icmp .ne 16, 3) := by decide +kernel
theorem dX10_lay_49 : decode cX10_lay 49 = .ok (.aload_n 0, 1) := by decide +kernel
theorem dX10_lay_50 : decode cX10_lay 50 = .ok (.getfield 90, 3) := by decide +kernel
theorem dX10_lay_53 : decode cX10_lay 53 = .ok (.iload_n 3, 1) := by decide +kernel
theorem dX10_lay_54 : decode cX10_lay 54 = .ok (.iaload, 1) := by decide +kernel
theorem dX10_lay_55 : decode cX10_lay 55 = .ok (.ifCond .ge 7, 3) := by decide +kernel
theorem dX10_lay_58 : decode cX10_lay 58 = .ok (.ldc_w 347, 3) := by decide +kernel
theorem dX10_lay_61 : decode cX10_lay 61 = .ok (.ireturn, 1) := by decide +kernel
theorem dX10_lay_62 : decode cX10_lay 62 = .ok (.aload_n 0, 1) := by decide +kernel
theorem dX10_lay_63 : decode cX10_lay 63 = .ok (.getfield 99, 3) := by decide +kernel
theorem dX10_lay_66 : decode cX10_lay 66 = .ok (.iload_n 1, 1) := by decide +kernel
theorem dX10_lay_67 : decode cX10_lay 67 = .ok (.iaload, 1) := by decide +kernel
theorem dX10_lay_68 : decode cX10_lay 68 = .ok (.istore 4, 2) := by decide +kernel
theorem dX10_lay_70 : decode cX10_lay 70 = .ok (.aload_n 0, 1) := by decide +kernel
theorem dX10_lay_71 : decode cX10_lay 71 = .ok (.getfield 99, 3) := by decide +kernel
theorem dX10_lay_74 : decode cX10_lay 74 = .ok (.iload_n 1, 1) := by decide +kernel
theorem dX10_lay_75 : decode cX10_lay 75 = .ok (.iload_n 2, 1) := by decide +kernel
theorem dX10_lay_76 : decode cX10_lay 76 = .ok (.iastore, 1) := by decide +kernel
theorem dX10_lay_77 : decode cX10_lay 77 = .ok (.aload_n 0, 1) := by decide +kernel
theorem dX10_lay_78 : decode cX10_lay 78 = .ok (.getfield 102, 3) := by decide +kernel
theorem dX10_lay_81 : decode cX10_lay 81 = .ok (.iload_n 1, 1) := by decide +kernel
theorem dX10_lay_82 : decode cX10_lay 82 = .ok (.iload_n 2, 1) := by decide +kernel
theorem dX10_lay_83 : decode cX10_lay 83 = .ok (.iconst 1, 1) := by decide +kernel
theorem dX10_lay_84 : decode cX10_lay 84 = .ok (.if_icmp .ne 12, 3) := by decide +kernel
theorem dX10_lay_87 : decode cX10_lay 87 = .ok (.aload_n 0, 1) := by decide +kernel
theorem dX10_lay_88 : decode cX10_lay 88 = .ok (.iload_n 3, 1) := by decide +kernel
theorem dX10_lay_89 : decode cX10_lay 89 = .ok (.iconst 0, 1) := by decide +kernel
theorem dX10_lay_90 : decode cX10_lay 90 = .ok (.invokevirtual 151, 3) := by decide +kernel
theorem dX10_lay_93 : decode cX10_lay 93 = .ok (.goto 18, 3) := by decide +kernel
theorem dX10_lay_96 : decode cX10_lay 96 = .ok (.iload_n 2, 1) := by decide +kernel
theorem dX10_lay_97 : decode cX10_lay 97 = .ok (.iconst 2, 1) := by decide +kernel
theorem dX10_lay_98 : decode cX10_lay 98 = .ok (.if_icmp .ne 12, 3) := by decide +kernel
theorem dX10_lay_101 : decode cX10_lay 101 = .ok (.aload_n 0, 1) := by decide +kernel
theorem dX10_lay_102 : decode cX10_lay 102 = .ok (.getfield 93, 3) := by decide +kernel
theorem dX10_lay_105 : decode cX10_lay 105 = .ok (.iload_n 3, 1) := by decide +kernel
theorem dX10_lay_106 : decode cX10_lay 106 = .ok (.iaload, 1) := by decide +kernel
theorem dX10_lay_107 : decode cX10_lay 107 = .ok (.goto 4, 3) := by decide +kernel
theorem dX10_lay_110 : decode cX10_lay 110 = .ok (.iload_n 3, 1) := by decide +kernel
theorem dX10_lay_111 : decode cX10_lay 111 = .ok (.iastore, 1) := by decide +kernel
theorem dX10_lay_112 : decode cX10_lay 112 = .ok (.aload_n 0, 1) := by decide +kernel
theorem dX10_lay_113 : decode cX10_lay 113 = .ok (.getfield 105, 3) := by decide +kernel
theorem dX10_lay_116 : decode cX10_lay 116 = .ok (.iload_n 1, 1) := by decide +kernel
theorem dX10_lay_117 : decode cX10_lay 117 = .ok (.iload_n 2, 1) := by decide +kernel
theorem dX10_lay_118 : decode cX10_lay 118 = .ok (.iconst 1, 1) := by decide +kernel
theorem dX10_lay_119 : decode cX10_lay 119 = .ok (.if_icmp .ne 26, 3) := by decide +kernel
theorem dX10_lay_122 : decode cX10_lay 122 = .ok (.aload_n 0, 1) := by decide +kernel
theorem dX10_lay_123 : decode cX10_lay 123 = .ok (.iload_n 3, 1) := by decide +kernel
theorem dX10_lay_124 : decode cX10_lay 124 = .ok (.iconst 0, 1) := by decide +kernel
theorem dX10_lay_125 : decode cX10_lay 125 = .ok (.invokevirtual 151, 3) := by decide +kernel
theorem dX10_lay_128 : decode cX10_lay 128 = .ok (.aload_n 0, 1) := by decide +kernel
theorem dX10_lay_129 : decode cX10_lay 129 = .ok (.iload_n 3, 1) := by decide +kernel
theorem dX10_lay_130 : decode cX10_lay 130 = .ok (.invokevirtual 167, 3) := by decide +kernel
theorem dX10_lay_133 : decode cX10_lay 133 = .ok (.aload_n 0, 1) := by decide +kernel
theorem dX10_lay_134 : decode cX10_lay 134 = .ok (.iload_n 3, 1) := by decide +kernel
theorem dX10_lay_135 : decode cX10_lay 135 = .ok (.iconst 3, 1) := by decide +kernel
theorem dX10_lay_136 : decode cX10_lay 136 = .ok (.invokevirtual 151, 3) := by decide +kernel
theorem dX10_lay_139 : decode cX10_lay 139 = .ok (.invokestatic 170, 3) := by decide +kernel
theorem dX10_lay_142 : decode cX10_lay 142 = .ok (.goto 4, 3) := by decide +kernel
theorem dX10_lay_145 : decode cX10_lay 145 = .ok (.iconst 0, 1) := by decide +kernel
theorem dX10_lay_146 : decode cX10_lay 146 = .ok (.iastore, 1) := by decide +kernel
theorem dX10_lay_147 : decode cX10_lay 147 = .ok (.iconst 0, 1) := by decide +kernel
theorem dX10_lay_148 : decode cX10_lay 148 = .ok (.istore 5, 2) := by decide +kernel
theorem dX10_lay_150 : decode cX10_lay 150 = .ok (.iload 5, 2) := by decide +kernel
theorem dX10_lay_152 : decode cX10_lay 152 = .ok (.bipush 24, 2) := by decide +kernel
theorem dX10_lay_154 : decode cX10_lay 154 = .ok (.if_icmp .ge 38, 3) := by decide +kernel
theorem dX10_lay_157 : decode cX10_lay 157 = .ok (.iload_n 2, 1) := by decide +kernel
theorem dX10_lay_158 : decode cX10_lay 158 = .ok (.iconst 2, 1) := by decide +kernel
theorem dX10_lay_159 : decode cX10_lay 159 = .ok (.if_icmp .ne 33, 3) := by decide +kernel
theorem dX10_lay_162 : decode cX10_lay 162 = .ok (.aload_n 0, 1) := by decide +kernel
theorem dX10_lay_163 : decode cX10_lay 163 = .ok (.getfield 108, 3) := by decide +kernel
theorem dX10_lay_166 : decode cX10_lay 166 = .ok (.bipush 24, 2) := by decide +kernel
theorem dX10_lay_168 : decode cX10_lay 168 = .ok (.iload_n 1, 1) := by decide +kernel
theorem dX10_lay_169 : decode cX10_lay 169 = .ok (.imul, 1) := by decide +kernel
theorem dX10_lay_170 : decode cX10_lay 170 = .ok (.iload 5, 2) := by decide +kernel
theorem dX10_lay_172 : decode cX10_lay 172 = .ok (.iadd, 1) := by decide +kernel
theorem dX10_lay_173 : decode cX10_lay 173 = .ok (.aload_n 0, 1) := by decide +kernel
theorem dX10_lay_174 : decode cX10_lay 174 = .ok (.getfield 96, 3) := by decide +kernel
theorem dX10_lay_177 : decode cX10_lay 177 = .ok (.bipush 24, 2) := by decide +kernel
theorem dX10_lay_179 : decode cX10_lay 179 = .ok (.iload_n 3, 1) := by decide +kernel
theorem dX10_lay_180 : decode cX10_lay 180 = .ok (.imul, 1) := by decide +kernel
theorem dX10_lay_181 : decode cX10_lay 181 = .ok (.iload 5, 2) := by decide +kernel
theorem dX10_lay_183 : decode cX10_lay 183 = .ok (.iadd, 1) := by decide +kernel
theorem dX10_lay_184 : decode cX10_lay 184 = .ok (.iaload, 1) := by decide +kernel
theorem dX10_lay_185 : decode cX10_lay 185 = .ok (.iastore, 1) := by decide +kernel
theorem dX10_lay_186 : decode cX10_lay 186 = .ok (.iinc 5 1, 3) := by decide +kernel
theorem dX10_lay_189 : decode cX10_lay 189 = .ok (.goto (-39), 3) := by decide +kernel
theorem dX10_lay_192 : decode cX10_lay 192 = .ok (.iload 4, 2) := by decide +kernel
theorem dX10_lay_194 : decode cX10_lay 194 = .ok (.ireturn, 1) := by decide +kernel
theorem dX10_ask_0 : decode cX10_ask 0 = .ok (.iload_n 1, 1) := by decide +kernel
theorem dX10_ask_1 : decode cX10_ask 1 = .ok (.invokestatic 351, 3) := by decide +kernel
theorem dX10_ask_4 : decode cX10_ask 4 = .ok (.ifCond .eq 12, 3) := by decide +kernel
theorem dX10_ask_7 : decode cX10_ask 7 = .ok (.iload_n 2, 1) := by decide +kernel
theorem dX10_ask_8 : decode cX10_ask 8 = .ok (.iconst 0, 1) := by decide +kernel
theorem dX10_ask_9 : decode cX10_ask 9 = .ok (.iconst 5, 1) := by decide +kernel
theorem dX10_ask_10 : decode cX10_ask 10 = .ok (.invokestatic 117, 3) := by decide +kernel
theorem dX10_ask_13 : decode cX10_ask 13 = .ok (.ifCond .ne 6, 3) := by decide +kernel
theorem dX10_ask_16 : decode cX10_ask 16 = .ok (.ldc 125, 2) := by decide +kernel
theorem dX10_ask_18 : decode cX10_ask 18 = .ok (.ireturn, 1) := by decide +kernel
theorem dX10_ask_19 : decode cX10_ask 19 = .ok (.aload_n 0, 1) := by decide +kernel
theorem dX10_ask_20 : decode cX10_ask 20 = .ok (.getfield 99, 3) := by decide +kernel
theorem dX10_ask_23 : decode cX10_ask 23 = .ok (.iload_n 1, 1) := by decide +kernel
theorem dX10_ask_24 : decode cX10_ask 24 = .ok (.iaload, 1) := by decide +kernel
theorem dX10_ask_25 : decode cX10_ask 25 = .ok (.ifCond .ne 7, 3) := by decide +kernel
theorem dX10_ask_28 : decode cX10_ask 28 = .ok (.ldc_w 347, 3) := by decide +kernel
theorem dX10_ask_31 : decode cX10_ask 31 = .ok (.ireturn, 1) := by decide +kernel
theorem dX10_ask_32 : decode cX10_ask 32 = .ok (.aload_n 0, 1) := by decide +kernel
theorem dX10_ask_33 : decode cX10_ask 33 = .ok (.getfield 99, 3) := by decide +kernel
theorem dX10_ask_36 : decode cX10_ask 36 = .ok (.iload_n 1, 1) := by decide +kernel
theorem dX10_ask_37 : decode cX10_ask 37 = .ok (.iaload, 1) := by decide +kernel
theorem dX10_ask_38 : decode cX10_ask 38 = .ok (.iconst 1, 1) := by decide +kernel
theorem dX10_ask_39 : decode cX10_ask 39 = .ok (.if_icmp .ne 25, 3) := by decide +kernel
theorem dX10_ask_42 : decode cX10_ask 42 = .ok (.aload_n 0, 1) := by decide +kernel
theorem dX10_ask_43 : decode cX10_ask 43 = .ok (.getfield 102, 3) := by decide +kernel
theorem dX10_ask_46 : decode cX10_ask 46 = .ok (.iload_n 1, 1) := by decide +kernel
theorem dX10_ask_47 : decode cX10_ask 47 = .ok (.iaload, 1) := by decide +kernel
theorem dX10_ask_48 : decode cX10_ask 48 = .ok (.iload_n 2, 1) := by decide +kernel
theorem dX10_ask_49 : decode cX10_ask 49 = .ok (.invokestatic 177, 3) := by decide +kernel
theorem dX10_ask_52 : decode cX10_ask 52 = .ok (.ifCond .eq 12, 3) := by decide +kernel
theorem dX10_ask_55 : decode cX10_ask 55 = .ok (.aload_n 0, 1) := by decide +kernel
theorem dX10_ask_56 : decode cX10_ask 56 = .ok (.getfield 105, 3) := by decide +kernel
theorem dX10_ask_59 : decode cX10_ask 59 = .ok (.iload_n 1, 1) := by decide +kernel
theorem dX10_ask_60 : decode cX10_ask 60 = .ok (.iaload, 1) := by decide +kernel
theorem dX10_ask_61 : decode cX10_ask 61 = .ok (.goto 5, 3) := by decide +kernel
theorem dX10_ask_64 : decode cX10_ask 64 = .ok (.ldc 181, 2) := by decide +kernel
theorem dX10_ask_66 : decode cX10_ask 66 = .ok (.ireturn, 1) := by decide +kernel
theorem dX10_item_0 : decode cX10_item 0 = .ok (.iload_n 1, 1) := by decide +kernel
theorem dX10_item_1 : decode cX10_item 1 = .ok (.invokestatic 351, 3) := by decide +kernel
theorem dX10_item_4 : decode cX10_item 4 = .ok (.ifCond .ne 6, 3) := by decide +kernel
theorem dX10_item_7 : decode cX10_item 7 = .ok (.ldc 125, 2) := by decide +kernel
theorem dX10_item_9 : decode cX10_item 9 = .ok (.ireturn, 1) := by decide +kernel
theorem dX10_item_10 : decode cX10_item 10 = .ok (.aload_n 0, 1) := by decide +kernel
theorem dX10_item_11 : decode cX10_item 11 = .ok (.getfield 99, 3) := by decide +kernel
theorem dX10_item_14 : decode cX10_item 14 = .ok (.iload_n 1, 1) := by decide +kernel
theorem dX10_item_15 : decode cX10_item 15 = .ok (.iaload, 1) := by decide +kernel
theorem dX10_item_16 : decode cX10_item 16 = .ok (.ifCond .ne 7, 3) := by decide +kernel
theorem dX10_item_19 : decode cX10_item 19 = .ok (.ldc_w 347, 3) := by decide +kernel
theorem dX10_item_22 : decode cX10_item 22 = .ok (.ireturn, 1) := by decide +kernel
theorem dX10_item_23 : decode cX10_item 23 = .ok (.aload_n 0, 1) := by decide +kernel
theorem dX10_item_24 : decode cX10_item 24 = .ok (.getfield 99, 3) := by decide +kernel
theorem dX10_item_27 : decode cX10_item 27 = .ok (.iload_n 1, 1) := by decide +kernel
theorem dX10_item_28 : decode cX10_item 28 = .ok (.iaload, 1) := by decide +kernel
theorem dX10_item_29 : decode cX10_item 29 = .ok (.iconst 2, 1) := by decide +kernel
theorem dX10_item_30 : decode cX10_item 30 = .ok (.if_icmp .eq 6, 3) := by decide +kernel
theorem dX10_item_33 : decode cX10_item 33 = .ok (.ldc 181, 2) := by decide +kernel
theorem dX10_item_35 : decode cX10_item 35 = .ok (.ireturn, 1) := by decide +kernel
theorem dX10_item_36 : decode cX10_item 36 = .ok (.iload_n 2, 1) := by decide +kernel
theorem dX10_item_37 : decode cX10_item 37 = .ok (.iconst 0, 1) := by decide +kernel
theorem dX10_item_38 : decode cX10_item 38 = .ok (.aload_n 0, 1) := by decide +kernel
theorem dX10_item_39 : decode cX10_item 39 = .ok (.getfield 102, 3) := by decide +kernel
theorem dX10_item_42 : decode cX10_item 42 = .ok (.iload_n 1, 1) := by decide +kernel
theorem dX10_item_43 : decode cX10_item 43 = .ok (.iaload, 1) := by decide +kernel
theorem dX10_item_44 : decode cX10_item 44 = .ok (.iconst 1, 1) := by decide +kernel
theorem dX10_item_45 : decode cX10_item 45 = .ok (.isub, 1) := by decide +kernel
theorem dX10_item_46 : decode cX10_item 46 = .ok (.invokestatic 117, 3) := by decide +kernel
theorem dX10_item_49 : decode cX10_item 49 = .ok (.ifCond .ne 7, 3) := by decide +kernel
theorem dX10_item_52 : decode cX10_item 52 = .ok (.ldc_w 348, 3) := by decide +kernel
theorem dX10_item_55 : decode cX10_item 55 = .ok (.ireturn, 1) := by decide +kernel
theorem dX10_item_56 : decode cX10_item 56 = .ok (.aload_n 0, 1) := by decide +kernel
theorem dX10_item_57 : decode cX10_item 57 = .ok (.getfield 108, 3) := by decide +kernel
theorem dX10_item_60 : decode cX10_item 60 = .ok (.bipush 24, 2) := by decide +kernel
theorem dX10_item_62 : decode cX10_item 62 = .ok (.iload_n 1, 1) := by decide +kernel
theorem dX10_item_63 : decode cX10_item 63 = .ok (.imul, 1) := by decide +kernel
theorem dX10_item_64 : decode cX10_item 64 = .ok (.iload_n 2, 1) := by decide +kernel
theorem dX10_item_65 : decode cX10_item 65 = .ok (.iadd, 1) := by decide +kernel
theorem dX10_item_66 : decode cX10_item 66 = .ok (.iaload, 1) := by decide +kernel
theorem dX10_item_67 : decode cX10_item 67 = .ok (.istore_n 3, 1) := by decide +kernel
theorem dX10_item_68 : decode cX10_item 68 = .ok (.iload_n 3, 1) := by decide +kernel
theorem dX10_item_69 : decode cX10_item 69 = .ok (.ldc 145, 2) := by decide +kernel
theorem dX10_item_71 : decode cX10_item 71 = .ok (.if_icmp .ne 8, 3) := by decide +kernel
theorem dX10_item_74 : decode cX10_item 74 = .ok (.ldc 181, 2) := by decide +kernel
theorem dX10_item_76 : decode cX10_item 76 = .ok (.goto 4, 3) := by decide +kernel
theorem dX10_item_79 : decode cX10_item 79 = .ok (.iload_n 3, 1) := by decide +kernel
theorem dX10_item_80 : decode cX10_item 80 = .ok (.ireturn, 1) := by decide +kernel
theorem dX10_rest_0 : decode cX10_rest 0 = .ok (.iload_n 1, 1) := by decide +kernel
theorem dX10_rest_1 : decode cX10_rest 1 = .ok (.invokestatic 351, 3) := by decide +kernel
theorem dX10_rest_4 : decode cX10_rest 4 = .ok (.ifCond .ne 6, 3) := by decide +kernel
theorem dX10_rest_7 : decode cX10_rest 7 = .ok (.ldc 125, 2) := by decide +kernel
theorem dX10_rest_9 : decode cX10_rest 9 = .ok (.ireturn, 1) := by decide +kernel
theorem dX10_rest_10 : decode cX10_rest 10 = .ok (.aload_n 0, 1) := by decide +kernel
theorem dX10_rest_11 : decode cX10_rest 11 = .ok (.getfield 99, 3) := by decide +kernel
theorem dX10_rest_14 : decode cX10_rest 14 = .ok (.iload_n 1, 1) := by decide +kernel
theorem dX10_rest_15 : decode cX10_rest 15 = .ok (.iaload, 1) := by decide +kernel
theorem dX10_rest_16 : decode cX10_rest 16 = .ok (.ifCond .ne 7, 3) := by decide +kernel
theorem dX10_rest_19 : decode cX10_rest 19 = .ok (.ldc_w 347, 3) := by decide +kernel
theorem dX10_rest_22 : decode cX10_rest 22 = .ok (.ireturn, 1) := by decide +kernel
theorem dX10_rest_23 : decode cX10_rest 23 = .ok (.aload_n 0, 1) := by decide +kernel
theorem dX10_rest_24 : decode cX10_rest 24 = .ok (.getfield 99, 3) := by decide +kernel
theorem dX10_rest_27 : decode cX10_rest 27 = .ok (.iload_n 1, 1) := by decide +kernel
theorem dX10_rest_28 : decode cX10_rest 28 = .ok (.iaload, 1) := by decide +kernel
theorem dX10_rest_29 : decode cX10_rest 29 = .ok (.iconst 3, 1) := by decide +kernel
theorem dX10_rest_30 : decode cX10_rest 30 = .ok (.if_icmp .eq 6, 3) := by decide +kernel
theorem dX10_rest_33 : decode cX10_rest 33 = .ok (.ldc 181, 2) := by decide +kernel
theorem dX10_rest_35 : decode cX10_rest 35 = .ok (.ireturn, 1) := by decide +kernel
theorem dX10_rest_36 : decode cX10_rest 36 = .ok (.iload_n 2, 1) := by decide +kernel
theorem dX10_rest_37 : decode cX10_rest 37 = .ok (.ifCond .ne 8, 3) := by decide +kernel
theorem dX10_rest_40 : decode cX10_rest 40 = .ok (.ldc 240, 2) := by decide +kernel
theorem dX10_rest_42 : decode cX10_rest 42 = .ok (.goto 20, 3) := by decide +kernel
theorem dX10_rest_45 : decode cX10_rest 45 = .ok (.iload_n 2, 1) := by decide +kernel
theorem dX10_rest_46 : decode cX10_rest 46 = .ok (.iconst (-1), 1) := by decide +kernel
theorem dX10_rest_47 : decode cX10_rest 47 = .ok (.if_icmp .ne 7, 3) := by decide +kernel
theorem dX10_rest_50 : decode cX10_rest 50 = .ok (.iconst 0, 1) := by decide +kernel
theorem dX10_rest_51 : decode cX10_rest 51 = .ok (.goto 11, 3) := by decide +kernel
theorem dX10_rest_54 : decode cX10_rest 54 = .ok (.aload_n 0, 1) := by decide +kernel
theorem dX10_rest_55 : decode cX10_rest 55 = .ok (.getfield 102, 3) := by decide +kernel
theorem dX10_rest_58 : decode cX10_rest 58 = .ok (.iload_n 1, 1) := by decide +kernel
theorem dX10_rest_59 : decode cX10_rest 59 = .ok (.iaload, 1) := by decide +kernel
theorem dX10_rest_60 : decode cX10_rest 60 = .ok (.iload_n 2, 1) := by decide +kernel
theorem dX10_rest_61 : decode cX10_rest 61 = .ok (.irem, 1) := by decide +kernel
theorem dX10_rest_62 : decode cX10_rest 62 = .ok (.ireturn, 1) := by decide +kernel
theorem dX10_tell_0 : decode cX10_tell 0 = .ok (.aload_n 0, 1) := by decide +kernel
theorem dX10_tell_1 : decode cX10_tell 1 = .ok (.getfield 354, 3) := by decide +kernel
theorem dX10_tell_4 : decode cX10_tell 4 = .ok (.bipush 60, 2) := by decide +kernel
theorem dX10_tell_6 : decode cX10_tell 6 = .ok (.if_icmp .ne 6, 3) := by decide +kernel
theorem dX10_tell_9 : decode cX10_tell 9 = .ok (.ldc 126, 2) := by decide +kernel
theorem dX10_tell_11 : decode cX10_tell 11 = .ok (.ireturn, 1) := by decide +kernel
theorem dX10_tell_12 : decode cX10_tell 12 = .ok (.aload_n 0, 1) := by decide +kernel
theorem dX10_tell_13 : decode cX10_tell 13 = .ok (.getfield 114, 3) := by decide +kernel
theorem dX10_tell_16 : decode cX10_tell 16 = .ok (.aload_n 0, 1) := by decide +kernel
theorem dX10_tell_17 : decode cX10_tell 17 = .ok (.getfield 354, 3) := by decide +kernel
theorem dX10_tell_20 : decode cX10_tell 20 = .ok (.iload_n 1, 1) := by decide +kernel
theorem dX10_tell_21 : decode cX10_tell 21 = .ok (.iastore, 1) := by decide +kernel
theorem dX10_tell_22 : decode cX10_tell 22 = .ok (.aload_n 0, 1) := by decide +kernel
theorem dX10_tell_23 : decode cX10_tell 23 = .ok (.dup, 1) := by decide +kernel
theorem dX10_tell_24 : decode cX10_tell 24 = .ok (.getfield 354, 3) := by decide +kernel
theorem dX10_tell_27 : decode cX10_tell 27 = .ok (.iconst 1, 1) := by decide +kernel
theorem dX10_tell_28 : decode cX10_tell 28 = .ok (.iadd, 1) := by decide +kernel
theorem dX10_tell_29 : decode cX10_tell 29 = .ok (.putfield 354, 3) := by decide +kernel
theorem dX10_tell_32 : decode cX10_tell 32 = .ok (.aload_n 0, 1) := by decide +kernel
theorem dX10_tell_33 : decode cX10_tell 33 = .ok (.getfield 354, 3) := by decide +kernel
theorem dX10_tell_36 : decode cX10_tell 36 = .ok (.ireturn, 1) := by decide +kernel
theorem dX10_rightYears_0 : decode cX10_rightYears 0 = .ok (.iconst 0, 1) := by decide +kernel
theorem dX10_rightYears_1 : decode cX10_rightYears 1 = .ok (.istore_n 3, 1) := by decide +kernel
theorem dX10_rightYears_2 : decode cX10_rightYears 2 = .ok (.iconst 1, 1) := by decide +kernel
theorem dX10_rightYears_3 : decode cX10_rightYears 3 = .ok (.istore 4, 2) := by decide +kernel
theorem dX10_rightYears_5 : decode cX10_rightYears 5 = .ok (.iload 4, 2) := by decide +kernel
theorem dX10_rightYears_7 : decode cX10_rightYears 7 = .ok (.iload_n 1, 1) := by decide +kernel
theorem dX10_rightYears_8 : decode cX10_rightYears 8 = .ok (.if_icmp .gt 94, 3) := by decide +kernel
theorem dX10_rightYears_11 : decode cX10_rightYears 11 = .ok (.iload_n 3, 1) := by decide +kernel
theorem dX10_rightYears_12 : decode cX10_rightYears 12 = .ok (.iconst 2, 1) := by decide +kernel
theorem dX10_rightYears_13 : decode cX10_rightYears 13 = .ok (.iload 4, 2) := by decide +kernel
theorem dX10_rightYears_15 : decode cX10_rightYears 15 = .ok (.imul, 1) := by decide +kernel
theorem dX10_rightYears_16 : decode cX10_rightYears 16 = .ok (.iconst 2, 1) := by decide +kernel
theorem dX10_rightYears_17 : decode cX10_rightYears 17 = .ok (.isub, 1) := by decide +kernel
theorem dX10_rightYears_18 : decode cX10_rightYears 18 = .ok (.if_icmp .ne 84, 3) := by decide +kernel
theorem dX10_rightYears_21 : decode cX10_rightYears 21 = .ok (.aload_n 0, 1) := by decide +kernel
theorem dX10_rightYears_22 : decode cX10_rightYears 22 = .ok (.iload 4, 2) := by decide +kernel
theorem dX10_rightYears_24 : decode cX10_rightYears 24 = .ok (.invokevirtual 337, 3) := by decide +kernel
theorem dX10_rightYears_27 : decode cX10_rightYears 27 = .ok (.aload_n 0, 1) := by decide +kernel
theorem dX10_rightYears_28 : decode cX10_rightYears 28 = .ok (.invokevirtual 340, 3) := by decide +kernel
theorem dX10_rightYears_31 : decode cX10_rightYears 31 = .ok (.istore 5, 2) := by decide +kernel
theorem dX10_rightYears_33 : decode cX10_rightYears 33 = .ok (.iload_n 3, 1) := by decide +kernel
theorem dX10_rightYears_34 : decode cX10_rightYears 34 = .ok (.iload_n 3, 1) := by decide +kernel
theorem dX10_rightYears_35 : decode cX10_rightYears 35 = .ok (.iload_n 2, 1) := by decide +kernel
theorem dX10_rightYears_36 : decode cX10_rightYears 36 = .ok (.if_icmp .ge 18, 3) := by decide +kernel
theorem dX10_rightYears_39 : decode cX10_rightYears 39 = .ok (.aload_n 0, 1) := by decide +kernel
theorem dX10_rightYears_40 : decode cX10_rightYears 40 = .ok (.getfield 114, 3) := by decide +kernel
theorem dX10_rightYears_43 : decode cX10_rightYears 43 = .ok (.iload_n 3, 1) := by decide +kernel
theorem dX10_rightYears_44 : decode cX10_rightYears 44 = .ok (.iaload, 1) := by decide +kernel
theorem dX10_rightYears_45 : decode cX10_rightYears 45 = .ok (.iload 5, 2) := by decide +kernel
theorem dX10_rightYears_47 : decode cX10_rightYears 47 = .ok (.if_icmp .ne 7, 3) := by decide +kernel
theorem dX10_rightYears_50 : decode cX10_rightYears 50 = .ok (.iconst 1, 1) := by decide +kernel
theorem dX10_rightYears_51 : decode cX10_rightYears 51 = .ok (.goto 4, 3) := by decide +kernel
theorem dX10_rightYears_54 : decode cX10_rightYears 54 = .ok (.iconst 0, 1) := by decide +kernel
theorem dX10_rightYears_55 : decode cX10_rightYears 55 = .ok (.iadd, 1) := by decide +kernel
theorem dX10_rightYears_56 : decode cX10_rightYears 56 = .ok (.istore_n 3, 1) := by decide +kernel
theorem dX10_rightYears_57 : decode cX10_rightYears 57 = .ok (.iload_n 3, 1) := by decide +kernel
theorem dX10_rightYears_58 : decode cX10_rightYears 58 = .ok (.iload_n 3, 1) := by decide +kernel
theorem dX10_rightYears_59 : decode cX10_rightYears 59 = .ok (.iconst 2, 1) := by decide +kernel
theorem dX10_rightYears_60 : decode cX10_rightYears 60 = .ok (.iload 4, 2) := by decide +kernel
theorem dX10_rightYears_62 : decode cX10_rightYears 62 = .ok (.imul, 1) := by decide +kernel
theorem dX10_rightYears_63 : decode cX10_rightYears 63 = .ok (.iconst 1, 1) := by decide +kernel
theorem dX10_rightYears_64 : decode cX10_rightYears 64 = .ok (.isub, 1) := by decide +kernel
theorem dX10_rightYears_65 : decode cX10_rightYears 65 = .ok (.if_icmp .ne 28, 3) := by decide +kernel
theorem dX10_rightYears_68 : decode cX10_rightYears 68 = .ok (.iload_n 3, 1) := by decide +kernel
theorem dX10_rightYears_69 : decode cX10_rightYears 69 = .ok (.iload_n 2, 1) := by decide +kernel
theorem dX10_rightYears_70 : decode cX10_rightYears 70 = .ok (.if_icmp .ge 23, 3) := by decide +kernel
theorem dX10_rightYears_73 : decode cX10_rightYears 73 = .ok (.aload_n 0, 1) := by decide +kernel
theorem dX10_rightYears_74 : decode cX10_rightYears 74 = .ok (.getfield 114, 3) := by decide +kernel
theorem dX10_rightYears_77 : decode cX10_rightYears 77 = .ok (.iload_n 3, 1) := by decide +kernel
theorem dX10_rightYears_78 : decode cX10_rightYears 78 = .ok (.iaload, 1) := by decide +kernel
theorem dX10_rightYears_79 : decode cX10_rightYears 79 = .ok (.aload_n 0, 1) := by decide +kernel
theorem dX10_rightYears_80 : decode cX10_rightYears 80 = .ok (.getfield 84, 3) := by decide +kernel
theorem dX10_rightYears_83 : decode cX10_rightYears 83 = .ok (.iload 5, 2) := by decide +kernel
theorem dX10_rightYears_85 : decode cX10_rightYears 85 = .ok (.iaload, 1) := by decide +kernel
theorem dX10_rightYears_86 : decode cX10_rightYears 86 = .ok (.if_icmp .ne 7, 3) := by decide +kernel
theorem dX10_rightYears_89 : decode cX10_rightYears 89 = .ok (.iconst 1, 1) := by decide +kernel
theorem dX10_rightYears_90 : decode cX10_rightYears 90 = .ok (.goto 4, 3) := by decide +kernel
theorem dX10_rightYears_93 : decode cX10_rightYears 93 = .ok (.iconst 0, 1) := by decide +kernel
theorem dX10_rightYears_94 : decode cX10_rightYears 94 = .ok (.iadd, 1) := by decide +kernel
theorem dX10_rightYears_95 : decode cX10_rightYears 95 = .ok (.istore_n 3, 1) := by decide +kernel
theorem dX10_rightYears_96 : decode cX10_rightYears 96 = .ok (.iinc 4 1, 3) := by decide +kernel
theorem dX10_rightYears_99 : decode cX10_rightYears 99 = .ok (.goto (-94), 3) := by decide +kernel
theorem dX10_rightYears_102 : decode cX10_rightYears 102 = .ok (.iload_n 3, 1) := by decide +kernel
theorem dX10_rightYears_103 : decode cX10_rightYears 103 = .ok (.ireturn, 1) := by decide +kernel
theorem dX10_check_0 : decode cX10_check 0 = .ok (.aload_n 0, 1) := by decide +kernel
theorem dX10_check_1 : decode cX10_check 1 = .ok (.getfield 354, 3) := by decide +kernel
theorem dX10_check_4 : decode cX10_check 4 = .ok (.istore_n 2, 1) := by decide +kernel
theorem dX10_check_5 : decode cX10_check 5 = .ok (.aload_n 0, 1) := by decide +kernel
theorem dX10_check_6 : decode cX10_check 6 = .ok (.iconst 0, 1) := by decide +kernel
theorem dX10_check_7 : decode cX10_check 7 = .ok (.putfield 354, 3) := by decide +kernel
theorem dX10_check_10 : decode cX10_check 10 = .ok (.iload_n 1, 1) := by decide +kernel
theorem dX10_check_11 : decode cX10_check 11 = .ok (.iconst 1, 1) := by decide +kernel
theorem dX10_check_12 : decode cX10_check 12 = .ok (.bipush 30, 2) := by decide +kernel
theorem dX10_check_14 : decode cX10_check 14 = .ok (.invokestatic 117, 3) := by decide +kernel
theorem dX10_check_17 : decode cX10_check 17 = .ok (.ifCond .ne 6, 3) := by decide +kernel
theorem dX10_check_20 : decode cX10_check 20 = .ok (.ldc 125, 2) := by decide +kernel
theorem dX10_check_22 : decode cX10_check 22 = .ok (.ireturn, 1) := by decide +kernel
theorem dX10_check_23 : decode cX10_check 23 = .ok (.aload_n 0, 1) := by decide +kernel
theorem dX10_check_24 : decode cX10_check 24 = .ok (.getfield 357, 3) := by decide +kernel
theorem dX10_check_27 : decode cX10_check 27 = .ok (.ifCond .ne 6, 3) := by decide +kernel
theorem dX10_check_30 : decode cX10_check 30 = .ok (.ldc 240, 2) := by decide +kernel
theorem dX10_check_32 : decode cX10_check 32 = .ok (.ireturn, 1) := by decide +kernel
theorem dX10_check_33 : decode cX10_check 33 = .ok (.aload_n 0, 1) := by decide +kernel
theorem dX10_check_34 : decode cX10_check 34 = .ok (.getfield 9, 3) := by decide +kernel
theorem dX10_check_37 : decode cX10_check 37 = .ok (.aload_n 0, 1) := by decide +kernel
theorem dX10_check_38 : decode cX10_check 38 = .ok (.getfield 16, 3) := by decide +kernel
theorem dX10_check_41 : decode cX10_check 41 = .ok (.invokestatic 361, 3) := by decide +kernel
theorem dX10_check_44 : decode cX10_check 44 = .ok (.aload_n 0, 1) := by decide +kernel
theorem dX10_check_45 : decode cX10_check 45 = .ok (.getfield 13, 3) := by decide +kernel
theorem dX10_check_48 : decode cX10_check 48 = .ok (.aload_n 0, 1) := by decide +kernel
theorem dX10_check_49 : decode cX10_check 49 = .ok (.getfield 9, 3) := by decide +kernel
theorem dX10_check_52 : decode cX10_check 52 = .ok (.invokestatic 361, 3) := by decide +kernel
theorem dX10_check_55 : decode cX10_check 55 = .ok (.aload_n 0, 1) := by decide +kernel
theorem dX10_check_56 : decode cX10_check 56 = .ok (.invokevirtual 334, 3) := by decide +kernel
theorem dX10_check_59 : decode cX10_check 59 = .ok (.aload_n 0, 1) := by decide +kernel
theorem dX10_check_60 : decode cX10_check 60 = .ok (.getfield 141, 3) := by decide +kernel
theorem dX10_check_63 : decode cX10_check 63 = .ok (.ifCond .lt 14, 3) := by decide +kernel
theorem dX10_check_66 : decode cX10_check 66 = .ok (.aload_n 0, 1) := by decide +kernel
theorem dX10_check_67 : decode cX10_check 67 = .ok (.getfield 219, 3) := by decide +kernel
theorem dX10_check_70 : decode cX10_check 70 = .ok (.ifCond .le 7, 3) := by decide +kernel
theorem dX10_check_73 : decode cX10_check 73 = .ok (.iconst 1, 1) := by decide +kernel
theorem dX10_check_74 : decode cX10_check 74 = .ok (.goto 4, 3) := by decide +kernel
theorem dX10_check_77 : decode cX10_check 77 = .ok (.iconst 0, 1) := by decide +kernel
theorem dX10_check_78 : decode cX10_check 78 = .ok (.istore_n 3, 1) := by decide +kernel
theorem dX10_check_79 : decode cX10_check 79 = .ok (.iload_n 3, 1) := by decide +kernel
theorem dX10_check_80 : decode cX10_check 80 = .ok (.ifCond .eq 12, 3) := by decide +kernel
theorem dX10_check_83 : decode cX10_check 83 = .ok (.aload_n 0, 1) := by decide +kernel
theorem dX10_check_84 : decode cX10_check 84 = .ok (.iload_n 1, 1) := by decide +kernel
theorem dX10_check_85 : decode cX10_check 85 = .ok (.iload_n 2, 1) := by decide +kernel
theorem dX10_check_86 : decode cX10_check 86 = .ok (.invokevirtual 365, 3) := by decide +kernel
theorem dX10_check_89 : decode cX10_check 89 = .ok (.goto 4, 3) := by decide +kernel
theorem dX10_check_92 : decode cX10_check 92 = .ok (.iconst 0, 1) := by decide +kernel
theorem dX10_check_93 : decode cX10_check 93 = .ok (.istore 4, 2) := by decide +kernel
theorem dX10_check_95 : decode cX10_check 95 = .ok (.aload_n 0, 1) := by decide +kernel
theorem dX10_check_96 : decode cX10_check 96 = .ok (.getfield 16, 3) := by decide +kernel
theorem dX10_check_99 : decode cX10_check 99 = .ok (.aload_n 0, 1) := by decide +kernel
theorem dX10_check_100 : decode cX10_check 100 = .ok (.getfield 9, 3) := by decide +kernel
theorem dX10_check_103 : decode cX10_check 103 = .ok (.invokestatic 361, 3) := by decide +kernel
theorem dX10_check_106 : decode cX10_check 106 = .ok (.iload_n 3, 1) := by decide +kernel
theorem dX10_check_107 : decode cX10_check 107 = .ok (.ifCond .ne 6, 3) := by decide +kernel
theorem dX10_check_110 : decode cX10_check 110 = .ok (.ldc 240, 2) := by decide +kernel
theorem dX10_check_112 : decode cX10_check 112 = .ok (.ireturn, 1) := by decide +kernel
theorem dX10_check_113 : decode cX10_check 113 = .ok (.iload 4, 2) := by decide +kernel
theorem dX10_check_115 : decode cX10_check 115 = .ok (.iload_n 2, 1) := by decide +kernel
theorem dX10_check_116 : decode cX10_check 116 = .ok (.if_icmp .ne 15, 3) := by decide +kernel
theorem dX10_check_119 : decode cX10_check 119 = .ok (.iload 4, 2) := by decide +kernel
theorem dX10_check_121 : decode cX10_check 121 = .ok (.iconst 2, 1) := by decide +kernel
theorem dX10_check_122 : decode cX10_check 122 = .ok (.iload_n 1, 1) := by decide +kernel
theorem dX10_check_123 : decode cX10_check 123 = .ok (.imul, 1) := by decide +kernel
theorem dX10_check_124 : decode cX10_check 124 = .ok (.if_icmp .ne 7, 3) := by decide +kernel
theorem dX10_check_127 : decode cX10_check 127 = .ok (.iconst 0, 1) := by decide +kernel
theorem dX10_check_128 : decode cX10_check 128 = .ok (.goto 7, 3) := by decide +kernel
theorem dX10_check_131 : decode cX10_check 131 = .ok (.iconst 1, 1) := by decide +kernel
theorem dX10_check_132 : decode cX10_check 132 = .ok (.iload 4, 2) := by decide +kernel
theorem dX10_check_134 : decode cX10_check 134 = .ok (.iadd, 1) := by decide +kernel
theorem dX10_check_135 : decode cX10_check 135 = .ok (.ireturn, 1) := by decide +kernel
theorem dX10_keep_0 : decode cX10_keep 0 = .ok (.aload_n 0, 1) := by decide +kernel
theorem dX10_keep_1 : decode cX10_keep 1 = .ok (.getfield 9, 3) := by decide +kernel
theorem dX10_keep_4 : decode cX10_keep 4 = .ok (.aload_n 0, 1) := by decide +kernel
theorem dX10_keep_5 : decode cX10_keep 5 = .ok (.getfield 13, 3) := by decide +kernel
theorem dX10_keep_8 : decode cX10_keep 8 = .ok (.invokestatic 361, 3) := by decide +kernel
theorem dX10_keep_11 : decode cX10_keep 11 = .ok (.aload_n 0, 1) := by decide +kernel
theorem dX10_keep_12 : decode cX10_keep 12 = .ok (.iconst 1, 1) := by decide +kernel
theorem dX10_keep_13 : decode cX10_keep 13 = .ok (.putfield 357, 3) := by decide +kernel
theorem dX10_keep_16 : decode cX10_keep 16 = .ok (.aload_n 0, 1) := by decide +kernel
theorem dX10_keep_17 : decode cX10_keep 17 = .ok (.getfield 9, 3) := by decide +kernel
theorem dX10_keep_20 : decode cX10_keep 20 = .ok (.iconst 4, 1) := by decide +kernel
theorem dX10_keep_21 : decode cX10_keep 21 = .ok (.iaload, 1) := by decide +kernel
theorem dX10_keep_22 : decode cX10_keep 22 = .ok (.ireturn, 1) := by decide +kernel
theorem dX10_back_0 : decode cX10_back 0 = .ok (.aload_n 0, 1) := by decide +kernel
theorem dX10_back_1 : decode cX10_back 1 = .ok (.getfield 357, 3) := by decide +kernel
theorem dX10_back_4 : decode cX10_back 4 = .ok (.ifCond .ne 6, 3) := by decide +kernel
theorem dX10_back_7 : decode cX10_back 7 = .ok (.ldc 240, 2) := by decide +kernel
theorem dX10_back_9 : decode cX10_back 9 = .ok (.ireturn, 1) := by decide +kernel
theorem dX10_back_10 : decode cX10_back 10 = .ok (.aload_n 0, 1) := by decide +kernel
theorem dX10_back_11 : decode cX10_back 11 = .ok (.getfield 13, 3) := by decide +kernel
theorem dX10_back_14 : decode cX10_back 14 = .ok (.aload_n 0, 1) := by decide +kernel
theorem dX10_back_15 : decode cX10_back 15 = .ok (.getfield 9, 3) := by decide +kernel
theorem dX10_back_18 : decode cX10_back 18 = .ok (.invokestatic 361, 3) := by decide +kernel
theorem dX10_back_21 : decode cX10_back 21 = .ok (.aload_n 0, 1) := by decide +kernel
theorem dX10_back_22 : decode cX10_back 22 = .ok (.getfield 9, 3) := by decide +kernel
theorem dX10_back_25 : decode cX10_back 25 = .ok (.iconst 4, 1) := by decide +kernel
theorem dX10_back_26 : decode cX10_back 26 = .ok (.iaload, 1) := by decide +kernel
theorem dX10_back_27 : decode cX10_back 27 = .ok (.ireturn, 1) := by decide +kernel
theorem dX10_sumOf_0 : decode cX10_sumOf 0 = .ok (.iconst 0, 1) := by decide +kernel
theorem dX10_sumOf_1 : decode cX10_sumOf 1 = .ok (.istore_n 2, 1) := by decide +kernel
theorem dX10_sumOf_2 : decode cX10_sumOf 2 = .ok (.iconst 0, 1) := by decide +kernel
theorem dX10_sumOf_3 : decode cX10_sumOf 3 = .ok (.istore_n 3, 1) := by decide +kernel
theorem dX10_sumOf_4 : decode cX10_sumOf 4 = .ok (.iload_n 3, 1) := by decide +kernel
theorem dX10_sumOf_5 : decode cX10_sumOf 5 = .ok (.aload_n 0, 1) := by decide +kernel
theorem dX10_sumOf_6 : decode cX10_sumOf 6 = .ok (.getfield 9, 3) := by decide +kernel
theorem dX10_sumOf_9 : decode cX10_sumOf 9 = .ok (.iconst 4, 1) := by decide +kernel
theorem dX10_sumOf_10 : decode cX10_sumOf 10 = .ok (.iaload, 1) := by decide +kernel
theorem dX10_sumOf_11 : decode cX10_sumOf 11 = .ok (.if_icmp .ge 18, 3) := by decide +kernel
theorem dX10_sumOf_14 : decode cX10_sumOf 14 = .ok (.iload_n 2, 1) := by decide +kernel
theorem dX10_sumOf_15 : decode cX10_sumOf 15 = .ok (.aload_n 0, 1) := by decide +kernel
theorem dX10_sumOf_16 : decode cX10_sumOf 16 = .ok (.iload_n 3, 1) := by decide +kernel
theorem dX10_sumOf_17 : decode cX10_sumOf 17 = .ok (.iload_n 1, 1) := by decide +kernel
theorem dX10_sumOf_18 : decode cX10_sumOf 18 = .ok (.invokevirtual 134, 3) := by decide +kernel
theorem dX10_sumOf_21 : decode cX10_sumOf 21 = .ok (.iadd, 1) := by decide +kernel
theorem dX10_sumOf_22 : decode cX10_sumOf 22 = .ok (.istore_n 2, 1) := by decide +kernel
theorem dX10_sumOf_23 : decode cX10_sumOf 23 = .ok (.iinc 3 1, 3) := by decide +kernel
theorem dX10_sumOf_26 : decode cX10_sumOf 26 = .ok (.goto (-22), 3) := by decide +kernel
theorem dX10_sumOf_29 : decode cX10_sumOf 29 = .ok (.iload_n 2, 1) := by decide +kernel
theorem dX10_sumOf_30 : decode cX10_sumOf 30 = .ok (.ireturn, 1) := by decide +kernel
theorem dX10_count_0 : decode cX10_count 0 = .ok (.iload_n 1, 1) := by decide +kernel
theorem dX10_count_1 : decode cX10_count 1 = .ok (.tableswitch 123 0 9 #[55, 62, 69, 77, 85, 91, 97, 106, 111, 116], 55) := by decide +kernel
theorem dX10_count_56 : decode cX10_count 56 = .ok (.aload_n 0, 1) := by decide +kernel
theorem dX10_count_57 : decode cX10_count 57 = .ok (.getfield 9, 3) := by decide +kernel
theorem dX10_count_60 : decode cX10_count 60 = .ok (.iconst 4, 1) := by decide +kernel
theorem dX10_count_61 : decode cX10_count 61 = .ok (.iaload, 1) := by decide +kernel
theorem dX10_count_62 : decode cX10_count 62 = .ok (.ireturn, 1) := by decide +kernel
theorem dX10_count_63 : decode cX10_count 63 = .ok (.aload_n 0, 1) := by decide +kernel
theorem dX10_count_64 : decode cX10_count 64 = .ok (.getfield 9, 3) := by decide +kernel
theorem dX10_count_67 : decode cX10_count 67 = .ok (.iconst 5, 1) := by decide +kernel
theorem dX10_count_68 : decode cX10_count 68 = .ok (.iaload, 1) := by decide +kernel
theorem dX10_count_69 : decode cX10_count 69 = .ok (.ireturn, 1) := by decide +kernel
theorem dX10_count_70 : decode cX10_count 70 = .ok (.aload_n 0, 1) := by decide +kernel
theorem dX10_count_71 : decode cX10_count 71 = .ok (.getfield 9, 3) := by decide +kernel
theorem dX10_count_74 : decode cX10_count 74 = .ok (.bipush 6, 2) := by decide +kernel
theorem dX10_count_76 : decode cX10_count 76 = .ok (.iaload, 1) := by decide +kernel
theorem dX10_count_77 : decode cX10_count 77 = .ok (.ireturn, 1) := by decide +kernel
theorem dX10_count_78 : decode cX10_count 78 = .ok (.aload_n 0, 1) := by decide +kernel
theorem dX10_count_79 : decode cX10_count 79 = .ok (.getfield 9, 3) := by decide +kernel
theorem dX10_count_82 : decode cX10_count 82 = .ok (.bipush 7, 2) := by decide +kernel
theorem dX10_count_84 : decode cX10_count 84 = .ok (.iaload, 1) := by decide +kernel
theorem dX10_count_85 : decode cX10_count 85 = .ok (.ireturn, 1) := by decide +kernel
theorem dX10_count_86 : decode cX10_count 86 = .ok (.aload_n 0, 1) := by decide +kernel
theorem dX10_count_87 : decode cX10_count 87 = .ok (.iconst 1, 1) := by decide +kernel
theorem dX10_count_88 : decode cX10_count 88 = .ok (.invokevirtual 368, 3) := by decide +kernel
theorem dX10_count_91 : decode cX10_count 91 = .ok (.ireturn, 1) := by decide +kernel
theorem dX10_count_92 : decode cX10_count 92 = .ok (.aload_n 0, 1) := by decide +kernel
theorem dX10_count_93 : decode cX10_count 93 = .ok (.iconst 3, 1) := by decide +kernel
theorem dX10_count_94 : decode cX10_count 94 = .ok (.invokevirtual 368, 3) := by decide +kernel
theorem dX10_count_97 : decode cX10_count 97 = .ok (.ireturn, 1) := by decide +kernel
theorem dX10_count_98 : decode cX10_count 98 = .ok (.aload_n 0, 1) := by decide +kernel
theorem dX10_count_99 : decode cX10_count 99 = .ok (.invokevirtual 250, 3) := by decide +kernel
theorem dX10_count_102 : decode cX10_count 102 = .ok (.aload_n 0, 1) := by decide +kernel
theorem dX10_count_103 : decode cX10_count 103 = .ok (.getfield 244, 3) := by decide +kernel
theorem dX10_count_106 : decode cX10_count 106 = .ok (.ireturn, 1) := by decide +kernel
theorem dX10_count_107 : decode cX10_count 107 = .ok (.aload_n 0, 1) := by decide +kernel
theorem dX10_count_108 : decode cX10_count 108 = .ok (.getfield 354, 3) := by decide +kernel
theorem dX10_count_111 : decode cX10_count 111 = .ok (.ireturn, 1) := by decide +kernel
theorem dX10_count_112 : decode cX10_count 112 = .ok (.aload_n 0, 1) := by decide +kernel
theorem dX10_count_113 : decode cX10_count 113 = .ok (.getfield 266, 3) := by decide +kernel
theorem dX10_count_116 : decode cX10_count 116 = .ok (.ireturn, 1) := by decide +kernel
theorem dX10_count_117 : decode cX10_count 117 = .ok (.aload_n 0, 1) := by decide +kernel
theorem dX10_count_118 : decode cX10_count 118 = .ok (.getfield 9, 3) := by decide +kernel
theorem dX10_count_121 : decode cX10_count 121 = .ok (.iconst 0, 1) := by decide +kernel
theorem dX10_count_122 : decode cX10_count 122 = .ok (.iaload, 1) := by decide +kernel
theorem dX10_count_123 : decode cX10_count 123 = .ok (.ireturn, 1) := by decide +kernel
theorem dX10_count_124 : decode cX10_count 124 = .ok (.ldc 125, 2) := by decide +kernel
theorem dX10_count_126 : decode cX10_count 126 = .ok (.ireturn, 1) := by decide +kernel
