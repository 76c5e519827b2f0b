/-! ===== decode rows ===== -/
theorem dX9_init_0 : decode cX9_init 0 = .ok (.aload_n 0, 1) := by decide +kernel
theorem dX9_init_1 : decode cX9_init 1 = .ok (.invokespecial 1, 3) := by decide +kernel
theorem dX9_init_4 : decode cX9_init 4 = .ok (.aload_n 0, 1) := by decide +kernel
theorem dX9_init_5 : decode cX9_init 5 = .ok (.iconst 0, 1) := by decide +kernel
theorem dX9_init_6 : decode cX9_init 6 = .ok (.putfield 7, 3) := by decide +kernel
theorem dX9_init_9 : decode cX9_init 9 = .ok (.aload_n 0, 1) := by decide +kernel
theorem dX9_init_10 : decode cX9_init 10 = .ok (.iconst 0, 1) := by decide +kernel
theorem dX9_init_11 : decode cX9_init 11 = .ok (.putfield 13, 3) := by decide +kernel
theorem dX9_init_14 : decode cX9_init 14 = .ok (.aload_n 0, 1) := by decide +kernel
theorem dX9_init_15 : decode cX9_init 15 = .ok (.iconst 0, 1) := by decide +kernel
theorem dX9_init_16 : decode cX9_init 16 = .ok (.putfield 16, 3) := by decide +kernel
theorem dX9_init_19 : decode cX9_init 19 = .ok (.aload_n 0, 1) := by decide +kernel
theorem dX9_init_20 : decode cX9_init 20 = .ok (.bipush (-5), 2) := by decide +kernel
theorem dX9_init_22 : decode cX9_init 22 = .ok (.putfield 19, 3) := by decide +kernel
theorem dX9_init_25 : decode cX9_init 25 = .ok (.aload_n 0, 1) := by decide +kernel
theorem dX9_init_26 : decode cX9_init 26 = .ok (.iconst 0, 1) := by decide +kernel
theorem dX9_init_27 : decode cX9_init 27 = .ok (.putfield 22, 3) := by decide +kernel
theorem dX9_init_30 : decode cX9_init 30 = .ok (.aload_n 0, 1) := by decide +kernel
theorem dX9_init_31 : decode cX9_init 31 = .ok (.bipush 6, 2) := by decide +kernel
theorem dX9_init_33 : decode cX9_init 33 = .ok (.newarray .int, 2) := by decide +kernel
theorem dX9_init_35 : decode cX9_init 35 = .ok (.putfield 25, 3) := by decide +kernel
theorem dX9_init_38 : decode cX9_init 38 = .ok (.aload_n 0, 1) := by decide +kernel
theorem dX9_init_39 : decode cX9_init 39 = .ok (.bipush 6, 2) := by decide +kernel
theorem dX9_init_41 : decode cX9_init 41 = .ok (.newarray .int, 2) := by decide +kernel
theorem dX9_init_43 : decode cX9_init 43 = .ok (.putfield 29, 3) := by decide +kernel
theorem dX9_init_46 : decode cX9_init 46 = .ok (.aload_n 0, 1) := by decide +kernel
theorem dX9_init_47 : decode cX9_init 47 = .ok (.bipush 6, 2) := by decide +kernel
theorem dX9_init_49 : decode cX9_init 49 = .ok (.newarray .int, 2) := by decide +kernel
theorem dX9_init_51 : decode cX9_init 51 = .ok (.putfield 32, 3) := by decide +kernel
theorem dX9_init_54 : decode cX9_init 54 = .ok (.aload_n 0, 1) := by decide +kernel
theorem dX9_init_55 : decode cX9_init 55 = .ok (.bipush 24, 2) := by decide +kernel
theorem dX9_init_57 : decode cX9_init 57 = .ok (.newarray .int, 2) := by decide +kernel
theorem dX9_init_59 : decode cX9_init 59 = .ok (.putfield 35, 3) := by decide +kernel
theorem dX9_init_62 : decode cX9_init 62 = .ok (.aload_n 0, 1) := by decide +kernel
theorem dX9_init_63 : decode cX9_init 63 = .ok (.iconst 4, 1) := by decide +kernel
theorem dX9_init_64 : decode cX9_init 64 = .ok (.newarray .int, 2) := by decide +kernel
theorem dX9_init_66 : decode cX9_init 66 = .ok (.putfield 38, 3) := by decide +kernel
theorem dX9_init_69 : decode cX9_init 69 = .ok (.aload_n 0, 1) := by decide +kernel
theorem dX9_init_70 : decode cX9_init 70 = .ok (.iconst 4, 1) := by decide +kernel
theorem dX9_init_71 : decode cX9_init 71 = .ok (.newarray .int, 2) := by decide +kernel
theorem dX9_init_73 : decode cX9_init 73 = .ok (.putfield 41, 3) := by decide +kernel
theorem dX9_init_76 : decode cX9_init 76 = .ok (.aload_n 0, 1) := by decide +kernel
theorem dX9_init_77 : decode cX9_init 77 = .ok (.iconst 4, 1) := by decide +kernel
theorem dX9_init_78 : decode cX9_init 78 = .ok (.newarray .int, 2) := by decide +kernel
theorem dX9_init_80 : decode cX9_init 80 = .ok (.putfield 44, 3) := by decide +kernel
theorem dX9_init_83 : decode cX9_init 83 = .ok (.aload_n 0, 1) := by decide +kernel
theorem dX9_init_84 : decode cX9_init 84 = .ok (.iconst 0, 1) := by decide +kernel
theorem dX9_init_85 : decode cX9_init 85 = .ok (.putfield 47, 3) := by decide +kernel
theorem dX9_init_88 : decode cX9_init 88 = .ok (.aload_n 0, 1) := by decide +kernel
theorem dX9_init_89 : decode cX9_init 89 = .ok (.iconst (-1), 1) := by decide +kernel
theorem dX9_init_90 : decode cX9_init 90 = .ok (.putfield 50, 3) := by decide +kernel
theorem dX9_init_93 : decode cX9_init 93 = .ok (.aload_n 0, 1) := by decide +kernel
theorem dX9_init_94 : decode cX9_init 94 = .ok (.iconst 0, 1) := by decide +kernel
theorem dX9_init_95 : decode cX9_init 95 = .ok (.putfield 53, 3) := by decide +kernel
theorem dX9_init_98 : decode cX9_init 98 = .ok (.aload_n 0, 1) := by decide +kernel
theorem dX9_init_99 : decode cX9_init 99 = .ok (.iconst 0, 1) := by decide +kernel
theorem dX9_init_100 : decode cX9_init 100 = .ok (.putfield 56, 3) := by decide +kernel
theorem dX9_init_103 : decode cX9_init 103 = .ok (.aload_n 0, 1) := by decide +kernel
theorem dX9_init_104 : decode cX9_init 104 = .ok (.iconst 0, 1) := by decide +kernel
theorem dX9_init_105 : decode cX9_init 105 = .ok (.putfield 59, 3) := by decide +kernel
theorem dX9_init_108 : decode cX9_init 108 = .ok (.aload_n 0, 1) := by decide +kernel
theorem dX9_init_109 : decode cX9_init 109 = .ok (.bipush 100, 2) := by decide +kernel
theorem dX9_init_111 : decode cX9_init 111 = .ok (.newarray .int, 2) := by decide +kernel
theorem dX9_init_113 : decode cX9_init 113 = .ok (.putfield 62, 3) := by decide +kernel
theorem dX9_init_116 : decode cX9_init 116 = .ok (.aload_n 0, 1) := by decide +kernel
theorem dX9_init_117 : decode cX9_init 117 = .ok (.bipush 6, 2) := by decide +kernel
theorem dX9_init_119 : decode cX9_init 119 = .ok (.newarray .int, 2) := by decide +kernel
theorem dX9_init_121 : decode cX9_init 121 = .ok (.putfield 65, 3) := by decide +kernel
theorem dX9_init_124 : decode cX9_init 124 = .ok (.aload_n 0, 1) := by decide +kernel
theorem dX9_init_125 : decode cX9_init 125 = .ok (.bipush 60, 2) := by decide +kernel
theorem dX9_init_127 : decode cX9_init 127 = .ok (.newarray .int, 2) := by decide +kernel
theorem dX9_init_129 : decode cX9_init 129 = .ok (.putfield 68, 3) := by decide +kernel
theorem dX9_init_132 : decode cX9_init 132 = .ok (.aload_n 0, 1) := by decide +kernel
theorem dX9_init_133 : decode cX9_init 133 = .ok (.bipush 60, 2) := by decide +kernel
theorem dX9_init_135 : decode cX9_init 135 = .ok (.newarray .int, 2) := by decide +kernel
theorem dX9_init_137 : decode cX9_init 137 = .ok (.putfield 71, 3) := by decide +kernel
theorem dX9_init_140 : decode cX9_init 140 = .ok (.aload_n 0, 1) := by decide +kernel
theorem dX9_init_141 : decode cX9_init 141 = .ok (.bipush 60, 2) := by decide +kernel
theorem dX9_init_143 : decode cX9_init 143 = .ok (.newarray .int, 2) := by decide +kernel
theorem dX9_init_145 : decode cX9_init 145 = .ok (.putfield 74, 3) := by decide +kernel
theorem dX9_init_148 : decode cX9_init 148 = .ok (.aload_n 0, 1) := by decide +kernel
theorem dX9_init_149 : decode cX9_init 149 = .ok (.bipush 60, 2) := by decide +kernel
theorem dX9_init_151 : decode cX9_init 151 = .ok (.newarray .int, 2) := by decide +kernel
theorem dX9_init_153 : decode cX9_init 153 = .ok (.putfield 77, 3) := by decide +kernel
theorem dX9_init_156 : decode cX9_init 156 = .ok (.aload_n 0, 1) := by decide +kernel
theorem dX9_init_157 : decode cX9_init 157 = .ok (.sipush 600, 3) := by decide +kernel
theorem dX9_init_160 : decode cX9_init 160 = .ok (.newarray .int, 2) := by decide +kernel
theorem dX9_init_162 : decode cX9_init 162 = .ok (.putfield 80, 3) := by decide +kernel
theorem dX9_init_165 : decode cX9_init 165 = .ok (.aload_n 0, 1) := by decide +kernel
theorem dX9_init_166 : decode cX9_init 166 = .ok (.bipush 101, 2) := by decide +kernel
theorem dX9_init_168 : decode cX9_init 168 = .ok (.newarray .int, 2) := by decide +kernel
theorem dX9_init_170 : decode cX9_init 170 = .ok (.putfield 83, 3) := by decide +kernel
theorem dX9_init_173 : decode cX9_init 173 = .ok (.aload_n 0, 1) := by decide +kernel
theorem dX9_init_174 : decode cX9_init 174 = .ok (.iconst 0, 1) := by decide +kernel
theorem dX9_init_175 : decode cX9_init 175 = .ok (.putfield 86, 3) := by decide +kernel
theorem dX9_init_178 : decode cX9_init 178 = .ok (.aload_n 0, 1) := by decide +kernel
theorem dX9_init_179 : decode cX9_init 179 = .ok (.iconst 0, 1) := by decide +kernel
theorem dX9_init_180 : decode cX9_init 180 = .ok (.putfield 89, 3) := by decide +kernel
theorem dX9_init_183 : decode cX9_init 183 = .ok (.aload_n 0, 1) := by decide +kernel
theorem dX9_init_184 : decode cX9_init 184 = .ok (.iconst 0, 1) := by decide +kernel
theorem dX9_init_185 : decode cX9_init 185 = .ok (.putfield 92, 3) := by decide +kernel
theorem dX9_init_188 : decode cX9_init 188 = .ok (.aload_n 0, 1) := by decide +kernel
theorem dX9_init_189 : decode cX9_init 189 = .ok (.bipush 13, 2) := by decide +kernel
theorem dX9_init_191 : decode cX9_init 191 = .ok (.newarray .int, 2) := by decide +kernel
theorem dX9_init_193 : decode cX9_init 193 = .ok (.dup, 1) := by decide +kernel
theorem dX9_init_194 : decode cX9_init 194 = .ok (.iconst 0, 1) := by decide +kernel
theorem dX9_init_195 : decode cX9_init 195 = .ok (.bipush 104, 2) := by decide +kernel
theorem dX9_init_197 : decode cX9_init 197 = .ok (.iastore, 1) := by decide +kernel
theorem dX9_init_198 : decode cX9_init 198 = .ok (.dup, 1) := by decide +kernel
theorem dX9_init_199 : decode cX9_init 199 = .ok (.iconst 1, 1) := by decide +kernel
theorem dX9_init_200 : decode cX9_init 200 = .ok (.bipush 101, 2) := by decide +kernel
theorem dX9_init_202 : decode cX9_init 202 = .ok (.iastore, 1) := by decide +kernel
theorem dX9_init_203 : decode cX9_init 203 = .ok (.dup, 1) := by decide +kernel
theorem dX9_init_204 : decode cX9_init 204 = .ok (.iconst 2, 1) := by decide +kernel
theorem dX9_init_205 : decode cX9_init 205 = .ok (.bipush 97, 2) := by decide +kernel
theorem dX9_init_207 : decode cX9_init 207 = .ok (.iastore, 1) := by decide +kernel
theorem dX9_init_208 : decode cX9_init 208 = .ok (.dup, 1) := by decide +kernel
theorem dX9_init_209 : decode cX9_init 209 = .ok (.iconst 3, 1) := by decide +kernel
theorem dX9_init_210 : decode cX9_init 210 = .ok (.bipush 116, 2) := by decide +kernel
theorem dX9_init_212 : decode cX9_init 212 = .ok (.iastore, 1) := by decide +kernel
theorem dX9_init_213 : decode cX9_init 213 = .ok (.dup, 1) := by decide +kernel
theorem dX9_init_214 : decode cX9_init 214 = .ok (.iconst 4, 1) := by decide +kernel
theorem dX9_init_215 : decode cX9_init 215 = .ok (.bipush 99, 2) := by decide +kernel
theorem dX9_init_217 : decode cX9_init 217 = .ok (.iastore, 1) := by decide +kernel
theorem dX9_init_218 : decode cX9_init 218 = .ok (.dup, 1) := by decide +kernel
theorem dX9_init_219 : decode cX9_init 219 = .ok (.iconst 5, 1) := by decide +kernel
theorem dX9_init_220 : decode cX9_init 220 = .ok (.bipush 97, 2) := by decide +kernel
theorem dX9_init_222 : decode cX9_init 222 = .ok (.iastore, 1) := by decide +kernel
theorem dX9_init_223 : decode cX9_init 223 = .ok (.dup, 1) := by decide +kernel
theorem dX9_init_224 : decode cX9_init 224 = .ok (.bipush 6, 2) := by decide +kernel
theorem dX9_init_226 : decode cX9_init 226 = .ok (.bipush 108, 2) := by decide +kernel
theorem dX9_init_228 : decode cX9_init 228 = .ok (.iastore, 1) := by decide +kernel
theorem dX9_init_229 : decode cX9_init 229 = .ok (.dup, 1) := by decide +kernel
theorem dX9_init_230 : decode cX9_init 230 = .ok (.bipush 7, 2) := by decide +kernel
theorem dX9_init_232 : decode cX9_init 232 = .ok (.bipush 109, 2) := by decide +kernel
theorem dX9_init_234 : decode cX9_init 234 = .ok (.iastore, 1) := by decide +kernel
theorem dX9_init_235 : decode cX9_init 235 = .ok (.dup, 1) := by decide +kernel
theorem dX9_init_236 : decode cX9_init 236 = .ok (.bipush 8, 2) := by decide +kernel
theorem dX9_init_238 : decode cX9_init 238 = .ok (.bipush 115, 2) := by decide +kernel
theorem dX9_init_240 : decode cX9_init 240 = .ok (.iastore, 1) := by decide +kernel
theorem dX9_init_241 : decode cX9_init 241 = .ok (.dup, 1) := by decide +kernel
theorem dX9_init_242 : decode cX9_init 242 = .ok (.bipush 9, 2) := by decide +kernel
theorem dX9_init_244 : decode cX9_init 244 = .ok (.bipush 112, 2) := by decide +kernel
theorem dX9_init_246 : decode cX9_init 246 = .ok (.iastore, 1) := by decide +kernel
theorem dX9_init_247 : decode cX9_init 247 = .ok (.dup, 1) := by decide +kernel
theorem dX9_init_248 : decode cX9_init 248 = .ok (.bipush 10, 2) := by decide +kernel
theorem dX9_init_250 : decode cX9_init 250 = .ok (.bipush 97, 2) := by decide +kernel
theorem dX9_init_252 : decode cX9_init 252 = .ok (.iastore, 1) := by decide +kernel
theorem dX9_init_253 : decode cX9_init 253 = .ok (.dup, 1) := by decide +kernel
theorem dX9_init_254 : decode cX9_init 254 = .ok (.bipush 11, 2) := by decide +kernel
theorem dX9_init_256 : decode cX9_init 256 = .ok (.bipush 114, 2) := by decide +kernel
theorem dX9_init_258 : decode cX9_init 258 = .ok (.iastore, 1) := by decide +kernel
theorem dX9_init_259 : decode cX9_init 259 = .ok (.dup, 1) := by decide +kernel
theorem dX9_init_260 : decode cX9_init 260 = .ok (.bipush 12, 2) := by decide +kernel
theorem dX9_init_262 : decode cX9_init 262 = .ok (.bipush 107, 2) := by decide +kernel
theorem dX9_init_264 : decode cX9_init 264 = .ok (.iastore, 1) := by decide +kernel
theorem dX9_init_265 : decode cX9_init 265 = .ok (.putfield 95, 3) := by decide +kernel
theorem dX9_init_268 : decode cX9_init 268 = .ok (.aload_n 0, 1) := by decide +kernel
theorem dX9_init_269 : decode cX9_init 269 = .ok (.bipush 100, 2) := by decide +kernel
theorem dX9_init_271 : decode cX9_init 271 = .ok (.newarray .boolean, 2) := by decide +kernel
theorem dX9_init_273 : decode cX9_init 273 = .ok (.putfield 98, 3) := by decide +kernel
theorem dX9_init_276 : decode cX9_init 276 = .ok (.aload_n 0, 1) := by decide +kernel
theorem dX9_init_277 : decode cX9_init 277 = .ok (.bipush 6, 2) := by decide +kernel
theorem dX9_init_279 : decode cX9_init 279 = .ok (.newarray .int, 2) := by decide +kernel
theorem dX9_init_281 : decode cX9_init 281 = .ok (.putfield 102, 3) := by decide +kernel
theorem dX9_init_284 : decode cX9_init 284 = .ok (.aload_n 0, 1) := by decide +kernel
theorem dX9_init_285 : decode cX9_init 285 = .ok (.iconst 0, 1) := by decide +kernel
theorem dX9_init_286 : decode cX9_init 286 = .ok (.putfield 105, 3) := by decide +kernel
theorem dX9_init_289 : decode cX9_init 289 = .ok (.aload_n 0, 1) := by decide +kernel
theorem dX9_init_290 : decode cX9_init 290 = .ok (.iconst 0, 1) := by decide +kernel
theorem dX9_init_291 : decode cX9_init 291 = .ok (.putfield 108, 3) := by decide +kernel
theorem dX9_init_294 : decode cX9_init 294 = .ok (.aload_n 0, 1) := by decide +kernel
theorem dX9_init_295 : decode cX9_init 295 = .ok (.iconst 0, 1) := by decide +kernel
theorem dX9_init_296 : decode cX9_init 296 = .ok (.putfield 111, 3) := by decide +kernel
theorem dX9_init_299 : decode cX9_init 299 = .ok (.aload_n 0, 1) := by decide +kernel
theorem dX9_init_300 : decode cX9_init 300 = .ok (.bipush 6, 2) := by decide +kernel
theorem dX9_init_302 : decode cX9_init 302 = .ok (.newarray .int, 2) := by decide +kernel
theorem dX9_init_304 : decode cX9_init 304 = .ok (.putfield 114, 3) := by decide +kernel
theorem dX9_init_307 : decode cX9_init 307 = .ok (.aload_n 0, 1) := by decide +kernel
theorem dX9_init_308 : decode cX9_init 308 = .ok (.iconst 4, 1) := by decide +kernel
theorem dX9_init_309 : decode cX9_init 309 = .ok (.newarray .int, 2) := by decide +kernel
theorem dX9_init_311 : decode cX9_init 311 = .ok (.putfield 117, 3) := by decide +kernel
theorem dX9_init_314 : decode cX9_init 314 = .ok (.aload_n 0, 1) := by decide +kernel
theorem dX9_init_315 : decode cX9_init 315 = .ok (.iconst 4, 1) := by decide +kernel
theorem dX9_init_316 : decode cX9_init 316 = .ok (.newarray .int, 2) := by decide +kernel
theorem dX9_init_318 : decode cX9_init 318 = .ok (.putfield 120, 3) := by decide +kernel
theorem dX9_init_321 : decode cX9_init 321 = .ok (.aload_n 0, 1) := by decide +kernel
theorem dX9_init_322 : decode cX9_init 322 = .ok (.iconst 4, 1) := by decide +kernel
theorem dX9_init_323 : decode cX9_init 323 = .ok (.newarray .int, 2) := by decide +kernel
theorem dX9_init_325 : decode cX9_init 325 = .ok (.putfield 123, 3) := by decide +kernel
theorem dX9_init_328 : decode cX9_init 328 = .ok (.aload_n 0, 1) := by decide +kernel
theorem dX9_init_329 : decode cX9_init 329 = .ok (.iconst 0, 1) := by decide +kernel
theorem dX9_init_330 : decode cX9_init 330 = .ok (.putfield 126, 3) := by decide +kernel
theorem dX9_init_333 : decode cX9_init 333 = .ok (.aload_n 0, 1) := by decide +kernel
theorem dX9_init_334 : decode cX9_init 334 = .ok (.iconst 5, 1) := by decide +kernel
theorem dX9_init_335 : decode cX9_init 335 = .ok (.newarray .int, 2) := by decide +kernel
theorem dX9_init_337 : decode cX9_init 337 = .ok (.putfield 129, 3) := by decide +kernel
theorem dX9_init_340 : decode cX9_init 340 = .ok (.aload_n 0, 1) := by decide +kernel
theorem dX9_init_341 : decode cX9_init 341 = .ok (.iconst 5, 1) := by decide +kernel
theorem dX9_init_342 : decode cX9_init 342 = .ok (.newarray .int, 2) := by decide +kernel
theorem dX9_init_344 : decode cX9_init 344 = .ok (.putfield 132, 3) := by decide +kernel
theorem dX9_init_347 : decode cX9_init 347 = .ok (.aload_n 0, 1) := by decide +kernel
theorem dX9_init_348 : decode cX9_init 348 = .ok (.iconst 5, 1) := by decide +kernel
theorem dX9_init_349 : decode cX9_init 349 = .ok (.newarray .boolean, 2) := by decide +kernel
theorem dX9_init_351 : decode cX9_init 351 = .ok (.putfield 135, 3) := by decide +kernel
theorem dX9_init_354 : decode cX9_init 354 = .ok (.aload_n 0, 1) := by decide +kernel
theorem dX9_init_355 : decode cX9_init 355 = .ok (.iconst 0, 1) := by decide +kernel
theorem dX9_init_356 : decode cX9_init 356 = .ok (.putfield 138, 3) := by decide +kernel
theorem dX9_init_359 : decode cX9_init 359 = .ok (.aload_n 0, 1) := by decide +kernel
theorem dX9_init_360 : decode cX9_init 360 = .ok (.iconst 0, 1) := by decide +kernel
theorem dX9_init_361 : decode cX9_init 361 = .ok (.putfield 141, 3) := by decide +kernel
theorem dX9_init_364 : decode cX9_init 364 = .ok (.aload_n 0, 1) := by decide +kernel
theorem dX9_init_365 : decode cX9_init 365 = .ok (.bipush 10, 2) := by decide +kernel
theorem dX9_init_367 : decode cX9_init 367 = .ok (.newarray .int, 2) := by decide +kernel
theorem dX9_init_369 : decode cX9_init 369 = .ok (.putfield 144, 3) := by decide +kernel
theorem dX9_init_372 : decode cX9_init 372 = .ok (.aload_n 0, 1) := by decide +kernel
theorem dX9_init_373 : decode cX9_init 373 = .ok (.bipush 10, 2) := by decide +kernel
theorem dX9_init_375 : decode cX9_init 375 = .ok (.newarray .int, 2) := by decide +kernel
theorem dX9_init_377 : decode cX9_init 377 = .ok (.putfield 147, 3) := by decide +kernel
theorem dX9_init_380 : decode cX9_init 380 = .ok (.aload_n 0, 1) := by decide +kernel
theorem dX9_init_381 : decode cX9_init 381 = .ok (.bipush 8, 2) := by decide +kernel
theorem dX9_init_383 : decode cX9_init 383 = .ok (.newarray .int, 2) := by decide +kernel
theorem dX9_init_385 : decode cX9_init 385 = .ok (.putfield 150, 3) := by decide +kernel
theorem dX9_init_388 : decode cX9_init 388 = .ok (.aload_n 0, 1) := by decide +kernel
theorem dX9_init_389 : decode cX9_init 389 = .ok (.bipush 8, 2) := by decide +kernel
theorem dX9_init_391 : decode cX9_init 391 = .ok (.newarray .int, 2) := by decide +kernel
theorem dX9_init_393 : decode cX9_init 393 = .ok (.putfield 153, 3) := by decide +kernel
theorem dX9_init_396 : decode cX9_init 396 = .ok (.aload_n 0, 1) := by decide +kernel
theorem dX9_init_397 : decode cX9_init 397 = .ok (.iconst 0, 1) := by decide +kernel
theorem dX9_init_398 : decode cX9_init 398 = .ok (.putfield 156, 3) := by decide +kernel
theorem dX9_init_401 : decode cX9_init 401 = .ok (.aload_n 0, 1) := by decide +kernel
theorem dX9_init_402 : decode cX9_init 402 = .ok (.iconst (-1), 1) := by decide +kernel
theorem dX9_init_403 : decode cX9_init 403 = .ok (.putfield 160, 3) := by decide +kernel
theorem dX9_init_406 : decode cX9_init 406 = .ok (.aload_n 0, 1) := by decide +kernel
theorem dX9_init_407 : decode cX9_init 407 = .ok (.iconst 0, 1) := by decide +kernel
theorem dX9_init_408 : decode cX9_init 408 = .ok (.putfield 163, 3) := by decide +kernel
theorem dX9_init_411 : decode cX9_init 411 = .ok (.aload_n 0, 1) := by decide +kernel
theorem dX9_init_412 : decode cX9_init 412 = .ok (.iconst 0, 1) := by decide +kernel
theorem dX9_init_413 : decode cX9_init 413 = .ok (.putfield 166, 3) := by decide +kernel
theorem dX9_init_416 : decode cX9_init 416 = .ok (.aload_n 0, 1) := by decide +kernel
theorem dX9_init_417 : decode cX9_init 417 = .ok (.iconst 0, 1) := by decide +kernel
theorem dX9_init_418 : decode cX9_init 418 = .ok (.putfield 169, 3) := by decide +kernel
theorem dX9_init_421 : decode cX9_init 421 = .ok (.aload_n 0, 1) := by decide +kernel
theorem dX9_init_422 : decode cX9_init 422 = .ok (.iconst 0, 1) := by decide +kernel
theorem dX9_init_423 : decode cX9_init 423 = .ok (.putfield 172, 3) := by decide +kernel
theorem dX9_init_426 : decode cX9_init 426 = .ok (.aload_n 0, 1) := by decide +kernel
theorem dX9_init_427 : decode cX9_init 427 = .ok (.iconst 0, 1) := by decide +kernel
theorem dX9_init_428 : decode cX9_init 428 = .ok (.putfield 175, 3) := by decide +kernel
theorem dX9_init_431 : decode cX9_init 431 = .ok (.aload_n 0, 1) := by decide +kernel
theorem dX9_init_432 : decode cX9_init 432 = .ok (.iconst 0, 1) := by decide +kernel
theorem dX9_init_433 : decode cX9_init 433 = .ok (.putfield 178, 3) := by decide +kernel
theorem dX9_init_436 : decode cX9_init 436 = .ok (.aload_n 0, 1) := by decide +kernel
theorem dX9_init_437 : decode cX9_init 437 = .ok (.iconst 0, 1) := by decide +kernel
theorem dX9_init_438 : decode cX9_init 438 = .ok (.putfield 181, 3) := by decide +kernel
theorem dX9_init_441 : decode cX9_init 441 = .ok (.aload_n 0, 1) := by decide +kernel
theorem dX9_init_442 : decode cX9_init 442 = .ok (.iconst 0, 1) := by decide +kernel
theorem dX9_init_443 : decode cX9_init 443 = .ok (.putfield 184, 3) := by decide +kernel
theorem dX9_init_446 : decode cX9_init 446 = .ok (.aload_n 0, 1) := by decide +kernel
theorem dX9_init_447 : decode cX9_init 447 = .ok (.bipush 6, 2) := by decide +kernel
theorem dX9_init_449 : decode cX9_init 449 = .ok (.newarray .int, 2) := by decide +kernel
theorem dX9_init_451 : decode cX9_init 451 = .ok (.putfield 187, 3) := by decide +kernel
theorem dX9_init_454 : decode cX9_init 454 = .ok (.aload_n 0, 1) := by decide +kernel
theorem dX9_init_455 : decode cX9_init 455 = .ok (.bipush 6, 2) := by decide +kernel
theorem dX9_init_457 : decode cX9_init 457 = .ok (.newarray .int, 2) := by decide +kernel
theorem dX9_init_459 : decode cX9_init 459 = .ok (.putfield 190, 3) := by decide +kernel
theorem dX9_init_462 : decode cX9_init 462 = .ok (.aload_n 0, 1) := by decide +kernel
theorem dX9_init_463 : decode cX9_init 463 = .ok (.bipush 6, 2) := by decide +kernel
theorem dX9_init_465 : decode cX9_init 465 = .ok (.newarray .int, 2) := by decide +kernel
theorem dX9_init_467 : decode cX9_init 467 = .ok (.putfield 193, 3) := by decide +kernel
theorem dX9_init_470 : decode cX9_init 470 = .ok (.aload_n 0, 1) := by decide +kernel
theorem dX9_init_471 : decode cX9_init 471 = .ok (.bipush 24, 2) := by decide +kernel
theorem dX9_init_473 : decode cX9_init 473 = .ok (.newarray .int, 2) := by decide +kernel
theorem dX9_init_475 : decode cX9_init 475 = .ok (.putfield 196, 3) := by decide +kernel
theorem dX9_init_478 : decode cX9_init 478 = .ok (.aload_n 0, 1) := by decide +kernel
theorem dX9_init_479 : decode cX9_init 479 = .ok (.iconst 4, 1) := by decide +kernel
theorem dX9_init_480 : decode cX9_init 480 = .ok (.newarray .int, 2) := by decide +kernel
theorem dX9_init_482 : decode cX9_init 482 = .ok (.putfield 199, 3) := by decide +kernel
theorem dX9_init_485 : decode cX9_init 485 = .ok (.aload_n 0, 1) := by decide +kernel
theorem dX9_init_486 : decode cX9_init 486 = .ok (.iconst 4, 1) := by decide +kernel
theorem dX9_init_487 : decode cX9_init 487 = .ok (.newarray .int, 2) := by decide +kernel
theorem dX9_init_489 : decode cX9_init 489 = .ok (.putfield 202, 3) := by decide +kernel
theorem dX9_init_492 : decode cX9_init 492 = .ok (.aload_n 0, 1) := by decide +kernel
theorem dX9_init_493 : decode cX9_init 493 = .ok (.iconst 4, 1) := by decide +kernel
theorem dX9_init_494 : decode cX9_init 494 = .ok (.newarray .int, 2) := by decide +kernel
theorem dX9_init_496 : decode cX9_init 496 = .ok (.putfield 205, 3) := by decide +kernel
theorem dX9_init_499 : decode cX9_init 499 = .ok (.aload_n 0, 1) := by decide +kernel
theorem dX9_init_500 : decode cX9_init 500 = .ok (.iconst 5, 1) := by decide +kernel
theorem dX9_init_501 : decode cX9_init 501 = .ok (.newarray .int, 2) := by decide +kernel
theorem dX9_init_503 : decode cX9_init 503 = .ok (.putfield 208, 3) := by decide +kernel
theorem dX9_init_506 : decode cX9_init 506 = .ok (.aload_n 0, 1) := by decide +kernel
theorem dX9_init_507 : decode cX9_init 507 = .ok (.iconst 5, 1) := by decide +kernel
theorem dX9_init_508 : decode cX9_init 508 = .ok (.newarray .int, 2) := by decide +kernel
theorem dX9_init_510 : decode cX9_init 510 = .ok (.putfield 211, 3) := by decide +kernel
theorem dX9_init_513 : decode cX9_init 513 = .ok (.aload_n 0, 1) := by decide +kernel
theorem dX9_init_514 : decode cX9_init 514 = .ok (.bipush 10, 2) := by decide +kernel
theorem dX9_init_516 : decode cX9_init 516 = .ok (.newarray .int, 2) := by decide +kernel
theorem dX9_init_518 : decode cX9_init 518 = .ok (.putfield 214, 3) := by decide +kernel
theorem dX9_init_521 : decode cX9_init 521 = .ok (.aload_n 0, 1) := by decide +kernel
theorem dX9_init_522 : decode cX9_init 522 = .ok (.bipush 10, 2) := by decide +kernel
theorem dX9_init_524 : decode cX9_init 524 = .ok (.newarray .int, 2) := by decide +kernel
theorem dX9_init_526 : decode cX9_init 526 = .ok (.putfield 217, 3) := by decide +kernel
theorem dX9_init_529 : decode cX9_init 529 = .ok (.aload_n 0, 1) := by decide +kernel
theorem dX9_init_530 : decode cX9_init 530 = .ok (.bipush 8, 2) := by decide +kernel
theorem dX9_init_532 : decode cX9_init 532 = .ok (.newarray .int, 2) := by decide +kernel
theorem dX9_init_534 : decode cX9_init 534 = .ok (.putfield 220, 3) := by decide +kernel
theorem dX9_init_537 : decode cX9_init 537 = .ok (.aload_n 0, 1) := by decide +kernel
theorem dX9_init_538 : decode cX9_init 538 = .ok (.bipush 8, 2) := by decide +kernel
theorem dX9_init_540 : decode cX9_init 540 = .ok (.newarray .int, 2) := by decide +kernel
theorem dX9_init_542 : decode cX9_init 542 = .ok (.putfield 223, 3) := by decide +kernel
theorem dX9_init_545 : decode cX9_init 545 = .ok (.aload_n 0, 1) := by decide +kernel
theorem dX9_init_546 : decode cX9_init 546 = .ok (.iconst 5, 1) := by decide +kernel
theorem dX9_init_547 : decode cX9_init 547 = .ok (.newarray .boolean, 2) := by decide +kernel
theorem dX9_init_549 : decode cX9_init 549 = .ok (.putfield 226, 3) := by decide +kernel
theorem dX9_init_552 : decode cX9_init 552 = .ok (.aload_n 0, 1) := by decide +kernel
theorem dX9_init_553 : decode cX9_init 553 = .ok (.iconst 0, 1) := by decide +kernel
theorem dX9_init_554 : decode cX9_init 554 = .ok (.putfield 229, 3) := by decide +kernel
theorem dX9_init_557 : decode cX9_init 557 = .ok (.aload_n 0, 1) := by decide +kernel
theorem dX9_init_558 : decode cX9_init 558 = .ok (.bipush 20, 2) := by decide +kernel
theorem dX9_init_560 : decode cX9_init 560 = .ok (.newarray .int, 2) := by decide +kernel
theorem dX9_init_562 : decode cX9_init 562 = .ok (.putfield 232, 3) := by decide +kernel
theorem dX9_init_565 : decode cX9_init 565 = .ok (.aload_n 0, 1) := by decide +kernel
theorem dX9_init_566 : decode cX9_init 566 = .ok (.bipush 6, 2) := by decide +kernel
theorem dX9_init_568 : decode cX9_init 568 = .ok (.newarray .int, 2) := by decide +kernel
theorem dX9_init_570 : decode cX9_init 570 = .ok (.dup, 1) := by decide +kernel
theorem dX9_init_571 : decode cX9_init 571 = .ok (.iconst 0, 1) := by decide +kernel
theorem dX9_init_572 : decode cX9_init 572 = .ok (.iconst (-1), 1) := by decide +kernel
theorem dX9_init_573 : decode cX9_init 573 = .ok (.iastore, 1) := by decide +kernel
theorem dX9_init_574 : decode cX9_init 574 = .ok (.dup, 1) := by decide +kernel
theorem dX9_init_575 : decode cX9_init 575 = .ok (.iconst 1, 1) := by decide +kernel
theorem dX9_init_576 : decode cX9_init 576 = .ok (.iconst (-1), 1) := by decide +kernel
theorem dX9_init_577 : decode cX9_init 577 = .ok (.iastore, 1) := by decide +kernel
theorem dX9_init_578 : decode cX9_init 578 = .ok (.dup, 1) := by decide +kernel
theorem dX9_init_579 : decode cX9_init 579 = .ok (.iconst 2, 1) := by decide +kernel
theorem dX9_init_580 : decode cX9_init 580 = .ok (.iconst (-1), 1) := by decide +kernel
theorem dX9_init_581 : decode cX9_init 581 = .ok (.iastore, 1) := by decide +kernel
theorem dX9_init_582 : decode cX9_init 582 = .ok (.dup, 1) := by decide +kernel
theorem dX9_init_583 : decode cX9_init 583 = .ok (.iconst 3, 1) := by decide +kernel
theorem dX9_init_584 : decode cX9_init 584 = .ok (.iconst (-1), 1) := by decide +kernel
theorem dX9_init_585 : decode cX9_init 585 = .ok (.iastore, 1) := by decide +kernel
theorem dX9_init_586 : decode cX9_init 586 = .ok (.dup, 1) := by decide +kernel
theorem dX9_init_587 : decode cX9_init 587 = .ok (.iconst 4, 1) := by decide +kernel
theorem dX9_init_588 : decode cX9_init 588 = .ok (.iconst (-1), 1) := by decide +kernel
theorem dX9_init_589 : decode cX9_init 589 = .ok (.iastore, 1) := by decide +kernel
theorem dX9_init_590 : decode cX9_init 590 = .ok (.dup, 1) := by decide +kernel
theorem dX9_init_591 : decode cX9_init 591 = .ok (.iconst 5, 1) := by decide +kernel
theorem dX9_init_592 : decode cX9_init 592 = .ok (.iconst (-1), 1) := by decide +kernel
theorem dX9_init_593 : decode cX9_init 593 = .ok (.iastore, 1) := by decide +kernel
theorem dX9_init_594 : decode cX9_init 594 = .ok (.putfield 235, 3) := by decide +kernel
theorem dX9_init_597 : decode cX9_init 597 = .ok (.aload_n 0, 1) := by decide +kernel
theorem dX9_init_598 : decode cX9_init 598 = .ok (.bipush 6, 2) := by decide +kernel
theorem dX9_init_600 : decode cX9_init 600 = .ok (.newarray .int, 2) := by decide +kernel
theorem dX9_init_602 : decode cX9_init 602 = .ok (.putfield 238, 3) := by decide +kernel
theorem dX9_init_605 : decode cX9_init 605 = .ok (.aload_n 0, 1) := by decide +kernel
theorem dX9_init_606 : decode cX9_init 606 = .ok (.sipush 360, 3) := by decide +kernel
theorem dX9_init_609 : decode cX9_init 609 = .ok (.newarray .long, 2) := by decide +kernel
theorem dX9_init_611 : decode cX9_init 611 = .ok (.putfield 241, 3) := by decide +kernel
theorem dX9_init_614 : decode cX9_init 614 = .ok (.aload_n 0, 1) := by decide +kernel
theorem dX9_init_615 : decode cX9_init 615 = .ok (.bipush 60, 2) := by decide +kernel
theorem dX9_init_617 : decode cX9_init 617 = .ok (.newarray .long, 2) := by decide +kernel
theorem dX9_init_619 : decode cX9_init 619 = .ok (.putfield 245, 3) := by decide +kernel
theorem dX9_init_622 : decode cX9_init 622 = .ok (.return_, 1) := by decide +kernel
theorem dX9_in_0 : decode cX9_in 0 = .ok (.iload_n 1, 1) := by decide +kernel
theorem dX9_in_1 : decode cX9_in 1 = .ok (.iload_n 2, 1) := by decide +kernel
theorem dX9_in_2 : decode cX9_in 2 = .ok (.if_icmp .lt 12, 3) := by decide +kernel
theorem dX9_in_5 : decode cX9_in 5 = .ok (.iload_n 1, 1) := by decide +kernel
theorem dX9_in_6 : decode cX9_in 6 = .ok (.iload_n 3, 1) := by decide +kernel
theorem dX9_in_7 : decode cX9_in 7 = .ok (.if_icmp .gt 7, 3) := by decide +kernel
theorem dX9_in_10 : decode cX9_in 10 = .ok (.iconst 1, 1) := by decide +kernel
theorem dX9_in_11 : decode cX9_in 11 = .ok (.goto 4, 3) := by decide +kernel
theorem dX9_in_14 : decode cX9_in 14 = .ok (.iconst 0, 1) := by decide +kernel
theorem dX9_in_15 : decode cX9_in 15 = .ok (.ireturn, 1) := by decide +kernel
theorem dX9_has_0 : decode cX9_has 0 = .ok (.iload_n 1, 1) := by decide +kernel
theorem dX9_has_1 : decode cX9_has 1 = .ok (.iload_n 2, 1) := by decide +kernel
theorem dX9_has_2 : decode cX9_has 2 = .ok (.ishr, 1) := by decide +kernel
theorem dX9_has_3 : decode cX9_has 3 = .ok (.iconst 1, 1) := by decide +kernel
theorem dX9_has_4 : decode cX9_has 4 = .ok (.iand, 1) := by decide +kernel
theorem dX9_has_5 : decode cX9_has 5 = .ok (.iconst 1, 1) := by decide +kernel
theorem dX9_has_6 : decode cX9_has 6 = .ok (.if_icmp .ne 7, 3) := by decide +kernel
theorem dX9_has_9 : decode cX9_has 9 = .ok (.iconst 1, 1) := by decide +kernel
theorem dX9_has_10 : decode cX9_has 10 = .ok (.goto 4, 3) := by decide +kernel
theorem dX9_has_13 : decode cX9_has 13 = .ok (.iconst 0, 1) := by decide +kernel
theorem dX9_has_14 : decode cX9_has 14 = .ok (.ireturn, 1) := by decide +kernel
theorem dX9_least_0 : decode cX9_least 0 = .ok (.iload_n 1, 1) := by decide +kernel
theorem dX9_least_1 : decode cX9_least 1 = .ok (.iload_n 2, 1) := by decide +kernel
theorem dX9_least_2 : decode cX9_least 2 = .ok (.if_icmp .ge 7, 3) := by decide +kernel
theorem dX9_least_5 : decode cX9_least 5 = .ok (.iload_n 1, 1) := by decide +kernel
theorem dX9_least_6 : decode cX9_least 6 = .ok (.goto 4, 3) := by decide +kernel
theorem dX9_least_9 : decode cX9_least 9 = .ok (.iload_n 2, 1) := by decide +kernel
theorem dX9_least_10 : decode cX9_least 10 = .ok (.ireturn, 1) := by decide +kernel
theorem dX9_held_0 : decode cX9_held 0 = .ok (.iload_n 1, 1) := by decide +kernel
theorem dX9_held_1 : decode cX9_held 1 = .ok (.ifCond .ge 7, 3) := by decide +kernel
theorem dX9_held_4 : decode cX9_held 4 = .ok (.iconst 0, 1) := by decide +kernel
theorem dX9_held_5 : decode cX9_held 5 = .ok (.goto 10, 3) := by decide +kernel
theorem dX9_held_8 : decode cX9_held 8 = .ok (.aload_n 0, 1) := by decide +kernel
theorem dX9_held_9 : decode cX9_held 9 = .ok (.iload_n 1, 1) := by decide +kernel
theorem dX9_held_10 : decode cX9_held 10 = .ok (.bipush 99, 2) := by decide +kernel
theorem dX9_held_12 : decode cX9_held 12 = .ok (.invokevirtual 248, 3) := by decide +kernel
theorem dX9_held_15 : decode cX9_held 15 = .ok (.ireturn, 1) := by decide +kernel
theorem dX9_isOne_0 : decode cX9_isOne 0 = .ok (.aload_n 0, 1) := by decide +kernel
theorem dX9_isOne_1 : decode cX9_isOne 1 = .ok (.iload_n 1, 1) := by decide +kernel
theorem dX9_isOne_2 : decode cX9_isOne 2 = .ok (.iconst 0, 1) := by decide +kernel
theorem dX9_isOne_3 : decode cX9_isOne 3 = .ok (.aload_n 0, 1) := by decide +kernel
theorem dX9_isOne_4 : decode cX9_isOne 4 = .ok (.getfield 7, 3) := by decide +kernel
theorem dX9_isOne_7 : decode cX9_isOne 7 = .ok (.iconst 1, 1) := by decide +kernel
theorem dX9_isOne_8 : decode cX9_isOne 8 = .ok (.isub, 1) := by decide +kernel
theorem dX9_isOne_9 : decode cX9_isOne 9 = .ok (.invokevirtual 252, 3) := by decide +kernel
theorem dX9_isOne_12 : decode cX9_isOne 12 = .ok (.ireturn, 1) := by decide +kernel
theorem dX9_isWork_0 : decode cX9_isWork 0 = .ok (.aload_n 0, 1) := by decide +kernel
theorem dX9_isWork_1 : decode cX9_isWork 1 = .ok (.iload_n 1, 1) := by decide +kernel
theorem dX9_isWork_2 : decode cX9_isWork 2 = .ok (.iconst 0, 1) := by decide +kernel
theorem dX9_isWork_3 : decode cX9_isWork 3 = .ok (.aload_n 0, 1) := by decide +kernel
theorem dX9_isWork_4 : decode cX9_isWork 4 = .ok (.getfield 16, 3) := by decide +kernel
theorem dX9_isWork_7 : decode cX9_isWork 7 = .ok (.iconst 1, 1) := by decide +kernel
theorem dX9_isWork_8 : decode cX9_isWork 8 = .ok (.isub, 1) := by decide +kernel
theorem dX9_isWork_9 : decode cX9_isWork 9 = .ok (.invokevirtual 252, 3) := by decide +kernel
theorem dX9_isWork_12 : decode cX9_isWork 12 = .ok (.ireturn, 1) := by decide +kernel
theorem dX9_isHeat_0 : decode cX9_isHeat 0 = .ok (.aload_n 0, 1) := by decide +kernel
theorem dX9_isHeat_1 : decode cX9_isHeat 1 = .ok (.iload_n 1, 1) := by decide +kernel
theorem dX9_isHeat_2 : decode cX9_isHeat 2 = .ok (.iconst 0, 1) := by decide +kernel
theorem dX9_isHeat_3 : decode cX9_isHeat 3 = .ok (.bipush 99, 2) := by decide +kernel
theorem dX9_isHeat_5 : decode cX9_isHeat 5 = .ok (.invokevirtual 252, 3) := by decide +kernel
theorem dX9_isHeat_8 : decode cX9_isHeat 8 = .ok (.ireturn, 1) := by decide +kernel
theorem dX9_isMinutes_0 : decode cX9_isMinutes 0 = .ok (.aload_n 0, 1) := by decide +kernel
theorem dX9_isMinutes_1 : decode cX9_isMinutes 1 = .ok (.iload_n 1, 1) := by decide +kernel
theorem dX9_isMinutes_2 : decode cX9_isMinutes 2 = .ok (.iconst 0, 1) := by decide +kernel
theorem dX9_isMinutes_3 : decode cX9_isMinutes 3 = .ok (.bipush 60, 2) := by decide +kernel
theorem dX9_isMinutes_5 : decode cX9_isMinutes 5 = .ok (.invokevirtual 252, 3) := by decide +kernel
theorem dX9_isMinutes_8 : decode cX9_isMinutes 8 = .ok (.ireturn, 1) := by decide +kernel
theorem dX9_one_0 : decode cX9_one 0 = .ok (.aload_n 0, 1) := by decide +kernel
theorem dX9_one_1 : decode cX9_one 1 = .ok (.iload_n 1, 1) := by decide +kernel
theorem dX9_one_2 : decode cX9_one 2 = .ok (.iconst 0, 1) := by decide +kernel
theorem dX9_one_3 : decode cX9_one 3 = .ok (.bipush 6, 2) := by decide +kernel
theorem dX9_one_5 : decode cX9_one 5 = .ok (.invokevirtual 252, 3) := by decide +kernel
theorem dX9_one_8 : decode cX9_one 8 = .ok (.ifCond .ne 5, 3) := by decide +kernel
theorem dX9_one_11 : decode cX9_one 11 = .ok (.iconst (-1), 1) := by decide +kernel
theorem dX9_one_12 : decode cX9_one 12 = .ok (.ireturn, 1) := by decide +kernel
theorem dX9_one_13 : decode cX9_one 13 = .ok (.aload_n 0, 1) := by decide +kernel
theorem dX9_one_14 : decode cX9_one 14 = .ok (.iload_n 2, 1) := by decide +kernel
theorem dX9_one_15 : decode cX9_one 15 = .ok (.iconst 0, 1) := by decide +kernel
theorem dX9_one_16 : decode cX9_one 16 = .ok (.bipush 9, 2) := by decide +kernel
theorem dX9_one_18 : decode cX9_one 18 = .ok (.invokevirtual 252, 3) := by decide +kernel
theorem dX9_one_21 : decode cX9_one 21 = .ok (.ifCond .eq 11, 3) := by decide +kernel
theorem dX9_one_24 : decode cX9_one 24 = .ok (.aload_n 0, 1) := by decide +kernel
theorem dX9_one_25 : decode cX9_one 25 = .ok (.iload_n 3, 1) := by decide +kernel
theorem dX9_one_26 : decode cX9_one 26 = .ok (.invokevirtual 256, 3) := by decide +kernel
theorem dX9_one_29 : decode cX9_one 29 = .ok (.ifCond .ne 6, 3) := by decide +kernel
theorem dX9_one_32 : decode cX9_one 32 = .ok (.bipush (-2), 2) := by decide +kernel
theorem dX9_one_34 : decode cX9_one 34 = .ok (.ireturn, 1) := by decide +kernel
theorem dX9_one_35 : decode cX9_one 35 = .ok (.aload_n 0, 1) := by decide +kernel
theorem dX9_one_36 : decode cX9_one 36 = .ok (.getfield 7, 3) := by decide +kernel
theorem dX9_one_39 : decode cX9_one 39 = .ok (.bipush 6, 2) := by decide +kernel
theorem dX9_one_41 : decode cX9_one 41 = .ok (.if_icmp .ne 6, 3) := by decide +kernel
theorem dX9_one_44 : decode cX9_one 44 = .ok (.bipush (-4), 2) := by decide +kernel
theorem dX9_one_46 : decode cX9_one 46 = .ok (.ireturn, 1) := by decide +kernel
theorem dX9_one_47 : decode cX9_one 47 = .ok (.aload_n 0, 1) := by decide +kernel
theorem dX9_one_48 : decode cX9_one 48 = .ok (.getfield 25, 3) := by decide +kernel
theorem dX9_one_51 : decode cX9_one 51 = .ok (.aload_n 0, 1) := by decide +kernel
theorem dX9_one_52 : decode cX9_one 52 = .ok (.getfield 7, 3) := by decide +kernel
theorem dX9_one_55 : decode cX9_one 55 = .ok (.iload_n 1, 1) := by decide +kernel
theorem dX9_one_56 : decode cX9_one 56 = .ok (.iastore, 1) := by decide +kernel
theorem dX9_one_57 : decode cX9_one 57 = .ok (.aload_n 0, 1) := by decide +kernel
theorem dX9_one_58 : decode cX9_one 58 = .ok (.getfield 29, 3) := by decide +kernel
theorem dX9_one_61 : decode cX9_one 61 = .ok (.aload_n 0, 1) := by decide +kernel
theorem dX9_one_62 : decode cX9_one 62 = .ok (.getfield 7, 3) := by decide +kernel
theorem dX9_one_65 : decode cX9_one 65 = .ok (.iload_n 2, 1) := by decide +kernel
theorem dX9_one_66 : decode cX9_one 66 = .ok (.iastore, 1) := by decide +kernel
theorem dX9_one_67 : decode cX9_one 67 = .ok (.aload_n 0, 1) := by decide +kernel
theorem dX9_one_68 : decode cX9_one 68 = .ok (.getfield 32, 3) := by decide +kernel
theorem dX9_one_71 : decode cX9_one 71 = .ok (.aload_n 0, 1) := by decide +kernel
theorem dX9_one_72 : decode cX9_one 72 = .ok (.getfield 7, 3) := by decide +kernel
theorem dX9_one_75 : decode cX9_one 75 = .ok (.iload_n 3, 1) := by decide +kernel
theorem dX9_one_76 : decode cX9_one 76 = .ok (.iastore, 1) := by decide +kernel
theorem dX9_one_77 : decode cX9_one 77 = .ok (.aload_n 0, 1) := by decide +kernel
theorem dX9_one_78 : decode cX9_one 78 = .ok (.dup, 1) := by decide +kernel
theorem dX9_one_79 : decode cX9_one 79 = .ok (.getfield 13, 3) := by decide +kernel
theorem dX9_one_82 : decode cX9_one 82 = .ok (.iconst 1, 1) := by decide +kernel
theorem dX9_one_83 : decode cX9_one 83 = .ok (.aload_n 0, 1) := by decide +kernel
theorem dX9_one_84 : decode cX9_one 84 = .ok (.getfield 7, 3) := by decide +kernel
theorem dX9_one_87 : decode cX9_one 87 = .ok (.ishl, 1) := by decide +kernel
theorem dX9_one_88 : decode cX9_one 88 = .ok (.iconst (-1), 1) := by decide +kernel
theorem dX9_one_89 : decode cX9_one 89 = .ok (.ixor, 1) := by decide +kernel
theorem dX9_one_90 : decode cX9_one 90 = .ok (.iand, 1) := by decide +kernel
theorem dX9_one_91 : decode cX9_one 91 = .ok (.putfield 13, 3) := by decide +kernel
theorem dX9_one_94 : decode cX9_one 94 = .ok (.iconst 0, 1) := by decide +kernel
theorem dX9_one_95 : decode cX9_one 95 = .ok (.istore 4, 2) := by decide +kernel
theorem dX9_one_97 : decode cX9_one 97 = .ok (.iload 4, 2) := by decide +kernel
theorem dX9_one_99 : decode cX9_one 99 = .ok (.iconst 4, 1) := by decide +kernel
theorem dX9_one_100 : decode cX9_one 100 = .ok (.if_icmp .ge 24, 3) := by decide +kernel
theorem dX9_one_103 : decode cX9_one 103 = .ok (.aload_n 0, 1) := by decide +kernel
theorem dX9_one_104 : decode cX9_one 104 = .ok (.getfield 35, 3) := by decide +kernel
theorem dX9_one_107 : decode cX9_one 107 = .ok (.iconst 4, 1) := by decide +kernel
theorem dX9_one_108 : decode cX9_one 108 = .ok (.aload_n 0, 1) := by decide +kernel
theorem dX9_one_109 : decode cX9_one 109 = .ok (.getfield 7, 3) := by decide +kernel
theorem dX9_one_112 : decode cX9_one 112 = .ok (.imul, 1) := by decide +kernel
theorem dX9_one_113 : decode cX9_one 113 = .ok (.iload 4, 2) := by decide +kernel
theorem dX9_one_115 : decode cX9_one 115 = .ok (.iadd, 1) := by decide +kernel
theorem dX9_one_116 : decode cX9_one 116 = .ok (.iconst 0, 1) := by decide +kernel
theorem dX9_one_117 : decode cX9_one 117 = .ok (.iastore, 1) := by decide +kernel
theorem dX9_one_118 : decode cX9_one 118 = .ok (.iinc 4 1, 3) := by decide +kernel
theorem dX9_one_121 : decode cX9_one 121 = .ok (.goto (-24), 3) := by decide +kernel
theorem dX9_one_124 : decode cX9_one 124 = .ok (.aload_n 0, 1) := by decide +kernel
theorem dX9_one_125 : decode cX9_one 125 = .ok (.dup, 1) := by decide +kernel
theorem dX9_one_126 : decode cX9_one 126 = .ok (.getfield 7, 3) := by decide +kernel
theorem dX9_one_129 : decode cX9_one 129 = .ok (.iconst 1, 1) := by decide +kernel
theorem dX9_one_130 : decode cX9_one 130 = .ok (.iadd, 1) := by decide +kernel
theorem dX9_one_131 : decode cX9_one 131 = .ok (.putfield 7, 3) := by decide +kernel
theorem dX9_one_134 : decode cX9_one 134 = .ok (.aload_n 0, 1) := by decide +kernel
theorem dX9_one_135 : decode cX9_one 135 = .ok (.getfield 7, 3) := by decide +kernel
theorem dX9_one_138 : decode cX9_one 138 = .ok (.iconst 1, 1) := by decide +kernel
theorem dX9_one_139 : decode cX9_one 139 = .ok (.isub, 1) := by decide +kernel
theorem dX9_one_140 : decode cX9_one 140 = .ok (.ireturn, 1) := by decide +kernel
theorem dX9_heat_0 : decode cX9_heat 0 = .ok (.aload_n 0, 1) := by decide +kernel
theorem dX9_heat_1 : decode cX9_heat 1 = .ok (.iload_n 1, 1) := by decide +kernel
theorem dX9_heat_2 : decode cX9_heat 2 = .ok (.invokevirtual 260, 3) := by decide +kernel
theorem dX9_heat_5 : decode cX9_heat 5 = .ok (.ifCond .ne 5, 3) := by decide +kernel
theorem dX9_heat_8 : decode cX9_heat 8 = .ok (.iconst (-1), 1) := by decide +kernel
theorem dX9_heat_9 : decode cX9_heat 9 = .ok (.ireturn, 1) := by decide +kernel
theorem dX9_heat_10 : decode cX9_heat 10 = .ok (.aload_n 0, 1) := by decide +kernel
theorem dX9_heat_11 : decode cX9_heat 11 = .ok (.iload_n 2, 1) := by decide +kernel
theorem dX9_heat_12 : decode cX9_heat 12 = .ok (.invokevirtual 256, 3) := by decide +kernel
theorem dX9_heat_15 : decode cX9_heat 15 = .ok (.ifCond .ne 6, 3) := by decide +kernel
theorem dX9_heat_18 : decode cX9_heat 18 = .ok (.bipush (-2), 2) := by decide +kernel
theorem dX9_heat_20 : decode cX9_heat 20 = .ok (.ireturn, 1) := by decide +kernel
theorem dX9_heat_21 : decode cX9_heat 21 = .ok (.aload_n 0, 1) := by decide +kernel
theorem dX9_heat_22 : decode cX9_heat 22 = .ok (.getfield 32, 3) := by decide +kernel
theorem dX9_heat_25 : decode cX9_heat 25 = .ok (.iload_n 1, 1) := by decide +kernel
theorem dX9_heat_26 : decode cX9_heat 26 = .ok (.iaload, 1) := by decide +kernel
theorem dX9_heat_27 : decode cX9_heat 27 = .ok (.istore_n 3, 1) := by decide +kernel
theorem dX9_heat_28 : decode cX9_heat 28 = .ok (.aload_n 0, 1) := by decide +kernel
theorem dX9_heat_29 : decode cX9_heat 29 = .ok (.getfield 32, 3) := by decide +kernel
theorem dX9_heat_32 : decode cX9_heat 32 = .ok (.iload_n 1, 1) := by decide +kernel
theorem dX9_heat_33 : decode cX9_heat 33 = .ok (.iload_n 2, 1) := by decide +kernel
theorem dX9_heat_34 : decode cX9_heat 34 = .ok (.iastore, 1) := by decide +kernel
theorem dX9_heat_35 : decode cX9_heat 35 = .ok (.iload_n 3, 1) := by decide +kernel
theorem dX9_heat_36 : decode cX9_heat 36 = .ok (.ireturn, 1) := by decide +kernel
theorem dX9_goes_0 : decode cX9_goes 0 = .ok (.aload_n 0, 1) := by decide +kernel
theorem dX9_goes_1 : decode cX9_goes 1 = .ok (.iload_n 2, 1) := by decide +kernel
theorem dX9_goes_2 : decode cX9_goes 2 = .ok (.ifCond .eq 14, 3) := by decide +kernel
theorem dX9_goes_5 : decode cX9_goes 5 = .ok (.aload_n 0, 1) := by decide +kernel
theorem dX9_goes_6 : decode cX9_goes 6 = .ok (.getfield 13, 3) := by decide +kernel
theorem dX9_goes_9 : decode cX9_goes 9 = .ok (.iconst 1, 1) := by decide +kernel
theorem dX9_goes_10 : decode cX9_goes 10 = .ok (.iload_n 1, 1) := by decide +kernel
theorem dX9_goes_11 : decode cX9_goes 11 = .ok (.ishl, 1) := by decide +kernel
theorem dX9_goes_12 : decode cX9_goes 12 = .ok (.ior, 1) := by decide +kernel
theorem dX9_goes_13 : decode cX9_goes 13 = .ok (.goto 13, 3) := by decide +kernel
theorem dX9_goes_16 : decode cX9_goes 16 = .ok (.aload_n 0, 1) := by decide +kernel
theorem dX9_goes_17 : decode cX9_goes 17 = .ok (.getfield 13, 3) := by decide +kernel
theorem dX9_goes_20 : decode cX9_goes 20 = .ok (.iconst 1, 1) := by decide +kernel
theorem dX9_goes_21 : decode cX9_goes 21 = .ok (.iload_n 1, 1) := by decide +kernel
theorem dX9_goes_22 : decode cX9_goes 22 = .ok (.ishl, 1) := by decide +kernel
theorem dX9_goes_23 : decode cX9_goes 23 = .ok (.iconst (-1), 1) := by decide +kernel
theorem dX9_goes_24 : decode cX9_goes 24 = .ok (.ixor, 1) := by decide +kernel
theorem dX9_goes_25 : decode cX9_goes 25 = .ok (.iand, 1) := by decide +kernel
theorem dX9_goes_26 : decode cX9_goes 26 = .ok (.putfield 13, 3) := by decide +kernel
theorem dX9_goes_29 : decode cX9_goes 29 = .ok (.return_, 1) := by decide +kernel
theorem dX9_away_0 : decode cX9_away 0 = .ok (.aload_n 0, 1) := by decide +kernel
theorem dX9_away_1 : decode cX9_away 1 = .ok (.iload_n 1, 1) := by decide +kernel
theorem dX9_away_2 : decode cX9_away 2 = .ok (.invokevirtual 260, 3) := by decide +kernel
theorem dX9_away_5 : decode cX9_away 5 = .ok (.ifCond .ne 5, 3) := by decide +kernel
theorem dX9_away_8 : decode cX9_away 8 = .ok (.iconst (-1), 1) := by decide +kernel
theorem dX9_away_9 : decode cX9_away 9 = .ok (.ireturn, 1) := by decide +kernel
theorem dX9_away_10 : decode cX9_away 10 = .ok (.aload_n 0, 1) := by decide +kernel
theorem dX9_away_11 : decode cX9_away 11 = .ok (.aload_n 0, 1) := by decide +kernel
theorem dX9_away_12 : decode cX9_away 12 = .ok (.getfield 13, 3) := by decide +kernel
theorem dX9_away_15 : decode cX9_away 15 = .ok (.iload_n 1, 1) := by decide +kernel
theorem dX9_away_16 : decode cX9_away 16 = .ok (.invokevirtual 263, 3) := by decide +kernel
theorem dX9_away_19 : decode cX9_away 19 = .ok (.ifCond .eq 7, 3) := by decide +kernel
theorem dX9_away_22 : decode cX9_away 22 = .ok (.iconst 1, 1) := by decide +kernel
theorem dX9_away_23 : decode cX9_away 23 = .ok (.goto 4, 3) := by decide +kernel
theorem dX9_away_26 : decode cX9_away 26 = .ok (.iconst 0, 1) := by decide +kernel
theorem dX9_away_27 : decode cX9_away 27 = .ok (.istore_n 3, 1) := by decide +kernel
theorem dX9_away_28 : decode cX9_away 28 = .ok (.aload_n 0, 1) := by decide +kernel
theorem dX9_away_29 : decode cX9_away 29 = .ok (.iload_n 1, 1) := by decide +kernel
theorem dX9_away_30 : decode cX9_away 30 = .ok (.iload_n 2, 1) := by decide +kernel
theorem dX9_away_31 : decode cX9_away 31 = .ok (.invokevirtual 267, 3) := by decide +kernel
theorem dX9_away_34 : decode cX9_away 34 = .ok (.iload_n 3, 1) := by decide +kernel
theorem dX9_away_35 : decode cX9_away 35 = .ok (.ireturn, 1) := by decide +kernel
theorem dX9_work_0 : decode cX9_work 0 = .ok (.aload_n 0, 1) := by decide +kernel
theorem dX9_work_1 : decode cX9_work 1 = .ok (.iload_n 1, 1) := by decide +kernel
theorem dX9_work_2 : decode cX9_work 2 = .ok (.iconst 1, 1) := by decide +kernel
theorem dX9_work_3 : decode cX9_work 3 = .ok (.sipush 999, 3) := by decide +kernel
theorem dX9_work_6 : decode cX9_work 6 = .ok (.invokevirtual 252, 3) := by decide +kernel
theorem dX9_work_9 : decode cX9_work 9 = .ok (.ifCond .eq 14, 3) := by decide +kernel
theorem dX9_work_12 : decode cX9_work 12 = .ok (.aload_n 0, 1) := by decide +kernel
theorem dX9_work_13 : decode cX9_work 13 = .ok (.iload_n 2, 1) := by decide +kernel
theorem dX9_work_14 : decode cX9_work 14 = .ok (.iconst 0, 1) := by decide +kernel
theorem dX9_work_15 : decode cX9_work 15 = .ok (.bipush 60, 2) := by decide +kernel
theorem dX9_work_17 : decode cX9_work 17 = .ok (.invokevirtual 252, 3) := by decide +kernel
theorem dX9_work_20 : decode cX9_work 20 = .ok (.ifCond .ne 6, 3) := by decide +kernel
theorem dX9_work_23 : decode cX9_work 23 = .ok (.bipush (-2), 2) := by decide +kernel
theorem dX9_work_25 : decode cX9_work 25 = .ok (.ireturn, 1) := by decide +kernel
theorem dX9_work_26 : decode cX9_work 26 = .ok (.aload_n 0, 1) := by decide +kernel
theorem dX9_work_27 : decode cX9_work 27 = .ok (.getfield 16, 3) := by decide +kernel
theorem dX9_work_30 : decode cX9_work 30 = .ok (.iconst 4, 1) := by decide +kernel
theorem dX9_work_31 : decode cX9_work 31 = .ok (.if_icmp .ne 6, 3) := by decide +kernel
theorem dX9_work_34 : decode cX9_work 34 = .ok (.bipush (-4), 2) := by decide +kernel
theorem dX9_work_36 : decode cX9_work 36 = .ok (.ireturn, 1) := by decide +kernel
theorem dX9_work_37 : decode cX9_work 37 = .ok (.aload_n 0, 1) := by decide +kernel
theorem dX9_work_38 : decode cX9_work 38 = .ok (.getfield 38, 3) := by decide +kernel
theorem dX9_work_41 : decode cX9_work 41 = .ok (.aload_n 0, 1) := by decide +kernel
theorem dX9_work_42 : decode cX9_work 42 = .ok (.getfield 16, 3) := by decide +kernel
theorem dX9_work_45 : decode cX9_work 45 = .ok (.iload_n 1, 1) := by decide +kernel
theorem dX9_work_46 : decode cX9_work 46 = .ok (.iastore, 1) := by decide +kernel
theorem dX9_work_47 : decode cX9_work 47 = .ok (.aload_n 0, 1) := by decide +kernel
theorem dX9_work_48 : decode cX9_work 48 = .ok (.getfield 41, 3) := by decide +kernel
theorem dX9_work_51 : decode cX9_work 51 = .ok (.aload_n 0, 1) := by decide +kernel
theorem dX9_work_52 : decode cX9_work 52 = .ok (.getfield 16, 3) := by decide +kernel
theorem dX9_work_55 : decode cX9_work 55 = .ok (.iload_n 2, 1) := by decide +kernel
theorem dX9_work_56 : decode cX9_work 56 = .ok (.iastore, 1) := by decide +kernel
theorem dX9_work_57 : decode cX9_work 57 = .ok (.aload_n 0, 1) := by decide +kernel
theorem dX9_work_58 : decode cX9_work 58 = .ok (.getfield 44, 3) := by decide +kernel
theorem dX9_work_61 : decode cX9_work 61 = .ok (.aload_n 0, 1) := by decide +kernel
theorem dX9_work_62 : decode cX9_work 62 = .ok (.getfield 16, 3) := by decide +kernel
theorem dX9_work_65 : decode cX9_work 65 = .ok (.iconst 0, 1) := by decide +kernel
theorem dX9_work_66 : decode cX9_work 66 = .ok (.iastore, 1) := by decide +kernel
theorem dX9_work_67 : decode cX9_work 67 = .ok (.aload_n 0, 1) := by decide +kernel
theorem dX9_work_68 : decode cX9_work 68 = .ok (.dup, 1) := by decide +kernel
theorem dX9_work_69 : decode cX9_work 69 = .ok (.getfield 16, 3) := by decide +kernel
theorem dX9_work_72 : decode cX9_work 72 = .ok (.iconst 1, 1) := by decide +kernel
theorem dX9_work_73 : decode cX9_work 73 = .ok (.iadd, 1) := by decide +kernel
theorem dX9_work_74 : decode cX9_work 74 = .ok (.putfield 16, 3) := by decide +kernel
theorem dX9_work_77 : decode cX9_work 77 = .ok (.aload_n 0, 1) := by decide +kernel
theorem dX9_work_78 : decode cX9_work 78 = .ok (.getfield 16, 3) := by decide +kernel
theorem dX9_work_81 : decode cX9_work 81 = .ok (.iconst 1, 1) := by decide +kernel
theorem dX9_work_82 : decode cX9_work 82 = .ok (.isub, 1) := by decide +kernel
theorem dX9_work_83 : decode cX9_work 83 = .ok (.ireturn, 1) := by decide +kernel
theorem dX9_anvil_0 : decode cX9_anvil 0 = .ok (.iload_n 1, 1) := by decide +kernel
theorem dX9_anvil_1 : decode cX9_anvil 1 = .ok (.iconst (-1), 1) := by decide +kernel
theorem dX9_anvil_2 : decode cX9_anvil 2 = .ok (.if_icmp .eq 13, 3) := by decide +kernel
theorem dX9_anvil_5 : decode cX9_anvil 5 = .ok (.aload_n 0, 1) := by decide +kernel
theorem dX9_anvil_6 : decode cX9_anvil 6 = .ok (.iload_n 1, 1) := by decide +kernel
theorem dX9_anvil_7 : decode cX9_anvil 7 = .ok (.invokevirtual 271, 3) := by decide +kernel
theorem dX9_anvil_10 : decode cX9_anvil 10 = .ok (.ifCond .ne 5, 3) := by decide +kernel
theorem dX9_anvil_13 : decode cX9_anvil 13 = .ok (.iconst (-1), 1) := by decide +kernel
theorem dX9_anvil_14 : decode cX9_anvil 14 = .ok (.ireturn, 1) := by decide +kernel
theorem dX9_anvil_15 : decode cX9_anvil 15 = .ok (.aload_n 0, 1) := by decide +kernel
theorem dX9_anvil_16 : decode cX9_anvil 16 = .ok (.getfield 19, 3) := by decide +kernel
theorem dX9_anvil_19 : decode cX9_anvil 19 = .ok (.istore_n 2, 1) := by decide +kernel
theorem dX9_anvil_20 : decode cX9_anvil 20 = .ok (.aload_n 0, 1) := by decide +kernel
theorem dX9_anvil_21 : decode cX9_anvil 21 = .ok (.iload_n 1, 1) := by decide +kernel
theorem dX9_anvil_22 : decode cX9_anvil 22 = .ok (.ifCond .ge 8, 3) := by decide +kernel
theorem dX9_anvil_25 : decode cX9_anvil 25 = .ok (.bipush (-5), 2) := by decide +kernel
theorem dX9_anvil_27 : decode cX9_anvil 27 = .ok (.goto 4, 3) := by decide +kernel
theorem dX9_anvil_30 : decode cX9_anvil 30 = .ok (.iload_n 1, 1) := by decide +kernel
theorem dX9_anvil_31 : decode cX9_anvil 31 = .ok (.putfield 19, 3) := by decide +kernel
theorem dX9_anvil_34 : decode cX9_anvil 34 = .ok (.iload_n 2, 1) := by decide +kernel
theorem dX9_anvil_35 : decode cX9_anvil 35 = .ok (.ireturn, 1) := by decide +kernel
theorem dX9_row_0 : decode cX9_row 0 = .ok (.aload_n 0, 1) := by decide +kernel
theorem dX9_row_1 : decode cX9_row 1 = .ok (.iload_n 1, 1) := by decide +kernel
theorem dX9_row_2 : decode cX9_row 2 = .ok (.invokevirtual 260, 3) := by decide +kernel
theorem dX9_row_5 : decode cX9_row 5 = .ok (.ifCond .eq 13, 3) := by decide +kernel
theorem dX9_row_8 : decode cX9_row 8 = .ok (.aload_n 0, 1) := by decide +kernel
theorem dX9_row_9 : decode cX9_row 9 = .ok (.iload_n 2, 1) := by decide +kernel
theorem dX9_row_10 : decode cX9_row 10 = .ok (.iconst 0, 1) := by decide +kernel
theorem dX9_row_11 : decode cX9_row 11 = .ok (.iconst 3, 1) := by decide +kernel
theorem dX9_row_12 : decode cX9_row 12 = .ok (.invokevirtual 252, 3) := by decide +kernel
theorem dX9_row_15 : decode cX9_row 15 = .ok (.ifCond .ne 5, 3) := by decide +kernel
theorem dX9_row_18 : decode cX9_row 18 = .ok (.iconst (-1), 1) := by decide +kernel
theorem dX9_row_19 : decode cX9_row 19 = .ok (.ireturn, 1) := by decide +kernel
theorem dX9_row_20 : decode cX9_row 20 = .ok (.aload_n 0, 1) := by decide +kernel
theorem dX9_row_21 : decode cX9_row 21 = .ok (.iload_n 3, 1) := by decide +kernel
theorem dX9_row_22 : decode cX9_row 22 = .ok (.iconst 0, 1) := by decide +kernel
theorem dX9_row_23 : decode cX9_row 23 = .ok (.bipush 9, 2) := by decide +kernel
theorem dX9_row_25 : decode cX9_row 25 = .ok (.invokevirtual 252, 3) := by decide +kernel
theorem dX9_row_28 : decode cX9_row 28 = .ok (.ifCond .ne 6, 3) := by decide +kernel
theorem dX9_row_31 : decode cX9_row 31 = .ok (.bipush (-2), 2) := by decide +kernel
theorem dX9_row_33 : decode cX9_row 33 = .ok (.ireturn, 1) := by decide +kernel
theorem dX9_row_34 : decode cX9_row 34 = .ok (.aload_n 0, 1) := by decide +kernel
theorem dX9_row_35 : decode cX9_row 35 = .ok (.getfield 25, 3) := by decide +kernel
theorem dX9_row_38 : decode cX9_row 38 = .ok (.iload_n 1, 1) := by decide +kernel
theorem dX9_row_39 : decode cX9_row 39 = .ok (.iaload, 1) := by decide +kernel
theorem dX9_row_40 : decode cX9_row 40 = .ok (.bipush 6, 2) := by decide +kernel
theorem dX9_row_42 : decode cX9_row 42 = .ok (.if_icmp .eq 6, 3) := by decide +kernel
theorem dX9_row_45 : decode cX9_row 45 = .ok (.bipush (-3), 2) := by decide +kernel
theorem dX9_row_47 : decode cX9_row 47 = .ok (.ireturn, 1) := by decide +kernel
theorem dX9_row_48 : decode cX9_row 48 = .ok (.aload_n 0, 1) := by decide +kernel
theorem dX9_row_49 : decode cX9_row 49 = .ok (.getfield 35, 3) := by decide +kernel
theorem dX9_row_52 : decode cX9_row 52 = .ok (.iconst 4, 1) := by decide +kernel
theorem dX9_row_53 : decode cX9_row 53 = .ok (.iload_n 1, 1) := by decide +kernel
theorem dX9_row_54 : decode cX9_row 54 = .ok (.imul, 1) := by decide +kernel
theorem dX9_row_55 : decode cX9_row 55 = .ok (.iload_n 2, 1) := by decide +kernel
theorem dX9_row_56 : decode cX9_row 56 = .ok (.iadd, 1) := by decide +kernel
theorem dX9_row_57 : decode cX9_row 57 = .ok (.iaload, 1) := by decide +kernel
theorem dX9_row_58 : decode cX9_row 58 = .ok (.istore 4, 2) := by decide +kernel
theorem dX9_row_60 : decode cX9_row 60 = .ok (.aload_n 0, 1) := by decide +kernel
theorem dX9_row_61 : decode cX9_row 61 = .ok (.getfield 35, 3) := by decide +kernel
theorem dX9_row_64 : decode cX9_row 64 = .ok (.iconst 4, 1) := by decide +kernel
theorem dX9_row_65 : decode cX9_row 65 = .ok (.iload_n 1, 1) := by decide +kernel
theorem dX9_row_66 : decode cX9_row 66 = .ok (.imul, 1) := by decide +kernel
theorem dX9_row_67 : decode cX9_row 67 = .ok (.iload_n 2, 1) := by decide +kernel
theorem dX9_row_68 : decode cX9_row 68 = .ok (.iadd, 1) := by decide +kernel
theorem dX9_row_69 : decode cX9_row 69 = .ok (.iload_n 3, 1) := by decide +kernel
theorem dX9_row_70 : decode cX9_row 70 = .ok (.iastore, 1) := by decide +kernel
theorem dX9_row_71 : decode cX9_row 71 = .ok (.iload 4, 2) := by decide +kernel
theorem dX9_row_73 : decode cX9_row 73 = .ok (.ireturn, 1) := by decide +kernel
theorem dX9_feed_0 : decode cX9_feed 0 = .ok (.aload_n 0, 1) := by decide +kernel
theorem dX9_feed_1 : decode cX9_feed 1 = .ok (.iload_n 1, 1) := by decide +kernel
theorem dX9_feed_2 : decode cX9_feed 2 = .ok (.iconst 0, 1) := by decide +kernel
theorem dX9_feed_3 : decode cX9_feed 3 = .ok (.bipush 127, 2) := by decide +kernel
theorem dX9_feed_5 : decode cX9_feed 5 = .ok (.invokevirtual 252, 3) := by decide +kernel
theorem dX9_feed_8 : decode cX9_feed 8 = .ok (.ifCond .ne 6, 3) := by decide +kernel
theorem dX9_feed_11 : decode cX9_feed 11 = .ok (.bipush (-2), 2) := by decide +kernel
theorem dX9_feed_13 : decode cX9_feed 13 = .ok (.ireturn, 1) := by decide +kernel
theorem dX9_feed_14 : decode cX9_feed 14 = .ok (.aload_n 0, 1) := by decide +kernel
theorem dX9_feed_15 : decode cX9_feed 15 = .ok (.getfield 53, 3) := by decide +kernel
theorem dX9_feed_18 : decode cX9_feed 18 = .ok (.bipush 100, 2) := by decide +kernel
theorem dX9_feed_20 : decode cX9_feed 20 = .ok (.if_icmp .ne 6, 3) := by decide +kernel
theorem dX9_feed_23 : decode cX9_feed 23 = .ok (.bipush (-4), 2) := by decide +kernel
theorem dX9_feed_25 : decode cX9_feed 25 = .ok (.ireturn, 1) := by decide +kernel
theorem dX9_feed_26 : decode cX9_feed 26 = .ok (.aload_n 0, 1) := by decide +kernel
theorem dX9_feed_27 : decode cX9_feed 27 = .ok (.getfield 62, 3) := by decide +kernel
theorem dX9_feed_30 : decode cX9_feed 30 = .ok (.aload_n 0, 1) := by decide +kernel
theorem dX9_feed_31 : decode cX9_feed 31 = .ok (.getfield 53, 3) := by decide +kernel
theorem dX9_feed_34 : decode cX9_feed 34 = .ok (.iload_n 1, 1) := by decide +kernel
theorem dX9_feed_35 : decode cX9_feed 35 = .ok (.iastore, 1) := by decide +kernel
theorem dX9_feed_36 : decode cX9_feed 36 = .ok (.aload_n 0, 1) := by decide +kernel
theorem dX9_feed_37 : decode cX9_feed 37 = .ok (.dup, 1) := by decide +kernel
theorem dX9_feed_38 : decode cX9_feed 38 = .ok (.getfield 53, 3) := by decide +kernel
theorem dX9_feed_41 : decode cX9_feed 41 = .ok (.iconst 1, 1) := by decide +kernel
theorem dX9_feed_42 : decode cX9_feed 42 = .ok (.iadd, 1) := by decide +kernel
theorem dX9_feed_43 : decode cX9_feed 43 = .ok (.putfield 53, 3) := by decide +kernel
theorem dX9_feed_46 : decode cX9_feed 46 = .ok (.aload_n 0, 1) := by decide +kernel
theorem dX9_feed_47 : decode cX9_feed 47 = .ok (.getfield 53, 3) := by decide +kernel
theorem dX9_feed_50 : decode cX9_feed 50 = .ok (.ireturn, 1) := by decide +kernel
theorem dX9_next_0 : decode cX9_next 0 = .ok (.aload_n 0, 1) := by decide +kernel
theorem dX9_next_1 : decode cX9_next 1 = .ok (.getfield 56, 3) := by decide +kernel
theorem dX9_next_4 : decode cX9_next 4 = .ok (.aload_n 0, 1) := by decide +kernel
theorem dX9_next_5 : decode cX9_next 5 = .ok (.getfield 53, 3) := by decide +kernel
theorem dX9_next_8 : decode cX9_next 8 = .ok (.if_icmp .ge 15, 3) := by decide +kernel
theorem dX9_next_11 : decode cX9_next 11 = .ok (.aload_n 0, 1) := by decide +kernel
theorem dX9_next_12 : decode cX9_next 12 = .ok (.getfield 62, 3) := by decide +kernel
theorem dX9_next_15 : decode cX9_next 15 = .ok (.aload_n 0, 1) := by decide +kernel
theorem dX9_next_16 : decode cX9_next 16 = .ok (.getfield 56, 3) := by decide +kernel
theorem dX9_next_19 : decode cX9_next 19 = .ok (.iaload, 1) := by decide +kernel
theorem dX9_next_20 : decode cX9_next 20 = .ok (.goto 4, 3) := by decide +kernel
theorem dX9_next_23 : decode cX9_next 23 = .ok (.iconst (-1), 1) := by decide +kernel
theorem dX9_next_24 : decode cX9_next 24 = .ok (.ireturn, 1) := by decide +kernel
theorem dX9_takes_0 : decode cX9_takes 0 = .ok (.aload_n 0, 1) := by decide +kernel
theorem dX9_takes_1 : decode cX9_takes 1 = .ok (.invokevirtual 274, 3) := by decide +kernel
theorem dX9_takes_4 : decode cX9_takes 4 = .ok (.iload_n 1, 1) := by decide +kernel
theorem dX9_takes_5 : decode cX9_takes 5 = .ok (.if_icmp .eq 5, 3) := by decide +kernel
theorem dX9_takes_8 : decode cX9_takes 8 = .ok (.iconst 0, 1) := by decide +kernel
theorem dX9_takes_9 : decode cX9_takes 9 = .ok (.ireturn, 1) := by decide +kernel
theorem dX9_takes_10 : decode cX9_takes 10 = .ok (.aload_n 0, 1) := by decide +kernel
theorem dX9_takes_11 : decode cX9_takes 11 = .ok (.dup, 1) := by decide +kernel
theorem dX9_takes_12 : decode cX9_takes 12 = .ok (.getfield 56, 3) := by decide +kernel
theorem dX9_takes_15 : decode cX9_takes 15 = .ok (.iconst 1, 1) := by decide +kernel
theorem dX9_takes_16 : decode cX9_takes 16 = .ok (.iadd, 1) := by decide +kernel
theorem dX9_takes_17 : decode cX9_takes 17 = .ok (.putfield 56, 3) := by decide +kernel
theorem dX9_takes_20 : decode cX9_takes 20 = .ok (.iconst 1, 1) := by decide +kernel
theorem dX9_takes_21 : decode cX9_takes 21 = .ok (.ireturn, 1) := by decide +kernel
theorem dX9_takesWord_0 : decode cX9_takesWord 0 = .ok (.iconst 0, 1) := by decide +kernel
theorem dX9_takesWord_1 : decode cX9_takesWord 1 = .ok (.istore_n 3, 1) := by decide +kernel
theorem dX9_takesWord_2 : decode cX9_takesWord 2 = .ok (.iload_n 3, 1) := by decide +kernel
theorem dX9_takesWord_3 : decode cX9_takesWord 3 = .ok (.iload_n 2, 1) := by decide +kernel
theorem dX9_takesWord_4 : decode cX9_takesWord 4 = .ok (.if_icmp .ge 26, 3) := by decide +kernel
theorem dX9_takesWord_7 : decode cX9_takesWord 7 = .ok (.aload_n 0, 1) := by decide +kernel
theorem dX9_takesWord_8 : decode cX9_takesWord 8 = .ok (.aload_n 0, 1) := by decide +kernel
theorem dX9_takesWord_9 : decode cX9_takesWord 9 = .ok (.getfield 95, 3) := by decide +kernel
theorem dX9_takesWord_12 : decode cX9_takesWord 12 = .ok (.iload_n 1, 1) := by decide +kernel
theorem dX9_takesWord_13 : decode cX9_takesWord 13 = .ok (.iload_n 3, 1) := by decide +kernel
theorem dX9_takesWord_14 : decode cX9_takesWord 14 = .ok (.iadd, 1) := by decide +kernel
theorem dX9_takesWord_15 : decode cX9_takesWord 15 = .ok (.iaload, 1) := by decide +kernel
theorem dX9_takesWord_16 : decode cX9_takesWord 16 = .ok (.invokevirtual 278, 3) := by decide +kernel
theorem dX9_takesWord_19 : decode cX9_takesWord 19 = .ok (.ifCond .ne 5, 3) := by decide +kernel
theorem dX9_takesWord_22 : decode cX9_takesWord 22 = .ok (.iconst 0, 1) := by decide +kernel
theorem dX9_takesWord_23 : decode cX9_takesWord 23 = .ok (.ireturn, 1) := by decide +kernel
theorem dX9_takesWord_24 : decode cX9_takesWord 24 = .ok (.iinc 3 1, 3) := by decide +kernel
theorem dX9_takesWord_27 : decode cX9_takesWord 27 = .ok (.goto (-25), 3) := by decide +kernel
theorem dX9_takesWord_30 : decode cX9_takesWord 30 = .ok (.aload_n 0, 1) := by decide +kernel
theorem dX9_takesWord_31 : decode cX9_takesWord 31 = .ok (.bipush 32, 2) := by decide +kernel
theorem dX9_takesWord_33 : decode cX9_takesWord 33 = .ok (.invokevirtual 278, 3) := by decide +kernel
theorem dX9_takesWord_36 : decode cX9_takesWord 36 = .ok (.ireturn, 1) := by decide +kernel
theorem dX9_isDigit_0 : decode cX9_isDigit 0 = .ok (.aload_n 0, 1) := by decide +kernel
theorem dX9_isDigit_1 : decode cX9_isDigit 1 = .ok (.aload_n 0, 1) := by decide +kernel
theorem dX9_isDigit_2 : decode cX9_isDigit 2 = .ok (.invokevirtual 274, 3) := by decide +kernel
theorem dX9_isDigit_5 : decode cX9_isDigit 5 = .ok (.bipush 48, 2) := by decide +kernel
theorem dX9_isDigit_7 : decode cX9_isDigit 7 = .ok (.bipush 57, 2) := by decide +kernel
theorem dX9_isDigit_9 : decode cX9_isDigit 9 = .ok (.invokevirtual 252, 3) := by decide +kernel
theorem dX9_isDigit_12 : decode cX9_isDigit 12 = .ok (.ireturn, 1) := by decide +kernel
theorem dX9_takesNumber_0 : decode cX9_takesNumber 0 = .ok (.aload_n 0, 1) := by decide +kernel
theorem dX9_takesNumber_1 : decode cX9_takesNumber 1 = .ok (.invokevirtual 281, 3) := by decide +kernel
theorem dX9_takesNumber_4 : decode cX9_takesNumber 4 = .ok (.ifCond .ne 5, 3) := by decide +kernel
theorem dX9_takesNumber_7 : decode cX9_takesNumber 7 = .ok (.iconst 0, 1) := by decide +kernel
theorem dX9_takesNumber_8 : decode cX9_takesNumber 8 = .ok (.ireturn, 1) := by decide +kernel
theorem dX9_takesNumber_9 : decode cX9_takesNumber 9 = .ok (.aload_n 0, 1) := by decide +kernel
theorem dX9_takesNumber_10 : decode cX9_takesNumber 10 = .ok (.iconst 0, 1) := by decide +kernel
theorem dX9_takesNumber_11 : decode cX9_takesNumber 11 = .ok (.putfield 59, 3) := by decide +kernel
theorem dX9_takesNumber_14 : decode cX9_takesNumber 14 = .ok (.iconst 0, 1) := by decide +kernel
theorem dX9_takesNumber_15 : decode cX9_takesNumber 15 = .ok (.istore_n 1, 1) := by decide +kernel
theorem dX9_takesNumber_16 : decode cX9_takesNumber 16 = .ok (.iload_n 1, 1) := by decide +kernel
theorem dX9_takesNumber_17 : decode cX9_takesNumber 17 = .ok (.iconst 2, 1) := by decide +kernel
theorem dX9_takesNumber_18 : decode cX9_takesNumber 18 = .ok (.if_icmp .ge 45, 3) := by decide +kernel
theorem dX9_takesNumber_21 : decode cX9_takesNumber 21 = .ok (.aload_n 0, 1) := by decide +kernel
theorem dX9_takesNumber_22 : decode cX9_takesNumber 22 = .ok (.invokevirtual 281, 3) := by decide +kernel
theorem dX9_takesNumber_25 : decode cX9_takesNumber 25 = .ok (.ifCond .eq 38, 3) := by decide +kernel
theorem dX9_takesNumber_28 : decode cX9_takesNumber 28 = .ok (.aload_n 0, 1) := by decide +kernel
theorem dX9_takesNumber_29 : decode cX9_takesNumber 29 = .ok (.bipush 10, 2) := by decide +kernel
theorem dX9_takesNumber_31 : decode cX9_takesNumber 31 = .ok (.aload_n 0, 1) := by decide +kernel
theorem dX9_takesNumber_32 : decode cX9_takesNumber 32 = .ok (.getfield 59, 3) := by decide +kernel
theorem dX9_takesNumber_35 : decode cX9_takesNumber 35 = .ok (.imul, 1) := by decide +kernel
theorem dX9_takesNumber_36 : decode cX9_takesNumber 36 = .ok (.aload_n 0, 1) := by decide +kernel
theorem dX9_takesNumber_37 : decode cX9_takesNumber 37 = .ok (.invokevirtual 274, 3) := by decide +kernel
theorem dX9_takesNumber_40 : decode cX9_takesNumber 40 = .ok (.iadd, 1) := by decide +kernel
theorem dX9_takesNumber_41 : decode cX9_takesNumber 41 = .ok (.bipush 48, 2) := by decide +kernel
theorem dX9_takesNumber_43 : decode cX9_takesNumber 43 = .ok (.isub, 1) := by decide +kernel
theorem dX9_takesNumber_44 : decode cX9_takesNumber 44 = .ok (.putfield 59, 3) := by decide +kernel
theorem dX9_takesNumber_47 : decode cX9_takesNumber 47 = .ok (.aload_n 0, 1) := by decide +kernel
theorem dX9_takesNumber_48 : decode cX9_takesNumber 48 = .ok (.dup, 1) := by decide +kernel
theorem dX9_takesNumber_49 : decode cX9_takesNumber 49 = .ok (.getfield 56, 3) := by decide +kernel
theorem dX9_takesNumber_52 : decode cX9_takesNumber 52 = .ok (.iconst 1, 1) := by decide +kernel
theorem dX9_takesNumber_53 : decode cX9_takesNumber 53 = .ok (.iadd, 1) := by decide +kernel
theorem dX9_takesNumber_54 : decode cX9_takesNumber 54 = .ok (.putfield 56, 3) := by decide +kernel
theorem dX9_takesNumber_57 : decode cX9_takesNumber 57 = .ok (.iinc 1 1, 3) := by decide +kernel
theorem dX9_takesNumber_60 : decode cX9_takesNumber 60 = .ok (.goto (-44), 3) := by decide +kernel
theorem dX9_takesNumber_63 : decode cX9_takesNumber 63 = .ok (.iconst 1, 1) := by decide +kernel
theorem dX9_takesNumber_64 : decode cX9_takesNumber 64 = .ok (.ireturn, 1) := by decide +kernel
theorem dX9_emits_0 : decode cX9_emits 0 = .ok (.aload_n 0, 1) := by decide +kernel
theorem dX9_emits_1 : decode cX9_emits 1 = .ok (.getfield 80, 3) := by decide +kernel
theorem dX9_emits_4 : decode cX9_emits 4 = .ok (.aload_n 0, 1) := by decide +kernel
theorem dX9_emits_5 : decode cX9_emits 5 = .ok (.getfield 86, 3) := by decide +kernel
theorem dX9_emits_8 : decode cX9_emits 8 = .ok (.iload_n 1, 1) := by decide +kernel
theorem dX9_emits_9 : decode cX9_emits 9 = .ok (.iastore, 1) := by decide +kernel
theorem dX9_emits_10 : decode cX9_emits 10 = .ok (.aload_n 0, 1) := by decide +kernel
theorem dX9_emits_11 : decode cX9_emits 11 = .ok (.dup, 1) := by decide +kernel
theorem dX9_emits_12 : decode cX9_emits 12 = .ok (.getfield 86, 3) := by decide +kernel
theorem dX9_emits_15 : decode cX9_emits 15 = .ok (.iconst 1, 1) := by decide +kernel
theorem dX9_emits_16 : decode cX9_emits 16 = .ok (.iadd, 1) := by decide +kernel
theorem dX9_emits_17 : decode cX9_emits 17 = .ok (.putfield 86, 3) := by decide +kernel
theorem dX9_emits_20 : decode cX9_emits 20 = .ok (.return_, 1) := by decide +kernel
theorem dX9_whole_0 : decode cX9_whole 0 = .ok (.aload_n 0, 1) := by decide +kernel
theorem dX9_whole_1 : decode cX9_whole 1 = .ok (.getfield 89, 3) := by decide +kernel
theorem dX9_whole_4 : decode cX9_whole 4 = .ok (.ifCond .le 48, 3) := by decide +kernel
theorem dX9_whole_7 : decode cX9_whole 7 = .ok (.aload_n 0, 1) := by decide +kernel
theorem dX9_whole_8 : decode cX9_whole 8 = .ok (.getfield 83, 3) := by decide +kernel
theorem dX9_whole_11 : decode cX9_whole 11 = .ok (.aload_n 0, 1) := by decide +kernel
theorem dX9_whole_12 : decode cX9_whole 12 = .ok (.getfield 89, 3) := by decide +kernel
theorem dX9_whole_15 : decode cX9_whole 15 = .ok (.iconst 1, 1) := by decide +kernel
theorem dX9_whole_16 : decode cX9_whole 16 = .ok (.isub, 1) := by decide +kernel
theorem dX9_whole_17 : decode cX9_whole 17 = .ok (.iaload, 1) := by decide +kernel
theorem dX9_whole_18 : decode cX9_whole 18 = .ok (.bipush 33, 2) := by decide +kernel
theorem dX9_whole_20 : decode cX9_whole 20 = .ok (.if_icmp .ne 32, 3) := by decide +kernel
theorem dX9_whole_23 : decode cX9_whole 23 = .ok (.aload_n 0, 1) := by decide +kernel
theorem dX9_whole_24 : decode cX9_whole 24 = .ok (.bipush (-33), 2) := by decide +kernel
theorem dX9_whole_26 : decode cX9_whole 26 = .ok (.invokevirtual 285, 3) := by decide +kernel
theorem dX9_whole_29 : decode cX9_whole 29 = .ok (.aload_n 0, 1) := by decide +kernel
theorem dX9_whole_30 : decode cX9_whole 30 = .ok (.dup, 1) := by decide +kernel
theorem dX9_whole_31 : decode cX9_whole 31 = .ok (.getfield 89, 3) := by decide +kernel
theorem dX9_whole_34 : decode cX9_whole 34 = .ok (.iconst 1, 1) := by decide +kernel
theorem dX9_whole_35 : decode cX9_whole 35 = .ok (.isub, 1) := by decide +kernel
theorem dX9_whole_36 : decode cX9_whole 36 = .ok (.putfield 89, 3) := by decide +kernel
theorem dX9_whole_39 : decode cX9_whole 39 = .ok (.aload_n 0, 1) := by decide +kernel
theorem dX9_whole_40 : decode cX9_whole 40 = .ok (.dup, 1) := by decide +kernel
theorem dX9_whole_41 : decode cX9_whole 41 = .ok (.getfield 92, 3) := by decide +kernel
theorem dX9_whole_44 : decode cX9_whole 44 = .ok (.iconst 1, 1) := by decide +kernel
theorem dX9_whole_45 : decode cX9_whole 45 = .ok (.isub, 1) := by decide +kernel
theorem dX9_whole_46 : decode cX9_whole 46 = .ok (.putfield 92, 3) := by decide +kernel
theorem dX9_whole_49 : decode cX9_whole 49 = .ok (.goto (-49), 3) := by decide +kernel
theorem dX9_whole_52 : decode cX9_whole 52 = .ok (.return_, 1) := by decide +kernel
theorem dX9_settle_0 : decode cX9_settle 0 = .ok (.aload_n 0, 1) := by decide +kernel
theorem dX9_settle_1 : decode cX9_settle 1 = .ok (.getfield 89, 3) := by decide +kernel
theorem dX9_settle_4 : decode cX9_settle 4 = .ok (.ifCond .le 68, 3) := by decide +kernel
theorem dX9_settle_7 : decode cX9_settle 7 = .ok (.aload_n 0, 1) := by decide +kernel
theorem dX9_settle_8 : decode cX9_settle 8 = .ok (.getfield 83, 3) := by decide +kernel
theorem dX9_settle_11 : decode cX9_settle 11 = .ok (.aload_n 0, 1) := by decide +kernel
theorem dX9_settle_12 : decode cX9_settle 12 = .ok (.getfield 89, 3) := by decide +kernel
theorem dX9_settle_15 : decode cX9_settle 15 = .ok (.iconst 1, 1) := by decide +kernel
theorem dX9_settle_16 : decode cX9_settle 16 = .ok (.isub, 1) := by decide +kernel
theorem dX9_settle_17 : decode cX9_settle 17 = .ok (.iaload, 1) := by decide +kernel
theorem dX9_settle_18 : decode cX9_settle 18 = .ok (.bipush 38, 2) := by decide +kernel
theorem dX9_settle_20 : decode cX9_settle 20 = .ok (.if_icmp .eq 25, 3) := by decide +kernel
theorem dX9_settle_23 : decode cX9_settle 23 = .ok (.aload_n 0, 1) := by decide +kernel
theorem dX9_settle_24 : decode cX9_settle 24 = .ok (.getfield 83, 3) := by decide +kernel
theorem dX9_settle_27 : decode cX9_settle 27 = .ok (.aload_n 0, 1) := by decide +kernel
theorem dX9_settle_28 : decode cX9_settle 28 = .ok (.getfield 89, 3) := by decide +kernel
theorem dX9_settle_31 : decode cX9_settle 31 = .ok (.iconst 1, 1) := by decide +kernel
theorem dX9_settle_32 : decode cX9_settle 32 = .ok (.isub, 1) := by decide +kernel
theorem dX9_settle_33 : decode cX9_settle 33 = .ok (.iaload, 1) := by decide +kernel
theorem dX9_settle_34 : decode cX9_settle 34 = .ok (.bipush 124, 2) := by decide +kernel
theorem dX9_settle_36 : decode cX9_settle 36 = .ok (.if_icmp .ne 36, 3) := by decide +kernel
theorem dX9_settle_39 : decode cX9_settle 39 = .ok (.iload_n 1, 1) := by decide +kernel
theorem dX9_settle_40 : decode cX9_settle 40 = .ok (.bipush 38, 2) := by decide +kernel
theorem dX9_settle_42 : decode cX9_settle 42 = .ok (.if_icmp .eq 30, 3) := by decide +kernel
theorem dX9_settle_45 : decode cX9_settle 45 = .ok (.aload_n 0, 1) := by decide +kernel
theorem dX9_settle_46 : decode cX9_settle 46 = .ok (.dup, 1) := by decide +kernel
theorem dX9_settle_47 : decode cX9_settle 47 = .ok (.getfield 89, 3) := by decide +kernel
theorem dX9_settle_50 : decode cX9_settle 50 = .ok (.iconst 1, 1) := by decide +kernel
theorem dX9_settle_51 : decode cX9_settle 51 = .ok (.isub, 1) := by decide +kernel
theorem dX9_settle_52 : decode cX9_settle 52 = .ok (.putfield 89, 3) := by decide +kernel
theorem dX9_settle_55 : decode cX9_settle 55 = .ok (.aload_n 0, 1) := by decide +kernel
theorem dX9_settle_56 : decode cX9_settle 56 = .ok (.aload_n 0, 1) := by decide +kernel
theorem dX9_settle_57 : decode cX9_settle 57 = .ok (.getfield 83, 3) := by decide +kernel
theorem dX9_settle_60 : decode cX9_settle 60 = .ok (.aload_n 0, 1) := by decide +kernel
theorem dX9_settle_61 : decode cX9_settle 61 = .ok (.getfield 89, 3) := by decide +kernel
theorem dX9_settle_64 : decode cX9_settle 64 = .ok (.iaload, 1) := by decide +kernel
theorem dX9_settle_65 : decode cX9_settle 65 = .ok (.ineg, 1) := by decide +kernel
theorem dX9_settle_66 : decode cX9_settle 66 = .ok (.invokevirtual 285, 3) := by decide +kernel
theorem dX9_settle_69 : decode cX9_settle 69 = .ok (.goto (-69), 3) := by decide +kernel
theorem dX9_settle_72 : decode cX9_settle 72 = .ok (.return_, 1) := by decide +kernel
theorem dX9_place_0 : decode cX9_place 0 = .ok (.iload_n 1, 1) := by decide +kernel
theorem dX9_place_1 : decode cX9_place 1 = .ok (.tableswitch 87 104 118 #[81, 87, 87, 77, 87, 85, 83, 87, 75, 87, 87, 87, 87, 87, 79], 75) := by decide +kernel
theorem dX9_place_76 : decode cX9_place 76 = .ok (.iconst 0, 1) := by decide +kernel
theorem dX9_place_77 : decode cX9_place 77 = .ok (.ireturn, 1) := by decide +kernel
theorem dX9_place_78 : decode cX9_place 78 = .ok (.iconst 1, 1) := by decide +kernel
theorem dX9_place_79 : decode cX9_place 79 = .ok (.ireturn, 1) := by decide +kernel
theorem dX9_place_80 : decode cX9_place 80 = .ok (.iconst 2, 1) := by decide +kernel
theorem dX9_place_81 : decode cX9_place 81 = .ok (.ireturn, 1) := by decide +kernel
theorem dX9_place_82 : decode cX9_place 82 = .ok (.iconst 3, 1) := by decide +kernel
theorem dX9_place_83 : decode cX9_place 83 = .ok (.ireturn, 1) := by decide +kernel
theorem dX9_place_84 : decode cX9_place 84 = .ok (.iconst 4, 1) := by decide +kernel
theorem dX9_place_85 : decode cX9_place 85 = .ok (.ireturn, 1) := by decide +kernel
theorem dX9_place_86 : decode cX9_place 86 = .ok (.iconst 5, 1) := by decide +kernel
theorem dX9_place_87 : decode cX9_place 87 = .ok (.ireturn, 1) := by decide +kernel
theorem dX9_place_88 : decode cX9_place 88 = .ok (.iconst (-1), 1) := by decide +kernel
theorem dX9_place_89 : decode cX9_place 89 = .ok (.ireturn, 1) := by decide +kernel
theorem dX9_takesTest_0 : decode cX9_takesTest 0 = .ok (.aload_n 0, 1) := by decide +kernel
theorem dX9_takesTest_1 : decode cX9_takesTest 1 = .ok (.aload_n 0, 1) := by decide +kernel
theorem dX9_takesTest_2 : decode cX9_takesTest 2 = .ok (.invokevirtual 274, 3) := by decide +kernel
theorem dX9_takesTest_5 : decode cX9_takesTest 5 = .ok (.invokevirtual 289, 3) := by decide +kernel
theorem dX9_takesTest_8 : decode cX9_takesTest 8 = .ok (.istore_n 1, 1) := by decide +kernel
theorem dX9_takesTest_9 : decode cX9_takesTest 9 = .ok (.iload_n 1, 1) := by decide +kernel
theorem dX9_takesTest_10 : decode cX9_takesTest 10 = .ok (.ifCond .ge 5, 3) := by decide +kernel
theorem dX9_takesTest_13 : decode cX9_takesTest 13 = .ok (.iconst 0, 1) := by decide +kernel
theorem dX9_takesTest_14 : decode cX9_takesTest 14 = .ok (.ireturn, 1) := by decide +kernel
theorem dX9_takesTest_15 : decode cX9_takesTest 15 = .ok (.aload_n 0, 1) := by decide +kernel
theorem dX9_takesTest_16 : decode cX9_takesTest 16 = .ok (.dup, 1) := by decide +kernel
theorem dX9_takesTest_17 : decode cX9_takesTest 17 = .ok (.getfield 56, 3) := by decide +kernel
theorem dX9_takesTest_20 : decode cX9_takesTest 20 = .ok (.iconst 1, 1) := by decide +kernel
theorem dX9_takesTest_21 : decode cX9_takesTest 21 = .ok (.iadd, 1) := by decide +kernel
theorem dX9_takesTest_22 : decode cX9_takesTest 22 = .ok (.putfield 56, 3) := by decide +kernel
theorem dX9_takesTest_25 : decode cX9_takesTest 25 = .ok (.aload_n 0, 1) := by decide +kernel
theorem dX9_takesTest_26 : decode cX9_takesTest 26 = .ok (.invokevirtual 274, 3) := by decide +kernel
theorem dX9_takesTest_29 : decode cX9_takesTest 29 = .ok (.istore_n 2, 1) := by decide +kernel
theorem dX9_takesTest_30 : decode cX9_takesTest 30 = .ok (.aload_n 0, 1) := by decide +kernel
theorem dX9_takesTest_31 : decode cX9_takesTest 31 = .ok (.iload_n 2, 1) := by decide +kernel
theorem dX9_takesTest_32 : decode cX9_takesTest 32 = .ok (.bipush 60, 2) := by decide +kernel
theorem dX9_takesTest_34 : decode cX9_takesTest 34 = .ok (.bipush 62, 2) := by decide +kernel
theorem dX9_takesTest_36 : decode cX9_takesTest 36 = .ok (.invokevirtual 252, 3) := by decide +kernel
theorem dX9_takesTest_39 : decode cX9_takesTest 39 = .ok (.ifCond .ne 5, 3) := by decide +kernel
theorem dX9_takesTest_42 : decode cX9_takesTest 42 = .ok (.iconst 0, 1) := by decide +kernel
theorem dX9_takesTest_43 : decode cX9_takesTest 43 = .ok (.ireturn, 1) := by decide +kernel
theorem dX9_takesTest_44 : decode cX9_takesTest 44 = .ok (.aload_n 0, 1) := by decide +kernel
theorem dX9_takesTest_45 : decode cX9_takesTest 45 = .ok (.dup, 1) := by decide +kernel
theorem dX9_takesTest_46 : decode cX9_takesTest 46 = .ok (.getfield 56, 3) := by decide +kernel
theorem dX9_takesTest_49 : decode cX9_takesTest 49 = .ok (.iconst 1, 1) := by decide +kernel
theorem dX9_takesTest_50 : decode cX9_takesTest 50 = .ok (.iadd, 1) := by decide +kernel
theorem dX9_takesTest_51 : decode cX9_takesTest 51 = .ok (.putfield 56, 3) := by decide +kernel
theorem dX9_takesTest_54 : decode cX9_takesTest 54 = .ok (.aload_n 0, 1) := by decide +kernel
theorem dX9_takesTest_55 : decode cX9_takesTest 55 = .ok (.invokevirtual 293, 3) := by decide +kernel
theorem dX9_takesTest_58 : decode cX9_takesTest 58 = .ok (.ifCond .ne 5, 3) := by decide +kernel
theorem dX9_takesTest_61 : decode cX9_takesTest 61 = .ok (.iconst 0, 1) := by decide +kernel
theorem dX9_takesTest_62 : decode cX9_takesTest 62 = .ok (.ireturn, 1) := by decide +kernel
theorem dX9_takesTest_63 : decode cX9_takesTest 63 = .ok (.aload_n 0, 1) := by decide +kernel
theorem dX9_takesTest_64 : decode cX9_takesTest 64 = .ok (.sipush 1000, 3) := by decide +kernel
theorem dX9_takesTest_67 : decode cX9_takesTest 67 = .ok (.iload_n 1, 1) := by decide +kernel
theorem dX9_takesTest_68 : decode cX9_takesTest 68 = .ok (.imul, 1) := by decide +kernel
theorem dX9_takesTest_69 : decode cX9_takesTest 69 = .ok (.bipush 100, 2) := by decide +kernel
theorem dX9_takesTest_71 : decode cX9_takesTest 71 = .ok (.iload_n 2, 1) := by decide +kernel
theorem dX9_takesTest_72 : decode cX9_takesTest 72 = .ok (.bipush 60, 2) := by decide +kernel
theorem dX9_takesTest_74 : decode cX9_takesTest 74 = .ok (.isub, 1) := by decide +kernel
theorem dX9_takesTest_75 : decode cX9_takesTest 75 = .ok (.imul, 1) := by decide +kernel
theorem dX9_takesTest_76 : decode cX9_takesTest 76 = .ok (.iadd, 1) := by decide +kernel
theorem dX9_takesTest_77 : decode cX9_takesTest 77 = .ok (.aload_n 0, 1) := by decide +kernel
theorem dX9_takesTest_78 : decode cX9_takesTest 78 = .ok (.getfield 59, 3) := by decide +kernel
theorem dX9_takesTest_81 : decode cX9_takesTest 81 = .ok (.iadd, 1) := by decide +kernel
theorem dX9_takesTest_82 : decode cX9_takesTest 82 = .ok (.invokevirtual 285, 3) := by decide +kernel
theorem dX9_takesTest_85 : decode cX9_takesTest 85 = .ok (.aload_n 0, 1) := by decide +kernel
theorem dX9_takesTest_86 : decode cX9_takesTest 86 = .ok (.invokevirtual 296, 3) := by decide +kernel
theorem dX9_takesTest_89 : decode cX9_takesTest 89 = .ok (.iconst 1, 1) := by decide +kernel
theorem dX9_takesTest_90 : decode cX9_takesTest 90 = .ok (.ireturn, 1) := by decide +kernel
theorem dX9_takesE_0 : decode cX9_takesE 0 = .ok (.aload_n 0, 1) := by decide +kernel
theorem dX9_takesE_1 : decode cX9_takesE 1 = .ok (.iconst 0, 1) := by decide +kernel
theorem dX9_takesE_2 : decode cX9_takesE 2 = .ok (.putfield 89, 3) := by decide +kernel
theorem dX9_takesE_5 : decode cX9_takesE 5 = .ok (.aload_n 0, 1) := by decide +kernel
theorem dX9_takesE_6 : decode cX9_takesE 6 = .ok (.iconst 0, 1) := by decide +kernel
theorem dX9_takesE_7 : decode cX9_takesE 7 = .ok (.putfield 92, 3) := by decide +kernel
theorem dX9_takesE_10 : decode cX9_takesE 10 = .ok (.aload_n 0, 1) := by decide +kernel
theorem dX9_takesE_11 : decode cX9_takesE 11 = .ok (.getfield 74, 3) := by decide +kernel
theorem dX9_takesE_14 : decode cX9_takesE 14 = .ok (.iload_n 1, 1) := by decide +kernel
theorem dX9_takesE_15 : decode cX9_takesE 15 = .ok (.aload_n 0, 1) := by decide +kernel
theorem dX9_takesE_16 : decode cX9_takesE 16 = .ok (.getfield 86, 3) := by decide +kernel
theorem dX9_takesE_19 : decode cX9_takesE 19 = .ok (.iastore, 1) := by decide +kernel
theorem dX9_takesE_20 : decode cX9_takesE 20 = .ok (.iconst 1, 1) := by decide +kernel
theorem dX9_takesE_21 : decode cX9_takesE 21 = .ok (.istore_n 2, 1) := by decide +kernel
theorem dX9_takesE_22 : decode cX9_takesE 22 = .ok (.aload_n 0, 1) := by decide +kernel
theorem dX9_takesE_23 : decode cX9_takesE 23 = .ok (.invokevirtual 274, 3) := by decide +kernel
theorem dX9_takesE_26 : decode cX9_takesE 26 = .ok (.istore_n 3, 1) := by decide +kernel
theorem dX9_takesE_27 : decode cX9_takesE 27 = .ok (.iload_n 2, 1) := by decide +kernel
theorem dX9_takesE_28 : decode cX9_takesE 28 = .ok (.ifCond .eq 82, 3) := by decide +kernel
theorem dX9_takesE_31 : decode cX9_takesE 31 = .ok (.iload_n 3, 1) := by decide +kernel
theorem dX9_takesE_32 : decode cX9_takesE 32 = .ok (.bipush 33, 2) := by decide +kernel
theorem dX9_takesE_34 : decode cX9_takesE 34 = .ok (.if_icmp .eq 9, 3) := by decide +kernel
theorem dX9_takesE_37 : decode cX9_takesE 37 = .ok (.iload_n 3, 1) := by decide +kernel
theorem dX9_takesE_38 : decode cX9_takesE 38 = .ok (.bipush 40, 2) := by decide +kernel
theorem dX9_takesE_40 : decode cX9_takesE 40 = .ok (.if_icmp .ne 56, 3) := by decide +kernel
theorem dX9_takesE_43 : decode cX9_takesE 43 = .ok (.aload_n 0, 1) := by decide +kernel
theorem dX9_takesE_44 : decode cX9_takesE 44 = .ok (.getfield 92, 3) := by decide +kernel
theorem dX9_takesE_47 : decode cX9_takesE 47 = .ok (.iconst 4, 1) := by decide +kernel
theorem dX9_takesE_48 : decode cX9_takesE 48 = .ok (.if_icmp .ne 5, 3) := by decide +kernel
theorem dX9_takesE_51 : decode cX9_takesE 51 = .ok (.iconst 0, 1) := by decide +kernel
theorem dX9_takesE_52 : decode cX9_takesE 52 = .ok (.ireturn, 1) := by decide +kernel
theorem dX9_takesE_53 : decode cX9_takesE 53 = .ok (.aload_n 0, 1) := by decide +kernel
theorem dX9_takesE_54 : decode cX9_takesE 54 = .ok (.dup, 1) := by decide +kernel
theorem dX9_takesE_55 : decode cX9_takesE 55 = .ok (.getfield 92, 3) := by decide +kernel
theorem dX9_takesE_58 : decode cX9_takesE 58 = .ok (.iconst 1, 1) := by decide +kernel
theorem dX9_takesE_59 : decode cX9_takesE 59 = .ok (.iadd, 1) := by decide +kernel
theorem dX9_takesE_60 : decode cX9_takesE 60 = .ok (.putfield 92, 3) := by decide +kernel
theorem dX9_takesE_63 : decode cX9_takesE 63 = .ok (.aload_n 0, 1) := by decide +kernel
theorem dX9_takesE_64 : decode cX9_takesE 64 = .ok (.getfield 83, 3) := by decide +kernel
theorem dX9_takesE_67 : decode cX9_takesE 67 = .ok (.aload_n 0, 1) := by decide +kernel
theorem dX9_takesE_68 : decode cX9_takesE 68 = .ok (.getfield 89, 3) := by decide +kernel
theorem dX9_takesE_71 : decode cX9_takesE 71 = .ok (.iload_n 3, 1) := by decide +kernel
theorem dX9_takesE_72 : decode cX9_takesE 72 = .ok (.iastore, 1) := by decide +kernel
theorem dX9_takesE_73 : decode cX9_takesE 73 = .ok (.aload_n 0, 1) := by decide +kernel
theorem dX9_takesE_74 : decode cX9_takesE 74 = .ok (.dup, 1) := by decide +kernel
theorem dX9_takesE_75 : decode cX9_takesE 75 = .ok (.getfield 89, 3) := by decide +kernel
theorem dX9_takesE_78 : decode cX9_takesE 78 = .ok (.iconst 1, 1) := by decide +kernel
theorem dX9_takesE_79 : decode cX9_takesE 79 = .ok (.iadd, 1) := by decide +kernel
theorem dX9_takesE_80 : decode cX9_takesE 80 = .ok (.putfield 89, 3) := by decide +kernel
theorem dX9_takesE_83 : decode cX9_takesE 83 = .ok (.aload_n 0, 1) := by decide +kernel
theorem dX9_takesE_84 : decode cX9_takesE 84 = .ok (.dup, 1) := by decide +kernel
theorem dX9_takesE_85 : decode cX9_takesE 85 = .ok (.getfield 56, 3) := by decide +kernel
theorem dX9_takesE_88 : decode cX9_takesE 88 = .ok (.iconst 1, 1) := by decide +kernel
theorem dX9_takesE_89 : decode cX9_takesE 89 = .ok (.iadd, 1) := by decide +kernel
theorem dX9_takesE_90 : decode cX9_takesE 90 = .ok (.putfield 56, 3) := by decide +kernel
theorem dX9_takesE_93 : decode cX9_takesE 93 = .ok (.goto (-71), 3) := by decide +kernel
theorem dX9_takesE_96 : decode cX9_takesE 96 = .ok (.aload_n 0, 1) := by decide +kernel
theorem dX9_takesE_97 : decode cX9_takesE 97 = .ok (.invokevirtual 299, 3) := by decide +kernel
theorem dX9_takesE_100 : decode cX9_takesE 100 = .ok (.ifCond .eq 8, 3) := by decide +kernel
theorem dX9_takesE_103 : decode cX9_takesE 103 = .ok (.iconst 0, 1) := by decide +kernel
theorem dX9_takesE_104 : decode cX9_takesE 104 = .ok (.istore_n 2, 1) := by decide +kernel
theorem dX9_takesE_105 : decode cX9_takesE 105 = .ok (.goto (-83), 3) := by decide +kernel
theorem dX9_takesE_108 : decode cX9_takesE 108 = .ok (.iconst 0, 1) := by decide +kernel
theorem dX9_takesE_109 : decode cX9_takesE 109 = .ok (.ireturn, 1) := by decide +kernel
theorem dX9_takesE_110 : decode cX9_takesE 110 = .ok (.iload_n 3, 1) := by decide +kernel
theorem dX9_takesE_111 : decode cX9_takesE 111 = .ok (.bipush 38, 2) := by decide +kernel
theorem dX9_takesE_113 : decode cX9_takesE 113 = .ok (.if_icmp .eq 9, 3) := by decide +kernel
theorem dX9_takesE_116 : decode cX9_takesE 116 = .ok (.iload_n 3, 1) := by decide +kernel
theorem dX9_takesE_117 : decode cX9_takesE 117 = .ok (.bipush 124, 2) := by decide +kernel
theorem dX9_takesE_119 : decode cX9_takesE 119 = .ok (.if_icmp .ne 43, 3) := by decide +kernel
theorem dX9_takesE_122 : decode cX9_takesE 122 = .ok (.aload_n 0, 1) := by decide +kernel
theorem dX9_takesE_123 : decode cX9_takesE 123 = .ok (.iload_n 3, 1) := by decide +kernel
theorem dX9_takesE_124 : decode cX9_takesE 124 = .ok (.invokevirtual 302, 3) := by decide +kernel
theorem dX9_takesE_127 : decode cX9_takesE 127 = .ok (.aload_n 0, 1) := by decide +kernel
theorem dX9_takesE_128 : decode cX9_takesE 128 = .ok (.getfield 83, 3) := by decide +kernel
theorem dX9_takesE_131 : decode cX9_takesE 131 = .ok (.aload_n 0, 1) := by decide +kernel
theorem dX9_takesE_132 : decode cX9_takesE 132 = .ok (.getfield 89, 3) := by decide +kernel
theorem dX9_takesE_135 : decode cX9_takesE 135 = .ok (.iload_n 3, 1) := by decide +kernel
theorem dX9_takesE_136 : decode cX9_takesE 136 = .ok (.iastore, 1) := by decide +kernel
theorem dX9_takesE_137 : decode cX9_takesE 137 = .ok (.aload_n 0, 1) := by decide +kernel
theorem dX9_takesE_138 : decode cX9_takesE 138 = .ok (.dup, 1) := by decide +kernel
theorem dX9_takesE_139 : decode cX9_takesE 139 = .ok (.getfield 89, 3) := by decide +kernel
theorem dX9_takesE_142 : decode cX9_takesE 142 = .ok (.iconst 1, 1) := by decide +kernel
theorem dX9_takesE_143 : decode cX9_takesE 143 = .ok (.iadd, 1) := by decide +kernel
theorem dX9_takesE_144 : decode cX9_takesE 144 = .ok (.putfield 89, 3) := by decide +kernel
theorem dX9_takesE_147 : decode cX9_takesE 147 = .ok (.iconst 1, 1) := by decide +kernel
theorem dX9_takesE_148 : decode cX9_takesE 148 = .ok (.istore_n 2, 1) := by decide +kernel
theorem dX9_takesE_149 : decode cX9_takesE 149 = .ok (.aload_n 0, 1) := by decide +kernel
theorem dX9_takesE_150 : decode cX9_takesE 150 = .ok (.dup, 1) := by decide +kernel
theorem dX9_takesE_151 : decode cX9_takesE 151 = .ok (.getfield 56, 3) := by decide +kernel
theorem dX9_takesE_154 : decode cX9_takesE 154 = .ok (.iconst 1, 1) := by decide +kernel
theorem dX9_takesE_155 : decode cX9_takesE 155 = .ok (.iadd, 1) := by decide +kernel
theorem dX9_takesE_156 : decode cX9_takesE 156 = .ok (.putfield 56, 3) := by decide +kernel
theorem dX9_takesE_159 : decode cX9_takesE 159 = .ok (.goto (-137), 3) := by decide +kernel
theorem dX9_takesE_162 : decode cX9_takesE 162 = .ok (.aload_n 0, 1) := by decide +kernel
theorem dX9_takesE_163 : decode cX9_takesE 163 = .ok (.bipush 124, 2) := by decide +kernel
theorem dX9_takesE_165 : decode cX9_takesE 165 = .ok (.invokevirtual 302, 3) := by decide +kernel
theorem dX9_takesE_168 : decode cX9_takesE 168 = .ok (.aload_n 0, 1) := by decide +kernel
theorem dX9_takesE_169 : decode cX9_takesE 169 = .ok (.getfield 77, 3) := by decide +kernel
theorem dX9_takesE_172 : decode cX9_takesE 172 = .ok (.iload_n 1, 1) := by decide +kernel
theorem dX9_takesE_173 : decode cX9_takesE 173 = .ok (.aload_n 0, 1) := by decide +kernel
theorem dX9_takesE_174 : decode cX9_takesE 174 = .ok (.getfield 86, 3) := by decide +kernel
theorem dX9_takesE_177 : decode cX9_takesE 177 = .ok (.iastore, 1) := by decide +kernel
theorem dX9_takesE_178 : decode cX9_takesE 178 = .ok (.aload_n 0, 1) := by decide +kernel
theorem dX9_takesE_179 : decode cX9_takesE 179 = .ok (.getfield 89, 3) := by decide +kernel
theorem dX9_takesE_182 : decode cX9_takesE 182 = .ok (.ifCond .ne 5, 3) := by decide +kernel
theorem dX9_takesE_185 : decode cX9_takesE 185 = .ok (.iconst 1, 1) := by decide +kernel
theorem dX9_takesE_186 : decode cX9_takesE 186 = .ok (.ireturn, 1) := by decide +kernel
theorem dX9_takesE_187 : decode cX9_takesE 187 = .ok (.iload_n 3, 1) := by decide +kernel
theorem dX9_takesE_188 : decode cX9_takesE 188 = .ok (.bipush 41, 2) := by decide +kernel
theorem dX9_takesE_190 : decode cX9_takesE 190 = .ok (.if_icmp .eq 5, 3) := by decide +kernel
theorem dX9_takesE_193 : decode cX9_takesE 193 = .ok (.iconst 0, 1) := by decide +kernel
theorem dX9_takesE_194 : decode cX9_takesE 194 = .ok (.ireturn, 1) := by decide +kernel
theorem dX9_takesE_195 : decode cX9_takesE 195 = .ok (.aload_n 0, 1) := by decide +kernel
theorem dX9_takesE_196 : decode cX9_takesE 196 = .ok (.dup, 1) := by decide +kernel
theorem dX9_takesE_197 : decode cX9_takesE 197 = .ok (.getfield 89, 3) := by decide +kernel
theorem dX9_takesE_200 : decode cX9_takesE 200 = .ok (.iconst 1, 1) := by decide +kernel
theorem dX9_takesE_201 : decode cX9_takesE 201 = .ok (.isub, 1) := by decide +kernel
theorem dX9_takesE_202 : decode cX9_takesE 202 = .ok (.putfield 89, 3) := by decide +kernel
theorem dX9_takesE_205 : decode cX9_takesE 205 = .ok (.aload_n 0, 1) := by decide +kernel
theorem dX9_takesE_206 : decode cX9_takesE 206 = .ok (.dup, 1) := by decide +kernel
theorem dX9_takesE_207 : decode cX9_takesE 207 = .ok (.getfield 92, 3) := by decide +kernel
theorem dX9_takesE_210 : decode cX9_takesE 210 = .ok (.iconst 1, 1) := by decide +kernel
theorem dX9_takesE_211 : decode cX9_takesE 211 = .ok (.isub, 1) := by decide +kernel
theorem dX9_takesE_212 : decode cX9_takesE 212 = .ok (.putfield 92, 3) := by decide +kernel
theorem dX9_takesE_215 : decode cX9_takesE 215 = .ok (.aload_n 0, 1) := by decide +kernel
theorem dX9_takesE_216 : decode cX9_takesE 216 = .ok (.dup, 1) := by decide +kernel
theorem dX9_takesE_217 : decode cX9_takesE 217 = .ok (.getfield 56, 3) := by decide +kernel
theorem dX9_takesE_220 : decode cX9_takesE 220 = .ok (.iconst 1, 1) := by decide +kernel
theorem dX9_takesE_221 : decode cX9_takesE 221 = .ok (.iadd, 1) := by decide +kernel
theorem dX9_takesE_222 : decode cX9_takesE 222 = .ok (.putfield 56, 3) := by decide +kernel
theorem dX9_takesE_225 : decode cX9_takesE 225 = .ok (.aload_n 0, 1) := by decide +kernel
theorem dX9_takesE_226 : decode cX9_takesE 226 = .ok (.invokevirtual 296, 3) := by decide +kernel
theorem dX9_takesE_229 : decode cX9_takesE 229 = .ok (.goto (-207), 3) := by decide +kernel
theorem dX9_takesHead_0 : decode cX9_takesHead 0 = .ok (.aload_n 0, 1) := by decide +kernel
theorem dX9_takesHead_1 : decode cX9_takesHead 1 = .ok (.invokevirtual 274, 3) := by decide +kernel
theorem dX9_takesHead_4 : decode cX9_takesHead 4 = .ok (.lookupswitch 56 #[(99, 42), (104, 28)], 28) := by decide +kernel
theorem dX9_takesHead_32 : decode cX9_takesHead 32 = .ok (.aload_n 0, 1) := by decide +kernel
theorem dX9_takesHead_33 : decode cX9_takesHead 33 = .ok (.getfield 68, 3) := by decide +kernel
theorem dX9_takesHead_36 : decode cX9_takesHead 36 = .ok (.iload_n 1, 1) := by decide +kernel
theorem dX9_takesHead_37 : decode cX9_takesHead 37 = .ok (.iconst 0, 1) := by decide +kernel
theorem dX9_takesHead_38 : decode cX9_takesHead 38 = .ok (.iastore, 1) := by decide +kernel
theorem dX9_takesHead_39 : decode cX9_takesHead 39 = .ok (.aload_n 0, 1) := by decide +kernel
theorem dX9_takesHead_40 : decode cX9_takesHead 40 = .ok (.iconst 0, 1) := by decide +kernel
theorem dX9_takesHead_41 : decode cX9_takesHead 41 = .ok (.iconst 4, 1) := by decide +kernel
theorem dX9_takesHead_42 : decode cX9_takesHead 42 = .ok (.invokevirtual 305, 3) := by decide +kernel
theorem dX9_takesHead_45 : decode cX9_takesHead 45 = .ok (.ireturn, 1) := by decide +kernel
theorem dX9_takesHead_46 : decode cX9_takesHead 46 = .ok (.aload_n 0, 1) := by decide +kernel
theorem dX9_takesHead_47 : decode cX9_takesHead 47 = .ok (.getfield 68, 3) := by decide +kernel
theorem dX9_takesHead_50 : decode cX9_takesHead 50 = .ok (.iload_n 1, 1) := by decide +kernel
theorem dX9_takesHead_51 : decode cX9_takesHead 51 = .ok (.iconst 1, 1) := by decide +kernel
theorem dX9_takesHead_52 : decode cX9_takesHead 52 = .ok (.iastore, 1) := by decide +kernel
theorem dX9_takesHead_53 : decode cX9_takesHead 53 = .ok (.aload_n 0, 1) := by decide +kernel
theorem dX9_takesHead_54 : decode cX9_takesHead 54 = .ok (.iconst 4, 1) := by decide +kernel
theorem dX9_takesHead_55 : decode cX9_takesHead 55 = .ok (.iconst 4, 1) := by decide +kernel
theorem dX9_takesHead_56 : decode cX9_takesHead 56 = .ok (.invokevirtual 305, 3) := by decide +kernel
theorem dX9_takesHead_59 : decode cX9_takesHead 59 = .ok (.ireturn, 1) := by decide +kernel
theorem dX9_takesHead_60 : decode cX9_takesHead 60 = .ok (.aload_n 0, 1) := by decide +kernel
theorem dX9_takesHead_61 : decode cX9_takesHead 61 = .ok (.getfield 68, 3) := by decide +kernel
theorem dX9_takesHead_64 : decode cX9_takesHead 64 = .ok (.iload_n 1, 1) := by decide +kernel
theorem dX9_takesHead_65 : decode cX9_takesHead 65 = .ok (.iconst 2, 1) := by decide +kernel
theorem dX9_takesHead_66 : decode cX9_takesHead 66 = .ok (.iastore, 1) := by decide +kernel
theorem dX9_takesHead_67 : decode cX9_takesHead 67 = .ok (.aload_n 0, 1) := by decide +kernel
theorem dX9_takesHead_68 : decode cX9_takesHead 68 = .ok (.bipush 8, 2) := by decide +kernel
theorem dX9_takesHead_70 : decode cX9_takesHead 70 = .ok (.iconst 5, 1) := by decide +kernel
theorem dX9_takesHead_71 : decode cX9_takesHead 71 = .ok (.invokevirtual 305, 3) := by decide +kernel
theorem dX9_takesHead_74 : decode cX9_takesHead 74 = .ok (.ireturn, 1) := by decide +kernel
theorem dX9_takesClause_0 : decode cX9_takesClause 0 = .ok (.aload_n 0, 1) := by decide +kernel
theorem dX9_takesClause_1 : decode cX9_takesClause 1 = .ok (.iload_n 1, 1) := by decide +kernel
theorem dX9_takesClause_2 : decode cX9_takesClause 2 = .ok (.invokevirtual 308, 3) := by decide +kernel
theorem dX9_takesClause_5 : decode cX9_takesClause 5 = .ok (.ifCond .eq 10, 3) := by decide +kernel
theorem dX9_takesClause_8 : decode cX9_takesClause 8 = .ok (.aload_n 0, 1) := by decide +kernel
theorem dX9_takesClause_9 : decode cX9_takesClause 9 = .ok (.invokevirtual 293, 3) := by decide +kernel
theorem dX9_takesClause_12 : decode cX9_takesClause 12 = .ok (.ifCond .ne 5, 3) := by decide +kernel
theorem dX9_takesClause_15 : decode cX9_takesClause 15 = .ok (.iconst 0, 1) := by decide +kernel
theorem dX9_takesClause_16 : decode cX9_takesClause 16 = .ok (.ireturn, 1) := by decide +kernel
theorem dX9_takesClause_17 : decode cX9_takesClause 17 = .ok (.aload_n 0, 1) := by decide +kernel
theorem dX9_takesClause_18 : decode cX9_takesClause 18 = .ok (.getfield 71, 3) := by decide +kernel
theorem dX9_takesClause_21 : decode cX9_takesClause 21 = .ok (.iload_n 1, 1) := by decide +kernel
theorem dX9_takesClause_22 : decode cX9_takesClause 22 = .ok (.aload_n 0, 1) := by decide +kernel
theorem dX9_takesClause_23 : decode cX9_takesClause 23 = .ok (.getfield 59, 3) := by decide +kernel
theorem dX9_takesClause_26 : decode cX9_takesClause 26 = .ok (.iastore, 1) := by decide +kernel
theorem dX9_takesClause_27 : decode cX9_takesClause 27 = .ok (.aload_n 0, 1) := by decide +kernel
theorem dX9_takesClause_28 : decode cX9_takesClause 28 = .ok (.getfield 68, 3) := by decide +kernel
theorem dX9_takesClause_31 : decode cX9_takesClause 31 = .ok (.iload_n 1, 1) := by decide +kernel
theorem dX9_takesClause_32 : decode cX9_takesClause 32 = .ok (.iaload, 1) := by decide +kernel
theorem dX9_takesClause_33 : decode cX9_takesClause 33 = .ok (.iconst 2, 1) := by decide +kernel
theorem dX9_takesClause_34 : decode cX9_takesClause 34 = .ok (.if_icmp .eq 20, 3) := by decide +kernel
theorem dX9_takesClause_37 : decode cX9_takesClause 37 = .ok (.aload_n 0, 1) := by decide +kernel
theorem dX9_takesClause_38 : decode cX9_takesClause 38 = .ok (.bipush 32, 2) := by decide +kernel
theorem dX9_takesClause_40 : decode cX9_takesClause 40 = .ok (.invokevirtual 278, 3) := by decide +kernel
theorem dX9_takesClause_43 : decode cX9_takesClause 43 = .ok (.ifCond .eq 15, 3) := by decide +kernel
theorem dX9_takesClause_46 : decode cX9_takesClause 46 = .ok (.aload_n 0, 1) := by decide +kernel
theorem dX9_takesClause_47 : decode cX9_takesClause 47 = .ok (.iload_n 1, 1) := by decide +kernel
theorem dX9_takesClause_48 : decode cX9_takesClause 48 = .ok (.invokevirtual 311, 3) := by decide +kernel
theorem dX9_takesClause_51 : decode cX9_takesClause 51 = .ok (.ifCond .eq 7, 3) := by decide +kernel
theorem dX9_takesClause_54 : decode cX9_takesClause 54 = .ok (.iconst 1, 1) := by decide +kernel
theorem dX9_takesClause_55 : decode cX9_takesClause 55 = .ok (.goto 4, 3) := by decide +kernel
theorem dX9_takesClause_58 : decode cX9_takesClause 58 = .ok (.iconst 0, 1) := by decide +kernel
theorem dX9_takesClause_59 : decode cX9_takesClause 59 = .ok (.ireturn, 1) := by decide +kernel
theorem dX9_goesText_0 : decode cX9_goesText 0 = .ok (.aload_n 0, 1) := by decide +kernel
theorem dX9_goesText_1 : decode cX9_goesText 1 = .ok (.iconst 0, 1) := by decide +kernel
theorem dX9_goesText_2 : decode cX9_goesText 2 = .ok (.putfield 56, 3) := by decide +kernel
theorem dX9_goesText_5 : decode cX9_goesText 5 = .ok (.aload_n 0, 1) := by decide +kernel
theorem dX9_goesText_6 : decode cX9_goesText 6 = .ok (.bipush 100, 2) := by decide +kernel
theorem dX9_goesText_8 : decode cX9_goesText 8 = .ok (.iload_n 1, 1) := by decide +kernel
theorem dX9_goesText_9 : decode cX9_goesText 9 = .ok (.imul, 1) := by decide +kernel
theorem dX9_goesText_10 : decode cX9_goesText 10 = .ok (.putfield 86, 3) := by decide +kernel
theorem dX9_goesText_13 : decode cX9_goesText 13 = .ok (.iconst 0, 1) := by decide +kernel
theorem dX9_goesText_14 : decode cX9_goesText 14 = .ok (.istore_n 2, 1) := by decide +kernel
theorem dX9_goesText_15 : decode cX9_goesText 15 = .ok (.aload_n 0, 1) := by decide +kernel
theorem dX9_goesText_16 : decode cX9_goesText 16 = .ok (.bipush 10, 2) := by decide +kernel
theorem dX9_goesText_18 : decode cX9_goesText 18 = .ok (.iload_n 1, 1) := by decide +kernel
theorem dX9_goesText_19 : decode cX9_goesText 19 = .ok (.imul, 1) := by decide +kernel
theorem dX9_goesText_20 : decode cX9_goesText 20 = .ok (.iload_n 2, 1) := by decide +kernel
theorem dX9_goesText_21 : decode cX9_goesText 21 = .ok (.iadd, 1) := by decide +kernel
theorem dX9_goesText_22 : decode cX9_goesText 22 = .ok (.invokevirtual 314, 3) := by decide +kernel
theorem dX9_goesText_25 : decode cX9_goesText 25 = .ok (.ifCond .ne 5, 3) := by decide +kernel
theorem dX9_goesText_28 : decode cX9_goesText 28 = .ok (.iconst 0, 1) := by decide +kernel
theorem dX9_goesText_29 : decode cX9_goesText 29 = .ok (.ireturn, 1) := by decide +kernel
theorem dX9_goesText_30 : decode cX9_goesText 30 = .ok (.iinc 2 1, 3) := by decide +kernel
theorem dX9_goesText_33 : decode cX9_goesText 33 = .ok (.aload_n 0, 1) := by decide +kernel
theorem dX9_goesText_34 : decode cX9_goesText 34 = .ok (.getfield 65, 3) := by decide +kernel
theorem dX9_goesText_37 : decode cX9_goesText 37 = .ok (.iload_n 1, 1) := by decide +kernel
theorem dX9_goesText_38 : decode cX9_goesText 38 = .ok (.iload_n 2, 1) := by decide +kernel
theorem dX9_goesText_39 : decode cX9_goesText 39 = .ok (.iastore, 1) := by decide +kernel
theorem dX9_goesText_40 : decode cX9_goesText 40 = .ok (.aload_n 0, 1) := by decide +kernel
theorem dX9_goesText_41 : decode cX9_goesText 41 = .ok (.getfield 56, 3) := by decide +kernel
theorem dX9_goesText_44 : decode cX9_goesText 44 = .ok (.aload_n 0, 1) := by decide +kernel
theorem dX9_goesText_45 : decode cX9_goesText 45 = .ok (.getfield 53, 3) := by decide +kernel
theorem dX9_goesText_48 : decode cX9_goesText 48 = .ok (.if_icmp .ne 5, 3) := by decide +kernel
theorem dX9_goesText_51 : decode cX9_goesText 51 = .ok (.iconst 1, 1) := by decide +kernel
theorem dX9_goesText_52 : decode cX9_goesText 52 = .ok (.ireturn, 1) := by decide +kernel
theorem dX9_goesText_53 : decode cX9_goesText 53 = .ok (.iload_n 2, 1) := by decide +kernel
theorem dX9_goesText_54 : decode cX9_goesText 54 = .ok (.bipush 10, 2) := by decide +kernel
theorem dX9_goesText_56 : decode cX9_goesText 56 = .ok (.if_icmp .eq 12, 3) := by decide +kernel
theorem dX9_goesText_59 : decode cX9_goesText 59 = .ok (.aload_n 0, 1) := by decide +kernel
theorem dX9_goesText_60 : decode cX9_goesText 60 = .ok (.bipush 59, 2) := by decide +kernel
theorem dX9_goesText_62 : decode cX9_goesText 62 = .ok (.invokevirtual 278, 3) := by decide +kernel
theorem dX9_goesText_65 : decode cX9_goesText 65 = .ok (.ifCond .ne (-50), 3) := by decide +kernel
theorem dX9_goesText_68 : decode cX9_goesText 68 = .ok (.iconst 0, 1) := by decide +kernel
theorem dX9_goesText_69 : decode cX9_goesText 69 = .ok (.ireturn, 1) := by decide +kernel
theorem dX9_square_0 : decode cX9_square 0 = .ok (.aload_n 0, 1) := by decide +kernel
theorem dX9_square_1 : decode cX9_square 1 = .ok (.getfield 47, 3) := by decide +kernel
theorem dX9_square_4 : decode cX9_square 4 = .ok (.bipush 6, 2) := by decide +kernel
theorem dX9_square_6 : decode cX9_square 6 = .ok (.if_icmp .ne 6, 3) := by decide +kernel
theorem dX9_square_9 : decode cX9_square 9 = .ok (.bipush (-4), 2) := by decide +kernel
theorem dX9_square_11 : decode cX9_square 11 = .ok (.ireturn, 1) := by decide +kernel
theorem dX9_square_12 : decode cX9_square 12 = .ok (.aload_n 0, 1) := by decide +kernel
theorem dX9_square_13 : decode cX9_square 13 = .ok (.aload_n 0, 1) := by decide +kernel
theorem dX9_square_14 : decode cX9_square 14 = .ok (.getfield 47, 3) := by decide +kernel
theorem dX9_square_17 : decode cX9_square 17 = .ok (.invokevirtual 317, 3) := by decide +kernel
theorem dX9_square_20 : decode cX9_square 20 = .ok (.istore_n 1, 1) := by decide +kernel
theorem dX9_square_21 : decode cX9_square 21 = .ok (.aload_n 0, 1) := by decide +kernel
theorem dX9_square_22 : decode cX9_square 22 = .ok (.iconst 0, 1) := by decide +kernel
theorem dX9_square_23 : decode cX9_square 23 = .ok (.putfield 53, 3) := by decide +kernel
theorem dX9_square_26 : decode cX9_square 26 = .ok (.iload_n 1, 1) := by decide +kernel
theorem dX9_square_27 : decode cX9_square 27 = .ok (.ifCond .ne 11, 3) := by decide +kernel
theorem dX9_square_30 : decode cX9_square 30 = .ok (.bipush (-10), 2) := by decide +kernel
theorem dX9_square_32 : decode cX9_square 32 = .ok (.aload_n 0, 1) := by decide +kernel
theorem dX9_square_33 : decode cX9_square 33 = .ok (.getfield 56, 3) := by decide +kernel
theorem dX9_square_36 : decode cX9_square 36 = .ok (.isub, 1) := by decide +kernel
theorem dX9_square_37 : decode cX9_square 37 = .ok (.ireturn, 1) := by decide +kernel
theorem dX9_square_38 : decode cX9_square 38 = .ok (.aload_n 0, 1) := by decide +kernel
theorem dX9_square_39 : decode cX9_square 39 = .ok (.aload_n 0, 1) := by decide +kernel
theorem dX9_square_40 : decode cX9_square 40 = .ok (.getfield 47, 3) := by decide +kernel
theorem dX9_square_43 : decode cX9_square 43 = .ok (.putfield 50, 3) := by decide +kernel
theorem dX9_square_46 : decode cX9_square 46 = .ok (.aload_n 0, 1) := by decide +kernel
theorem dX9_square_47 : decode cX9_square 47 = .ok (.dup, 1) := by decide +kernel
theorem dX9_square_48 : decode cX9_square 48 = .ok (.getfield 47, 3) := by decide +kernel
theorem dX9_square_51 : decode cX9_square 51 = .ok (.iconst 1, 1) := by decide +kernel
theorem dX9_square_52 : decode cX9_square 52 = .ok (.iadd, 1) := by decide +kernel
theorem dX9_square_53 : decode cX9_square 53 = .ok (.putfield 47, 3) := by decide +kernel
theorem dX9_square_56 : decode cX9_square 56 = .ok (.aload_n 0, 1) := by decide +kernel
theorem dX9_square_57 : decode cX9_square 57 = .ok (.getfield 50, 3) := by decide +kernel
theorem dX9_square_60 : decode cX9_square 60 = .ok (.ireturn, 1) := by decide +kernel
theorem dX9_begin_0 : decode cX9_begin 0 = .ok (.aload_n 0, 1) := by decide +kernel
theorem dX9_begin_1 : decode cX9_begin 1 = .ok (.getfield 50, 3) := by decide +kernel
theorem dX9_begin_4 : decode cX9_begin 4 = .ok (.ifCond .ge 7, 3) := by decide +kernel
theorem dX9_begin_7 : decode cX9_begin 7 = .ok (.iconst 0, 1) := by decide +kernel
theorem dX9_begin_8 : decode cX9_begin 8 = .ok (.goto 10, 3) := by decide +kernel
theorem dX9_begin_11 : decode cX9_begin 11 = .ok (.bipush 10, 2) := by decide +kernel
theorem dX9_begin_13 : decode cX9_begin 13 = .ok (.aload_n 0, 1) := by decide +kernel
theorem dX9_begin_14 : decode cX9_begin 14 = .ok (.getfield 50, 3) := by decide +kernel
theorem dX9_begin_17 : decode cX9_begin 17 = .ok (.imul, 1) := by decide +kernel
theorem dX9_begin_18 : decode cX9_begin 18 = .ok (.ireturn, 1) := by decide +kernel
theorem dX9_behind_0 : decode cX9_behind 0 = .ok (.aload_n 0, 1) := by decide +kernel
theorem dX9_behind_1 : decode cX9_behind 1 = .ok (.getfield 50, 3) := by decide +kernel
theorem dX9_behind_4 : decode cX9_behind 4 = .ok (.ifCond .ge 7, 3) := by decide +kernel
theorem dX9_behind_7 : decode cX9_behind 7 = .ok (.iconst 0, 1) := by decide +kernel
theorem dX9_behind_8 : decode cX9_behind 8 = .ok (.goto 20, 3) := by decide +kernel
theorem dX9_behind_11 : decode cX9_behind 11 = .ok (.bipush 10, 2) := by decide +kernel
theorem dX9_behind_13 : decode cX9_behind 13 = .ok (.aload_n 0, 1) := by decide +kernel
theorem dX9_behind_14 : decode cX9_behind 14 = .ok (.getfield 50, 3) := by decide +kernel
theorem dX9_behind_17 : decode cX9_behind 17 = .ok (.imul, 1) := by decide +kernel
theorem dX9_behind_18 : decode cX9_behind 18 = .ok (.aload_n 0, 1) := by decide +kernel
theorem dX9_behind_19 : decode cX9_behind 19 = .ok (.getfield 65, 3) := by decide +kernel
theorem dX9_behind_22 : decode cX9_behind 22 = .ok (.aload_n 0, 1) := by decide +kernel
theorem dX9_behind_23 : decode cX9_behind 23 = .ok (.getfield 50, 3) := by decide +kernel
theorem dX9_behind_26 : decode cX9_behind 26 = .ok (.iaload, 1) := by decide +kernel
theorem dX9_behind_27 : decode cX9_behind 27 = .ok (.iadd, 1) := by decide +kernel
theorem dX9_behind_28 : decode cX9_behind 28 = .ok (.ireturn, 1) := by decide +kernel
theorem dX9_spark_0 : decode cX9_spark 0 = .ok (.bipush 80, 2) := by decide +kernel
theorem dX9_spark_2 : decode cX9_spark 2 = .ok (.istore_n 1, 1) := by decide +kernel
theorem dX9_spark_3 : decode cX9_spark 3 = .ok (.aload_n 0, 1) := by decide +kernel
theorem dX9_spark_4 : decode cX9_spark 4 = .ok (.invokevirtual 320, 3) := by decide +kernel
theorem dX9_spark_7 : decode cX9_spark 7 = .ok (.istore_n 2, 1) := by decide +kernel
theorem dX9_spark_8 : decode cX9_spark 8 = .ok (.iload_n 2, 1) := by decide +kernel
theorem dX9_spark_9 : decode cX9_spark 9 = .ok (.aload_n 0, 1) := by decide +kernel
theorem dX9_spark_10 : decode cX9_spark 10 = .ok (.invokevirtual 323, 3) := by decide +kernel
theorem dX9_spark_13 : decode cX9_spark 13 = .ok (.if_icmp .ge 30, 3) := by decide +kernel
theorem dX9_spark_16 : decode cX9_spark 16 = .ok (.aload_n 0, 1) := by decide +kernel
theorem dX9_spark_17 : decode cX9_spark 17 = .ok (.getfield 68, 3) := by decide +kernel
theorem dX9_spark_20 : decode cX9_spark 20 = .ok (.iload_n 2, 1) := by decide +kernel
theorem dX9_spark_21 : decode cX9_spark 21 = .ok (.iaload, 1) := by decide +kernel
theorem dX9_spark_22 : decode cX9_spark 22 = .ok (.iconst 2, 1) := by decide +kernel
theorem dX9_spark_23 : decode cX9_spark 23 = .ok (.if_icmp .ne 12, 3) := by decide +kernel
theorem dX9_spark_26 : decode cX9_spark 26 = .ok (.aload_n 0, 1) := by decide +kernel
theorem dX9_spark_27 : decode cX9_spark 27 = .ok (.getfield 71, 3) := by decide +kernel
theorem dX9_spark_30 : decode cX9_spark 30 = .ok (.iload_n 2, 1) := by decide +kernel
theorem dX9_spark_31 : decode cX9_spark 31 = .ok (.iaload, 1) := by decide +kernel
theorem dX9_spark_32 : decode cX9_spark 32 = .ok (.goto 4, 3) := by decide +kernel
theorem dX9_spark_35 : decode cX9_spark 35 = .ok (.iload_n 1, 1) := by decide +kernel
theorem dX9_spark_36 : decode cX9_spark 36 = .ok (.istore_n 1, 1) := by decide +kernel
theorem dX9_spark_37 : decode cX9_spark 37 = .ok (.iinc 2 1, 3) := by decide +kernel
theorem dX9_spark_40 : decode cX9_spark 40 = .ok (.goto (-32), 3) := by decide +kernel
theorem dX9_spark_43 : decode cX9_spark 43 = .ok (.iload_n 1, 1) := by decide +kernel
theorem dX9_spark_44 : decode cX9_spark 44 = .ok (.ireturn, 1) := by decide +kernel
theorem dX9_beside_0 : decode cX9_beside 0 = .ok (.iconst 0, 1) := by decide +kernel
theorem dX9_beside_1 : decode cX9_beside 1 = .ok (.istore_n 3, 1) := by decide +kernel
theorem dX9_beside_2 : decode cX9_beside 2 = .ok (.iload_n 1, 1) := by decide +kernel
theorem dX9_beside_3 : decode cX9_beside 3 = .ok (.ifCond .le 32, 3) := by decide +kernel
theorem dX9_beside_6 : decode cX9_beside 6 = .ok (.aload_n 0, 1) := by decide +kernel
theorem dX9_beside_7 : decode cX9_beside 7 = .ok (.aload_n 0, 1) := by decide +kernel
theorem dX9_beside_8 : decode cX9_beside 8 = .ok (.getfield 13, 3) := by decide +kernel
theorem dX9_beside_11 : decode cX9_beside 11 = .ok (.iload_n 1, 1) := by decide +kernel
theorem dX9_beside_12 : decode cX9_beside 12 = .ok (.iconst 1, 1) := by decide +kernel
theorem dX9_beside_13 : decode cX9_beside 13 = .ok (.isub, 1) := by decide +kernel
theorem dX9_beside_14 : decode cX9_beside 14 = .ok (.invokevirtual 263, 3) := by decide +kernel
theorem dX9_beside_17 : decode cX9_beside 17 = .ok (.ifCond .ne 18, 3) := by decide +kernel
theorem dX9_beside_20 : decode cX9_beside 20 = .ok (.aload_n 0, 1) := by decide +kernel
theorem dX9_beside_21 : decode cX9_beside 21 = .ok (.getfield 32, 3) := by decide +kernel
theorem dX9_beside_24 : decode cX9_beside 24 = .ok (.iload_n 1, 1) := by decide +kernel
theorem dX9_beside_25 : decode cX9_beside 25 = .ok (.iconst 1, 1) := by decide +kernel
theorem dX9_beside_26 : decode cX9_beside 26 = .ok (.isub, 1) := by decide +kernel
theorem dX9_beside_27 : decode cX9_beside 27 = .ok (.iaload, 1) := by decide +kernel
theorem dX9_beside_28 : decode cX9_beside 28 = .ok (.iload_n 2, 1) := by decide +kernel
theorem dX9_beside_29 : decode cX9_beside 29 = .ok (.if_icmp .lt 6, 3) := by decide +kernel
theorem dX9_beside_32 : decode cX9_beside 32 = .ok (.iinc 3 1, 3) := by decide +kernel
theorem dX9_beside_35 : decode cX9_beside 35 = .ok (.iload_n 1, 1) := by decide +kernel
theorem dX9_beside_36 : decode cX9_beside 36 = .ok (.aload_n 0, 1) := by decide +kernel
theorem dX9_beside_37 : decode cX9_beside 37 = .ok (.getfield 7, 3) := by decide +kernel
theorem dX9_beside_40 : decode cX9_beside 40 = .ok (.iconst 1, 1) := by decide +kernel
theorem dX9_beside_41 : decode cX9_beside 41 = .ok (.isub, 1) := by decide +kernel
theorem dX9_beside_42 : decode cX9_beside 42 = .ok (.if_icmp .ge 32, 3) := by decide +kernel
theorem dX9_beside_45 : decode cX9_beside 45 = .ok (.aload_n 0, 1) := by decide +kernel
theorem dX9_beside_46 : decode cX9_beside 46 = .ok (.aload_n 0, 1) := by decide +kernel
theorem dX9_beside_47 : decode cX9_beside 47 = .ok (.getfield 13, 3) := by decide +kernel
theorem dX9_beside_50 : decode cX9_beside 50 = .ok (.iload_n 1, 1) := by decide +kernel
theorem dX9_beside_51 : decode cX9_beside 51 = .ok (.iconst 1, 1) := by decide +kernel
theorem dX9_beside_52 : decode cX9_beside 52 = .ok (.iadd, 1) := by decide +kernel
theorem dX9_beside_53 : decode cX9_beside 53 = .ok (.invokevirtual 263, 3) := by decide +kernel
theorem dX9_beside_56 : decode cX9_beside 56 = .ok (.ifCond .ne 18, 3) := by decide +kernel
theorem dX9_beside_59 : decode cX9_beside 59 = .ok (.aload_n 0, 1) := by decide +kernel
theorem dX9_beside_60 : decode cX9_beside 60 = .ok (.getfield 32, 3) := by decide +kernel
theorem dX9_beside_63 : decode cX9_beside 63 = .ok (.iload_n 1, 1) := by decide +kernel
theorem dX9_beside_64 : decode cX9_beside 64 = .ok (.iconst 1, 1) := by decide +kernel
theorem dX9_beside_65 : decode cX9_beside 65 = .ok (.iadd, 1) := by decide +kernel
theorem dX9_beside_66 : decode cX9_beside 66 = .ok (.iaload, 1) := by decide +kernel
theorem dX9_beside_67 : decode cX9_beside 67 = .ok (.iload_n 2, 1) := by decide +kernel
theorem dX9_beside_68 : decode cX9_beside 68 = .ok (.if_icmp .lt 6, 3) := by decide +kernel
theorem dX9_beside_71 : decode cX9_beside 71 = .ok (.iinc 3 1, 3) := by decide +kernel
theorem dX9_beside_74 : decode cX9_beside 74 = .ok (.iload_n 3, 1) := by decide +kernel
theorem dX9_beside_75 : decode cX9_beside 75 = .ok (.ireturn, 1) := by decide +kernel
theorem dX9_factOf_0 : decode cX9_factOf 0 = .ok (.iload_n 1, 1) := by decide +kernel
theorem dX9_factOf_1 : decode cX9_factOf 1 = .ok (.tableswitch 69 0 4 #[35, 37, 44, 51, 61], 35) := by decide +kernel
theorem dX9_factOf_36 : decode cX9_factOf 36 = .ok (.iload_n 2, 1) := by decide +kernel
theorem dX9_factOf_37 : decode cX9_factOf 37 = .ok (.ireturn, 1) := by decide +kernel
theorem dX9_factOf_38 : decode cX9_factOf 38 = .ok (.aload_n 0, 1) := by decide +kernel
theorem dX9_factOf_39 : decode cX9_factOf 39 = .ok (.getfield 25, 3) := by decide +kernel
theorem dX9_factOf_42 : decode cX9_factOf 42 = .ok (.iload_n 2, 1) := by decide +kernel
theorem dX9_factOf_43 : decode cX9_factOf 43 = .ok (.iaload, 1) := by decide +kernel
theorem dX9_factOf_44 : decode cX9_factOf 44 = .ok (.ireturn, 1) := by decide +kernel
theorem dX9_factOf_45 : decode cX9_factOf 45 = .ok (.aload_n 0, 1) := by decide +kernel
theorem dX9_factOf_46 : decode cX9_factOf 46 = .ok (.getfield 29, 3) := by decide +kernel
theorem dX9_factOf_49 : decode cX9_factOf 49 = .ok (.iload_n 2, 1) := by decide +kernel
theorem dX9_factOf_50 : decode cX9_factOf 50 = .ok (.iaload, 1) := by decide +kernel
theorem dX9_factOf_51 : decode cX9_factOf 51 = .ok (.ireturn, 1) := by decide +kernel
theorem dX9_factOf_52 : decode cX9_factOf 52 = .ok (.aload_n 0, 1) := by decide +kernel
theorem dX9_factOf_53 : decode cX9_factOf 53 = .ok (.getfield 32, 3) := by decide +kernel
theorem dX9_factOf_56 : decode cX9_factOf 56 = .ok (.iload_n 2, 1) := by decide +kernel
theorem dX9_factOf_57 : decode cX9_factOf 57 = .ok (.iaload, 1) := by decide +kernel
theorem dX9_factOf_58 : decode cX9_factOf 58 = .ok (.bipush 10, 2) := by decide +kernel
theorem dX9_factOf_60 : decode cX9_factOf 60 = .ok (.idiv, 1) := by decide +kernel
theorem dX9_factOf_61 : decode cX9_factOf 61 = .ok (.ireturn, 1) := by decide +kernel
theorem dX9_factOf_62 : decode cX9_factOf 62 = .ok (.aload_n 0, 1) := by decide +kernel
theorem dX9_factOf_63 : decode cX9_factOf 63 = .ok (.iload_n 2, 1) := by decide +kernel
theorem dX9_factOf_64 : decode cX9_factOf 64 = .ok (.bipush 50, 2) := by decide +kernel
theorem dX9_factOf_66 : decode cX9_factOf 66 = .ok (.invokevirtual 326, 3) := by decide +kernel
theorem dX9_factOf_69 : decode cX9_factOf 69 = .ok (.ireturn, 1) := by decide +kernel
theorem dX9_factOf_70 : decode cX9_factOf 70 = .ok (.aload_n 0, 1) := by decide +kernel
theorem dX9_factOf_71 : decode cX9_factOf 71 = .ok (.getfield 22, 3) := by decide +kernel
theorem dX9_factOf_74 : decode cX9_factOf 74 = .ok (.bipush 10, 2) := by decide +kernel
theorem dX9_factOf_76 : decode cX9_factOf 76 = .ok (.irem, 1) := by decide +kernel
theorem dX9_factOf_77 : decode cX9_factOf 77 = .ok (.ireturn, 1) := by decide +kernel
theorem dX9_holds_0 : decode cX9_holds 0 = .ok (.iconst 0, 1) := by decide +kernel
theorem dX9_holds_1 : decode cX9_holds 1 = .ok (.istore_n 3, 1) := by decide +kernel
theorem dX9_holds_2 : decode cX9_holds 2 = .ok (.aload_n 0, 1) := by decide +kernel
theorem dX9_holds_3 : decode cX9_holds 3 = .ok (.getfield 74, 3) := by decide +kernel
theorem dX9_holds_6 : decode cX9_holds 6 = .ok (.iload_n 1, 1) := by decide +kernel
theorem dX9_holds_7 : decode cX9_holds 7 = .ok (.iaload, 1) := by decide +kernel
theorem dX9_holds_8 : decode cX9_holds 8 = .ok (.istore 4, 2) := by decide +kernel
theorem dX9_holds_10 : decode cX9_holds 10 = .ok (.iload 4, 2) := by decide +kernel
theorem dX9_holds_12 : decode cX9_holds 12 = .ok (.aload_n 0, 1) := by decide +kernel
theorem dX9_holds_13 : decode cX9_holds 13 = .ok (.getfield 77, 3) := by decide +kernel
theorem dX9_holds_16 : decode cX9_holds 16 = .ok (.iload_n 1, 1) := by decide +kernel
theorem dX9_holds_17 : decode cX9_holds 17 = .ok (.iaload, 1) := by decide +kernel
theorem dX9_holds_18 : decode cX9_holds 18 = .ok (.if_icmp .ge 225, 3) := by decide +kernel
theorem dX9_holds_21 : decode cX9_holds 21 = .ok (.aload_n 0, 1) := by decide +kernel
theorem dX9_holds_22 : decode cX9_holds 22 = .ok (.getfield 80, 3) := by decide +kernel
theorem dX9_holds_25 : decode cX9_holds 25 = .ok (.iload 4, 2) := by decide +kernel
theorem dX9_holds_27 : decode cX9_holds 27 = .ok (.iaload, 1) := by decide +kernel
theorem dX9_holds_28 : decode cX9_holds 28 = .ok (.istore 5, 2) := by decide +kernel
theorem dX9_holds_30 : decode cX9_holds 30 = .ok (.iload 5, 2) := by decide +kernel
theorem dX9_holds_32 : decode cX9_holds 32 = .ok (.bipush (-33), 2) := by decide +kernel
theorem dX9_holds_34 : decode cX9_holds 34 = .ok (.if_icmp .ne 30, 3) := by decide +kernel
theorem dX9_holds_37 : decode cX9_holds 37 = .ok (.aload_n 0, 1) := by decide +kernel
theorem dX9_holds_38 : decode cX9_holds 38 = .ok (.getfield 98, 3) := by decide +kernel
theorem dX9_holds_41 : decode cX9_holds 41 = .ok (.iload_n 3, 1) := by decide +kernel
theorem dX9_holds_42 : decode cX9_holds 42 = .ok (.iconst 1, 1) := by decide +kernel
theorem dX9_holds_43 : decode cX9_holds 43 = .ok (.isub, 1) := by decide +kernel
theorem dX9_holds_44 : decode cX9_holds 44 = .ok (.aload_n 0, 1) := by decide +kernel
theorem dX9_holds_45 : decode cX9_holds 45 = .ok (.getfield 98, 3) := by decide +kernel
theorem dX9_holds_48 : decode cX9_holds 48 = .ok (.iload_n 3, 1) := by decide +kernel
theorem dX9_holds_49 : decode cX9_holds 49 = .ok (.iconst 1, 1) := by decide +kernel
theorem dX9_holds_50 : decode cX9_holds 50 = .ok (.isub, 1) := by decide +kernel
theorem dX9_holds_51 : decode cX9_holds 51 = .ok (.baload, 1) := by decide +kernel
theorem dX9_holds_52 : decode cX9_holds 52 = .ok (.ifCond .ne 7, 3) := by decide +kernel
theorem dX9_holds_55 : decode cX9_holds 55 = .ok (.iconst 1, 1) := by decide +kernel
theorem dX9_holds_56 : decode cX9_holds 56 = .ok (.goto 4, 3) := by decide +kernel
theorem dX9_holds_59 : decode cX9_holds 59 = .ok (.iconst 0, 1) := by decide +kernel
theorem dX9_holds_60 : decode cX9_holds 60 = .ok (.bastore, 1) := by decide +kernel
theorem dX9_holds_61 : decode cX9_holds 61 = .ok (.goto 176, 3) := by decide +kernel
theorem dX9_holds_64 : decode cX9_holds 64 = .ok (.iload 5, 2) := by decide +kernel
theorem dX9_holds_66 : decode cX9_holds 66 = .ok (.ifCond .ge 77, 3) := by decide +kernel
theorem dX9_holds_69 : decode cX9_holds 69 = .ok (.iinc 3 (-1), 3) := by decide +kernel
theorem dX9_holds_72 : decode cX9_holds 72 = .ok (.aload_n 0, 1) := by decide +kernel
theorem dX9_holds_73 : decode cX9_holds 73 = .ok (.getfield 98, 3) := by decide +kernel
theorem dX9_holds_76 : decode cX9_holds 76 = .ok (.iload_n 3, 1) := by decide +kernel
theorem dX9_holds_77 : decode cX9_holds 77 = .ok (.iconst 1, 1) := by decide +kernel
theorem dX9_holds_78 : decode cX9_holds 78 = .ok (.isub, 1) := by decide +kernel
theorem dX9_holds_79 : decode cX9_holds 79 = .ok (.iload 5, 2) := by decide +kernel
theorem dX9_holds_81 : decode cX9_holds 81 = .ok (.bipush (-38), 2) := by decide +kernel
theorem dX9_holds_83 : decode cX9_holds 83 = .ok (.if_icmp .ne 31, 3) := by decide +kernel
theorem dX9_holds_86 : decode cX9_holds 86 = .ok (.aload_n 0, 1) := by decide +kernel
theorem dX9_holds_87 : decode cX9_holds 87 = .ok (.getfield 98, 3) := by decide +kernel
theorem dX9_holds_90 : decode cX9_holds 90 = .ok (.iload_n 3, 1) := by decide +kernel
theorem dX9_holds_91 : decode cX9_holds 91 = .ok (.iconst 1, 1) := by decide +kernel
theorem dX9_holds_92 : decode cX9_holds 92 = .ok (.isub, 1) := by decide +kernel
theorem dX9_holds_93 : decode cX9_holds 93 = .ok (.baload, 1) := by decide +kernel
theorem dX9_holds_94 : decode cX9_holds 94 = .ok (.ifCond .eq 16, 3) := by decide +kernel
theorem dX9_holds_97 : decode cX9_holds 97 = .ok (.aload_n 0, 1) := by decide +kernel
theorem dX9_holds_98 : decode cX9_holds 98 = .ok (.getfield 98, 3) := by decide +kernel
theorem dX9_holds_101 : decode cX9_holds 101 = .ok (.iload_n 3, 1) := by decide +kernel
theorem dX9_holds_102 : decode cX9_holds 102 = .ok (.baload, 1) := by decide +kernel
theorem dX9_holds_103 : decode cX9_holds 103 = .ok (.ifCond .eq 7, 3) := by decide +kernel
theorem dX9_holds_106 : decode cX9_holds 106 = .ok (.iconst 1, 1) := by decide +kernel
theorem dX9_holds_107 : decode cX9_holds 107 = .ok (.goto 32, 3) := by decide +kernel
theorem dX9_holds_110 : decode cX9_holds 110 = .ok (.iconst 0, 1) := by decide +kernel
theorem dX9_holds_111 : decode cX9_holds 111 = .ok (.goto 28, 3) := by decide +kernel
theorem dX9_holds_114 : decode cX9_holds 114 = .ok (.aload_n 0, 1) := by decide +kernel
theorem dX9_holds_115 : decode cX9_holds 115 = .ok (.getfield 98, 3) := by decide +kernel
theorem dX9_holds_118 : decode cX9_holds 118 = .ok (.iload_n 3, 1) := by decide +kernel
theorem dX9_holds_119 : decode cX9_holds 119 = .ok (.iconst 1, 1) := by decide +kernel
theorem dX9_holds_120 : decode cX9_holds 120 = .ok (.isub, 1) := by decide +kernel
theorem dX9_holds_121 : decode cX9_holds 121 = .ok (.baload, 1) := by decide +kernel
theorem dX9_holds_122 : decode cX9_holds 122 = .ok (.ifCond .ne 12, 3) := by decide +kernel
theorem dX9_holds_125 : decode cX9_holds 125 = .ok (.aload_n 0, 1) := by decide +kernel
theorem dX9_holds_126 : decode cX9_holds 126 = .ok (.getfield 98, 3) := by decide +kernel
theorem dX9_holds_129 : decode cX9_holds 129 = .ok (.iload_n 3, 1) := by decide +kernel
theorem dX9_holds_130 : decode cX9_holds 130 = .ok (.baload, 1) := by decide +kernel
theorem dX9_holds_131 : decode cX9_holds 131 = .ok (.ifCond .eq 7, 3) := by decide +kernel
theorem dX9_holds_134 : decode cX9_holds 134 = .ok (.iconst 1, 1) := by decide +kernel
theorem dX9_holds_135 : decode cX9_holds 135 = .ok (.goto 4, 3) := by decide +kernel
theorem dX9_holds_138 : decode cX9_holds 138 = .ok (.iconst 0, 1) := by decide +kernel
theorem dX9_holds_139 : decode cX9_holds 139 = .ok (.bastore, 1) := by decide +kernel
theorem dX9_holds_140 : decode cX9_holds 140 = .ok (.goto 97, 3) := by decide +kernel
theorem dX9_holds_143 : decode cX9_holds 143 = .ok (.aload_n 0, 1) := by decide +kernel
theorem dX9_holds_144 : decode cX9_holds 144 = .ok (.iload 5, 2) := by decide +kernel
theorem dX9_holds_146 : decode cX9_holds 146 = .ok (.sipush 1000, 3) := by decide +kernel
theorem dX9_holds_149 : decode cX9_holds 149 = .ok (.idiv, 1) := by decide +kernel
theorem dX9_holds_150 : decode cX9_holds 150 = .ok (.iload_n 2, 1) := by decide +kernel
theorem dX9_holds_151 : decode cX9_holds 151 = .ok (.invokevirtual 329, 3) := by decide +kernel
theorem dX9_holds_154 : decode cX9_holds 154 = .ok (.istore 6, 2) := by decide +kernel
theorem dX9_holds_156 : decode cX9_holds 156 = .ok (.iload 5, 2) := by decide +kernel
theorem dX9_holds_158 : decode cX9_holds 158 = .ok (.bipush 100, 2) := by decide +kernel
theorem dX9_holds_160 : decode cX9_holds 160 = .ok (.idiv, 1) := by decide +kernel
theorem dX9_holds_161 : decode cX9_holds 161 = .ok (.bipush 10, 2) := by decide +kernel
theorem dX9_holds_163 : decode cX9_holds 163 = .ok (.irem, 1) := by decide +kernel
theorem dX9_holds_164 : decode cX9_holds 164 = .ok (.istore 7, 2) := by decide +kernel
theorem dX9_holds_166 : decode cX9_holds 166 = .ok (.aload_n 0, 1) := by decide +kernel
theorem dX9_holds_167 : decode cX9_holds 167 = .ok (.getfield 98, 3) := by decide +kernel
theorem dX9_holds_170 : decode cX9_holds 170 = .ok (.iload_n 3, 1) := by decide +kernel
theorem dX9_holds_171 : decode cX9_holds 171 = .ok (.iload 7, 2) := by decide +kernel
theorem dX9_holds_173 : decode cX9_holds 173 = .ok (.ifCond .ne 21, 3) := by decide +kernel
theorem dX9_holds_176 : decode cX9_holds 176 = .ok (.iload 6, 2) := by decide +kernel
theorem dX9_holds_178 : decode cX9_holds 178 = .ok (.iload 5, 2) := by decide +kernel
theorem dX9_holds_180 : decode cX9_holds 180 = .ok (.bipush 100, 2) := by decide +kernel
theorem dX9_holds_182 : decode cX9_holds 182 = .ok (.irem, 1) := by decide +kernel
theorem dX9_holds_183 : decode cX9_holds 183 = .ok (.if_icmp .ge 7, 3) := by decide +kernel
theorem dX9_holds_186 : decode cX9_holds 186 = .ok (.iconst 1, 1) := by decide +kernel
theorem dX9_holds_187 : decode cX9_holds 187 = .ok (.goto 46, 3) := by decide +kernel
theorem dX9_holds_190 : decode cX9_holds 190 = .ok (.iconst 0, 1) := by decide +kernel
theorem dX9_holds_191 : decode cX9_holds 191 = .ok (.goto 42, 3) := by decide +kernel
theorem dX9_holds_194 : decode cX9_holds 194 = .ok (.iload 7, 2) := by decide +kernel
theorem dX9_holds_196 : decode cX9_holds 196 = .ok (.iconst 1, 1) := by decide +kernel
theorem dX9_holds_197 : decode cX9_holds 197 = .ok (.if_icmp .ne 21, 3) := by decide +kernel
theorem dX9_holds_200 : decode cX9_holds 200 = .ok (.iload 6, 2) := by decide +kernel
theorem dX9_holds_202 : decode cX9_holds 202 = .ok (.iload 5, 2) := by decide +kernel
theorem dX9_holds_204 : decode cX9_holds 204 = .ok (.bipush 100, 2) := by decide +kernel
theorem dX9_holds_206 : decode cX9_holds 206 = .ok (.irem, 1) := by decide +kernel
theorem dX9_holds_207 : decode cX9_holds 207 = .ok (.if_icmp .ne 7, 3) := by decide +kernel
theorem dX9_holds_210 : decode cX9_holds 210 = .ok (.iconst 1, 1) := by decide +kernel
theorem dX9_holds_211 : decode cX9_holds 211 = .ok (.goto 22, 3) := by decide +kernel
theorem dX9_holds_214 : decode cX9_holds 214 = .ok (.iconst 0, 1) := by decide +kernel
theorem dX9_holds_215 : decode cX9_holds 215 = .ok (.goto 18, 3) := by decide +kernel
theorem dX9_holds_218 : decode cX9_holds 218 = .ok (.iload 6, 2) := by decide +kernel
theorem dX9_holds_220 : decode cX9_holds 220 = .ok (.iload 5, 2) := by decide +kernel
theorem dX9_holds_222 : decode cX9_holds 222 = .ok (.bipush 100, 2) := by decide +kernel
theorem dX9_holds_224 : decode cX9_holds 224 = .ok (.irem, 1) := by decide +kernel
theorem dX9_holds_225 : decode cX9_holds 225 = .ok (.if_icmp .le 7, 3) := by decide +kernel
theorem dX9_holds_228 : decode cX9_holds 228 = .ok (.iconst 1, 1) := by decide +kernel
theorem dX9_holds_229 : decode cX9_holds 229 = .ok (.goto 4, 3) := by decide +kernel
theorem dX9_holds_232 : decode cX9_holds 232 = .ok (.iconst 0, 1) := by decide +kernel
theorem dX9_holds_233 : decode cX9_holds 233 = .ok (.bastore, 1) := by decide +kernel
theorem dX9_holds_234 : decode cX9_holds 234 = .ok (.iinc 3 1, 3) := by decide +kernel
theorem dX9_holds_237 : decode cX9_holds 237 = .ok (.iinc 4 1, 3) := by decide +kernel
theorem dX9_holds_240 : decode cX9_holds 240 = .ok (.goto (-230), 3) := by decide +kernel
theorem dX9_holds_243 : decode cX9_holds 243 = .ok (.aload_n 0, 1) := by decide +kernel
theorem dX9_holds_244 : decode cX9_holds 244 = .ok (.getfield 98, 3) := by decide +kernel
theorem dX9_holds_247 : decode cX9_holds 247 = .ok (.iconst 0, 1) := by decide +kernel
theorem dX9_holds_248 : decode cX9_holds 248 = .ok (.baload, 1) := by decide +kernel
theorem dX9_holds_249 : decode cX9_holds 249 = .ok (.ireturn, 1) := by decide +kernel
theorem dX9_sum_0 : decode cX9_sum 0 = .ok (.iconst 0, 1) := by decide +kernel
theorem dX9_sum_1 : decode cX9_sum 1 = .ok (.istore_n 2, 1) := by decide +kernel
theorem dX9_sum_2 : decode cX9_sum 2 = .ok (.aload_n 0, 1) := by decide +kernel
theorem dX9_sum_3 : decode cX9_sum 3 = .ok (.invokevirtual 320, 3) := by decide +kernel
theorem dX9_sum_6 : decode cX9_sum 6 = .ok (.istore_n 3, 1) := by decide +kernel
theorem dX9_sum_7 : decode cX9_sum 7 = .ok (.iload_n 3, 1) := by decide +kernel
theorem dX9_sum_8 : decode cX9_sum 8 = .ok (.aload_n 0, 1) := by decide +kernel
theorem dX9_sum_9 : decode cX9_sum 9 = .ok (.invokevirtual 323, 3) := by decide +kernel
theorem dX9_sum_12 : decode cX9_sum 12 = .ok (.if_icmp .ge 59, 3) := by decide +kernel
theorem dX9_sum_15 : decode cX9_sum 15 = .ok (.aload_n 0, 1) := by decide +kernel
theorem dX9_sum_16 : decode cX9_sum 16 = .ok (.getfield 68, 3) := by decide +kernel
theorem dX9_sum_19 : decode cX9_sum 19 = .ok (.iload_n 3, 1) := by decide +kernel
theorem dX9_sum_20 : decode cX9_sum 20 = .ok (.iaload, 1) := by decide +kernel
theorem dX9_sum_21 : decode cX9_sum 21 = .ok (.iconst 1, 1) := by decide +kernel
theorem dX9_sum_22 : decode cX9_sum 22 = .ok (.if_icmp .gt 43, 3) := by decide +kernel
theorem dX9_sum_25 : decode cX9_sum 25 = .ok (.aload_n 0, 1) := by decide +kernel
theorem dX9_sum_26 : decode cX9_sum 26 = .ok (.iload_n 3, 1) := by decide +kernel
theorem dX9_sum_27 : decode cX9_sum 27 = .ok (.iload_n 1, 1) := by decide +kernel
theorem dX9_sum_28 : decode cX9_sum 28 = .ok (.invokevirtual 332, 3) := by decide +kernel
theorem dX9_sum_31 : decode cX9_sum 31 = .ok (.ifCond .ne 6, 3) := by decide +kernel
theorem dX9_sum_34 : decode cX9_sum 34 = .ok (.goto 31, 3) := by decide +kernel
theorem dX9_sum_37 : decode cX9_sum 37 = .ok (.iload_n 2, 1) := by decide +kernel
theorem dX9_sum_38 : decode cX9_sum 38 = .ok (.aload_n 0, 1) := by decide +kernel
theorem dX9_sum_39 : decode cX9_sum 39 = .ok (.getfield 68, 3) := by decide +kernel
theorem dX9_sum_42 : decode cX9_sum 42 = .ok (.iload_n 3, 1) := by decide +kernel
theorem dX9_sum_43 : decode cX9_sum 43 = .ok (.iaload, 1) := by decide +kernel
theorem dX9_sum_44 : decode cX9_sum 44 = .ok (.ifCond .ne 12, 3) := by decide +kernel
theorem dX9_sum_47 : decode cX9_sum 47 = .ok (.aload_n 0, 1) := by decide +kernel
theorem dX9_sum_48 : decode cX9_sum 48 = .ok (.getfield 71, 3) := by decide +kernel
theorem dX9_sum_51 : decode cX9_sum 51 = .ok (.iload_n 3, 1) := by decide +kernel
theorem dX9_sum_52 : decode cX9_sum 52 = .ok (.iaload, 1) := by decide +kernel
theorem dX9_sum_53 : decode cX9_sum 53 = .ok (.goto 10, 3) := by decide +kernel
theorem dX9_sum_56 : decode cX9_sum 56 = .ok (.aload_n 0, 1) := by decide +kernel
theorem dX9_sum_57 : decode cX9_sum 57 = .ok (.getfield 71, 3) := by decide +kernel
theorem dX9_sum_60 : decode cX9_sum 60 = .ok (.iload_n 3, 1) := by decide +kernel
theorem dX9_sum_61 : decode cX9_sum 61 = .ok (.iaload, 1) := by decide +kernel
theorem dX9_sum_62 : decode cX9_sum 62 = .ok (.ineg, 1) := by decide +kernel
theorem dX9_sum_63 : decode cX9_sum 63 = .ok (.iadd, 1) := by decide +kernel
theorem dX9_sum_64 : decode cX9_sum 64 = .ok (.istore_n 2, 1) := by decide +kernel
theorem dX9_sum_65 : decode cX9_sum 65 = .ok (.iinc 3 1, 3) := by decide +kernel
theorem dX9_sum_68 : decode cX9_sum 68 = .ok (.goto (-61), 3) := by decide +kernel
theorem dX9_sum_71 : decode cX9_sum 71 = .ok (.iload_n 2, 1) := by decide +kernel
theorem dX9_sum_72 : decode cX9_sum 72 = .ok (.ireturn, 1) := by decide +kernel
theorem dX9_rise_0 : decode cX9_rise 0 = .ok (.aload_n 0, 1) := by decide +kernel
theorem dX9_rise_1 : decode cX9_rise 1 = .ok (.iload_n 1, 1) := by decide +kernel
theorem dX9_rise_2 : decode cX9_rise 2 = .ok (.invokevirtual 335, 3) := by decide +kernel
theorem dX9_rise_5 : decode cX9_rise 5 = .ok (.istore_n 2, 1) := by decide +kernel
theorem dX9_rise_6 : decode cX9_rise 6 = .ok (.aload_n 0, 1) := by decide +kernel
theorem dX9_rise_7 : decode cX9_rise 7 = .ok (.getfield 32, 3) := by decide +kernel
theorem dX9_rise_10 : decode cX9_rise 10 = .ok (.iload_n 1, 1) := by decide +kernel
theorem dX9_rise_11 : decode cX9_rise 11 = .ok (.iaload, 1) := by decide +kernel
theorem dX9_rise_12 : decode cX9_rise 12 = .ok (.bipush 50, 2) := by decide +kernel
theorem dX9_rise_14 : decode cX9_rise 14 = .ok (.if_icmp .lt 9, 3) := by decide +kernel
theorem dX9_rise_17 : decode cX9_rise 17 = .ok (.iload_n 2, 1) := by decide +kernel
theorem dX9_rise_18 : decode cX9_rise 18 = .ok (.iconst 3, 1) := by decide +kernel
theorem dX9_rise_19 : decode cX9_rise 19 = .ok (.isub, 1) := by decide +kernel
theorem dX9_rise_20 : decode cX9_rise 20 = .ok (.goto 4, 3) := by decide +kernel
theorem dX9_rise_23 : decode cX9_rise 23 = .ok (.iload_n 2, 1) := by decide +kernel
theorem dX9_rise_24 : decode cX9_rise 24 = .ok (.istore_n 3, 1) := by decide +kernel
theorem dX9_rise_25 : decode cX9_rise 25 = .ok (.aload_n 0, 1) := by decide +kernel
theorem dX9_rise_26 : decode cX9_rise 26 = .ok (.getfield 22, 3) := by decide +kernel
theorem dX9_rise_29 : decode cX9_rise 29 = .ok (.iconst 3, 1) := by decide +kernel
theorem dX9_rise_30 : decode cX9_rise 30 = .ok (.irem, 1) := by decide +kernel
theorem dX9_rise_31 : decode cX9_rise 31 = .ok (.ifCond .ne 9, 3) := by decide +kernel
theorem dX9_rise_34 : decode cX9_rise 34 = .ok (.iload_n 2, 1) := by decide +kernel
theorem dX9_rise_35 : decode cX9_rise 35 = .ok (.iconst 5, 1) := by decide +kernel
theorem dX9_rise_36 : decode cX9_rise 36 = .ok (.iadd, 1) := by decide +kernel
theorem dX9_rise_37 : decode cX9_rise 37 = .ok (.goto 4, 3) := by decide +kernel
theorem dX9_rise_40 : decode cX9_rise 40 = .ok (.iload_n 2, 1) := by decide +kernel
theorem dX9_rise_41 : decode cX9_rise 41 = .ok (.istore 4, 2) := by decide +kernel
theorem dX9_rise_43 : decode cX9_rise 43 = .ok (.aload_n 0, 1) := by decide +kernel
theorem dX9_rise_44 : decode cX9_rise 44 = .ok (.getfield 25, 3) := by decide +kernel
theorem dX9_rise_47 : decode cX9_rise 47 = .ok (.iload_n 1, 1) := by decide +kernel
theorem dX9_rise_48 : decode cX9_rise 48 = .ok (.iaload, 1) := by decide +kernel
theorem dX9_rise_49 : decode cX9_rise 49 = .ok (.tableswitch 90 1 6 #[39, 41, 44, 48, 57, 70], 39) := by decide +kernel
theorem dX9_rise_88 : decode cX9_rise 88 = .ok (.iload_n 3, 1) := by decide +kernel
theorem dX9_rise_89 : decode cX9_rise 89 = .ok (.ireturn, 1) := by decide +kernel
theorem dX9_rise_90 : decode cX9_rise 90 = .ok (.iload 4, 2) := by decide +kernel
theorem dX9_rise_92 : decode cX9_rise 92 = .ok (.ireturn, 1) := by decide +kernel
theorem dX9_rise_93 : decode cX9_rise 93 = .ok (.iload_n 2, 1) := by decide +kernel
theorem dX9_rise_94 : decode cX9_rise 94 = .ok (.iconst 2, 1) := by decide +kernel
theorem dX9_rise_95 : decode cX9_rise 95 = .ok (.idiv, 1) := by decide +kernel
theorem dX9_rise_96 : decode cX9_rise 96 = .ok (.ireturn, 1) := by decide +kernel
theorem dX9_rise_97 : decode cX9_rise 97 = .ok (.iload_n 3, 1) := by decide +kernel
theorem dX9_rise_98 : decode cX9_rise 98 = .ok (.aload_n 0, 1) := by decide +kernel
theorem dX9_rise_99 : decode cX9_rise 99 = .ok (.getfield 29, 3) := by decide +kernel
theorem dX9_rise_102 : decode cX9_rise 102 = .ok (.iload_n 1, 1) := by decide +kernel
theorem dX9_rise_103 : decode cX9_rise 103 = .ok (.iaload, 1) := by decide +kernel
theorem dX9_rise_104 : decode cX9_rise 104 = .ok (.iadd, 1) := by decide +kernel
theorem dX9_rise_105 : decode cX9_rise 105 = .ok (.ireturn, 1) := by decide +kernel
theorem dX9_rise_106 : decode cX9_rise 106 = .ok (.iload 4, 2) := by decide +kernel
theorem dX9_rise_108 : decode cX9_rise 108 = .ok (.iconst 2, 1) := by decide +kernel
theorem dX9_rise_109 : decode cX9_rise 109 = .ok (.aload_n 0, 1) := by decide +kernel
theorem dX9_rise_110 : decode cX9_rise 110 = .ok (.iload_n 1, 1) := by decide +kernel
theorem dX9_rise_111 : decode cX9_rise 111 = .ok (.bipush 50, 2) := by decide +kernel
theorem dX9_rise_113 : decode cX9_rise 113 = .ok (.invokevirtual 326, 3) := by decide +kernel
theorem dX9_rise_116 : decode cX9_rise 116 = .ok (.imul, 1) := by decide +kernel
theorem dX9_rise_117 : decode cX9_rise 117 = .ok (.iadd, 1) := by decide +kernel
theorem dX9_rise_118 : decode cX9_rise 118 = .ok (.ireturn, 1) := by decide +kernel
theorem dX9_rise_119 : decode cX9_rise 119 = .ok (.iload_n 2, 1) := by decide +kernel
theorem dX9_rise_120 : decode cX9_rise 120 = .ok (.iconst 2, 1) := by decide +kernel
theorem dX9_rise_121 : decode cX9_rise 121 = .ok (.idiv, 1) := by decide +kernel
theorem dX9_rise_122 : decode cX9_rise 122 = .ok (.aload_n 0, 1) := by decide +kernel
theorem dX9_rise_123 : decode cX9_rise 123 = .ok (.getfield 35, 3) := by decide +kernel
theorem dX9_rise_126 : decode cX9_rise 126 = .ok (.iconst 4, 1) := by decide +kernel
theorem dX9_rise_127 : decode cX9_rise 127 = .ok (.iload_n 1, 1) := by decide +kernel
theorem dX9_rise_128 : decode cX9_rise 128 = .ok (.imul, 1) := by decide +kernel
theorem dX9_rise_129 : decode cX9_rise 129 = .ok (.aload_n 0, 1) := by decide +kernel
theorem dX9_rise_130 : decode cX9_rise 130 = .ok (.getfield 22, 3) := by decide +kernel
theorem dX9_rise_133 : decode cX9_rise 133 = .ok (.iconst 4, 1) := by decide +kernel
theorem dX9_rise_134 : decode cX9_rise 134 = .ok (.irem, 1) := by decide +kernel
theorem dX9_rise_135 : decode cX9_rise 135 = .ok (.iadd, 1) := by decide +kernel
theorem dX9_rise_136 : decode cX9_rise 136 = .ok (.iaload, 1) := by decide +kernel
theorem dX9_rise_137 : decode cX9_rise 137 = .ok (.iadd, 1) := by decide +kernel
theorem dX9_rise_138 : decode cX9_rise 138 = .ok (.ireturn, 1) := by decide +kernel
theorem dX9_rise_139 : decode cX9_rise 139 = .ok (.iload_n 2, 1) := by decide +kernel
theorem dX9_rise_140 : decode cX9_rise 140 = .ok (.ireturn, 1) := by decide +kernel
theorem dX9_of_0 : decode cX9_of 0 = .ok (.aload_n 0, 1) := by decide +kernel
theorem dX9_of_1 : decode cX9_of 1 = .ok (.iload_n 1, 1) := by decide +kernel
theorem dX9_of_2 : decode cX9_of 2 = .ok (.invokevirtual 260, 3) := by decide +kernel
theorem dX9_of_5 : decode cX9_of 5 = .ok (.ifCond .ne 7, 3) := by decide +kernel
theorem dX9_of_8 : decode cX9_of 8 = .ok (.sipush (-10001), 3) := by decide +kernel
theorem dX9_of_11 : decode cX9_of 11 = .ok (.ireturn, 1) := by decide +kernel
theorem dX9_of_12 : decode cX9_of 12 = .ok (.iload_n 2, 1) := by decide +kernel
theorem dX9_of_13 : decode cX9_of 13 = .ok (.tableswitch 92 0 5 #[39, 46, 53, 60, 78, 84], 39) := by decide +kernel
theorem dX9_of_52 : decode cX9_of 52 = .ok (.aload_n 0, 1) := by decide +kernel
theorem dX9_of_53 : decode cX9_of 53 = .ok (.getfield 25, 3) := by decide +kernel
theorem dX9_of_56 : decode cX9_of 56 = .ok (.iload_n 1, 1) := by decide +kernel
theorem dX9_of_57 : decode cX9_of 57 = .ok (.iaload, 1) := by decide +kernel
theorem dX9_of_58 : decode cX9_of 58 = .ok (.ireturn, 1) := by decide +kernel
theorem dX9_of_59 : decode cX9_of 59 = .ok (.aload_n 0, 1) := by decide +kernel
theorem dX9_of_60 : decode cX9_of 60 = .ok (.getfield 29, 3) := by decide +kernel
theorem dX9_of_63 : decode cX9_of 63 = .ok (.iload_n 1, 1) := by decide +kernel
theorem dX9_of_64 : decode cX9_of 64 = .ok (.iaload, 1) := by decide +kernel
theorem dX9_of_65 : decode cX9_of 65 = .ok (.ireturn, 1) := by decide +kernel
theorem dX9_of_66 : decode cX9_of 66 = .ok (.aload_n 0, 1) := by decide +kernel
theorem dX9_of_67 : decode cX9_of 67 = .ok (.getfield 32, 3) := by decide +kernel
theorem dX9_of_70 : decode cX9_of 70 = .ok (.iload_n 1, 1) := by decide +kernel
theorem dX9_of_71 : decode cX9_of 71 = .ok (.iaload, 1) := by decide +kernel
theorem dX9_of_72 : decode cX9_of 72 = .ok (.ireturn, 1) := by decide +kernel
theorem dX9_of_73 : decode cX9_of 73 = .ok (.aload_n 0, 1) := by decide +kernel
theorem dX9_of_74 : decode cX9_of 74 = .ok (.aload_n 0, 1) := by decide +kernel
theorem dX9_of_75 : decode cX9_of 75 = .ok (.getfield 13, 3) := by decide +kernel
theorem dX9_of_78 : decode cX9_of 78 = .ok (.iload_n 1, 1) := by decide +kernel
theorem dX9_of_79 : decode cX9_of 79 = .ok (.invokevirtual 263, 3) := by decide +kernel
theorem dX9_of_82 : decode cX9_of 82 = .ok (.ifCond .eq 7, 3) := by decide +kernel
theorem dX9_of_85 : decode cX9_of 85 = .ok (.iconst 1, 1) := by decide +kernel
theorem dX9_of_86 : decode cX9_of 86 = .ok (.goto 4, 3) := by decide +kernel
theorem dX9_of_89 : decode cX9_of 89 = .ok (.iconst 0, 1) := by decide +kernel
theorem dX9_of_90 : decode cX9_of 90 = .ok (.ireturn, 1) := by decide +kernel
theorem dX9_of_91 : decode cX9_of 91 = .ok (.aload_n 0, 1) := by decide +kernel
theorem dX9_of_92 : decode cX9_of 92 = .ok (.iload_n 1, 1) := by decide +kernel
theorem dX9_of_93 : decode cX9_of 93 = .ok (.invokevirtual 338, 3) := by decide +kernel
theorem dX9_of_96 : decode cX9_of 96 = .ok (.ireturn, 1) := by decide +kernel
theorem dX9_of_97 : decode cX9_of 97 = .ok (.aload_n 0, 1) := by decide +kernel
theorem dX9_of_98 : decode cX9_of 98 = .ok (.iload_n 1, 1) := by decide +kernel
theorem dX9_of_99 : decode cX9_of 99 = .ok (.bipush 50, 2) := by decide +kernel
theorem dX9_of_101 : decode cX9_of 101 = .ok (.invokevirtual 326, 3) := by decide +kernel
theorem dX9_of_104 : decode cX9_of 104 = .ok (.ireturn, 1) := by decide +kernel
theorem dX9_of_105 : decode cX9_of 105 = .ok (.sipush (-10001), 3) := by decide +kernel
theorem dX9_of_108 : decode cX9_of 108 = .ok (.ireturn, 1) := by decide +kernel
theorem dX9_hottest_0 : decode cX9_hottest 0 = .ok (.bipush (-5), 2) := by decide +kernel
theorem dX9_hottest_2 : decode cX9_hottest 2 = .ok (.istore_n 1, 1) := by decide +kernel
theorem dX9_hottest_3 : decode cX9_hottest 3 = .ok (.iconst 0, 1) := by decide +kernel
theorem dX9_hottest_4 : decode cX9_hottest 4 = .ok (.istore_n 2, 1) := by decide +kernel
theorem dX9_hottest_5 : decode cX9_hottest 5 = .ok (.iload_n 2, 1) := by decide +kernel
theorem dX9_hottest_6 : decode cX9_hottest 6 = .ok (.aload_n 0, 1) := by decide +kernel
theorem dX9_hottest_7 : decode cX9_hottest 7 = .ok (.getfield 7, 3) := by decide +kernel
theorem dX9_hottest_10 : decode cX9_hottest 10 = .ok (.if_icmp .ge 42, 3) := by decide +kernel
theorem dX9_hottest_13 : decode cX9_hottest 13 = .ok (.aload_n 0, 1) := by decide +kernel
theorem dX9_hottest_14 : decode cX9_hottest 14 = .ok (.aload_n 0, 1) := by decide +kernel
theorem dX9_hottest_15 : decode cX9_hottest 15 = .ok (.getfield 13, 3) := by decide +kernel
theorem dX9_hottest_18 : decode cX9_hottest 18 = .ok (.iload_n 2, 1) := by decide +kernel
theorem dX9_hottest_19 : decode cX9_hottest 19 = .ok (.invokevirtual 263, 3) := by decide +kernel
theorem dX9_hottest_22 : decode cX9_hottest 22 = .ok (.ifCond .ne 24, 3) := by decide +kernel
theorem dX9_hottest_25 : decode cX9_hottest 25 = .ok (.iload_n 1, 1) := by decide +kernel
theorem dX9_hottest_26 : decode cX9_hottest 26 = .ok (.ifCond .lt 18, 3) := by decide +kernel
theorem dX9_hottest_29 : decode cX9_hottest 29 = .ok (.aload_n 0, 1) := by decide +kernel
theorem dX9_hottest_30 : decode cX9_hottest 30 = .ok (.getfield 32, 3) := by decide +kernel
theorem dX9_hottest_33 : decode cX9_hottest 33 = .ok (.iload_n 2, 1) := by decide +kernel
theorem dX9_hottest_34 : decode cX9_hottest 34 = .ok (.iaload, 1) := by decide +kernel
theorem dX9_hottest_35 : decode cX9_hottest 35 = .ok (.aload_n 0, 1) := by decide +kernel
theorem dX9_hottest_36 : decode cX9_hottest 36 = .ok (.getfield 32, 3) := by decide +kernel
theorem dX9_hottest_39 : decode cX9_hottest 39 = .ok (.iload_n 1, 1) := by decide +kernel
theorem dX9_hottest_40 : decode cX9_hottest 40 = .ok (.iaload, 1) := by decide +kernel
theorem dX9_hottest_41 : decode cX9_hottest 41 = .ok (.if_icmp .le 5, 3) := by decide +kernel
theorem dX9_hottest_44 : decode cX9_hottest 44 = .ok (.iload_n 2, 1) := by decide +kernel
theorem dX9_hottest_45 : decode cX9_hottest 45 = .ok (.istore_n 1, 1) := by decide +kernel
theorem dX9_hottest_46 : decode cX9_hottest 46 = .ok (.iinc 2 1, 3) := by decide +kernel
theorem dX9_hottest_49 : decode cX9_hottest 49 = .ok (.goto (-44), 3) := by decide +kernel
theorem dX9_hottest_52 : decode cX9_hottest 52 = .ok (.iload_n 1, 1) := by decide +kernel
theorem dX9_hottest_53 : decode cX9_hottest 53 = .ok (.ireturn, 1) := by decide +kernel
theorem dX9_isDone_0 : decode cX9_isDone 0 = .ok (.aload_n 0, 1) := by decide +kernel
theorem dX9_isDone_1 : decode cX9_isDone 1 = .ok (.getfield 44, 3) := by decide +kernel
theorem dX9_isDone_4 : decode cX9_isDone 4 = .ok (.iload_n 1, 1) := by decide +kernel
theorem dX9_isDone_5 : decode cX9_isDone 5 = .ok (.iaload, 1) := by decide +kernel
theorem dX9_isDone_6 : decode cX9_isDone 6 = .ok (.aload_n 0, 1) := by decide +kernel
theorem dX9_isDone_7 : decode cX9_isDone 7 = .ok (.getfield 38, 3) := by decide +kernel
theorem dX9_isDone_10 : decode cX9_isDone 10 = .ok (.iload_n 1, 1) := by decide +kernel
theorem dX9_isDone_11 : decode cX9_isDone 11 = .ok (.iaload, 1) := by decide +kernel
theorem dX9_isDone_12 : decode cX9_isDone 12 = .ok (.if_icmp .lt 7, 3) := by decide +kernel
theorem dX9_isDone_15 : decode cX9_isDone 15 = .ok (.iconst 1, 1) := by decide +kernel
theorem dX9_isDone_16 : decode cX9_isDone 16 = .ok (.goto 4, 3) := by decide +kernel
theorem dX9_isDone_19 : decode cX9_isDone 19 = .ok (.iconst 0, 1) := by decide +kernel
theorem dX9_isDone_20 : decode cX9_isDone 20 = .ok (.ireturn, 1) := by decide +kernel
theorem dX9_doneSet_0 : decode cX9_doneSet 0 = .ok (.iconst 0, 1) := by decide +kernel
theorem dX9_doneSet_1 : decode cX9_doneSet 1 = .ok (.istore_n 1, 1) := by decide +kernel
theorem dX9_doneSet_2 : decode cX9_doneSet 2 = .ok (.iconst 0, 1) := by decide +kernel
theorem dX9_doneSet_3 : decode cX9_doneSet 3 = .ok (.istore_n 2, 1) := by decide +kernel
theorem dX9_doneSet_4 : decode cX9_doneSet 4 = .ok (.iload_n 2, 1) := by decide +kernel
theorem dX9_doneSet_5 : decode cX9_doneSet 5 = .ok (.aload_n 0, 1) := by decide +kernel
theorem dX9_doneSet_6 : decode cX9_doneSet 6 = .ok (.getfield 16, 3) := by decide +kernel
theorem dX9_doneSet_9 : decode cX9_doneSet 9 = .ok (.if_icmp .ge 27, 3) := by decide +kernel
theorem dX9_doneSet_12 : decode cX9_doneSet 12 = .ok (.iload_n 1, 1) := by decide +kernel
theorem dX9_doneSet_13 : decode cX9_doneSet 13 = .ok (.aload_n 0, 1) := by decide +kernel
theorem dX9_doneSet_14 : decode cX9_doneSet 14 = .ok (.iload_n 2, 1) := by decide +kernel
theorem dX9_doneSet_15 : decode cX9_doneSet 15 = .ok (.invokevirtual 341, 3) := by decide +kernel
theorem dX9_doneSet_18 : decode cX9_doneSet 18 = .ok (.ifCond .eq 9, 3) := by decide +kernel
theorem dX9_doneSet_21 : decode cX9_doneSet 21 = .ok (.iconst 1, 1) := by decide +kernel
theorem dX9_doneSet_22 : decode cX9_doneSet 22 = .ok (.iload_n 2, 1) := by decide +kernel
theorem dX9_doneSet_23 : decode cX9_doneSet 23 = .ok (.ishl, 1) := by decide +kernel
theorem dX9_doneSet_24 : decode cX9_doneSet 24 = .ok (.goto 4, 3) := by decide +kernel
theorem dX9_doneSet_27 : decode cX9_doneSet 27 = .ok (.iconst 0, 1) := by decide +kernel
theorem dX9_doneSet_28 : decode cX9_doneSet 28 = .ok (.ior, 1) := by decide +kernel
theorem dX9_doneSet_29 : decode cX9_doneSet 29 = .ok (.istore_n 1, 1) := by decide +kernel
theorem dX9_doneSet_30 : decode cX9_doneSet 30 = .ok (.iinc 2 1, 3) := by decide +kernel
theorem dX9_doneSet_33 : decode cX9_doneSet 33 = .ok (.goto (-29), 3) := by decide +kernel
theorem dX9_doneSet_36 : decode cX9_doneSet 36 = .ok (.iload_n 1, 1) := by decide +kernel
theorem dX9_doneSet_37 : decode cX9_doneSet 37 = .ok (.ireturn, 1) := by decide +kernel
theorem dX9_allHeat_0 : decode cX9_allHeat 0 = .ok (.iconst 0, 1) := by decide +kernel
theorem dX9_allHeat_1 : decode cX9_allHeat 1 = .ok (.istore_n 1, 1) := by decide +kernel
theorem dX9_allHeat_2 : decode cX9_allHeat 2 = .ok (.iconst 0, 1) := by decide +kernel
theorem dX9_allHeat_3 : decode cX9_allHeat 3 = .ok (.istore_n 2, 1) := by decide +kernel
theorem dX9_allHeat_4 : decode cX9_allHeat 4 = .ok (.iload_n 2, 1) := by decide +kernel
theorem dX9_allHeat_5 : decode cX9_allHeat 5 = .ok (.aload_n 0, 1) := by decide +kernel
theorem dX9_allHeat_6 : decode cX9_allHeat 6 = .ok (.getfield 7, 3) := by decide +kernel
theorem dX9_allHeat_9 : decode cX9_allHeat 9 = .ok (.if_icmp .ge 18, 3) := by decide +kernel
theorem dX9_allHeat_12 : decode cX9_allHeat 12 = .ok (.iload_n 1, 1) := by decide +kernel
theorem dX9_allHeat_13 : decode cX9_allHeat 13 = .ok (.aload_n 0, 1) := by decide +kernel
theorem dX9_allHeat_14 : decode cX9_allHeat 14 = .ok (.getfield 32, 3) := by decide +kernel
theorem dX9_allHeat_17 : decode cX9_allHeat 17 = .ok (.iload_n 2, 1) := by decide +kernel
theorem dX9_allHeat_18 : decode cX9_allHeat 18 = .ok (.iaload, 1) := by decide +kernel
theorem dX9_allHeat_19 : decode cX9_allHeat 19 = .ok (.iadd, 1) := by decide +kernel
theorem dX9_allHeat_20 : decode cX9_allHeat 20 = .ok (.istore_n 1, 1) := by decide +kernel
theorem dX9_allHeat_21 : decode cX9_allHeat 21 = .ok (.iinc 2 1, 3) := by decide +kernel
theorem dX9_allHeat_24 : decode cX9_allHeat 24 = .ok (.goto (-20), 3) := by decide +kernel
theorem dX9_allHeat_27 : decode cX9_allHeat 27 = .ok (.iload_n 1, 1) := by decide +kernel
theorem dX9_allHeat_28 : decode cX9_allHeat 28 = .ok (.ireturn, 1) := by decide +kernel
theorem dX9_told_0 : decode cX9_told 0 = .ok (.iload_n 1, 1) := by decide +kernel
theorem dX9_told_1 : decode cX9_told 1 = .ok (.tableswitch 69 0 5 #[39, 44, 49, 54, 59, 64], 39) := by decide +kernel
theorem dX9_told_40 : decode cX9_told 40 = .ok (.aload_n 0, 1) := by decide +kernel
theorem dX9_told_41 : decode cX9_told 41 = .ok (.getfield 22, 3) := by decide +kernel
theorem dX9_told_44 : decode cX9_told 44 = .ok (.ireturn, 1) := by decide +kernel
theorem dX9_told_45 : decode cX9_told 45 = .ok (.aload_n 0, 1) := by decide +kernel
theorem dX9_told_46 : decode cX9_told 46 = .ok (.invokevirtual 344, 3) := by decide +kernel
theorem dX9_told_49 : decode cX9_told 49 = .ok (.ireturn, 1) := by decide +kernel
theorem dX9_told_50 : decode cX9_told 50 = .ok (.aload_n 0, 1) := by decide +kernel
theorem dX9_told_51 : decode cX9_told 51 = .ok (.getfield 19, 3) := by decide +kernel
theorem dX9_told_54 : decode cX9_told 54 = .ok (.ireturn, 1) := by decide +kernel
theorem dX9_told_55 : decode cX9_told 55 = .ok (.aload_n 0, 1) := by decide +kernel
theorem dX9_told_56 : decode cX9_told 56 = .ok (.invokevirtual 347, 3) := by decide +kernel
theorem dX9_told_59 : decode cX9_told 59 = .ok (.ireturn, 1) := by decide +kernel
theorem dX9_told_60 : decode cX9_told 60 = .ok (.aload_n 0, 1) := by decide +kernel
theorem dX9_told_61 : decode cX9_told 61 = .ok (.invokevirtual 350, 3) := by decide +kernel
theorem dX9_told_64 : decode cX9_told 64 = .ok (.ireturn, 1) := by decide +kernel
theorem dX9_told_65 : decode cX9_told 65 = .ok (.aload_n 0, 1) := by decide +kernel
theorem dX9_told_66 : decode cX9_told 66 = .ok (.invokevirtual 353, 3) := by decide +kernel
theorem dX9_told_69 : decode cX9_told 69 = .ok (.ireturn, 1) := by decide +kernel
theorem dX9_told_70 : decode cX9_told 70 = .ok (.iconst (-1), 1) := by decide +kernel
theorem dX9_told_71 : decode cX9_told 71 = .ok (.ireturn, 1) := by decide +kernel
theorem dX9_goMinute_0 : decode cX9_goMinute 0 = .ok (.aload_n 0, 1) := by decide +kernel
theorem dX9_goMinute_1 : decode cX9_goMinute 1 = .ok (.getfield 19, 3) := by decide +kernel
theorem dX9_goMinute_4 : decode cX9_goMinute 4 = .ok (.ifCond .lt 21, 3) := by decide +kernel
theorem dX9_goMinute_7 : decode cX9_goMinute 7 = .ok (.aload_n 0, 1) := by decide +kernel
theorem dX9_goMinute_8 : decode cX9_goMinute 8 = .ok (.aload_n 0, 1) := by decide +kernel
theorem dX9_goMinute_9 : decode cX9_goMinute 9 = .ok (.getfield 19, 3) := by decide +kernel
theorem dX9_goMinute_12 : decode cX9_goMinute 12 = .ok (.invokevirtual 341, 3) := by decide +kernel
theorem dX9_goMinute_15 : decode cX9_goMinute 15 = .ok (.ifCond .ne 10, 3) := by decide +kernel
theorem dX9_goMinute_18 : decode cX9_goMinute 18 = .ok (.aload_n 0, 1) := by decide +kernel
theorem dX9_goMinute_19 : decode cX9_goMinute 19 = .ok (.invokevirtual 350, 3) := by decide +kernel
theorem dX9_goMinute_22 : decode cX9_goMinute 22 = .ok (.goto 5, 3) := by decide +kernel
theorem dX9_goMinute_25 : decode cX9_goMinute 25 = .ok (.bipush (-5), 2) := by decide +kernel
theorem dX9_goMinute_27 : decode cX9_goMinute 27 = .ok (.istore_n 1, 1) := by decide +kernel
theorem dX9_goMinute_28 : decode cX9_goMinute 28 = .ok (.aload_n 0, 1) := by decide +kernel
theorem dX9_goMinute_29 : decode cX9_goMinute 29 = .ok (.invokevirtual 344, 3) := by decide +kernel
theorem dX9_goMinute_32 : decode cX9_goMinute 32 = .ok (.istore_n 2, 1) := by decide +kernel
theorem dX9_goMinute_33 : decode cX9_goMinute 33 = .ok (.iconst 0, 1) := by decide +kernel
theorem dX9_goMinute_34 : decode cX9_goMinute 34 = .ok (.istore_n 3, 1) := by decide +kernel
theorem dX9_goMinute_35 : decode cX9_goMinute 35 = .ok (.iload_n 3, 1) := by decide +kernel
theorem dX9_goMinute_36 : decode cX9_goMinute 36 = .ok (.aload_n 0, 1) := by decide +kernel
theorem dX9_goMinute_37 : decode cX9_goMinute 37 = .ok (.getfield 7, 3) := by decide +kernel
theorem dX9_goMinute_40 : decode cX9_goMinute 40 = .ok (.if_icmp .ge 62, 3) := by decide +kernel
theorem dX9_goMinute_43 : decode cX9_goMinute 43 = .ok (.aload_n 0, 1) := by decide +kernel
theorem dX9_goMinute_44 : decode cX9_goMinute 44 = .ok (.getfield 102, 3) := by decide +kernel
theorem dX9_goMinute_47 : decode cX9_goMinute 47 = .ok (.iload_n 3, 1) := by decide +kernel
theorem dX9_goMinute_48 : decode cX9_goMinute 48 = .ok (.aload_n 0, 1) := by decide +kernel
theorem dX9_goMinute_49 : decode cX9_goMinute 49 = .ok (.aload_n 0, 1) := by decide +kernel
theorem dX9_goMinute_50 : decode cX9_goMinute 50 = .ok (.getfield 13, 3) := by decide +kernel
theorem dX9_goMinute_53 : decode cX9_goMinute 53 = .ok (.iload_n 3, 1) := by decide +kernel
theorem dX9_goMinute_54 : decode cX9_goMinute 54 = .ok (.invokevirtual 263, 3) := by decide +kernel
theorem dX9_goMinute_57 : decode cX9_goMinute 57 = .ok (.ifCond .eq 12, 3) := by decide +kernel
theorem dX9_goMinute_60 : decode cX9_goMinute 60 = .ok (.aload_n 0, 1) := by decide +kernel
theorem dX9_goMinute_61 : decode cX9_goMinute 61 = .ok (.getfield 32, 3) := by decide +kernel
theorem dX9_goMinute_64 : decode cX9_goMinute 64 = .ok (.iload_n 3, 1) := by decide +kernel
theorem dX9_goMinute_65 : decode cX9_goMinute 65 = .ok (.iaload, 1) := by decide +kernel
theorem dX9_goMinute_66 : decode cX9_goMinute 66 = .ok (.goto 29, 3) := by decide +kernel
theorem dX9_goMinute_69 : decode cX9_goMinute 69 = .ok (.aload_n 0, 1) := by decide +kernel
theorem dX9_goMinute_70 : decode cX9_goMinute 70 = .ok (.aload_n 0, 1) := by decide +kernel
theorem dX9_goMinute_71 : decode cX9_goMinute 71 = .ok (.getfield 32, 3) := by decide +kernel
theorem dX9_goMinute_74 : decode cX9_goMinute 74 = .ok (.iload_n 3, 1) := by decide +kernel
theorem dX9_goMinute_75 : decode cX9_goMinute 75 = .ok (.iaload, 1) := by decide +kernel
theorem dX9_goMinute_76 : decode cX9_goMinute 76 = .ok (.aload_n 0, 1) := by decide +kernel
theorem dX9_goMinute_77 : decode cX9_goMinute 77 = .ok (.iload_n 3, 1) := by decide +kernel
theorem dX9_goMinute_78 : decode cX9_goMinute 78 = .ok (.invokevirtual 338, 3) := by decide +kernel
theorem dX9_goMinute_81 : decode cX9_goMinute 81 = .ok (.iadd, 1) := by decide +kernel
theorem dX9_goMinute_82 : decode cX9_goMinute 82 = .ok (.bipush 10, 2) := by decide +kernel
theorem dX9_goMinute_84 : decode cX9_goMinute 84 = .ok (.aload_n 0, 1) := by decide +kernel
theorem dX9_goMinute_85 : decode cX9_goMinute 85 = .ok (.iload_n 3, 1) := by decide +kernel
theorem dX9_goMinute_86 : decode cX9_goMinute 86 = .ok (.iload_n 2, 1) := by decide +kernel
theorem dX9_goMinute_87 : decode cX9_goMinute 87 = .ok (.invokevirtual 326, 3) := by decide +kernel
theorem dX9_goMinute_90 : decode cX9_goMinute 90 = .ok (.imul, 1) := by decide +kernel
theorem dX9_goMinute_91 : decode cX9_goMinute 91 = .ok (.iadd, 1) := by decide +kernel
theorem dX9_goMinute_92 : decode cX9_goMinute 92 = .ok (.invokevirtual 356, 3) := by decide +kernel
theorem dX9_goMinute_95 : decode cX9_goMinute 95 = .ok (.iastore, 1) := by decide +kernel
theorem dX9_goMinute_96 : decode cX9_goMinute 96 = .ok (.iinc 3 1, 3) := by decide +kernel
theorem dX9_goMinute_99 : decode cX9_goMinute 99 = .ok (.goto (-64), 3) := by decide +kernel
theorem dX9_goMinute_102 : decode cX9_goMinute 102 = .ok (.iload_n 1, 1) := by decide +kernel
theorem dX9_goMinute_103 : decode cX9_goMinute 103 = .ok (.ifCond .lt 42, 3) := by decide +kernel
theorem dX9_goMinute_106 : decode cX9_goMinute 106 = .ok (.aload_n 0, 1) := by decide +kernel
theorem dX9_goMinute_107 : decode cX9_goMinute 107 = .ok (.getfield 44, 3) := by decide +kernel
theorem dX9_goMinute_110 : decode cX9_goMinute 110 = .ok (.aload_n 0, 1) := by decide +kernel
theorem dX9_goMinute_111 : decode cX9_goMinute 111 = .ok (.getfield 19, 3) := by decide +kernel
theorem dX9_goMinute_114 : decode cX9_goMinute 114 = .ok (.aload_n 0, 1) := by decide +kernel
theorem dX9_goMinute_115 : decode cX9_goMinute 115 = .ok (.aload_n 0, 1) := by decide +kernel
theorem dX9_goMinute_116 : decode cX9_goMinute 116 = .ok (.getfield 44, 3) := by decide +kernel
theorem dX9_goMinute_119 : decode cX9_goMinute 119 = .ok (.aload_n 0, 1) := by decide +kernel
theorem dX9_goMinute_120 : decode cX9_goMinute 120 = .ok (.getfield 19, 3) := by decide +kernel
theorem dX9_goMinute_123 : decode cX9_goMinute 123 = .ok (.iaload, 1) := by decide +kernel
theorem dX9_goMinute_124 : decode cX9_goMinute 124 = .ok (.aload_n 0, 1) := by decide +kernel
theorem dX9_goMinute_125 : decode cX9_goMinute 125 = .ok (.getfield 32, 3) := by decide +kernel
theorem dX9_goMinute_128 : decode cX9_goMinute 128 = .ok (.iload_n 1, 1) := by decide +kernel
theorem dX9_goMinute_129 : decode cX9_goMinute 129 = .ok (.iaload, 1) := by decide +kernel
theorem dX9_goMinute_130 : decode cX9_goMinute 130 = .ok (.iadd, 1) := by decide +kernel
theorem dX9_goMinute_131 : decode cX9_goMinute 131 = .ok (.sipush 9999, 3) := by decide +kernel
theorem dX9_goMinute_134 : decode cX9_goMinute 134 = .ok (.invokevirtual 248, 3) := by decide +kernel
theorem dX9_goMinute_137 : decode cX9_goMinute 137 = .ok (.iastore, 1) := by decide +kernel
theorem dX9_goMinute_138 : decode cX9_goMinute 138 = .ok (.aload_n 0, 1) := by decide +kernel
theorem dX9_goMinute_139 : decode cX9_goMinute 139 = .ok (.getfield 102, 3) := by decide +kernel
theorem dX9_goMinute_142 : decode cX9_goMinute 142 = .ok (.iload_n 1, 1) := by decide +kernel
theorem dX9_goMinute_143 : decode cX9_goMinute 143 = .ok (.iconst 0, 1) := by decide +kernel
theorem dX9_goMinute_144 : decode cX9_goMinute 144 = .ok (.iastore, 1) := by decide +kernel
theorem dX9_goMinute_145 : decode cX9_goMinute 145 = .ok (.iconst 0, 1) := by decide +kernel
theorem dX9_goMinute_146 : decode cX9_goMinute 146 = .ok (.istore_n 3, 1) := by decide +kernel
theorem dX9_goMinute_147 : decode cX9_goMinute 147 = .ok (.iload_n 3, 1) := by decide +kernel
theorem dX9_goMinute_148 : decode cX9_goMinute 148 = .ok (.aload_n 0, 1) := by decide +kernel
theorem dX9_goMinute_149 : decode cX9_goMinute 149 = .ok (.getfield 7, 3) := by decide +kernel
theorem dX9_goMinute_152 : decode cX9_goMinute 152 = .ok (.if_icmp .ge 21, 3) := by decide +kernel
theorem dX9_goMinute_155 : decode cX9_goMinute 155 = .ok (.aload_n 0, 1) := by decide +kernel
theorem dX9_goMinute_156 : decode cX9_goMinute 156 = .ok (.getfield 32, 3) := by decide +kernel
theorem dX9_goMinute_159 : decode cX9_goMinute 159 = .ok (.iload_n 3, 1) := by decide +kernel
theorem dX9_goMinute_160 : decode cX9_goMinute 160 = .ok (.aload_n 0, 1) := by decide +kernel
theorem dX9_goMinute_161 : decode cX9_goMinute 161 = .ok (.getfield 102, 3) := by decide +kernel
theorem dX9_goMinute_164 : decode cX9_goMinute 164 = .ok (.iload_n 3, 1) := by decide +kernel
theorem dX9_goMinute_165 : decode cX9_goMinute 165 = .ok (.iaload, 1) := by decide +kernel
theorem dX9_goMinute_166 : decode cX9_goMinute 166 = .ok (.iastore, 1) := by decide +kernel
theorem dX9_goMinute_167 : decode cX9_goMinute 167 = .ok (.iinc 3 1, 3) := by decide +kernel
theorem dX9_goMinute_170 : decode cX9_goMinute 170 = .ok (.goto (-23), 3) := by decide +kernel
theorem dX9_goMinute_173 : decode cX9_goMinute 173 = .ok (.aload_n 0, 1) := by decide +kernel
theorem dX9_goMinute_174 : decode cX9_goMinute 174 = .ok (.dup, 1) := by decide +kernel
theorem dX9_goMinute_175 : decode cX9_goMinute 175 = .ok (.getfield 22, 3) := by decide +kernel
theorem dX9_goMinute_178 : decode cX9_goMinute 178 = .ok (.iconst 1, 1) := by decide +kernel
theorem dX9_goMinute_179 : decode cX9_goMinute 179 = .ok (.iadd, 1) := by decide +kernel
theorem dX9_goMinute_180 : decode cX9_goMinute 180 = .ok (.putfield 22, 3) := by decide +kernel
theorem dX9_goMinute_183 : decode cX9_goMinute 183 = .ok (.return_, 1) := by decide +kernel
theorem dX9_goMinutes_0 : decode cX9_goMinutes 0 = .ok (.iconst 0, 1) := by decide +kernel
theorem dX9_goMinutes_1 : decode cX9_goMinutes 1 = .ok (.istore_n 2, 1) := by decide +kernel
theorem dX9_goMinutes_2 : decode cX9_goMinutes 2 = .ok (.iload_n 2, 1) := by decide +kernel
theorem dX9_goMinutes_3 : decode cX9_goMinutes 3 = .ok (.iload_n 1, 1) := by decide +kernel
theorem dX9_goMinutes_4 : decode cX9_goMinutes 4 = .ok (.if_icmp .ge 13, 3) := by decide +kernel
theorem dX9_goMinutes_7 : decode cX9_goMinutes 7 = .ok (.aload_n 0, 1) := by decide +kernel
theorem dX9_goMinutes_8 : decode cX9_goMinutes 8 = .ok (.invokevirtual 359, 3) := by decide +kernel
theorem dX9_goMinutes_11 : decode cX9_goMinutes 11 = .ok (.iinc 2 1, 3) := by decide +kernel
theorem dX9_goMinutes_14 : decode cX9_goMinutes 14 = .ok (.goto (-12), 3) := by decide +kernel
theorem dX9_goMinutes_17 : decode cX9_goMinutes 17 = .ok (.return_, 1) := by decide +kernel
theorem dX9_pass_0 : decode cX9_pass 0 = .ok (.aload_n 0, 1) := by decide +kernel
theorem dX9_pass_1 : decode cX9_pass 1 = .ok (.iload_n 1, 1) := by decide +kernel
theorem dX9_pass_2 : decode cX9_pass 2 = .ok (.invokevirtual 362, 3) := by decide +kernel
theorem dX9_pass_5 : decode cX9_pass 5 = .ok (.ifCond .ne 6, 3) := by decide +kernel
theorem dX9_pass_8 : decode cX9_pass 8 = .ok (.bipush (-2), 2) := by decide +kernel
theorem dX9_pass_10 : decode cX9_pass 10 = .ok (.ireturn, 1) := by decide +kernel
theorem dX9_pass_11 : decode cX9_pass 11 = .ok (.aload_n 0, 1) := by decide +kernel
theorem dX9_pass_12 : decode cX9_pass 12 = .ok (.getfield 22, 3) := by decide +kernel
theorem dX9_pass_15 : decode cX9_pass 15 = .ok (.iload_n 1, 1) := by decide +kernel
theorem dX9_pass_16 : decode cX9_pass 16 = .ok (.iadd, 1) := by decide +kernel
theorem dX9_pass_17 : decode cX9_pass 17 = .ok (.sipush 9999, 3) := by decide +kernel
theorem dX9_pass_20 : decode cX9_pass 20 = .ok (.if_icmp .le 6, 3) := by decide +kernel
theorem dX9_pass_23 : decode cX9_pass 23 = .ok (.bipush (-3), 2) := by decide +kernel
theorem dX9_pass_25 : decode cX9_pass 25 = .ok (.ireturn, 1) := by decide +kernel
theorem dX9_pass_26 : decode cX9_pass 26 = .ok (.aload_n 0, 1) := by decide +kernel
theorem dX9_pass_27 : decode cX9_pass 27 = .ok (.iload_n 1, 1) := by decide +kernel
theorem dX9_pass_28 : decode cX9_pass 28 = .ok (.invokevirtual 365, 3) := by decide +kernel
theorem dX9_pass_31 : decode cX9_pass 31 = .ok (.aload_n 0, 1) := by decide +kernel
theorem dX9_pass_32 : decode cX9_pass 32 = .ok (.getfield 22, 3) := by decide +kernel
theorem dX9_pass_35 : decode cX9_pass 35 = .ok (.ireturn, 1) := by decide +kernel
theorem dX9_save_0 : decode cX9_save 0 = .ok (.aload_n 0, 1) := by decide +kernel
theorem dX9_save_1 : decode cX9_save 1 = .ok (.aload_n 0, 1) := by decide +kernel
theorem dX9_save_2 : decode cX9_save 2 = .ok (.getfield 13, 3) := by decide +kernel
theorem dX9_save_5 : decode cX9_save 5 = .ok (.putfield 105, 3) := by decide +kernel
theorem dX9_save_8 : decode cX9_save 8 = .ok (.aload_n 0, 1) := by decide +kernel
theorem dX9_save_9 : decode cX9_save 9 = .ok (.aload_n 0, 1) := by decide +kernel
theorem dX9_save_10 : decode cX9_save 10 = .ok (.getfield 19, 3) := by decide +kernel
theorem dX9_save_13 : decode cX9_save 13 = .ok (.putfield 108, 3) := by decide +kernel
theorem dX9_save_16 : decode cX9_save 16 = .ok (.aload_n 0, 1) := by decide +kernel
theorem dX9_save_17 : decode cX9_save 17 = .ok (.aload_n 0, 1) := by decide +kernel
theorem dX9_save_18 : decode cX9_save 18 = .ok (.getfield 22, 3) := by decide +kernel
theorem dX9_save_21 : decode cX9_save 21 = .ok (.putfield 111, 3) := by decide +kernel
theorem dX9_save_24 : decode cX9_save 24 = .ok (.iconst 0, 1) := by decide +kernel
theorem dX9_save_25 : decode cX9_save 25 = .ok (.istore_n 1, 1) := by decide +kernel
theorem dX9_save_26 : decode cX9_save 26 = .ok (.iload_n 1, 1) := by decide +kernel
theorem dX9_save_27 : decode cX9_save 27 = .ok (.bipush 6, 2) := by decide +kernel
theorem dX9_save_29 : decode cX9_save 29 = .ok (.if_icmp .ge 21, 3) := by decide +kernel
theorem dX9_save_32 : decode cX9_save 32 = .ok (.aload_n 0, 1) := by decide +kernel
theorem dX9_save_33 : decode cX9_save 33 = .ok (.getfield 114, 3) := by decide +kernel
theorem dX9_save_36 : decode cX9_save 36 = .ok (.iload_n 1, 1) := by decide +kernel
theorem dX9_save_37 : decode cX9_save 37 = .ok (.aload_n 0, 1) := by decide +kernel
theorem dX9_save_38 : decode cX9_save 38 = .ok (.getfield 32, 3) := by decide +kernel
theorem dX9_save_41 : decode cX9_save 41 = .ok (.iload_n 1, 1) := by decide +kernel
theorem dX9_save_42 : decode cX9_save 42 = .ok (.iaload, 1) := by decide +kernel
theorem dX9_save_43 : decode cX9_save 43 = .ok (.iastore, 1) := by decide +kernel
theorem dX9_save_44 : decode cX9_save 44 = .ok (.iinc 1 1, 3) := by decide +kernel
theorem dX9_save_47 : decode cX9_save 47 = .ok (.goto (-21), 3) := by decide +kernel
theorem dX9_save_50 : decode cX9_save 50 = .ok (.iconst 0, 1) := by decide +kernel
theorem dX9_save_51 : decode cX9_save 51 = .ok (.istore_n 1, 1) := by decide +kernel
theorem dX9_save_52 : decode cX9_save 52 = .ok (.iload_n 1, 1) := by decide +kernel
theorem dX9_save_53 : decode cX9_save 53 = .ok (.iconst 4, 1) := by decide +kernel
theorem dX9_save_54 : decode cX9_save 54 = .ok (.if_icmp .ge 21, 3) := by decide +kernel
theorem dX9_save_57 : decode cX9_save 57 = .ok (.aload_n 0, 1) := by decide +kernel
theorem dX9_save_58 : decode cX9_save 58 = .ok (.getfield 117, 3) := by decide +kernel
theorem dX9_save_61 : decode cX9_save 61 = .ok (.iload_n 1, 1) := by decide +kernel
theorem dX9_save_62 : decode cX9_save 62 = .ok (.aload_n 0, 1) := by decide +kernel
theorem dX9_save_63 : decode cX9_save 63 = .ok (.getfield 44, 3) := by decide +kernel
theorem dX9_save_66 : decode cX9_save 66 = .ok (.iload_n 1, 1) := by decide +kernel
theorem dX9_save_67 : decode cX9_save 67 = .ok (.iaload, 1) := by decide +kernel
theorem dX9_save_68 : decode cX9_save 68 = .ok (.iastore, 1) := by decide +kernel
theorem dX9_save_69 : decode cX9_save 69 = .ok (.iinc 1 1, 3) := by decide +kernel
theorem dX9_save_72 : decode cX9_save 72 = .ok (.goto (-20), 3) := by decide +kernel
theorem dX9_save_75 : decode cX9_save 75 = .ok (.return_, 1) := by decide +kernel
theorem dX9_putBack_0 : decode cX9_putBack 0 = .ok (.aload_n 0, 1) := by decide +kernel
theorem dX9_putBack_1 : decode cX9_putBack 1 = .ok (.aload_n 0, 1) := by decide +kernel
theorem dX9_putBack_2 : decode cX9_putBack 2 = .ok (.getfield 105, 3) := by decide +kernel
theorem dX9_putBack_5 : decode cX9_putBack 5 = .ok (.putfield 13, 3) := by decide +kernel
theorem dX9_putBack_8 : decode cX9_putBack 8 = .ok (.aload_n 0, 1) := by decide +kernel
theorem dX9_putBack_9 : decode cX9_putBack 9 = .ok (.aload_n 0, 1) := by decide +kernel
theorem dX9_putBack_10 : decode cX9_putBack 10 = .ok (.getfield 108, 3) := by decide +kernel
theorem dX9_putBack_13 : decode cX9_putBack 13 = .ok (.putfield 19, 3) := by decide +kernel
theorem dX9_putBack_16 : decode cX9_putBack 16 = .ok (.aload_n 0, 1) := by decide +kernel
theorem dX9_putBack_17 : decode cX9_putBack 17 = .ok (.aload_n 0, 1) := by decide +kernel
theorem dX9_putBack_18 : decode cX9_putBack 18 = .ok (.getfield 111, 3) := by decide +kernel
theorem dX9_putBack_21 : decode cX9_putBack 21 = .ok (.putfield 22, 3) := by decide +kernel
theorem dX9_putBack_24 : decode cX9_putBack 24 = .ok (.iconst 0, 1) := by decide +kernel
theorem dX9_putBack_25 : decode cX9_putBack 25 = .ok (.istore_n 1, 1) := by decide +kernel
theorem dX9_putBack_26 : decode cX9_putBack 26 = .ok (.iload_n 1, 1) := by decide +kernel
theorem dX9_putBack_27 : decode cX9_putBack 27 = .ok (.bipush 6, 2) := by decide +kernel
theorem dX9_putBack_29 : decode cX9_putBack 29 = .ok (.if_icmp .ge 21, 3) := by decide +kernel
theorem dX9_putBack_32 : decode cX9_putBack 32 = .ok (.aload_n 0, 1) := by decide +kernel
theorem dX9_putBack_33 : decode cX9_putBack 33 = .ok (.getfield 32, 3) := by decide +kernel
theorem dX9_putBack_36 : decode cX9_putBack 36 = .ok (.iload_n 1, 1) := by decide +kernel
theorem dX9_putBack_37 : decode cX9_putBack 37 = .ok (.aload_n 0, 1) := by decide +kernel
theorem dX9_putBack_38 : decode cX9_putBack 38 = .ok (.getfield 114, 3) := by decide +kernel
theorem dX9_putBack_41 : decode cX9_putBack 41 = .ok (.iload_n 1, 1) := by decide +kernel
theorem dX9_putBack_42 : decode cX9_putBack 42 = .ok (.iaload, 1) := by decide +kernel
theorem dX9_putBack_43 : decode cX9_putBack 43 = .ok (.iastore, 1) := by decide +kernel
theorem dX9_putBack_44 : decode cX9_putBack 44 = .ok (.iinc 1 1, 3) := by decide +kernel
theorem dX9_putBack_47 : decode cX9_putBack 47 = .ok (.goto (-21), 3) := by decide +kernel
theorem dX9_putBack_50 : decode cX9_putBack 50 = .ok (.iconst 0, 1) := by decide +kernel
theorem dX9_putBack_51 : decode cX9_putBack 51 = .ok (.istore_n 1, 1) := by decide +kernel
theorem dX9_putBack_52 : decode cX9_putBack 52 = .ok (.iload_n 1, 1) := by decide +kernel
theorem dX9_putBack_53 : decode cX9_putBack 53 = .ok (.iconst 4, 1) := by decide +kernel
theorem dX9_putBack_54 : decode cX9_putBack 54 = .ok (.if_icmp .ge 21, 3) := by decide +kernel
theorem dX9_putBack_57 : decode cX9_putBack 57 = .ok (.aload_n 0, 1) := by decide +kernel
theorem dX9_putBack_58 : decode cX9_putBack 58 = .ok (.getfield 44, 3) := by decide +kernel
theorem dX9_putBack_61 : decode cX9_putBack 61 = .ok (.iload_n 1, 1) := by decide +kernel
theorem dX9_putBack_62 : decode cX9_putBack 62 = .ok (.aload_n 0, 1) := by decide +kernel
theorem dX9_putBack_63 : decode cX9_putBack 63 = .ok (.getfield 117, 3) := by decide +kernel
theorem dX9_putBack_66 : decode cX9_putBack 66 = .ok (.iload_n 1, 1) := by decide +kernel
theorem dX9_putBack_67 : decode cX9_putBack 67 = .ok (.iaload, 1) := by decide +kernel
theorem dX9_putBack_68 : decode cX9_putBack 68 = .ok (.iastore, 1) := by decide +kernel
theorem dX9_putBack_69 : decode cX9_putBack 69 = .ok (.iinc 1 1, 3) := by decide +kernel
theorem dX9_putBack_72 : decode cX9_putBack 72 = .ok (.goto (-20), 3) := by decide +kernel
theorem dX9_putBack_75 : decode cX9_putBack 75 = .ok (.return_, 1) := by decide +kernel
theorem dX9_ready_0 : decode cX9_ready 0 = .ok (.aload_n 0, 1) := by decide +kernel
theorem dX9_ready_1 : decode cX9_ready 1 = .ok (.invokevirtual 368, 3) := by decide +kernel
theorem dX9_ready_4 : decode cX9_ready 4 = .ok (.aload_n 0, 1) := by decide +kernel
theorem dX9_ready_5 : decode cX9_ready 5 = .ok (.iload_n 1, 1) := by decide +kernel
theorem dX9_ready_6 : decode cX9_ready 6 = .ok (.putfield 19, 3) := by decide +kernel
theorem dX9_ready_9 : decode cX9_ready 9 = .ok (.iconst 0, 1) := by decide +kernel
theorem dX9_ready_10 : decode cX9_ready 10 = .ok (.istore_n 2, 1) := by decide +kernel
theorem dX9_ready_11 : decode cX9_ready 11 = .ok (.iload_n 2, 1) := by decide +kernel
theorem dX9_ready_12 : decode cX9_ready 12 = .ok (.bipush 61, 2) := by decide +kernel
theorem dX9_ready_14 : decode cX9_ready 14 = .ok (.if_icmp .ge 21, 3) := by decide +kernel
theorem dX9_ready_17 : decode cX9_ready 17 = .ok (.aload_n 0, 1) := by decide +kernel
theorem dX9_ready_18 : decode cX9_ready 18 = .ok (.iload_n 1, 1) := by decide +kernel
theorem dX9_ready_19 : decode cX9_ready 19 = .ok (.invokevirtual 341, 3) := by decide +kernel
theorem dX9_ready_22 : decode cX9_ready 22 = .ok (.ifCond .ne 13, 3) := by decide +kernel
theorem dX9_ready_25 : decode cX9_ready 25 = .ok (.aload_n 0, 1) := by decide +kernel
theorem dX9_ready_26 : decode cX9_ready 26 = .ok (.invokevirtual 359, 3) := by decide +kernel
theorem dX9_ready_29 : decode cX9_ready 29 = .ok (.iinc 2 1, 3) := by decide +kernel
