/-! ===== decode rows ===== -/
theorem dX0_init_0 : decode cX0_init 0 = .ok (.aload_n 0, 1) := by decide +kernel
theorem dX0_init_1 : decode cX0_init 1 = .ok (.invokespecial 3, 3) := by decide +kernel
theorem dX0_init_4 : decode cX0_init 4 = .ok (.aload_n 0, 1) := by decide +kernel
theorem dX0_init_5 : decode cX0_init 5 = .ok (.bipush 20, 2) := by decide +kernel
theorem dX0_init_7 : decode cX0_init 7 = .ok (.newarray .int, 2) := by decide +kernel
theorem dX0_init_9 : decode cX0_init 9 = .ok (.putfield 9, 3) := by decide +kernel
theorem dX0_init_12 : decode cX0_init 12 = .ok (.return_, 1) := by decide +kernel
theorem dX0_start_0 : decode cX0_start 0 = .ok (.aload_n 0, 1) := by decide +kernel
theorem dX0_start_1 : decode cX0_start 1 = .ok (.iload_n 2, 1) := by decide +kernel
theorem dX0_start_2 : decode cX0_start 2 = .ok (.putfield 15, 3) := by decide +kernel
theorem dX0_start_5 : decode cX0_start 5 = .ok (.aload_n 0, 1) := by decide +kernel
theorem dX0_start_6 : decode cX0_start 6 = .ok (.aload_n 1, 1) := by decide +kernel
theorem dX0_start_7 : decode cX0_start 7 = .ok (.getfield 19, 3) := by decide +kernel
theorem dX0_start_10 : decode cX0_start 10 = .ok (.iload_n 2, 1) := by decide +kernel
theorem dX0_start_11 : decode cX0_start 11 = .ok (.iaload, 1) := by decide +kernel
theorem dX0_start_12 : decode cX0_start 12 = .ok (.putfield 24, 3) := by decide +kernel
theorem dX0_start_15 : decode cX0_start 15 = .ok (.aload_n 0, 1) := by decide +kernel
theorem dX0_start_16 : decode cX0_start 16 = .ok (.aload_n 1, 1) := by decide +kernel
theorem dX0_start_17 : decode cX0_start 17 = .ok (.getfield 26, 3) := by decide +kernel
theorem dX0_start_20 : decode cX0_start 20 = .ok (.iload_n 2, 1) := by decide +kernel
theorem dX0_start_21 : decode cX0_start 21 = .ok (.iaload, 1) := by decide +kernel
theorem dX0_start_22 : decode cX0_start 22 = .ok (.putfield 29, 3) := by decide +kernel
theorem dX0_start_25 : decode cX0_start 25 = .ok (.aload_n 0, 1) := by decide +kernel
theorem dX0_start_26 : decode cX0_start 26 = .ok (.aload_n 0, 1) := by decide +kernel
theorem dX0_start_27 : decode cX0_start 27 = .ok (.getfield 24, 3) := by decide +kernel
theorem dX0_start_30 : decode cX0_start 30 = .ok (.iload_n 3, 1) := by decide +kernel
theorem dX0_start_31 : decode cX0_start 31 = .ok (.iload 4, 2) := by decide +kernel
theorem dX0_start_33 : decode cX0_start 33 = .ok (.iconst 0, 1) := by decide +kernel
theorem dX0_start_34 : decode cX0_start 34 = .ok (.invokevirtual 31, 3) := by decide +kernel
theorem dX0_start_37 : decode cX0_start 37 = .ok (.ireturn, 1) := by decide +kernel
theorem dX0_run_0 : decode cX0_run 0 = .ok (.iload_n 1, 1) := by decide +kernel
theorem dX0_run_1 : decode cX0_run 1 = .ok (.iload_n 2, 1) := by decide +kernel
theorem dX0_run_2 : decode cX0_run 2 = .ok (.invokestatic 35, 3) := by decide +kernel
theorem dX0_run_5 : decode cX0_run 5 = .ok (.istore 5, 2) := by decide +kernel
theorem dX0_run_7 : decode cX0_run 7 = .ok (.iload 5, 2) := by decide +kernel
theorem dX0_run_9 : decode cX0_run 9 = .ok (.ifCond .eq 10, 3) := by decide +kernel
theorem dX0_run_12 : decode cX0_run 12 = .ok (.iload 4, 2) := by decide +kernel
theorem dX0_run_14 : decode cX0_run 14 = .ok (.bipush 20, 2) := by decide +kernel
theorem dX0_run_16 : decode cX0_run 16 = .ok (.if_icmp .lt 5, 3) := by decide +kernel
theorem dX0_run_19 : decode cX0_run 19 = .ok (.iconst 0, 1) := by decide +kernel
theorem dX0_run_20 : decode cX0_run 20 = .ok (.ireturn, 1) := by decide +kernel
theorem dX0_run_21 : decode cX0_run 21 = .ok (.aload_n 0, 1) := by decide +kernel
theorem dX0_run_22 : decode cX0_run 22 = .ok (.iload 5, 2) := by decide +kernel
theorem dX0_run_24 : decode cX0_run 24 = .ok (.invokevirtual 39, 3) := by decide +kernel
theorem dX0_run_27 : decode cX0_run 27 = .ok (.getstatic 43, 3) := by decide +kernel
theorem dX0_run_30 : decode cX0_run 30 = .ok (.iload 5, 2) := by decide +kernel
theorem dX0_run_32 : decode cX0_run 32 = .ok (.bipush 10, 2) := by decide +kernel
theorem dX0_run_34 : decode cX0_run 34 = .ok (.idiv, 1) := by decide +kernel
theorem dX0_run_35 : decode cX0_run 35 = .ok (.iconst 1, 1) := by decide +kernel
theorem dX0_run_36 : decode cX0_run 36 = .ok (.isub, 1) := by decide +kernel
theorem dX0_run_37 : decode cX0_run 37 = .ok (.iaload, 1) := by decide +kernel
theorem dX0_run_38 : decode cX0_run 38 = .ok (.istore 6, 2) := by decide +kernel
theorem dX0_run_40 : decode cX0_run 40 = .ok (.iload 4, 2) := by decide +kernel
theorem dX0_run_42 : decode cX0_run 42 = .ok (.iconst 1, 1) := by decide +kernel
theorem dX0_run_43 : decode cX0_run 43 = .ok (.iadd, 1) := by decide +kernel
theorem dX0_run_44 : decode cX0_run 44 = .ok (.istore 7, 2) := by decide +kernel
theorem dX0_run_46 : decode cX0_run 46 = .ok (.iload 5, 2) := by decide +kernel
theorem dX0_run_48 : decode cX0_run 48 = .ok (.lookupswitch 270 #[(10, 100), (11, 107), (12, 125), (20, 140), (30, 154), (40, 167), (50, 191), (51, 203), (60, 216), (70, 232), (71, 254)], 100) := by decide +kernel
theorem dX0_run_148 : decode cX0_run 148 = .ok (.iload_n 3, 1) := by decide +kernel
theorem dX0_run_149 : decode cX0_run 149 = .ok (.aload_n 0, 1) := by decide +kernel
theorem dX0_run_150 : decode cX0_run 150 = .ok (.getfield 15, 3) := by decide +kernel
theorem dX0_run_153 : decode cX0_run 153 = .ok (.iadd, 1) := by decide +kernel
theorem dX0_run_154 : decode cX0_run 154 = .ok (.ireturn, 1) := by decide +kernel
theorem dX0_run_155 : decode cX0_run 155 = .ok (.aload_n 0, 1) := by decide +kernel
theorem dX0_run_156 : decode cX0_run 156 = .ok (.aload_n 0, 1) := by decide +kernel
theorem dX0_run_157 : decode cX0_run 157 = .ok (.getfield 24, 3) := by decide +kernel
theorem dX0_run_160 : decode cX0_run 160 = .ok (.iconst 0, 1) := by decide +kernel
theorem dX0_run_161 : decode cX0_run 161 = .ok (.iload_n 3, 1) := by decide +kernel
theorem dX0_run_162 : decode cX0_run 162 = .ok (.iload 7, 2) := by decide +kernel
theorem dX0_run_164 : decode cX0_run 164 = .ok (.invokevirtual 31, 3) := by decide +kernel
theorem dX0_run_167 : decode cX0_run 167 = .ok (.aload_n 0, 1) := by decide +kernel
theorem dX0_run_168 : decode cX0_run 168 = .ok (.getfield 29, 3) := by decide +kernel
theorem dX0_run_171 : decode cX0_run 171 = .ok (.isub, 1) := by decide +kernel
theorem dX0_run_172 : decode cX0_run 172 = .ok (.ireturn, 1) := by decide +kernel
theorem dX0_run_173 : decode cX0_run 173 = .ok (.aload_n 0, 1) := by decide +kernel
theorem dX0_run_174 : decode cX0_run 174 = .ok (.aload_n 0, 1) := by decide +kernel
theorem dX0_run_175 : decode cX0_run 175 = .ok (.getfield 24, 3) := by decide +kernel
theorem dX0_run_178 : decode cX0_run 178 = .ok (.iconst 1, 1) := by decide +kernel
theorem dX0_run_179 : decode cX0_run 179 = .ok (.iload_n 3, 1) := by decide +kernel
theorem dX0_run_180 : decode cX0_run 180 = .ok (.iload 7, 2) := by decide +kernel
theorem dX0_run_182 : decode cX0_run 182 = .ok (.invokevirtual 31, 3) := by decide +kernel
theorem dX0_run_185 : decode cX0_run 185 = .ok (.iconst 2, 1) := by decide +kernel
theorem dX0_run_186 : decode cX0_run 186 = .ok (.imul, 1) := by decide +kernel
theorem dX0_run_187 : decode cX0_run 187 = .ok (.ireturn, 1) := by decide +kernel
theorem dX0_run_188 : decode cX0_run 188 = .ok (.aload_n 0, 1) := by decide +kernel
theorem dX0_run_189 : decode cX0_run 189 = .ok (.iload 6, 2) := by decide +kernel
theorem dX0_run_191 : decode cX0_run 191 = .ok (.iconst 1, 1) := by decide +kernel
theorem dX0_run_192 : decode cX0_run 192 = .ok (.iload_n 3, 1) := by decide +kernel
theorem dX0_run_193 : decode cX0_run 193 = .ok (.iload 7, 2) := by decide +kernel
theorem dX0_run_195 : decode cX0_run 195 = .ok (.invokevirtual 31, 3) := by decide +kernel
theorem dX0_run_198 : decode cX0_run 198 = .ok (.bipush 6, 2) := by decide +kernel
theorem dX0_run_200 : decode cX0_run 200 = .ok (.ixor, 1) := by decide +kernel
theorem dX0_run_201 : decode cX0_run 201 = .ok (.ireturn, 1) := by decide +kernel
theorem dX0_run_202 : decode cX0_run 202 = .ok (.aload_n 0, 1) := by decide +kernel
theorem dX0_run_203 : decode cX0_run 203 = .ok (.iload 6, 2) := by decide +kernel
theorem dX0_run_205 : decode cX0_run 205 = .ok (.iconst 0, 1) := by decide +kernel
theorem dX0_run_206 : decode cX0_run 206 = .ok (.iload_n 3, 1) := by decide +kernel
theorem dX0_run_207 : decode cX0_run 207 = .ok (.iconst 3, 1) := by decide +kernel
theorem dX0_run_208 : decode cX0_run 208 = .ok (.imul, 1) := by decide +kernel
theorem dX0_run_209 : decode cX0_run 209 = .ok (.iload 7, 2) := by decide +kernel
theorem dX0_run_211 : decode cX0_run 211 = .ok (.invokevirtual 31, 3) := by decide +kernel
theorem dX0_run_214 : decode cX0_run 214 = .ok (.ireturn, 1) := by decide +kernel
theorem dX0_run_215 : decode cX0_run 215 = .ok (.aload_n 0, 1) := by decide +kernel
theorem dX0_run_216 : decode cX0_run 216 = .ok (.iload 6, 2) := by decide +kernel
theorem dX0_run_218 : decode cX0_run 218 = .ok (.iconst 2, 1) := by decide +kernel
theorem dX0_run_219 : decode cX0_run 219 = .ok (.iload_n 3, 1) := by decide +kernel
theorem dX0_run_220 : decode cX0_run 220 = .ok (.iload 7, 2) := by decide +kernel
theorem dX0_run_222 : decode cX0_run 222 = .ok (.invokevirtual 31, 3) := by decide +kernel
theorem dX0_run_225 : decode cX0_run 225 = .ok (.aload_n 0, 1) := by decide +kernel
theorem dX0_run_226 : decode cX0_run 226 = .ok (.aload_n 0, 1) := by decide +kernel
theorem dX0_run_227 : decode cX0_run 227 = .ok (.getfield 24, 3) := by decide +kernel
theorem dX0_run_230 : decode cX0_run 230 = .ok (.iconst 1, 1) := by decide +kernel
theorem dX0_run_231 : decode cX0_run 231 = .ok (.iconst 1, 1) := by decide +kernel
theorem dX0_run_232 : decode cX0_run 232 = .ok (.iload 7, 2) := by decide +kernel
theorem dX0_run_234 : decode cX0_run 234 = .ok (.invokevirtual 31, 3) := by decide +kernel
theorem dX0_run_237 : decode cX0_run 237 = .ok (.iadd, 1) := by decide +kernel
theorem dX0_run_238 : decode cX0_run 238 = .ok (.ireturn, 1) := by decide +kernel
theorem dX0_run_239 : decode cX0_run 239 = .ok (.aload_n 0, 1) := by decide +kernel
theorem dX0_run_240 : decode cX0_run 240 = .ok (.iload 6, 2) := by decide +kernel
theorem dX0_run_242 : decode cX0_run 242 = .ok (.iconst 0, 1) := by decide +kernel
theorem dX0_run_243 : decode cX0_run 243 = .ok (.iload_n 3, 1) := by decide +kernel
theorem dX0_run_244 : decode cX0_run 244 = .ok (.iload 7, 2) := by decide +kernel
theorem dX0_run_246 : decode cX0_run 246 = .ok (.invokevirtual 31, 3) := by decide +kernel
theorem dX0_run_249 : decode cX0_run 249 = .ok (.ineg, 1) := by decide +kernel
theorem dX0_run_250 : decode cX0_run 250 = .ok (.ireturn, 1) := by decide +kernel
theorem dX0_run_251 : decode cX0_run 251 = .ok (.aload_n 0, 1) := by decide +kernel
theorem dX0_run_252 : decode cX0_run 252 = .ok (.iload 6, 2) := by decide +kernel
theorem dX0_run_254 : decode cX0_run 254 = .ok (.iconst 1, 1) := by decide +kernel
theorem dX0_run_255 : decode cX0_run 255 = .ok (.iload_n 3, 1) := by decide +kernel
theorem dX0_run_256 : decode cX0_run 256 = .ok (.iconst 1, 1) := by decide +kernel
theorem dX0_run_257 : decode cX0_run 257 = .ok (.iadd, 1) := by decide +kernel
theorem dX0_run_258 : decode cX0_run 258 = .ok (.iload 7, 2) := by decide +kernel
theorem dX0_run_260 : decode cX0_run 260 = .ok (.invokevirtual 31, 3) := by decide +kernel
theorem dX0_run_263 : decode cX0_run 263 = .ok (.ireturn, 1) := by decide +kernel
theorem dX0_run_264 : decode cX0_run 264 = .ok (.aload_n 0, 1) := by decide +kernel
theorem dX0_run_265 : decode cX0_run 265 = .ok (.iload 6, 2) := by decide +kernel
theorem dX0_run_267 : decode cX0_run 267 = .ok (.iconst 2, 1) := by decide +kernel
theorem dX0_run_268 : decode cX0_run 268 = .ok (.iload_n 3, 1) := by decide +kernel
theorem dX0_run_269 : decode cX0_run 269 = .ok (.aload_n 0, 1) := by decide +kernel
theorem dX0_run_270 : decode cX0_run 270 = .ok (.getfield 15, 3) := by decide +kernel
theorem dX0_run_273 : decode cX0_run 273 = .ok (.isub, 1) := by decide +kernel
theorem dX0_run_274 : decode cX0_run 274 = .ok (.iload 7, 2) := by decide +kernel
theorem dX0_run_276 : decode cX0_run 276 = .ok (.invokevirtual 31, 3) := by decide +kernel
theorem dX0_run_279 : decode cX0_run 279 = .ok (.ireturn, 1) := by decide +kernel
theorem dX0_run_280 : decode cX0_run 280 = .ok (.aload_n 0, 1) := by decide +kernel
theorem dX0_run_281 : decode cX0_run 281 = .ok (.iload 6, 2) := by decide +kernel
theorem dX0_run_283 : decode cX0_run 283 = .ok (.iconst 1, 1) := by decide +kernel
theorem dX0_run_284 : decode cX0_run 284 = .ok (.iload_n 3, 1) := by decide +kernel
theorem dX0_run_285 : decode cX0_run 285 = .ok (.iload 7, 2) := by decide +kernel
theorem dX0_run_287 : decode cX0_run 287 = .ok (.invokevirtual 31, 3) := by decide +kernel
theorem dX0_run_290 : decode cX0_run 290 = .ok (.aload_n 0, 1) := by decide +kernel
theorem dX0_run_291 : decode cX0_run 291 = .ok (.iload 6, 2) := by decide +kernel
theorem dX0_run_293 : decode cX0_run 293 = .ok (.iconst 0, 1) := by decide +kernel
theorem dX0_run_294 : decode cX0_run 294 = .ok (.iconst 2, 1) := by decide +kernel
theorem dX0_run_295 : decode cX0_run 295 = .ok (.iload 7, 2) := by decide +kernel
theorem dX0_run_297 : decode cX0_run 297 = .ok (.invokevirtual 31, 3) := by decide +kernel
theorem dX0_run_300 : decode cX0_run 300 = .ok (.iadd, 1) := by decide +kernel
theorem dX0_run_301 : decode cX0_run 301 = .ok (.ireturn, 1) := by decide +kernel
theorem dX0_run_302 : decode cX0_run 302 = .ok (.aload_n 0, 1) := by decide +kernel
theorem dX0_run_303 : decode cX0_run 303 = .ok (.iload 6, 2) := by decide +kernel
theorem dX0_run_305 : decode cX0_run 305 = .ok (.iconst 0, 1) := by decide +kernel
theorem dX0_run_306 : decode cX0_run 306 = .ok (.iload_n 3, 1) := by decide +kernel
theorem dX0_run_307 : decode cX0_run 307 = .ok (.iload 7, 2) := by decide +kernel
theorem dX0_run_309 : decode cX0_run 309 = .ok (.invokevirtual 31, 3) := by decide +kernel
theorem dX0_run_312 : decode cX0_run 312 = .ok (.aload_n 0, 1) := by decide +kernel
theorem dX0_run_313 : decode cX0_run 313 = .ok (.getfield 29, 3) := by decide +kernel
theorem dX0_run_316 : decode cX0_run 316 = .ok (.ixor, 1) := by decide +kernel
theorem dX0_run_317 : decode cX0_run 317 = .ok (.ireturn, 1) := by decide +kernel
theorem dX0_run_318 : decode cX0_run 318 = .ok (.iconst 0, 1) := by decide +kernel
theorem dX0_run_319 : decode cX0_run 319 = .ok (.ireturn, 1) := by decide +kernel
theorem dX0_bodyOf_0 : decode cX0_bodyOf 0 = .ok (.iload_n 0, 1) := by decide +kernel
theorem dX0_bodyOf_1 : decode cX0_bodyOf 1 = .ok (.istore_n 2, 1) := by decide +kernel
theorem dX0_bodyOf_2 : decode cX0_bodyOf 2 = .ok (.iconst 0, 1) := by decide +kernel
theorem dX0_bodyOf_3 : decode cX0_bodyOf 3 = .ok (.istore_n 3, 1) := by decide +kernel
theorem dX0_bodyOf_4 : decode cX0_bodyOf 4 = .ok (.iload_n 3, 1) := by decide +kernel
theorem dX0_bodyOf_5 : decode cX0_bodyOf 5 = .ok (.getstatic 43, 3) := by decide +kernel
theorem dX0_bodyOf_8 : decode cX0_bodyOf 8 = .ok (.arraylength, 1) := by decide +kernel
theorem dX0_bodyOf_9 : decode cX0_bodyOf 9 = .ok (.if_icmp .ge 44, 3) := by decide +kernel
theorem dX0_bodyOf_12 : decode cX0_bodyOf 12 = .ok (.iload_n 2, 1) := by decide +kernel
theorem dX0_bodyOf_13 : decode cX0_bodyOf 13 = .ok (.iconst 0, 1) := by decide +kernel
theorem dX0_bodyOf_14 : decode cX0_bodyOf 14 = .ok (.bipush 6, 2) := by decide +kernel
theorem dX0_bodyOf_16 : decode cX0_bodyOf 16 = .ok (.invokestatic 46, 3) := by decide +kernel
theorem dX0_bodyOf_19 : decode cX0_bodyOf 19 = .ok (.ifCond .eq 34, 3) := by decide +kernel
theorem dX0_bodyOf_22 : decode cX0_bodyOf 22 = .ok (.getstatic 50, 3) := by decide +kernel
theorem dX0_bodyOf_25 : decode cX0_bodyOf 25 = .ok (.iload_n 2, 1) := by decide +kernel
theorem dX0_bodyOf_26 : decode cX0_bodyOf 26 = .ok (.iconst 3, 1) := by decide +kernel
theorem dX0_bodyOf_27 : decode cX0_bodyOf 27 = .ok (.imul, 1) := by decide +kernel
theorem dX0_bodyOf_28 : decode cX0_bodyOf 28 = .ok (.iload_n 1, 1) := by decide +kernel
theorem dX0_bodyOf_29 : decode cX0_bodyOf 29 = .ok (.iadd, 1) := by decide +kernel
theorem dX0_bodyOf_30 : decode cX0_bodyOf 30 = .ok (.iaload, 1) := by decide +kernel
theorem dX0_bodyOf_31 : decode cX0_bodyOf 31 = .ok (.istore 4, 2) := by decide +kernel
theorem dX0_bodyOf_33 : decode cX0_bodyOf 33 = .ok (.iload 4, 2) := by decide +kernel
theorem dX0_bodyOf_35 : decode cX0_bodyOf 35 = .ok (.ifCond .eq 6, 3) := by decide +kernel
theorem dX0_bodyOf_38 : decode cX0_bodyOf 38 = .ok (.iload 4, 2) := by decide +kernel
theorem dX0_bodyOf_40 : decode cX0_bodyOf 40 = .ok (.ireturn, 1) := by decide +kernel
theorem dX0_bodyOf_41 : decode cX0_bodyOf 41 = .ok (.getstatic 43, 3) := by decide +kernel
theorem dX0_bodyOf_44 : decode cX0_bodyOf 44 = .ok (.iload_n 2, 1) := by decide +kernel
theorem dX0_bodyOf_45 : decode cX0_bodyOf 45 = .ok (.iaload, 1) := by decide +kernel
theorem dX0_bodyOf_46 : decode cX0_bodyOf 46 = .ok (.istore_n 2, 1) := by decide +kernel
theorem dX0_bodyOf_47 : decode cX0_bodyOf 47 = .ok (.iinc 3 1, 3) := by decide +kernel
theorem dX0_bodyOf_50 : decode cX0_bodyOf 50 = .ok (.goto (-46), 3) := by decide +kernel
theorem dX0_bodyOf_53 : decode cX0_bodyOf 53 = .ok (.iconst 0, 1) := by decide +kernel
theorem dX0_bodyOf_54 : decode cX0_bodyOf 54 = .ok (.ireturn, 1) := by decide +kernel
theorem dX0_note_0 : decode cX0_note 0 = .ok (.aload_n 0, 1) := by decide +kernel
theorem dX0_note_1 : decode cX0_note 1 = .ok (.getfield 53, 3) := by decide +kernel
theorem dX0_note_4 : decode cX0_note 4 = .ok (.aload_n 0, 1) := by decide +kernel
theorem dX0_note_5 : decode cX0_note 5 = .ok (.getfield 9, 3) := by decide +kernel
theorem dX0_note_8 : decode cX0_note 8 = .ok (.arraylength, 1) := by decide +kernel
theorem dX0_note_9 : decode cX0_note 9 = .ok (.if_icmp .ge 13, 3) := by decide +kernel
theorem dX0_note_12 : decode cX0_note 12 = .ok (.aload_n 0, 1) := by decide +kernel
theorem dX0_note_13 : decode cX0_note 13 = .ok (.getfield 9, 3) := by decide +kernel
theorem dX0_note_16 : decode cX0_note 16 = .ok (.aload_n 0, 1) := by decide +kernel
theorem dX0_note_17 : decode cX0_note 17 = .ok (.getfield 53, 3) := by decide +kernel
theorem dX0_note_20 : decode cX0_note 20 = .ok (.iload_n 1, 1) := by decide +kernel
theorem dX0_note_21 : decode cX0_note 21 = .ok (.iastore, 1) := by decide +kernel
theorem dX0_note_22 : decode cX0_note 22 = .ok (.aload_n 0, 1) := by decide +kernel
theorem dX0_note_23 : decode cX0_note 23 = .ok (.dup, 1) := by decide +kernel
theorem dX0_note_24 : decode cX0_note 24 = .ok (.getfield 53, 3) := by decide +kernel
theorem dX0_note_27 : decode cX0_note 27 = .ok (.iconst 1, 1) := by decide +kernel
theorem dX0_note_28 : decode cX0_note 28 = .ok (.iadd, 1) := by decide +kernel
theorem dX0_note_29 : decode cX0_note 29 = .ok (.putfield 53, 3) := by decide +kernel
theorem dX0_note_32 : decode cX0_note 32 = .ok (.return_, 1) := by decide +kernel
theorem dX1_init_0 : decode cX1_init 0 = .ok (.aload_n 0, 1) := by decide +kernel
theorem dX1_init_1 : decode cX1_init 1 = .ok (.invokespecial 3, 3) := by decide +kernel
theorem dX1_init_4 : decode cX1_init 4 = .ok (.aload_n 0, 1) := by decide +kernel
theorem dX1_init_5 : decode cX1_init 5 = .ok (.iconst 4, 1) := by decide +kernel
theorem dX1_init_6 : decode cX1_init 6 = .ok (.newarray .int, 2) := by decide +kernel
theorem dX1_init_8 : decode cX1_init 8 = .ok (.putfield 9, 3) := by decide +kernel
theorem dX1_init_11 : decode cX1_init 11 = .ok (.aload_n 0, 1) := by decide +kernel
theorem dX1_init_12 : decode cX1_init 12 = .ok (.new 15, 3) := by decide +kernel
theorem dX1_init_15 : decode cX1_init 15 = .ok (.dup, 1) := by decide +kernel
theorem dX1_init_16 : decode cX1_init 16 = .ok (.invokespecial 17, 3) := by decide +kernel
theorem dX1_init_19 : decode cX1_init 19 = .ok (.putfield 18, 3) := by decide +kernel
theorem dX1_init_22 : decode cX1_init 22 = .ok (.aload_n 0, 1) := by decide +kernel
theorem dX1_init_23 : decode cX1_init 23 = .ok (.iconst 4, 1) := by decide +kernel
theorem dX1_init_24 : decode cX1_init 24 = .ok (.newarray .int, 2) := by decide +kernel
theorem dX1_init_26 : decode cX1_init 26 = .ok (.putfield 22, 3) := by decide +kernel
theorem dX1_init_29 : decode cX1_init 29 = .ok (.aload_n 0, 1) := by decide +kernel
theorem dX1_init_30 : decode cX1_init 30 = .ok (.aload_n 1, 1) := by decide +kernel
theorem dX1_init_31 : decode cX1_init 31 = .ok (.putfield 25, 3) := by decide +kernel
theorem dX1_init_34 : decode cX1_init 34 = .ok (.aload_n 0, 1) := by decide +kernel
theorem dX1_init_35 : decode cX1_init 35 = .ok (.aload_n 2, 1) := by decide +kernel
theorem dX1_init_36 : decode cX1_init 36 = .ok (.putfield 28, 3) := by decide +kernel
theorem dX1_init_39 : decode cX1_init 39 = .ok (.return_, 1) := by decide +kernel
theorem dX1_behind_0 : decode cX1_behind 0 = .ok (.aload_n 0, 1) := by decide +kernel
theorem dX1_behind_1 : decode cX1_behind 1 = .ok (.getfield 18, 3) := by decide +kernel
theorem dX1_behind_4 : decode cX1_behind 4 = .ok (.aload_n 0, 1) := by decide +kernel
theorem dX1_behind_5 : decode cX1_behind 5 = .ok (.getfield 25, 3) := by decide +kernel
theorem dX1_behind_8 : decode cX1_behind 8 = .ok (.invokevirtual 32, 3) := by decide +kernel
theorem dX1_behind_11 : decode cX1_behind 11 = .ok (.aload_n 0, 1) := by decide +kernel
theorem dX1_behind_12 : decode cX1_behind 12 = .ok (.getfield 18, 3) := by decide +kernel
theorem dX1_behind_15 : decode cX1_behind 15 = .ok (.iload_n 1, 1) := by decide +kernel
theorem dX1_behind_16 : decode cX1_behind 16 = .ok (.invokevirtual 36, 3) := by decide +kernel
theorem dX1_behind_19 : decode cX1_behind 19 = .ok (.aload_n 0, 1) := by decide +kernel
theorem dX1_behind_20 : decode cX1_behind 20 = .ok (.getfield 18, 3) := by decide +kernel
theorem dX1_behind_23 : decode cX1_behind 23 = .ok (.areturn, 1) := by decide +kernel
theorem dX1_minutesUntilDone_0 : decode cX1_minutesUntilDone 0 = .ok (.aload_n 0, 1) := by decide +kernel
theorem dX1_minutesUntilDone_1 : decode cX1_minutesUntilDone 1 = .ok (.getfield 18, 3) := by decide +kernel
theorem dX1_minutesUntilDone_4 : decode cX1_minutesUntilDone 4 = .ok (.aload_n 0, 1) := by decide +kernel
theorem dX1_minutesUntilDone_5 : decode cX1_minutesUntilDone 5 = .ok (.getfield 25, 3) := by decide +kernel
theorem dX1_minutesUntilDone_8 : decode cX1_minutesUntilDone 8 = .ok (.invokevirtual 32, 3) := by decide +kernel
theorem dX1_minutesUntilDone_11 : decode cX1_minutesUntilDone 11 = .ok (.aload_n 0, 1) := by decide +kernel
theorem dX1_minutesUntilDone_12 : decode cX1_minutesUntilDone 12 = .ok (.getfield 18, 3) := by decide +kernel
theorem dX1_minutesUntilDone_15 : decode cX1_minutesUntilDone 15 = .ok (.iload_n 1, 1) := by decide +kernel
theorem dX1_minutesUntilDone_16 : decode cX1_minutesUntilDone 16 = .ok (.putfield 40, 3) := by decide +kernel
theorem dX1_minutesUntilDone_19 : decode cX1_minutesUntilDone 19 = .ok (.iconst 0, 1) := by decide +kernel
theorem dX1_minutesUntilDone_20 : decode cX1_minutesUntilDone 20 = .ok (.istore_n 2, 1) := by decide +kernel
theorem dX1_minutesUntilDone_21 : decode cX1_minutesUntilDone 21 = .ok (.iload_n 2, 1) := by decide +kernel
theorem dX1_minutesUntilDone_22 : decode cX1_minutesUntilDone 22 = .ok (.bipush 60, 2) := by decide +kernel
theorem dX1_minutesUntilDone_24 : decode cX1_minutesUntilDone 24 = .ok (.if_icmp .gt 29, 3) := by decide +kernel
theorem dX1_minutesUntilDone_27 : decode cX1_minutesUntilDone 27 = .ok (.aload_n 0, 1) := by decide +kernel
theorem dX1_minutesUntilDone_28 : decode cX1_minutesUntilDone 28 = .ok (.getfield 18, 3) := by decide +kernel
theorem dX1_minutesUntilDone_31 : decode cX1_minutesUntilDone 31 = .ok (.iload_n 1, 1) := by decide +kernel
theorem dX1_minutesUntilDone_32 : decode cX1_minutesUntilDone 32 = .ok (.invokevirtual 44, 3) := by decide +kernel
theorem dX1_minutesUntilDone_35 : decode cX1_minutesUntilDone 35 = .ok (.ifCond .eq 5, 3) := by decide +kernel
theorem dX1_minutesUntilDone_38 : decode cX1_minutesUntilDone 38 = .ok (.iload_n 2, 1) := by decide +kernel
theorem dX1_minutesUntilDone_39 : decode cX1_minutesUntilDone 39 = .ok (.ireturn, 1) := by decide +kernel
theorem dX1_minutesUntilDone_40 : decode cX1_minutesUntilDone 40 = .ok (.aload_n 0, 1) := by decide +kernel
theorem dX1_minutesUntilDone_41 : decode cX1_minutesUntilDone 41 = .ok (.getfield 18, 3) := by decide +kernel
theorem dX1_minutesUntilDone_44 : decode cX1_minutesUntilDone 44 = .ok (.invokevirtual 48, 3) := by decide +kernel
theorem dX1_minutesUntilDone_47 : decode cX1_minutesUntilDone 47 = .ok (.iinc 2 1, 3) := by decide +kernel
theorem dX1_minutesUntilDone_50 : decode cX1_minutesUntilDone 50 = .ok (.goto (-29), 3) := by decide +kernel
theorem dX1_minutesUntilDone_53 : decode cX1_minutesUntilDone 53 = .ok (.bipush (-5), 2) := by decide +kernel
theorem dX1_minutesUntilDone_55 : decode cX1_minutesUntilDone 55 = .ok (.ireturn, 1) := by decide +kernel
theorem dX1_findBestRow_0 : decode cX1_findBestRow 0 = .ok (.aload_n 0, 1) := by decide +kernel
theorem dX1_findBestRow_1 : decode cX1_findBestRow 1 = .ok (.getfield 25, 3) := by decide +kernel
theorem dX1_findBestRow_4 : decode cX1_findBestRow 4 = .ok (.getfield 51, 3) := by decide +kernel
theorem dX1_findBestRow_7 : decode cX1_findBestRow 7 = .ok (.iconst 4, 1) := by decide +kernel
theorem dX1_findBestRow_8 : decode cX1_findBestRow 8 = .ok (.invokestatic 54, 3) := by decide +kernel
theorem dX1_findBestRow_11 : decode cX1_findBestRow 11 = .ok (.istore_n 2, 1) := by decide +kernel
theorem dX1_findBestRow_12 : decode cX1_findBestRow 12 = .ok (.iconst (-1), 1) := by decide +kernel
theorem dX1_findBestRow_13 : decode cX1_findBestRow 13 = .ok (.istore_n 3, 1) := by decide +kernel
theorem dX1_findBestRow_14 : decode cX1_findBestRow 14 = .ok (.iconst 0, 1) := by decide +kernel
theorem dX1_findBestRow_15 : decode cX1_findBestRow 15 = .ok (.istore 4, 2) := by decide +kernel
theorem dX1_findBestRow_17 : decode cX1_findBestRow 17 = .ok (.iconst 0, 1) := by decide +kernel
theorem dX1_findBestRow_18 : decode cX1_findBestRow 18 = .ok (.istore 5, 2) := by decide +kernel
theorem dX1_findBestRow_20 : decode cX1_findBestRow 20 = .ok (.iload 5, 2) := by decide +kernel
theorem dX1_findBestRow_22 : decode cX1_findBestRow 22 = .ok (.getstatic 60, 3) := by decide +kernel
theorem dX1_findBestRow_25 : decode cX1_findBestRow 25 = .ok (.iload_n 2, 1) := by decide +kernel
theorem dX1_findBestRow_26 : decode cX1_findBestRow 26 = .ok (.iaload, 1) := by decide +kernel
theorem dX1_findBestRow_27 : decode cX1_findBestRow 27 = .ok (.if_icmp .ge 77, 3) := by decide +kernel
theorem dX1_findBestRow_30 : decode cX1_findBestRow 30 = .ok (.iload 4, 2) := by decide +kernel
theorem dX1_findBestRow_32 : decode cX1_findBestRow 32 = .ok (.getstatic 60, 3) := by decide +kernel
theorem dX1_findBestRow_35 : decode cX1_findBestRow 35 = .ok (.iload_n 2, 1) := by decide +kernel
theorem dX1_findBestRow_36 : decode cX1_findBestRow 36 = .ok (.iaload, 1) := by decide +kernel
theorem dX1_findBestRow_37 : decode cX1_findBestRow 37 = .ok (.if_icmp .ge 67, 3) := by decide +kernel
theorem dX1_findBestRow_40 : decode cX1_findBestRow 40 = .ok (.iload_n 3, 1) := by decide +kernel
theorem dX1_findBestRow_41 : decode cX1_findBestRow 41 = .ok (.iload_n 2, 1) := by decide +kernel
theorem dX1_findBestRow_42 : decode cX1_findBestRow 42 = .ok (.if_icmp .ge 62, 3) := by decide +kernel
theorem dX1_findBestRow_45 : decode cX1_findBestRow 45 = .ok (.aload_n 0, 1) := by decide +kernel
theorem dX1_findBestRow_46 : decode cX1_findBestRow 46 = .ok (.iload_n 2, 1) := by decide +kernel
theorem dX1_findBestRow_47 : decode cX1_findBestRow 47 = .ok (.iload 4, 2) := by decide +kernel
theorem dX1_findBestRow_49 : decode cX1_findBestRow 49 = .ok (.invokevirtual 63, 3) := by decide +kernel
theorem dX1_findBestRow_52 : decode cX1_findBestRow 52 = .ok (.aload_n 0, 1) := by decide +kernel
theorem dX1_findBestRow_53 : decode cX1_findBestRow 53 = .ok (.iload_n 2, 1) := by decide +kernel
theorem dX1_findBestRow_54 : decode cX1_findBestRow 54 = .ok (.iload_n 1, 1) := by decide +kernel
theorem dX1_findBestRow_55 : decode cX1_findBestRow 55 = .ok (.invokevirtual 67, 3) := by decide +kernel
theorem dX1_findBestRow_58 : decode cX1_findBestRow 58 = .ok (.istore 6, 2) := by decide +kernel
theorem dX1_findBestRow_60 : decode cX1_findBestRow 60 = .ok (.iload 6, 2) := by decide +kernel
theorem dX1_findBestRow_62 : decode cX1_findBestRow 62 = .ok (.iload_n 3, 1) := by decide +kernel
theorem dX1_findBestRow_63 : decode cX1_findBestRow 63 = .ok (.if_icmp .le 20, 3) := by decide +kernel
theorem dX1_findBestRow_66 : decode cX1_findBestRow 66 = .ok (.iload 6, 2) := by decide +kernel
theorem dX1_findBestRow_68 : decode cX1_findBestRow 68 = .ok (.istore_n 3, 1) := by decide +kernel
theorem dX1_findBestRow_69 : decode cX1_findBestRow 69 = .ok (.aload_n 0, 1) := by decide +kernel
theorem dX1_findBestRow_70 : decode cX1_findBestRow 70 = .ok (.getfield 22, 3) := by decide +kernel
theorem dX1_findBestRow_73 : decode cX1_findBestRow 73 = .ok (.iconst 0, 1) := by decide +kernel
theorem dX1_findBestRow_74 : decode cX1_findBestRow 74 = .ok (.aload_n 0, 1) := by decide +kernel
theorem dX1_findBestRow_75 : decode cX1_findBestRow 75 = .ok (.getfield 9, 3) := by decide +kernel
theorem dX1_findBestRow_78 : decode cX1_findBestRow 78 = .ok (.iconst 0, 1) := by decide +kernel
theorem dX1_findBestRow_79 : decode cX1_findBestRow 79 = .ok (.iconst 4, 1) := by decide +kernel
theorem dX1_findBestRow_80 : decode cX1_findBestRow 80 = .ok (.invokestatic 70, 3) := by decide +kernel
theorem dX1_findBestRow_83 : decode cX1_findBestRow 83 = .ok (.iload 4, 2) := by decide +kernel
theorem dX1_findBestRow_85 : decode cX1_findBestRow 85 = .ok (.getstatic 60, 3) := by decide +kernel
theorem dX1_findBestRow_88 : decode cX1_findBestRow 88 = .ok (.iload_n 2, 1) := by decide +kernel
theorem dX1_findBestRow_89 : decode cX1_findBestRow 89 = .ok (.aload_n 0, 1) := by decide +kernel
theorem dX1_findBestRow_90 : decode cX1_findBestRow 90 = .ok (.getfield 76, 3) := by decide +kernel
theorem dX1_findBestRow_93 : decode cX1_findBestRow 93 = .ok (.isub, 1) := by decide +kernel
theorem dX1_findBestRow_94 : decode cX1_findBestRow 94 = .ok (.iaload, 1) := by decide +kernel
theorem dX1_findBestRow_95 : decode cX1_findBestRow 95 = .ok (.iadd, 1) := by decide +kernel
theorem dX1_findBestRow_96 : decode cX1_findBestRow 96 = .ok (.istore 4, 2) := by decide +kernel
theorem dX1_findBestRow_98 : decode cX1_findBestRow 98 = .ok (.iinc 5 1, 3) := by decide +kernel
theorem dX1_findBestRow_101 : decode cX1_findBestRow 101 = .ok (.goto (-81), 3) := by decide +kernel
theorem dX1_findBestRow_104 : decode cX1_findBestRow 104 = .ok (.iload_n 3, 1) := by decide +kernel
theorem dX1_findBestRow_105 : decode cX1_findBestRow 105 = .ok (.ireturn, 1) := by decide +kernel
theorem dX1_setRow_0 : decode cX1_setRow 0 = .ok (.iload_n 2, 1) := by decide +kernel
theorem dX1_setRow_1 : decode cX1_setRow 1 = .ok (.istore_n 3, 1) := by decide +kernel
theorem dX1_setRow_2 : decode cX1_setRow 2 = .ok (.iconst 0, 1) := by decide +kernel
theorem dX1_setRow_3 : decode cX1_setRow 3 = .ok (.istore 4, 2) := by decide +kernel
theorem dX1_setRow_5 : decode cX1_setRow 5 = .ok (.iconst 0, 1) := by decide +kernel
theorem dX1_setRow_6 : decode cX1_setRow 6 = .ok (.istore 5, 2) := by decide +kernel
theorem dX1_setRow_8 : decode cX1_setRow 8 = .ok (.iload 5, 2) := by decide +kernel
theorem dX1_setRow_10 : decode cX1_setRow 10 = .ok (.iload_n 1, 1) := by decide +kernel
theorem dX1_setRow_11 : decode cX1_setRow 11 = .ok (.if_icmp .ge 99, 3) := by decide +kernel
theorem dX1_setRow_14 : decode cX1_setRow 14 = .ok (.getstatic 60, 3) := by decide +kernel
theorem dX1_setRow_17 : decode cX1_setRow 17 = .ok (.iload_n 1, 1) := by decide +kernel
theorem dX1_setRow_18 : decode cX1_setRow 18 = .ok (.iconst 1, 1) := by decide +kernel
theorem dX1_setRow_19 : decode cX1_setRow 19 = .ok (.isub, 1) := by decide +kernel
theorem dX1_setRow_20 : decode cX1_setRow 20 = .ok (.iload 5, 2) := by decide +kernel
theorem dX1_setRow_22 : decode cX1_setRow 22 = .ok (.isub, 1) := by decide +kernel
theorem dX1_setRow_23 : decode cX1_setRow 23 = .ok (.iaload, 1) := by decide +kernel
theorem dX1_setRow_24 : decode cX1_setRow 24 = .ok (.istore 6, 2) := by decide +kernel
theorem dX1_setRow_26 : decode cX1_setRow 26 = .ok (.iconst 0, 1) := by decide +kernel
theorem dX1_setRow_27 : decode cX1_setRow 27 = .ok (.istore 7, 2) := by decide +kernel
theorem dX1_setRow_29 : decode cX1_setRow 29 = .ok (.iload 7, 2) := by decide +kernel
theorem dX1_setRow_31 : decode cX1_setRow 31 = .ok (.iload_n 1, 1) := by decide +kernel
theorem dX1_setRow_32 : decode cX1_setRow 32 = .ok (.if_icmp .ge 72, 3) := by decide +kernel
theorem dX1_setRow_35 : decode cX1_setRow 35 = .ok (.iload 4, 2) := by decide +kernel
theorem dX1_setRow_37 : decode cX1_setRow 37 = .ok (.iload 7, 2) := by decide +kernel
theorem dX1_setRow_39 : decode cX1_setRow 39 = .ok (.ishr, 1) := by decide +kernel
theorem dX1_setRow_40 : decode cX1_setRow 40 = .ok (.iconst 1, 1) := by decide +kernel
theorem dX1_setRow_41 : decode cX1_setRow 41 = .ok (.iand, 1) := by decide +kernel
theorem dX1_setRow_42 : decode cX1_setRow 42 = .ok (.ifCond .ne 7, 3) := by decide +kernel
theorem dX1_setRow_45 : decode cX1_setRow 45 = .ok (.iconst 1, 1) := by decide +kernel
theorem dX1_setRow_46 : decode cX1_setRow 46 = .ok (.goto 4, 3) := by decide +kernel
theorem dX1_setRow_49 : decode cX1_setRow 49 = .ok (.iconst 0, 1) := by decide +kernel
theorem dX1_setRow_50 : decode cX1_setRow 50 = .ok (.istore 8, 2) := by decide +kernel
theorem dX1_setRow_52 : decode cX1_setRow 52 = .ok (.iload 8, 2) := by decide +kernel
theorem dX1_setRow_54 : decode cX1_setRow 54 = .ok (.ifCond .eq 30, 3) := by decide +kernel
theorem dX1_setRow_57 : decode cX1_setRow 57 = .ok (.iload_n 3, 1) := by decide +kernel
theorem dX1_setRow_58 : decode cX1_setRow 58 = .ok (.iload 6, 2) := by decide +kernel
theorem dX1_setRow_60 : decode cX1_setRow 60 = .ok (.if_icmp .ge 24, 3) := by decide +kernel
theorem dX1_setRow_63 : decode cX1_setRow 63 = .ok (.aload_n 0, 1) := by decide +kernel
theorem dX1_setRow_64 : decode cX1_setRow 64 = .ok (.getfield 22, 3) := by decide +kernel
theorem dX1_setRow_67 : decode cX1_setRow 67 = .ok (.iload 5, 2) := by decide +kernel
theorem dX1_setRow_69 : decode cX1_setRow 69 = .ok (.iload 7, 2) := by decide +kernel
theorem dX1_setRow_71 : decode cX1_setRow 71 = .ok (.iastore, 1) := by decide +kernel
theorem dX1_setRow_72 : decode cX1_setRow 72 = .ok (.iload 4, 2) := by decide +kernel
theorem dX1_setRow_74 : decode cX1_setRow 74 = .ok (.iconst 1, 1) := by decide +kernel
theorem dX1_setRow_75 : decode cX1_setRow 75 = .ok (.iload 7, 2) := by decide +kernel
theorem dX1_setRow_77 : decode cX1_setRow 77 = .ok (.ishl, 1) := by decide +kernel
theorem dX1_setRow_78 : decode cX1_setRow 78 = .ok (.ior, 1) := by decide +kernel
theorem dX1_setRow_79 : decode cX1_setRow 79 = .ok (.istore 4, 2) := by decide +kernel
theorem dX1_setRow_81 : decode cX1_setRow 81 = .ok (.goto 23, 3) := by decide +kernel
theorem dX1_setRow_84 : decode cX1_setRow 84 = .ok (.iload_n 3, 1) := by decide +kernel
theorem dX1_setRow_85 : decode cX1_setRow 85 = .ok (.iload 8, 2) := by decide +kernel
theorem dX1_setRow_87 : decode cX1_setRow 87 = .ok (.ifCond .eq 8, 3) := by decide +kernel
theorem dX1_setRow_90 : decode cX1_setRow 90 = .ok (.iload 6, 2) := by decide +kernel
theorem dX1_setRow_92 : decode cX1_setRow 92 = .ok (.goto 4, 3) := by decide +kernel
theorem dX1_setRow_95 : decode cX1_setRow 95 = .ok (.iconst 0, 1) := by decide +kernel
theorem dX1_setRow_96 : decode cX1_setRow 96 = .ok (.isub, 1) := by decide +kernel
theorem dX1_setRow_97 : decode cX1_setRow 97 = .ok (.istore_n 3, 1) := by decide +kernel
theorem dX1_setRow_98 : decode cX1_setRow 98 = .ok (.iinc 7 1, 3) := by decide +kernel
theorem dX1_setRow_101 : decode cX1_setRow 101 = .ok (.goto (-72), 3) := by decide +kernel
theorem dX1_setRow_104 : decode cX1_setRow 104 = .ok (.iinc 5 1, 3) := by decide +kernel
theorem dX1_setRow_107 : decode cX1_setRow 107 = .ok (.goto (-99), 3) := by decide +kernel
theorem dX1_setRow_110 : decode cX1_setRow 110 = .ok (.return_, 1) := by decide +kernel
theorem dX1_countDoneInTime_0 : decode cX1_countDoneInTime 0 = .ok (.aload_n 0, 1) := by decide +kernel
theorem dX1_countDoneInTime_1 : decode cX1_countDoneInTime 1 = .ok (.getfield 18, 3) := by decide +kernel
theorem dX1_countDoneInTime_4 : decode cX1_countDoneInTime 4 = .ok (.aload_n 0, 1) := by decide +kernel
theorem dX1_countDoneInTime_5 : decode cX1_countDoneInTime 5 = .ok (.getfield 25, 3) := by decide +kernel
theorem dX1_countDoneInTime_8 : decode cX1_countDoneInTime 8 = .ok (.invokevirtual 32, 3) := by decide +kernel
theorem dX1_countDoneInTime_11 : decode cX1_countDoneInTime 11 = .ok (.aload_n 0, 1) := by decide +kernel
theorem dX1_countDoneInTime_12 : decode cX1_countDoneInTime 12 = .ok (.getfield 25, 3) := by decide +kernel
theorem dX1_countDoneInTime_15 : decode cX1_countDoneInTime 15 = .ok (.invokevirtual 79, 3) := by decide +kernel
theorem dX1_countDoneInTime_18 : decode cX1_countDoneInTime 18 = .ok (.invokestatic 83, 3) := by decide +kernel
theorem dX1_countDoneInTime_21 : decode cX1_countDoneInTime 21 = .ok (.istore_n 3, 1) := by decide +kernel
theorem dX1_countDoneInTime_22 : decode cX1_countDoneInTime 22 = .ok (.aload_n 0, 1) := by decide +kernel
theorem dX1_countDoneInTime_23 : decode cX1_countDoneInTime 23 = .ok (.iconst 0, 1) := by decide +kernel
theorem dX1_countDoneInTime_24 : decode cX1_countDoneInTime 24 = .ok (.iload_n 1, 1) := by decide +kernel
theorem dX1_countDoneInTime_25 : decode cX1_countDoneInTime 25 = .ok (.invokevirtual 89, 3) := by decide +kernel
theorem dX1_countDoneInTime_28 : decode cX1_countDoneInTime 28 = .ok (.istore 4, 2) := by decide +kernel
theorem dX1_countDoneInTime_30 : decode cX1_countDoneInTime 30 = .ok (.iconst 1, 1) := by decide +kernel
theorem dX1_countDoneInTime_31 : decode cX1_countDoneInTime 31 = .ok (.istore 5, 2) := by decide +kernel
theorem dX1_countDoneInTime_33 : decode cX1_countDoneInTime 33 = .ok (.iload 5, 2) := by decide +kernel
theorem dX1_countDoneInTime_35 : decode cX1_countDoneInTime 35 = .ok (.iload_n 2, 1) := by decide +kernel
theorem dX1_countDoneInTime_36 : decode cX1_countDoneInTime 36 = .ok (.if_icmp .gt 89, 3) := by decide +kernel
theorem dX1_countDoneInTime_39 : decode cX1_countDoneInTime 39 = .ok (.iload 4, 2) := by decide +kernel
theorem dX1_countDoneInTime_41 : decode cX1_countDoneInTime 41 = .ok (.iload_n 1, 1) := by decide +kernel
theorem dX1_countDoneInTime_42 : decode cX1_countDoneInTime 42 = .ok (.if_icmp .ge 83, 3) := by decide +kernel
theorem dX1_countDoneInTime_45 : decode cX1_countDoneInTime 45 = .ok (.aload_n 0, 1) := by decide +kernel
theorem dX1_countDoneInTime_46 : decode cX1_countDoneInTime 46 = .ok (.getfield 22, 3) := by decide +kernel
theorem dX1_countDoneInTime_49 : decode cX1_countDoneInTime 49 = .ok (.iload 4, 2) := by decide +kernel
theorem dX1_countDoneInTime_51 : decode cX1_countDoneInTime 51 = .ok (.iaload, 1) := by decide +kernel
theorem dX1_countDoneInTime_52 : decode cX1_countDoneInTime 52 = .ok (.istore 6, 2) := by decide +kernel
theorem dX1_countDoneInTime_54 : decode cX1_countDoneInTime 54 = .ok (.aload_n 0, 1) := by decide +kernel
theorem dX1_countDoneInTime_55 : decode cX1_countDoneInTime 55 = .ok (.getfield 18, 3) := by decide +kernel
theorem dX1_countDoneInTime_58 : decode cX1_countDoneInTime 58 = .ok (.iload 6, 2) := by decide +kernel
theorem dX1_countDoneInTime_60 : decode cX1_countDoneInTime 60 = .ok (.putfield 40, 3) := by decide +kernel
theorem dX1_countDoneInTime_63 : decode cX1_countDoneInTime 63 = .ok (.aload_n 0, 1) := by decide +kernel
theorem dX1_countDoneInTime_64 : decode cX1_countDoneInTime 64 = .ok (.getfield 18, 3) := by decide +kernel
theorem dX1_countDoneInTime_67 : decode cX1_countDoneInTime 67 = .ok (.invokevirtual 48, 3) := by decide +kernel
theorem dX1_countDoneInTime_70 : decode cX1_countDoneInTime 70 = .ok (.aload_n 0, 1) := by decide +kernel
theorem dX1_countDoneInTime_71 : decode cX1_countDoneInTime 71 = .ok (.getfield 18, 3) := by decide +kernel
theorem dX1_countDoneInTime_74 : decode cX1_countDoneInTime 74 = .ok (.iload 6, 2) := by decide +kernel
theorem dX1_countDoneInTime_76 : decode cX1_countDoneInTime 76 = .ok (.invokevirtual 44, 3) := by decide +kernel
theorem dX1_countDoneInTime_79 : decode cX1_countDoneInTime 79 = .ok (.ifCond .eq 40, 3) := by decide +kernel
theorem dX1_countDoneInTime_82 : decode cX1_countDoneInTime 82 = .ok (.iload_n 3, 1) := by decide +kernel
theorem dX1_countDoneInTime_83 : decode cX1_countDoneInTime 83 = .ok (.iload 5, 2) := by decide +kernel
theorem dX1_countDoneInTime_85 : decode cX1_countDoneInTime 85 = .ok (.aload_n 0, 1) := by decide +kernel
theorem dX1_countDoneInTime_86 : decode cX1_countDoneInTime 86 = .ok (.getfield 18, 3) := by decide +kernel
theorem dX1_countDoneInTime_89 : decode cX1_countDoneInTime 89 = .ok (.getfield 92, 3) := by decide +kernel
theorem dX1_countDoneInTime_92 : decode cX1_countDoneInTime 92 = .ok (.iload 6, 2) := by decide +kernel
theorem dX1_countDoneInTime_94 : decode cX1_countDoneInTime 94 = .ok (.iaload, 1) := by decide +kernel
theorem dX1_countDoneInTime_95 : decode cX1_countDoneInTime 95 = .ok (.if_icmp .gt 7, 3) := by decide +kernel
theorem dX1_countDoneInTime_98 : decode cX1_countDoneInTime 98 = .ok (.iconst 1, 1) := by decide +kernel
theorem dX1_countDoneInTime_99 : decode cX1_countDoneInTime 99 = .ok (.goto 4, 3) := by decide +kernel
theorem dX1_countDoneInTime_102 : decode cX1_countDoneInTime 102 = .ok (.iconst 0, 1) := by decide +kernel
theorem dX1_countDoneInTime_103 : decode cX1_countDoneInTime 103 = .ok (.invokestatic 95, 3) := by decide +kernel
theorem dX1_countDoneInTime_106 : decode cX1_countDoneInTime 106 = .ok (.iadd, 1) := by decide +kernel
theorem dX1_countDoneInTime_107 : decode cX1_countDoneInTime 107 = .ok (.istore_n 3, 1) := by decide +kernel
theorem dX1_countDoneInTime_108 : decode cX1_countDoneInTime 108 = .ok (.aload_n 0, 1) := by decide +kernel
theorem dX1_countDoneInTime_109 : decode cX1_countDoneInTime 109 = .ok (.iload 4, 2) := by decide +kernel
theorem dX1_countDoneInTime_111 : decode cX1_countDoneInTime 111 = .ok (.iconst 1, 1) := by decide +kernel
theorem dX1_countDoneInTime_112 : decode cX1_countDoneInTime 112 = .ok (.iadd, 1) := by decide +kernel
theorem dX1_countDoneInTime_113 : decode cX1_countDoneInTime 113 = .ok (.iload_n 1, 1) := by decide +kernel
theorem dX1_countDoneInTime_114 : decode cX1_countDoneInTime 114 = .ok (.invokevirtual 89, 3) := by decide +kernel
theorem dX1_countDoneInTime_117 : decode cX1_countDoneInTime 117 = .ok (.istore 4, 2) := by decide +kernel
theorem dX1_countDoneInTime_119 : decode cX1_countDoneInTime 119 = .ok (.iinc 5 1, 3) := by decide +kernel
theorem dX1_countDoneInTime_122 : decode cX1_countDoneInTime 122 = .ok (.goto (-89), 3) := by decide +kernel
theorem dX1_countDoneInTime_125 : decode cX1_countDoneInTime 125 = .ok (.aload_n 0, 1) := by decide +kernel
theorem dX1_countDoneInTime_126 : decode cX1_countDoneInTime 126 = .ok (.iload 4, 2) := by decide +kernel
theorem dX1_countDoneInTime_128 : decode cX1_countDoneInTime 128 = .ok (.iconst 1, 1) := by decide +kernel
theorem dX1_countDoneInTime_129 : decode cX1_countDoneInTime 129 = .ok (.iadd, 1) := by decide +kernel
theorem dX1_countDoneInTime_130 : decode cX1_countDoneInTime 130 = .ok (.iload_n 1, 1) := by decide +kernel
theorem dX1_countDoneInTime_131 : decode cX1_countDoneInTime 131 = .ok (.invokestatic 54, 3) := by decide +kernel
theorem dX1_countDoneInTime_134 : decode cX1_countDoneInTime 134 = .ok (.putfield 76, 3) := by decide +kernel
theorem dX1_countDoneInTime_137 : decode cX1_countDoneInTime 137 = .ok (.iload_n 3, 1) := by decide +kernel
theorem dX1_countDoneInTime_138 : decode cX1_countDoneInTime 138 = .ok (.ireturn, 1) := by decide +kernel
theorem dX1_firstUndone_0 : decode cX1_firstUndone 0 = .ok (.iload_n 1, 1) := by decide +kernel
theorem dX1_firstUndone_1 : decode cX1_firstUndone 1 = .ok (.istore_n 3, 1) := by decide +kernel
theorem dX1_firstUndone_2 : decode cX1_firstUndone 2 = .ok (.iload_n 3, 1) := by decide +kernel
theorem dX1_firstUndone_3 : decode cX1_firstUndone 3 = .ok (.iload_n 2, 1) := by decide +kernel
theorem dX1_firstUndone_4 : decode cX1_firstUndone 4 = .ok (.if_icmp .ge 25, 3) := by decide +kernel
theorem dX1_firstUndone_7 : decode cX1_firstUndone 7 = .ok (.aload_n 0, 1) := by decide +kernel
theorem dX1_firstUndone_8 : decode cX1_firstUndone 8 = .ok (.getfield 18, 3) := by decide +kernel
theorem dX1_firstUndone_11 : decode cX1_firstUndone 11 = .ok (.aload_n 0, 1) := by decide +kernel
theorem dX1_firstUndone_12 : decode cX1_firstUndone 12 = .ok (.getfield 22, 3) := by decide +kernel
theorem dX1_firstUndone_15 : decode cX1_firstUndone 15 = .ok (.iload_n 3, 1) := by decide +kernel
theorem dX1_firstUndone_16 : decode cX1_firstUndone 16 = .ok (.iaload, 1) := by decide +kernel
theorem dX1_firstUndone_17 : decode cX1_firstUndone 17 = .ok (.invokevirtual 44, 3) := by decide +kernel
theorem dX1_firstUndone_20 : decode cX1_firstUndone 20 = .ok (.ifCond .eq 9, 3) := by decide +kernel
theorem dX1_firstUndone_23 : decode cX1_firstUndone 23 = .ok (.iinc 3 1, 3) := by decide +kernel
theorem dX1_firstUndone_26 : decode cX1_firstUndone 26 = .ok (.goto (-24), 3) := by decide +kernel
theorem dX1_firstUndone_29 : decode cX1_firstUndone 29 = .ok (.iload_n 3, 1) := by decide +kernel
theorem dX1_firstUndone_30 : decode cX1_firstUndone 30 = .ok (.ireturn, 1) := by decide +kernel
theorem dX1_whomToTalkTo_0 : decode cX1_whomToTalkTo 0 = .ok (.iconst (-1), 1) := by decide +kernel
theorem dX1_whomToTalkTo_1 : decode cX1_whomToTalkTo 1 = .ok (.istore_n 2, 1) := by decide +kernel
theorem dX1_whomToTalkTo_2 : decode cX1_whomToTalkTo 2 = .ok (.iconst (-1), 1) := by decide +kernel
theorem dX1_whomToTalkTo_3 : decode cX1_whomToTalkTo 3 = .ok (.istore_n 3, 1) := by decide +kernel
theorem dX1_whomToTalkTo_4 : decode cX1_whomToTalkTo 4 = .ok (.iconst 0, 1) := by decide +kernel
theorem dX1_whomToTalkTo_5 : decode cX1_whomToTalkTo 5 = .ok (.istore 4, 2) := by decide +kernel
theorem dX1_whomToTalkTo_7 : decode cX1_whomToTalkTo 7 = .ok (.iload 4, 2) := by decide +kernel
theorem dX1_whomToTalkTo_9 : decode cX1_whomToTalkTo 9 = .ok (.aload_n 0, 1) := by decide +kernel
theorem dX1_whomToTalkTo_10 : decode cX1_whomToTalkTo 10 = .ok (.getfield 25, 3) := by decide +kernel
theorem dX1_whomToTalkTo_13 : decode cX1_whomToTalkTo 13 = .ok (.getfield 99, 3) := by decide +kernel
theorem dX1_whomToTalkTo_16 : decode cX1_whomToTalkTo 16 = .ok (.if_icmp .ge 43, 3) := by decide +kernel
theorem dX1_whomToTalkTo_19 : decode cX1_whomToTalkTo 19 = .ok (.aload_n 0, 1) := by decide +kernel
theorem dX1_whomToTalkTo_20 : decode cX1_whomToTalkTo 20 = .ok (.getfield 25, 3) := by decide +kernel
theorem dX1_whomToTalkTo_23 : decode cX1_whomToTalkTo 23 = .ok (.getfield 102, 3) := by decide +kernel
theorem dX1_whomToTalkTo_26 : decode cX1_whomToTalkTo 26 = .ok (.iload 4, 2) := by decide +kernel
theorem dX1_whomToTalkTo_28 : decode cX1_whomToTalkTo 28 = .ok (.baload, 1) := by decide +kernel
theorem dX1_whomToTalkTo_29 : decode cX1_whomToTalkTo 29 = .ok (.ifCond .ne 24, 3) := by decide +kernel
theorem dX1_whomToTalkTo_32 : decode cX1_whomToTalkTo 32 = .ok (.aload_n 0, 1) := by decide +kernel
theorem dX1_whomToTalkTo_33 : decode cX1_whomToTalkTo 33 = .ok (.iload 4, 2) := by decide +kernel
theorem dX1_whomToTalkTo_35 : decode cX1_whomToTalkTo 35 = .ok (.iload_n 1, 1) := by decide +kernel
theorem dX1_whomToTalkTo_36 : decode cX1_whomToTalkTo 36 = .ok (.invokevirtual 106, 3) := by decide +kernel
theorem dX1_whomToTalkTo_39 : decode cX1_whomToTalkTo 39 = .ok (.istore 5, 2) := by decide +kernel
theorem dX1_whomToTalkTo_41 : decode cX1_whomToTalkTo 41 = .ok (.iload 5, 2) := by decide +kernel
theorem dX1_whomToTalkTo_43 : decode cX1_whomToTalkTo 43 = .ok (.iload_n 3, 1) := by decide +kernel
theorem dX1_whomToTalkTo_44 : decode cX1_whomToTalkTo 44 = .ok (.if_icmp .le 9, 3) := by decide +kernel
theorem dX1_whomToTalkTo_47 : decode cX1_whomToTalkTo 47 = .ok (.iload 4, 2) := by decide +kernel
theorem dX1_whomToTalkTo_49 : decode cX1_whomToTalkTo 49 = .ok (.istore_n 2, 1) := by decide +kernel
theorem dX1_whomToTalkTo_50 : decode cX1_whomToTalkTo 50 = .ok (.iload 5, 2) := by decide +kernel
theorem dX1_whomToTalkTo_52 : decode cX1_whomToTalkTo 52 = .ok (.istore_n 3, 1) := by decide +kernel
theorem dX1_whomToTalkTo_53 : decode cX1_whomToTalkTo 53 = .ok (.iinc 4 1, 3) := by decide +kernel
theorem dX1_whomToTalkTo_56 : decode cX1_whomToTalkTo 56 = .ok (.goto (-49), 3) := by decide +kernel
theorem dX1_whomToTalkTo_59 : decode cX1_whomToTalkTo 59 = .ok (.iload_n 2, 1) := by decide +kernel
theorem dX1_whomToTalkTo_60 : decode cX1_whomToTalkTo 60 = .ok (.ireturn, 1) := by decide +kernel
theorem dX1_hottestByTalk_0 : decode cX1_hottestByTalk 0 = .ok (.aload_n 0, 1) := by decide +kernel
theorem dX1_hottestByTalk_1 : decode cX1_hottestByTalk 1 = .ok (.iload_n 1, 1) := by decide +kernel
theorem dX1_hottestByTalk_2 : decode cX1_hottestByTalk 2 = .ok (.iload_n 2, 1) := by decide +kernel
theorem dX1_hottestByTalk_3 : decode cX1_hottestByTalk 3 = .ok (.invokevirtual 109, 3) := by decide +kernel
theorem dX1_hottestByTalk_6 : decode cX1_hottestByTalk 6 = .ok (.aload_n 0, 1) := by decide +kernel
theorem dX1_hottestByTalk_7 : decode cX1_hottestByTalk 7 = .ok (.getfield 18, 3) := by decide +kernel
theorem dX1_hottestByTalk_10 : decode cX1_hottestByTalk 10 = .ok (.iconst 3, 1) := by decide +kernel
theorem dX1_hottestByTalk_11 : decode cX1_hottestByTalk 11 = .ok (.invokevirtual 36, 3) := by decide +kernel
theorem dX1_hottestByTalk_14 : decode cX1_hottestByTalk 14 = .ok (.aload_n 0, 1) := by decide +kernel
theorem dX1_hottestByTalk_15 : decode cX1_hottestByTalk 15 = .ok (.getfield 18, 3) := by decide +kernel
theorem dX1_hottestByTalk_18 : decode cX1_hottestByTalk 18 = .ok (.invokevirtual 112, 3) := by decide +kernel
theorem dX1_hottestByTalk_21 : decode cX1_hottestByTalk 21 = .ok (.istore_n 3, 1) := by decide +kernel
theorem dX1_hottestByTalk_22 : decode cX1_hottestByTalk 22 = .ok (.iload_n 3, 1) := by decide +kernel
theorem dX1_hottestByTalk_23 : decode cX1_hottestByTalk 23 = .ok (.ifCond .ge 8, 3) := by decide +kernel
theorem dX1_hottestByTalk_26 : decode cX1_hottestByTalk 26 = .ok (.bipush (-5), 2) := by decide +kernel
theorem dX1_hottestByTalk_28 : decode cX1_hottestByTalk 28 = .ok (.goto 12, 3) := by decide +kernel
theorem dX1_hottestByTalk_31 : decode cX1_hottestByTalk 31 = .ok (.aload_n 0, 1) := by decide +kernel
theorem dX1_hottestByTalk_32 : decode cX1_hottestByTalk 32 = .ok (.getfield 18, 3) := by decide +kernel
theorem dX1_hottestByTalk_35 : decode cX1_hottestByTalk 35 = .ok (.getfield 115, 3) := by decide +kernel
theorem dX1_hottestByTalk_38 : decode cX1_hottestByTalk 38 = .ok (.iload_n 3, 1) := by decide +kernel
theorem dX1_hottestByTalk_39 : decode cX1_hottestByTalk 39 = .ok (.iaload, 1) := by decide +kernel
theorem dX1_hottestByTalk_40 : decode cX1_hottestByTalk 40 = .ok (.ireturn, 1) := by decide +kernel
theorem dX1_warm_0 : decode cX1_warm 0 = .ok (.aload_n 0, 1) := by decide +kernel
theorem dX1_warm_1 : decode cX1_warm 1 = .ok (.getfield 18, 3) := by decide +kernel
theorem dX1_warm_4 : decode cX1_warm 4 = .ok (.aload_n 0, 1) := by decide +kernel
theorem dX1_warm_5 : decode cX1_warm 5 = .ok (.getfield 25, 3) := by decide +kernel
theorem dX1_warm_8 : decode cX1_warm 8 = .ok (.invokevirtual 32, 3) := by decide +kernel
theorem dX1_warm_11 : decode cX1_warm 11 = .ok (.aload_n 0, 1) := by decide +kernel
theorem dX1_warm_12 : decode cX1_warm 12 = .ok (.getfield 18, 3) := by decide +kernel
theorem dX1_warm_15 : decode cX1_warm 15 = .ok (.iconst (-1), 1) := by decide +kernel
theorem dX1_warm_16 : decode cX1_warm 16 = .ok (.putfield 40, 3) := by decide +kernel
theorem dX1_warm_19 : decode cX1_warm 19 = .ok (.aload_n 0, 1) := by decide +kernel
theorem dX1_warm_20 : decode cX1_warm 20 = .ok (.getfield 18, 3) := by decide +kernel
theorem dX1_warm_23 : decode cX1_warm 23 = .ok (.getfield 115, 3) := by decide +kernel
theorem dX1_warm_26 : decode cX1_warm 26 = .ok (.iload_n 1, 1) := by decide +kernel
theorem dX1_warm_27 : decode cX1_warm 27 = .ok (.bipush 99, 2) := by decide +kernel
theorem dX1_warm_29 : decode cX1_warm 29 = .ok (.aload_n 0, 1) := by decide +kernel
theorem dX1_warm_30 : decode cX1_warm 30 = .ok (.getfield 18, 3) := by decide +kernel
theorem dX1_warm_33 : decode cX1_warm 33 = .ok (.getfield 115, 3) := by decide +kernel
theorem dX1_warm_36 : decode cX1_warm 36 = .ok (.iload_n 1, 1) := by decide +kernel
theorem dX1_warm_37 : decode cX1_warm 37 = .ok (.iaload, 1) := by decide +kernel
theorem dX1_warm_38 : decode cX1_warm 38 = .ok (.iload_n 2, 1) := by decide +kernel
theorem dX1_warm_39 : decode cX1_warm 39 = .ok (.iadd, 1) := by decide +kernel
theorem dX1_warm_40 : decode cX1_warm 40 = .ok (.invokestatic 54, 3) := by decide +kernel
theorem dX1_warm_43 : decode cX1_warm 43 = .ok (.iastore, 1) := by decide +kernel
theorem dX1_warm_44 : decode cX1_warm 44 = .ok (.return_, 1) := by decide +kernel
theorem dX1_fitting_0 : decode cX1_fitting 0 = .ok (.iload_n 2, 1) := by decide +kernel
theorem dX1_fitting_1 : decode cX1_fitting 1 = .ok (.ifCond .eq 8, 3) := by decide +kernel
theorem dX1_fitting_4 : decode cX1_fitting 4 = .ok (.bipush 99, 2) := by decide +kernel
theorem dX1_fitting_6 : decode cX1_fitting 6 = .ok (.goto 5, 3) := by decide +kernel
theorem dX1_fitting_9 : decode cX1_fitting 9 = .ok (.bipush 9, 2) := by decide +kernel
theorem dX1_fitting_11 : decode cX1_fitting 11 = .ok (.istore 4, 2) := by decide +kernel
theorem dX1_fitting_13 : decode cX1_fitting 13 = .ok (.iconst 0, 1) := by decide +kernel
theorem dX1_fitting_14 : decode cX1_fitting 14 = .ok (.istore 5, 2) := by decide +kernel
theorem dX1_fitting_16 : decode cX1_fitting 16 = .ok (.bipush (-5), 2) := by decide +kernel
theorem dX1_fitting_18 : decode cX1_fitting 18 = .ok (.istore 6, 2) := by decide +kernel
theorem dX1_fitting_20 : decode cX1_fitting 20 = .ok (.iload 4, 2) := by decide +kernel
theorem dX1_fitting_22 : decode cX1_fitting 22 = .ok (.istore 7, 2) := by decide +kernel
theorem dX1_fitting_24 : decode cX1_fitting 24 = .ok (.iload 7, 2) := by decide +kernel
theorem dX1_fitting_26 : decode cX1_fitting 26 = .ok (.ifCond .lt 71, 3) := by decide +kernel
theorem dX1_fitting_29 : decode cX1_fitting 29 = .ok (.aload_n 0, 1) := by decide +kernel
theorem dX1_fitting_30 : decode cX1_fitting 30 = .ok (.getfield 18, 3) := by decide +kernel
theorem dX1_fitting_33 : decode cX1_fitting 33 = .ok (.aload_n 0, 1) := by decide +kernel
theorem dX1_fitting_34 : decode cX1_fitting 34 = .ok (.getfield 25, 3) := by decide +kernel
theorem dX1_fitting_37 : decode cX1_fitting 37 = .ok (.invokevirtual 32, 3) := by decide +kernel
theorem dX1_fitting_40 : decode cX1_fitting 40 = .ok (.aload_n 0, 1) := by decide +kernel
theorem dX1_fitting_41 : decode cX1_fitting 41 = .ok (.getfield 18, 3) := by decide +kernel
theorem dX1_fitting_44 : decode cX1_fitting 44 = .ok (.iconst (-1), 1) := by decide +kernel
theorem dX1_fitting_45 : decode cX1_fitting 45 = .ok (.putfield 40, 3) := by decide +kernel
theorem dX1_fitting_48 : decode cX1_fitting 48 = .ok (.iload_n 2, 1) := by decide +kernel
theorem dX1_fitting_49 : decode cX1_fitting 49 = .ok (.ifCond .eq 17, 3) := by decide +kernel
theorem dX1_fitting_52 : decode cX1_fitting 52 = .ok (.aload_n 0, 1) := by decide +kernel
theorem dX1_fitting_53 : decode cX1_fitting 53 = .ok (.getfield 18, 3) := by decide +kernel
theorem dX1_fitting_56 : decode cX1_fitting 56 = .ok (.getfield 115, 3) := by decide +kernel
theorem dX1_fitting_59 : decode cX1_fitting 59 = .ok (.iload_n 1, 1) := by decide +kernel
theorem dX1_fitting_60 : decode cX1_fitting 60 = .ok (.iload 7, 2) := by decide +kernel
theorem dX1_fitting_62 : decode cX1_fitting 62 = .ok (.iastore, 1) := by decide +kernel
theorem dX1_fitting_63 : decode cX1_fitting 63 = .ok (.goto 14, 3) := by decide +kernel
theorem dX1_fitting_66 : decode cX1_fitting 66 = .ok (.aload_n 0, 1) := by decide +kernel
theorem dX1_fitting_67 : decode cX1_fitting 67 = .ok (.getfield 18, 3) := by decide +kernel
theorem dX1_fitting_70 : decode cX1_fitting 70 = .ok (.getfield 118, 3) := by decide +kernel
theorem dX1_fitting_73 : decode cX1_fitting 73 = .ok (.iload_n 1, 1) := by decide +kernel
theorem dX1_fitting_74 : decode cX1_fitting 74 = .ok (.iload 7, 2) := by decide +kernel
theorem dX1_fitting_76 : decode cX1_fitting 76 = .ok (.iastore, 1) := by decide +kernel
theorem dX1_fitting_77 : decode cX1_fitting 77 = .ok (.aload_n 0, 1) := by decide +kernel
theorem dX1_fitting_78 : decode cX1_fitting 78 = .ok (.invokevirtual 121, 3) := by decide +kernel
theorem dX1_fitting_81 : decode cX1_fitting 81 = .ok (.ifCond .eq 10, 3) := by decide +kernel
theorem dX1_fitting_84 : decode cX1_fitting 84 = .ok (.iinc 5 1, 3) := by decide +kernel
theorem dX1_fitting_87 : decode cX1_fitting 87 = .ok (.iload 7, 2) := by decide +kernel
theorem dX1_fitting_89 : decode cX1_fitting 89 = .ok (.istore 6, 2) := by decide +kernel
theorem dX1_fitting_91 : decode cX1_fitting 91 = .ok (.iinc 7 (-1), 3) := by decide +kernel
theorem dX1_fitting_94 : decode cX1_fitting 94 = .ok (.goto (-70), 3) := by decide +kernel
theorem dX1_fitting_97 : decode cX1_fitting 97 = .ok (.iload_n 3, 1) := by decide +kernel
theorem dX1_fitting_98 : decode cX1_fitting 98 = .ok (.ifCond .eq 8, 3) := by decide +kernel
theorem dX1_fitting_101 : decode cX1_fitting 101 = .ok (.iload 5, 2) := by decide +kernel
theorem dX1_fitting_103 : decode cX1_fitting 103 = .ok (.goto 5, 3) := by decide +kernel
theorem dX1_fitting_106 : decode cX1_fitting 106 = .ok (.iload 6, 2) := by decide +kernel
theorem dX1_fitting_108 : decode cX1_fitting 108 = .ok (.ireturn, 1) := by decide +kernel
theorem dX1_isAllSeenSo_0 : decode cX1_isAllSeenSo 0 = .ok (.iconst 0, 1) := by decide +kernel
theorem dX1_isAllSeenSo_1 : decode cX1_isAllSeenSo 1 = .ok (.istore_n 1, 1) := by decide +kernel
theorem dX1_isAllSeenSo_2 : decode cX1_isAllSeenSo 2 = .ok (.iconst 0, 1) := by decide +kernel
theorem dX1_isAllSeenSo_3 : decode cX1_isAllSeenSo 3 = .ok (.istore_n 2, 1) := by decide +kernel
theorem dX1_isAllSeenSo_4 : decode cX1_isAllSeenSo 4 = .ok (.iload_n 2, 1) := by decide +kernel
theorem dX1_isAllSeenSo_5 : decode cX1_isAllSeenSo 5 = .ok (.aload_n 0, 1) := by decide +kernel
theorem dX1_isAllSeenSo_6 : decode cX1_isAllSeenSo 6 = .ok (.getfield 28, 3) := by decide +kernel
theorem dX1_isAllSeenSo_9 : decode cX1_isAllSeenSo 9 = .ok (.getfield 125, 3) := by decide +kernel
theorem dX1_isAllSeenSo_12 : decode cX1_isAllSeenSo 12 = .ok (.if_icmp .ge 23, 3) := by decide +kernel
theorem dX1_isAllSeenSo_15 : decode cX1_isAllSeenSo 15 = .ok (.iload_n 1, 1) := by decide +kernel
theorem dX1_isAllSeenSo_16 : decode cX1_isAllSeenSo 16 = .ok (.aload_n 0, 1) := by decide +kernel
theorem dX1_isAllSeenSo_17 : decode cX1_isAllSeenSo 17 = .ok (.getfield 28, 3) := by decide +kernel
theorem dX1_isAllSeenSo_20 : decode cX1_isAllSeenSo 20 = .ok (.getfield 130, 3) := by decide +kernel
theorem dX1_isAllSeenSo_23 : decode cX1_isAllSeenSo 23 = .ok (.iload_n 2, 1) := by decide +kernel
theorem dX1_isAllSeenSo_24 : decode cX1_isAllSeenSo 24 = .ok (.iaload, 1) := by decide +kernel
theorem dX1_isAllSeenSo_25 : decode cX1_isAllSeenSo 25 = .ok (.invokestatic 133, 3) := by decide +kernel
theorem dX1_isAllSeenSo_28 : decode cX1_isAllSeenSo 28 = .ok (.istore_n 1, 1) := by decide +kernel
theorem dX1_isAllSeenSo_29 : decode cX1_isAllSeenSo 29 = .ok (.iinc 2 1, 3) := by decide +kernel
theorem dX1_isAllSeenSo_32 : decode cX1_isAllSeenSo 32 = .ok (.goto (-28), 3) := by decide +kernel
theorem dX1_isAllSeenSo_35 : decode cX1_isAllSeenSo 35 = .ok (.iconst 0, 1) := by decide +kernel
theorem dX1_isAllSeenSo_36 : decode cX1_isAllSeenSo 36 = .ok (.istore_n 2, 1) := by decide +kernel
theorem dX1_isAllSeenSo_37 : decode cX1_isAllSeenSo 37 = .ok (.iload_n 2, 1) := by decide +kernel
theorem dX1_isAllSeenSo_38 : decode cX1_isAllSeenSo 38 = .ok (.iload_n 1, 1) := by decide +kernel
theorem dX1_isAllSeenSo_39 : decode cX1_isAllSeenSo 39 = .ok (.if_icmp .gt 86, 3) := by decide +kernel
theorem dX1_isAllSeenSo_42 : decode cX1_isAllSeenSo 42 = .ok (.iconst 0, 1) := by decide +kernel
theorem dX1_isAllSeenSo_43 : decode cX1_isAllSeenSo 43 = .ok (.istore_n 3, 1) := by decide +kernel
theorem dX1_isAllSeenSo_44 : decode cX1_isAllSeenSo 44 = .ok (.iload_n 3, 1) := by decide +kernel
theorem dX1_isAllSeenSo_45 : decode cX1_isAllSeenSo 45 = .ok (.aload_n 0, 1) := by decide +kernel
theorem dX1_isAllSeenSo_46 : decode cX1_isAllSeenSo 46 = .ok (.getfield 28, 3) := by decide +kernel
theorem dX1_isAllSeenSo_49 : decode cX1_isAllSeenSo 49 = .ok (.getfield 125, 3) := by decide +kernel
theorem dX1_isAllSeenSo_52 : decode cX1_isAllSeenSo 52 = .ok (.if_icmp .ge 55, 3) := by decide +kernel
theorem dX1_isAllSeenSo_55 : decode cX1_isAllSeenSo 55 = .ok (.aload_n 0, 1) := by decide +kernel
theorem dX1_isAllSeenSo_56 : decode cX1_isAllSeenSo 56 = .ok (.getfield 28, 3) := by decide +kernel
theorem dX1_isAllSeenSo_59 : decode cX1_isAllSeenSo 59 = .ok (.getfield 130, 3) := by decide +kernel
theorem dX1_isAllSeenSo_62 : decode cX1_isAllSeenSo 62 = .ok (.iload_n 3, 1) := by decide +kernel
theorem dX1_isAllSeenSo_63 : decode cX1_isAllSeenSo 63 = .ok (.iaload, 1) := by decide +kernel
theorem dX1_isAllSeenSo_64 : decode cX1_isAllSeenSo 64 = .ok (.iload_n 2, 1) := by decide +kernel
theorem dX1_isAllSeenSo_65 : decode cX1_isAllSeenSo 65 = .ok (.if_icmp .ne 36, 3) := by decide +kernel
theorem dX1_isAllSeenSo_68 : decode cX1_isAllSeenSo 68 = .ok (.aload_n 0, 1) := by decide +kernel
theorem dX1_isAllSeenSo_69 : decode cX1_isAllSeenSo 69 = .ok (.getfield 18, 3) := by decide +kernel
theorem dX1_isAllSeenSo_72 : decode cX1_isAllSeenSo 72 = .ok (.aload_n 0, 1) := by decide +kernel
theorem dX1_isAllSeenSo_73 : decode cX1_isAllSeenSo 73 = .ok (.getfield 28, 3) := by decide +kernel
theorem dX1_isAllSeenSo_76 : decode cX1_isAllSeenSo 76 = .ok (.getfield 136, 3) := by decide +kernel
theorem dX1_isAllSeenSo_79 : decode cX1_isAllSeenSo 79 = .ok (.iload_n 3, 1) := by decide +kernel
theorem dX1_isAllSeenSo_80 : decode cX1_isAllSeenSo 80 = .ok (.iaload, 1) := by decide +kernel
theorem dX1_isAllSeenSo_81 : decode cX1_isAllSeenSo 81 = .ok (.invokevirtual 139, 3) := by decide +kernel
theorem dX1_isAllSeenSo_84 : decode cX1_isAllSeenSo 84 = .ok (.invokestatic 95, 3) := by decide +kernel
theorem dX1_isAllSeenSo_87 : decode cX1_isAllSeenSo 87 = .ok (.aload_n 0, 1) := by decide +kernel
theorem dX1_isAllSeenSo_88 : decode cX1_isAllSeenSo 88 = .ok (.getfield 28, 3) := by decide +kernel
theorem dX1_isAllSeenSo_91 : decode cX1_isAllSeenSo 91 = .ok (.getfield 142, 3) := by decide +kernel
theorem dX1_isAllSeenSo_94 : decode cX1_isAllSeenSo 94 = .ok (.iload_n 3, 1) := by decide +kernel
theorem dX1_isAllSeenSo_95 : decode cX1_isAllSeenSo 95 = .ok (.iaload, 1) := by decide +kernel
theorem dX1_isAllSeenSo_96 : decode cX1_isAllSeenSo 96 = .ok (.if_icmp .eq 5, 3) := by decide +kernel
theorem dX1_isAllSeenSo_99 : decode cX1_isAllSeenSo 99 = .ok (.iconst 0, 1) := by decide +kernel
theorem dX1_isAllSeenSo_100 : decode cX1_isAllSeenSo 100 = .ok (.ireturn, 1) := by decide +kernel
theorem dX1_isAllSeenSo_101 : decode cX1_isAllSeenSo 101 = .ok (.iinc 3 1, 3) := by decide +kernel
theorem dX1_isAllSeenSo_104 : decode cX1_isAllSeenSo 104 = .ok (.goto (-60), 3) := by decide +kernel
theorem dX1_isAllSeenSo_107 : decode cX1_isAllSeenSo 107 = .ok (.iload_n 2, 1) := by decide +kernel
theorem dX1_isAllSeenSo_108 : decode cX1_isAllSeenSo 108 = .ok (.iload_n 1, 1) := by decide +kernel
theorem dX1_isAllSeenSo_109 : decode cX1_isAllSeenSo 109 = .ok (.if_icmp .ge 10, 3) := by decide +kernel
theorem dX1_isAllSeenSo_112 : decode cX1_isAllSeenSo 112 = .ok (.aload_n 0, 1) := by decide +kernel
theorem dX1_isAllSeenSo_113 : decode cX1_isAllSeenSo 113 = .ok (.getfield 18, 3) := by decide +kernel
theorem dX1_isAllSeenSo_116 : decode cX1_isAllSeenSo 116 = .ok (.invokevirtual 48, 3) := by decide +kernel
theorem dX1_isAllSeenSo_119 : decode cX1_isAllSeenSo 119 = .ok (.iinc 2 1, 3) := by decide +kernel
theorem dX1_isAllSeenSo_122 : decode cX1_isAllSeenSo 122 = .ok (.goto (-85), 3) := by decide +kernel
theorem dX1_isAllSeenSo_125 : decode cX1_isAllSeenSo 125 = .ok (.iconst 1, 1) := by decide +kernel
theorem dX1_isAllSeenSo_126 : decode cX1_isAllSeenSo 126 = .ok (.ireturn, 1) := by decide +kernel
theorem dX1_countHot_0 : decode cX1_countHot 0 = .ok (.iconst 0, 1) := by decide +kernel
theorem dX1_countHot_1 : decode cX1_countHot 1 = .ok (.istore_n 3, 1) := by decide +kernel
theorem dX1_countHot_2 : decode cX1_countHot 2 = .ok (.iconst 0, 1) := by decide +kernel
theorem dX1_countHot_3 : decode cX1_countHot 3 = .ok (.istore 4, 2) := by decide +kernel
theorem dX1_countHot_5 : decode cX1_countHot 5 = .ok (.iload 4, 2) := by decide +kernel
theorem dX1_countHot_7 : decode cX1_countHot 7 = .ok (.aload_n 0, 1) := by decide +kernel
theorem dX1_countHot_8 : decode cX1_countHot 8 = .ok (.getfield 25, 3) := by decide +kernel
theorem dX1_countHot_11 : decode cX1_countHot 11 = .ok (.getfield 99, 3) := by decide +kernel
theorem dX1_countHot_14 : decode cX1_countHot 14 = .ok (.if_icmp .ge 52, 3) := by decide +kernel
theorem dX1_countHot_17 : decode cX1_countHot 17 = .ok (.aload_n 0, 1) := by decide +kernel
theorem dX1_countHot_18 : decode cX1_countHot 18 = .ok (.getfield 25, 3) := by decide +kernel
theorem dX1_countHot_21 : decode cX1_countHot 21 = .ok (.getfield 102, 3) := by decide +kernel
theorem dX1_countHot_24 : decode cX1_countHot 24 = .ok (.iload 4, 2) := by decide +kernel
theorem dX1_countHot_26 : decode cX1_countHot 26 = .ok (.baload, 1) := by decide +kernel
theorem dX1_countHot_27 : decode cX1_countHot 27 = .ok (.ifCond .ne 33, 3) := by decide +kernel
theorem dX1_countHot_30 : decode cX1_countHot 30 = .ok (.aload_n 0, 1) := by decide +kernel
theorem dX1_countHot_31 : decode cX1_countHot 31 = .ok (.iload 4, 2) := by decide +kernel
theorem dX1_countHot_33 : decode cX1_countHot 33 = .ok (.bipush 20, 2) := by decide +kernel
theorem dX1_countHot_35 : decode cX1_countHot 35 = .ok (.invokevirtual 109, 3) := by decide +kernel
theorem dX1_countHot_38 : decode cX1_countHot 38 = .ok (.aload_n 0, 1) := by decide +kernel
theorem dX1_countHot_39 : decode cX1_countHot 39 = .ok (.getfield 18, 3) := by decide +kernel
theorem dX1_countHot_42 : decode cX1_countHot 42 = .ok (.iload_n 2, 1) := by decide +kernel
theorem dX1_countHot_43 : decode cX1_countHot 43 = .ok (.invokevirtual 36, 3) := by decide +kernel
theorem dX1_countHot_46 : decode cX1_countHot 46 = .ok (.iload_n 3, 1) := by decide +kernel
theorem dX1_countHot_47 : decode cX1_countHot 47 = .ok (.aload_n 0, 1) := by decide +kernel
theorem dX1_countHot_48 : decode cX1_countHot 48 = .ok (.getfield 18, 3) := by decide +kernel
theorem dX1_countHot_51 : decode cX1_countHot 51 = .ok (.iload_n 1, 1) := by decide +kernel
theorem dX1_countHot_52 : decode cX1_countHot 52 = .ok (.invokevirtual 139, 3) := by decide +kernel
theorem dX1_countHot_55 : decode cX1_countHot 55 = .ok (.invokestatic 95, 3) := by decide +kernel
theorem dX1_countHot_58 : decode cX1_countHot 58 = .ok (.iadd, 1) := by decide +kernel
theorem dX1_countHot_59 : decode cX1_countHot 59 = .ok (.istore_n 3, 1) := by decide +kernel
theorem dX1_countHot_60 : decode cX1_countHot 60 = .ok (.iinc 4 1, 3) := by decide +kernel
theorem dX1_countHot_63 : decode cX1_countHot 63 = .ok (.goto (-58), 3) := by decide +kernel
theorem dX1_countHot_66 : decode cX1_countHot 66 = .ok (.iload_n 3, 1) := by decide +kernel
theorem dX1_countHot_67 : decode cX1_countHot 67 = .ok (.ireturn, 1) := by decide +kernel
theorem dX1_behindPlan_0 : decode cX1_behindPlan 0 = .ok (.aload_n 0, 1) := by decide +kernel
theorem dX1_behindPlan_1 : decode cX1_behindPlan 1 = .ok (.getfield 18, 3) := by decide +kernel
theorem dX1_behindPlan_4 : decode cX1_behindPlan 4 = .ok (.aload_n 0, 1) := by decide +kernel
theorem dX1_behindPlan_5 : decode cX1_behindPlan 5 = .ok (.getfield 25, 3) := by decide +kernel
theorem dX1_behindPlan_8 : decode cX1_behindPlan 8 = .ok (.invokevirtual 32, 3) := by decide +kernel
theorem dX1_behindPlan_11 : decode cX1_behindPlan 11 = .ok (.iconst 0, 1) := by decide +kernel
theorem dX1_behindPlan_12 : decode cX1_behindPlan 12 = .ok (.istore_n 2, 1) := by decide +kernel
theorem dX1_behindPlan_13 : decode cX1_behindPlan 13 = .ok (.iload_n 2, 1) := by decide +kernel
theorem dX1_behindPlan_14 : decode cX1_behindPlan 14 = .ok (.aload_n 1, 1) := by decide +kernel
theorem dX1_behindPlan_15 : decode cX1_behindPlan 15 = .ok (.getfield 125, 3) := by decide +kernel
theorem dX1_behindPlan_18 : decode cX1_behindPlan 18 = .ok (.if_icmp .ge 25, 3) := by decide +kernel
theorem dX1_behindPlan_21 : decode cX1_behindPlan 21 = .ok (.aload_n 0, 1) := by decide +kernel
theorem dX1_behindPlan_22 : decode cX1_behindPlan 22 = .ok (.aload_n 1, 1) := by decide +kernel
theorem dX1_behindPlan_23 : decode cX1_behindPlan 23 = .ok (.getfield 136, 3) := by decide +kernel
theorem dX1_behindPlan_26 : decode cX1_behindPlan 26 = .ok (.iload_n 2, 1) := by decide +kernel
theorem dX1_behindPlan_27 : decode cX1_behindPlan 27 = .ok (.iaload, 1) := by decide +kernel
theorem dX1_behindPlan_28 : decode cX1_behindPlan 28 = .ok (.aload_n 1, 1) := by decide +kernel
theorem dX1_behindPlan_29 : decode cX1_behindPlan 29 = .ok (.getfield 130, 3) := by decide +kernel
theorem dX1_behindPlan_32 : decode cX1_behindPlan 32 = .ok (.iload_n 2, 1) := by decide +kernel
theorem dX1_behindPlan_33 : decode cX1_behindPlan 33 = .ok (.iaload, 1) := by decide +kernel
theorem dX1_behindPlan_34 : decode cX1_behindPlan 34 = .ok (.invokevirtual 145, 3) := by decide +kernel
theorem dX1_behindPlan_37 : decode cX1_behindPlan 37 = .ok (.iinc 2 1, 3) := by decide +kernel
theorem dX1_behindPlan_40 : decode cX1_behindPlan 40 = .ok (.goto (-27), 3) := by decide +kernel
theorem dX1_behindPlan_43 : decode cX1_behindPlan 43 = .ok (.aload_n 0, 1) := by decide +kernel
theorem dX1_behindPlan_44 : decode cX1_behindPlan 44 = .ok (.getfield 18, 3) := by decide +kernel
theorem dX1_behindPlan_47 : decode cX1_behindPlan 47 = .ok (.areturn, 1) := by decide +kernel
theorem dX1_goPlanned_0 : decode cX1_goPlanned 0 = .ok (.iload_n 1, 1) := by decide +kernel
theorem dX1_goPlanned_1 : decode cX1_goPlanned 1 = .ok (.ifCond .ne 13, 3) := by decide +kernel
theorem dX1_goPlanned_4 : decode cX1_goPlanned 4 = .ok (.aload_n 0, 1) := by decide +kernel
theorem dX1_goPlanned_5 : decode cX1_goPlanned 5 = .ok (.getfield 18, 3) := by decide +kernel
theorem dX1_goPlanned_8 : decode cX1_goPlanned 8 = .ok (.invokevirtual 48, 3) := by decide +kernel
theorem dX1_goPlanned_11 : decode cX1_goPlanned 11 = .ok (.goto 49, 3) := by decide +kernel
theorem dX1_goPlanned_14 : decode cX1_goPlanned 14 = .ok (.iload_n 1, 1) := by decide +kernel
theorem dX1_goPlanned_15 : decode cX1_goPlanned 15 = .ok (.iconst 3, 1) := by decide +kernel
theorem dX1_goPlanned_16 : decode cX1_goPlanned 16 = .ok (.if_icmp .ne 14, 3) := by decide +kernel
theorem dX1_goPlanned_19 : decode cX1_goPlanned 19 = .ok (.aload_n 0, 1) := by decide +kernel
theorem dX1_goPlanned_20 : decode cX1_goPlanned 20 = .ok (.getfield 18, 3) := by decide +kernel
theorem dX1_goPlanned_23 : decode cX1_goPlanned 23 = .ok (.iload_n 2, 1) := by decide +kernel
theorem dX1_goPlanned_24 : decode cX1_goPlanned 24 = .ok (.putfield 40, 3) := by decide +kernel
theorem dX1_goPlanned_27 : decode cX1_goPlanned 27 = .ok (.goto 33, 3) := by decide +kernel
theorem dX1_goPlanned_30 : decode cX1_goPlanned 30 = .ok (.aload_n 0, 1) := by decide +kernel
theorem dX1_goPlanned_31 : decode cX1_goPlanned 31 = .ok (.getfield 18, 3) := by decide +kernel
theorem dX1_goPlanned_34 : decode cX1_goPlanned 34 = .ok (.iload_n 2, 1) := by decide +kernel
theorem dX1_goPlanned_35 : decode cX1_goPlanned 35 = .ok (.invokevirtual 148, 3) := by decide +kernel
theorem dX1_goPlanned_38 : decode cX1_goPlanned 38 = .ok (.ifCond .eq 22, 3) := by decide +kernel
theorem dX1_goPlanned_41 : decode cX1_goPlanned 41 = .ok (.aload_n 0, 1) := by decide +kernel
theorem dX1_goPlanned_42 : decode cX1_goPlanned 42 = .ok (.getfield 18, 3) := by decide +kernel
theorem dX1_goPlanned_45 : decode cX1_goPlanned 45 = .ok (.getfield 102, 3) := by decide +kernel
theorem dX1_goPlanned_48 : decode cX1_goPlanned 48 = .ok (.iload_n 2, 1) := by decide +kernel
theorem dX1_goPlanned_49 : decode cX1_goPlanned 49 = .ok (.iload_n 1, 1) := by decide +kernel
theorem dX1_goPlanned_50 : decode cX1_goPlanned 50 = .ok (.iconst 1, 1) := by decide +kernel
theorem dX1_goPlanned_51 : decode cX1_goPlanned 51 = .ok (.if_icmp .ne 7, 3) := by decide +kernel
theorem dX1_goPlanned_54 : decode cX1_goPlanned 54 = .ok (.iconst 1, 1) := by decide +kernel
theorem dX1_goPlanned_55 : decode cX1_goPlanned 55 = .ok (.goto 4, 3) := by decide +kernel
theorem dX1_goPlanned_58 : decode cX1_goPlanned 58 = .ok (.iconst 0, 1) := by decide +kernel
theorem dX1_goPlanned_59 : decode cX1_goPlanned 59 = .ok (.bastore, 1) := by decide +kernel
theorem dX1_goPlanned_60 : decode cX1_goPlanned 60 = .ok (.return_, 1) := by decide +kernel
theorem dX2_init_0 : decode cX2_init 0 = .ok (.aload_n 0, 1) := by decide +kernel
theorem dX2_init_1 : decode cX2_init 1 = .ok (.invokespecial 3, 3) := by decide +kernel
theorem dX2_init_4 : decode cX2_init 4 = .ok (.aload_n 0, 1) := by decide +kernel
theorem dX2_init_5 : decode cX2_init 5 = .ok (.bipush 100, 2) := by decide +kernel
theorem dX2_init_7 : decode cX2_init 7 = .ok (.newarray .byte, 2) := by decide +kernel
theorem dX2_init_9 : decode cX2_init 9 = .ok (.putfield 9, 3) := by decide +kernel
theorem dX2_init_12 : decode cX2_init 12 = .ok (.return_, 1) := by decide +kernel
theorem dX2_add_0 : decode cX2_add 0 = .ok (.aload_n 0, 1) := by decide +kernel
theorem dX2_add_1 : decode cX2_add 1 = .ok (.getfield 15, 3) := by decide +kernel
theorem dX2_add_4 : decode cX2_add 4 = .ok (.aload_n 0, 1) := by decide +kernel
theorem dX2_add_5 : decode cX2_add 5 = .ok (.getfield 9, 3) := by decide +kernel
theorem dX2_add_8 : decode cX2_add 8 = .ok (.arraylength, 1) := by decide +kernel
theorem dX2_add_9 : decode cX2_add 9 = .ok (.if_icmp .ge 23, 3) := by decide +kernel
theorem dX2_add_12 : decode cX2_add 12 = .ok (.aload_n 0, 1) := by decide +kernel
theorem dX2_add_13 : decode cX2_add 13 = .ok (.getfield 9, 3) := by decide +kernel
theorem dX2_add_16 : decode cX2_add 16 = .ok (.aload_n 0, 1) := by decide +kernel
theorem dX2_add_17 : decode cX2_add 17 = .ok (.getfield 15, 3) := by decide +kernel
theorem dX2_add_20 : decode cX2_add 20 = .ok (.iload_n 1, 1) := by decide +kernel
theorem dX2_add_21 : decode cX2_add 21 = .ok (.bastore, 1) := by decide +kernel
theorem dX2_add_22 : decode cX2_add 22 = .ok (.aload_n 0, 1) := by decide +kernel
theorem dX2_add_23 : decode cX2_add 23 = .ok (.dup, 1) := by decide +kernel
theorem dX2_add_24 : decode cX2_add 24 = .ok (.getfield 15, 3) := by decide +kernel
theorem dX2_add_27 : decode cX2_add 27 = .ok (.iconst 1, 1) := by decide +kernel
theorem dX2_add_28 : decode cX2_add 28 = .ok (.iadd, 1) := by decide +kernel
theorem dX2_add_29 : decode cX2_add 29 = .ok (.putfield 15, 3) := by decide +kernel
theorem dX2_add_32 : decode cX2_add 32 = .ok (.aload_n 0, 1) := by decide +kernel
theorem dX2_add_33 : decode cX2_add 33 = .ok (.getfield 15, 3) := by decide +kernel
theorem dX2_add_36 : decode cX2_add 36 = .ok (.ireturn, 1) := by decide +kernel
theorem dX2_empty_0 : decode cX2_empty 0 = .ok (.aload_n 0, 1) := by decide +kernel
theorem dX2_empty_1 : decode cX2_empty 1 = .ok (.iconst 0, 1) := by decide +kernel
theorem dX2_empty_2 : decode cX2_empty 2 = .ok (.putfield 15, 3) := by decide +kernel
theorem dX2_empty_5 : decode cX2_empty 5 = .ok (.return_, 1) := by decide +kernel
theorem dX2_reads_0 : decode cX2_reads 0 = .ok (.aload_n 1, 1) := by decide +kernel
theorem dX2_reads_1 : decode cX2_reads 1 = .ok (.invokevirtual 19, 3) := by decide +kernel
theorem dX2_reads_4 : decode cX2_reads 4 = .ok (.aload_n 0, 1) := by decide +kernel
theorem dX2_reads_5 : decode cX2_reads 5 = .ok (.aload_n 1, 1) := by decide +kernel
theorem dX2_reads_6 : decode cX2_reads 6 = .ok (.putfield 24, 3) := by decide +kernel
theorem dX2_reads_9 : decode cX2_reads 9 = .ok (.aload_n 0, 1) := by decide +kernel
theorem dX2_reads_10 : decode cX2_reads 10 = .ok (.iconst 0, 1) := by decide +kernel
theorem dX2_reads_11 : decode cX2_reads 11 = .ok (.putfield 28, 3) := by decide +kernel
theorem dX2_reads_14 : decode cX2_reads 14 = .ok (.iconst 1, 1) := by decide +kernel
theorem dX2_reads_15 : decode cX2_reads 15 = .ok (.istore_n 2, 1) := by decide +kernel
theorem dX2_reads_16 : decode cX2_reads 16 = .ok (.iload_n 2, 1) := by decide +kernel
theorem dX2_reads_17 : decode cX2_reads 17 = .ok (.bipush 10, 2) := by decide +kernel
theorem dX2_reads_19 : decode cX2_reads 19 = .ok (.if_icmp .gt 48, 3) := by decide +kernel
theorem dX2_reads_22 : decode cX2_reads 22 = .ok (.aload_n 0, 1) := by decide +kernel
theorem dX2_reads_23 : decode cX2_reads 23 = .ok (.invokevirtual 31, 3) := by decide +kernel
theorem dX2_reads_26 : decode cX2_reads 26 = .ok (.ifCond .ne 5, 3) := by decide +kernel
theorem dX2_reads_29 : decode cX2_reads 29 = .ok (.iconst 0, 1) := by decide +kernel
theorem dX2_reads_30 : decode cX2_reads 30 = .ok (.ireturn, 1) := by decide +kernel
theorem dX2_reads_31 : decode cX2_reads 31 = .ok (.aload_n 0, 1) := by decide +kernel
theorem dX2_reads_32 : decode cX2_reads 32 = .ok (.getfield 28, 3) := by decide +kernel
theorem dX2_reads_35 : decode cX2_reads 35 = .ok (.aload_n 0, 1) := by decide +kernel
theorem dX2_reads_36 : decode cX2_reads 36 = .ok (.getfield 15, 3) := by decide +kernel
theorem dX2_reads_39 : decode cX2_reads 39 = .ok (.if_icmp .ne 5, 3) := by decide +kernel
theorem dX2_reads_42 : decode cX2_reads 42 = .ok (.iconst 1, 1) := by decide +kernel
theorem dX2_reads_43 : decode cX2_reads 43 = .ok (.ireturn, 1) := by decide +kernel
theorem dX2_reads_44 : decode cX2_reads 44 = .ok (.iload_n 2, 1) := by decide +kernel
theorem dX2_reads_45 : decode cX2_reads 45 = .ok (.bipush 10, 2) := by decide +kernel
theorem dX2_reads_47 : decode cX2_reads 47 = .ok (.if_icmp .eq 12, 3) := by decide +kernel
theorem dX2_reads_50 : decode cX2_reads 50 = .ok (.aload_n 0, 1) := by decide +kernel
theorem dX2_reads_51 : decode cX2_reads 51 = .ok (.bipush 59, 2) := by decide +kernel
theorem dX2_reads_53 : decode cX2_reads 53 = .ok (.invokevirtual 35, 3) := by decide +kernel
theorem dX2_reads_56 : decode cX2_reads 56 = .ok (.ifCond .ne 5, 3) := by decide +kernel
theorem dX2_reads_59 : decode cX2_reads 59 = .ok (.iconst 0, 1) := by decide +kernel
theorem dX2_reads_60 : decode cX2_reads 60 = .ok (.ireturn, 1) := by decide +kernel
theorem dX2_reads_61 : decode cX2_reads 61 = .ok (.iinc 2 1, 3) := by decide +kernel
theorem dX2_reads_64 : decode cX2_reads 64 = .ok (.goto (-48), 3) := by decide +kernel
theorem dX2_reads_67 : decode cX2_reads 67 = .ok (.iconst 0, 1) := by decide +kernel
theorem dX2_reads_68 : decode cX2_reads 68 = .ok (.ireturn, 1) := by decide +kernel
theorem dX2_readsClause_0 : decode cX2_readsClause 0 = .ok (.aload_n 0, 1) := by decide +kernel
theorem dX2_readsClause_1 : decode cX2_readsClause 1 = .ok (.bipush 104, 2) := by decide +kernel
theorem dX2_readsClause_3 : decode cX2_readsClause 3 = .ok (.invokevirtual 39, 3) := by decide +kernel
theorem dX2_readsClause_6 : decode cX2_readsClause 6 = .ok (.ifCond .eq 26, 3) := by decide +kernel
theorem dX2_readsClause_9 : decode cX2_readsClause 9 = .ok (.aload_n 0, 1) := by decide +kernel
theorem dX2_readsClause_10 : decode cX2_readsClause 10 = .ok (.ldc 42, 2) := by decide +kernel
theorem dX2_readsClause_12 : decode cX2_readsClause 12 = .ok (.invokevirtual 44, 3) := by decide +kernel
theorem dX2_readsClause_15 : decode cX2_readsClause 15 = .ok (.ifCond .eq 15, 3) := by decide +kernel
theorem dX2_readsClause_18 : decode cX2_readsClause 18 = .ok (.aload_n 0, 1) := by decide +kernel
theorem dX2_readsClause_19 : decode cX2_readsClause 19 = .ok (.iconst 1, 1) := by decide +kernel
theorem dX2_readsClause_20 : decode cX2_readsClause 20 = .ok (.invokevirtual 48, 3) := by decide +kernel
theorem dX2_readsClause_23 : decode cX2_readsClause 23 = .ok (.ifCond .eq 7, 3) := by decide +kernel
theorem dX2_readsClause_26 : decode cX2_readsClause 26 = .ok (.iconst 1, 1) := by decide +kernel
theorem dX2_readsClause_27 : decode cX2_readsClause 27 = .ok (.goto 4, 3) := by decide +kernel
theorem dX2_readsClause_30 : decode cX2_readsClause 30 = .ok (.iconst 0, 1) := by decide +kernel
theorem dX2_readsClause_31 : decode cX2_readsClause 31 = .ok (.ireturn, 1) := by decide +kernel
theorem dX2_readsClause_32 : decode cX2_readsClause 32 = .ok (.aload_n 0, 1) := by decide +kernel
theorem dX2_readsClause_33 : decode cX2_readsClause 33 = .ok (.bipush 99, 2) := by decide +kernel
theorem dX2_readsClause_35 : decode cX2_readsClause 35 = .ok (.invokevirtual 39, 3) := by decide +kernel
theorem dX2_readsClause_38 : decode cX2_readsClause 38 = .ok (.ifCond .eq 26, 3) := by decide +kernel
theorem dX2_readsClause_41 : decode cX2_readsClause 41 = .ok (.aload_n 0, 1) := by decide +kernel
theorem dX2_readsClause_42 : decode cX2_readsClause 42 = .ok (.ldc 52, 2) := by decide +kernel
theorem dX2_readsClause_44 : decode cX2_readsClause 44 = .ok (.invokevirtual 44, 3) := by decide +kernel
theorem dX2_readsClause_47 : decode cX2_readsClause 47 = .ok (.ifCond .eq 15, 3) := by decide +kernel
theorem dX2_readsClause_50 : decode cX2_readsClause 50 = .ok (.aload_n 0, 1) := by decide +kernel
theorem dX2_readsClause_51 : decode cX2_readsClause 51 = .ok (.iconst (-1), 1) := by decide +kernel
theorem dX2_readsClause_52 : decode cX2_readsClause 52 = .ok (.invokevirtual 48, 3) := by decide +kernel
theorem dX2_readsClause_55 : decode cX2_readsClause 55 = .ok (.ifCond .eq 7, 3) := by decide +kernel
theorem dX2_readsClause_58 : decode cX2_readsClause 58 = .ok (.iconst 1, 1) := by decide +kernel
theorem dX2_readsClause_59 : decode cX2_readsClause 59 = .ok (.goto 4, 3) := by decide +kernel
theorem dX2_readsClause_62 : decode cX2_readsClause 62 = .ok (.iconst 0, 1) := by decide +kernel
theorem dX2_readsClause_63 : decode cX2_readsClause 63 = .ok (.ireturn, 1) := by decide +kernel
theorem dX2_readsClause_64 : decode cX2_readsClause 64 = .ok (.aload_n 0, 1) := by decide +kernel
theorem dX2_readsClause_65 : decode cX2_readsClause 65 = .ok (.ldc 54, 2) := by decide +kernel
theorem dX2_readsClause_67 : decode cX2_readsClause 67 = .ok (.invokevirtual 44, 3) := by decide +kernel
theorem dX2_readsClause_70 : decode cX2_readsClause 70 = .ok (.ifCond .eq 12, 3) := by decide +kernel
theorem dX2_readsClause_73 : decode cX2_readsClause 73 = .ok (.aload_n 0, 1) := by decide +kernel
theorem dX2_readsClause_74 : decode cX2_readsClause 74 = .ok (.bipush 32, 2) := by decide +kernel
theorem dX2_readsClause_76 : decode cX2_readsClause 76 = .ok (.invokevirtual 35, 3) := by decide +kernel
theorem dX2_readsClause_79 : decode cX2_readsClause 79 = .ok (.ifCond .ne 5, 3) := by decide +kernel
theorem dX2_readsClause_82 : decode cX2_readsClause 82 = .ok (.iconst 0, 1) := by decide +kernel
theorem dX2_readsClause_83 : decode cX2_readsClause 83 = .ok (.ireturn, 1) := by decide +kernel
theorem dX2_readsClause_84 : decode cX2_readsClause 84 = .ok (.aload_n 0, 1) := by decide +kernel
theorem dX2_readsClause_85 : decode cX2_readsClause 85 = .ok (.invokevirtual 56, 3) := by decide +kernel
theorem dX2_readsClause_88 : decode cX2_readsClause 88 = .ok (.istore_n 1, 1) := by decide +kernel
theorem dX2_readsClause_89 : decode cX2_readsClause 89 = .ok (.iload_n 1, 1) := by decide +kernel
theorem dX2_readsClause_90 : decode cX2_readsClause 90 = .ok (.ifCond .lt 11, 3) := by decide +kernel
theorem dX2_readsClause_93 : decode cX2_readsClause 93 = .ok (.aload_n 0, 1) := by decide +kernel
theorem dX2_readsClause_94 : decode cX2_readsClause 94 = .ok (.getfield 24, 3) := by decide +kernel
theorem dX2_readsClause_97 : decode cX2_readsClause 97 = .ok (.iload_n 1, 1) := by decide +kernel
theorem dX2_readsClause_98 : decode cX2_readsClause 98 = .ok (.putfield 60, 3) := by decide +kernel
theorem dX2_readsClause_101 : decode cX2_readsClause 101 = .ok (.iload_n 1, 1) := by decide +kernel
theorem dX2_readsClause_102 : decode cX2_readsClause 102 = .ok (.ifCond .lt 7, 3) := by decide +kernel
theorem dX2_readsClause_105 : decode cX2_readsClause 105 = .ok (.iconst 1, 1) := by decide +kernel
theorem dX2_readsClause_106 : decode cX2_readsClause 106 = .ok (.goto 4, 3) := by decide +kernel
theorem dX2_readsClause_109 : decode cX2_readsClause 109 = .ok (.iconst 0, 1) := by decide +kernel
theorem dX2_readsClause_110 : decode cX2_readsClause 110 = .ok (.ireturn, 1) := by decide +kernel
theorem dX2_readsHeat_0 : decode cX2_readsHeat 0 = .ok (.aload_n 0, 1) := by decide +kernel
theorem dX2_readsHeat_1 : decode cX2_readsHeat 1 = .ok (.bipush 32, 2) := by decide +kernel
theorem dX2_readsHeat_3 : decode cX2_readsHeat 3 = .ok (.invokevirtual 35, 3) := by decide +kernel
theorem dX2_readsHeat_6 : decode cX2_readsHeat 6 = .ok (.ifCond .ne 5, 3) := by decide +kernel
theorem dX2_readsHeat_9 : decode cX2_readsHeat 9 = .ok (.iconst 0, 1) := by decide +kernel
theorem dX2_readsHeat_10 : decode cX2_readsHeat 10 = .ok (.ireturn, 1) := by decide +kernel
theorem dX2_readsHeat_11 : decode cX2_readsHeat 11 = .ok (.aload_n 0, 1) := by decide +kernel
theorem dX2_readsHeat_12 : decode cX2_readsHeat 12 = .ok (.invokevirtual 56, 3) := by decide +kernel
theorem dX2_readsHeat_15 : decode cX2_readsHeat 15 = .ok (.istore_n 2, 1) := by decide +kernel
theorem dX2_readsHeat_16 : decode cX2_readsHeat 16 = .ok (.iload_n 2, 1) := by decide +kernel
theorem dX2_readsHeat_17 : decode cX2_readsHeat 17 = .ok (.ifCond .lt 20, 3) := by decide +kernel
theorem dX2_readsHeat_20 : decode cX2_readsHeat 20 = .ok (.aload_n 0, 1) := by decide +kernel
theorem dX2_readsHeat_21 : decode cX2_readsHeat 21 = .ok (.bipush 32, 2) := by decide +kernel
theorem dX2_readsHeat_23 : decode cX2_readsHeat 23 = .ok (.invokevirtual 35, 3) := by decide +kernel
theorem dX2_readsHeat_26 : decode cX2_readsHeat 26 = .ok (.ifCond .eq 11, 3) := by decide +kernel
theorem dX2_readsHeat_29 : decode cX2_readsHeat 29 = .ok (.aload_n 0, 1) := by decide +kernel
theorem dX2_readsHeat_30 : decode cX2_readsHeat 30 = .ok (.iconst 0, 1) := by decide +kernel
theorem dX2_readsHeat_31 : decode cX2_readsHeat 31 = .ok (.invokevirtual 62, 3) := by decide +kernel
theorem dX2_readsHeat_34 : decode cX2_readsHeat 34 = .ok (.ifCond .ne 5, 3) := by decide +kernel
theorem dX2_readsHeat_37 : decode cX2_readsHeat 37 = .ok (.iconst 0, 1) := by decide +kernel
theorem dX2_readsHeat_38 : decode cX2_readsHeat 38 = .ok (.ireturn, 1) := by decide +kernel
theorem dX2_readsHeat_39 : decode cX2_readsHeat 39 = .ok (.aload_n 0, 1) := by decide +kernel
theorem dX2_readsHeat_40 : decode cX2_readsHeat 40 = .ok (.getfield 24, 3) := by decide +kernel
theorem dX2_readsHeat_43 : decode cX2_readsHeat 43 = .ok (.iload_n 1, 1) := by decide +kernel
theorem dX2_readsHeat_44 : decode cX2_readsHeat 44 = .ok (.iload_n 2, 1) := by decide +kernel
theorem dX2_readsHeat_45 : decode cX2_readsHeat 45 = .ok (.imul, 1) := by decide +kernel
theorem dX2_readsHeat_46 : decode cX2_readsHeat 46 = .ok (.invokevirtual 65, 3) := by decide +kernel
theorem dX2_readsHeat_49 : decode cX2_readsHeat 49 = .ok (.iconst 1, 1) := by decide +kernel
theorem dX2_readsHeat_50 : decode cX2_readsHeat 50 = .ok (.ireturn, 1) := by decide +kernel
theorem dX2_readsEither_0 : decode cX2_readsEither 0 = .ok (.aload_n 0, 1) := by decide +kernel
theorem dX2_readsEither_1 : decode cX2_readsEither 1 = .ok (.iload_n 1, 1) := by decide +kernel
theorem dX2_readsEither_2 : decode cX2_readsEither 2 = .ok (.invokevirtual 69, 3) := by decide +kernel
theorem dX2_readsEither_5 : decode cX2_readsEither 5 = .ok (.ifCond .ne 5, 3) := by decide +kernel
theorem dX2_readsEither_8 : decode cX2_readsEither 8 = .ok (.iconst 0, 1) := by decide +kernel
theorem dX2_readsEither_9 : decode cX2_readsEither 9 = .ok (.ireturn, 1) := by decide +kernel
theorem dX2_readsEither_10 : decode cX2_readsEither 10 = .ok (.iconst 0, 1) := by decide +kernel
theorem dX2_readsEither_11 : decode cX2_readsEither 11 = .ok (.istore_n 2, 1) := by decide +kernel
theorem dX2_readsEither_12 : decode cX2_readsEither 12 = .ok (.iload_n 2, 1) := by decide +kernel
theorem dX2_readsEither_13 : decode cX2_readsEither 13 = .ok (.bipush 100, 2) := by decide +kernel
theorem dX2_readsEither_15 : decode cX2_readsEither 15 = .ok (.if_icmp .ge 37, 3) := by decide +kernel
theorem dX2_readsEither_18 : decode cX2_readsEither 18 = .ok (.aload_n 0, 1) := by decide +kernel
theorem dX2_readsEither_19 : decode cX2_readsEither 19 = .ok (.bipush 124, 2) := by decide +kernel
theorem dX2_readsEither_21 : decode cX2_readsEither 21 = .ok (.invokevirtual 35, 3) := by decide +kernel
theorem dX2_readsEither_24 : decode cX2_readsEither 24 = .ok (.ifCond .eq 28, 3) := by decide +kernel
theorem dX2_readsEither_27 : decode cX2_readsEither 27 = .ok (.aload_n 0, 1) := by decide +kernel
theorem dX2_readsEither_28 : decode cX2_readsEither 28 = .ok (.iload_n 1, 1) := by decide +kernel
theorem dX2_readsEither_29 : decode cX2_readsEither 29 = .ok (.invokevirtual 69, 3) := by decide +kernel
theorem dX2_readsEither_32 : decode cX2_readsEither 32 = .ok (.ifCond .ne 5, 3) := by decide +kernel
theorem dX2_readsEither_35 : decode cX2_readsEither 35 = .ok (.iconst 0, 1) := by decide +kernel
theorem dX2_readsEither_36 : decode cX2_readsEither 36 = .ok (.ireturn, 1) := by decide +kernel
theorem dX2_readsEither_37 : decode cX2_readsEither 37 = .ok (.aload_n 0, 1) := by decide +kernel
theorem dX2_readsEither_38 : decode cX2_readsEither 38 = .ok (.getfield 24, 3) := by decide +kernel
theorem dX2_readsEither_41 : decode cX2_readsEither 41 = .ok (.bipush (-3), 2) := by decide +kernel
theorem dX2_readsEither_43 : decode cX2_readsEither 43 = .ok (.invokevirtual 72, 3) := by decide +kernel
theorem dX2_readsEither_46 : decode cX2_readsEither 46 = .ok (.iinc 2 1, 3) := by decide +kernel
theorem dX2_readsEither_49 : decode cX2_readsEither 49 = .ok (.goto (-37), 3) := by decide +kernel
theorem dX2_readsEither_52 : decode cX2_readsEither 52 = .ok (.iconst 1, 1) := by decide +kernel
theorem dX2_readsEither_53 : decode cX2_readsEither 53 = .ok (.ireturn, 1) := by decide +kernel
theorem dX2_readsBoth_0 : decode cX2_readsBoth 0 = .ok (.aload_n 0, 1) := by decide +kernel
theorem dX2_readsBoth_1 : decode cX2_readsBoth 1 = .ok (.iload_n 1, 1) := by decide +kernel
theorem dX2_readsBoth_2 : decode cX2_readsBoth 2 = .ok (.invokevirtual 75, 3) := by decide +kernel
theorem dX2_readsBoth_5 : decode cX2_readsBoth 5 = .ok (.ifCond .ne 5, 3) := by decide +kernel
theorem dX2_readsBoth_8 : decode cX2_readsBoth 8 = .ok (.iconst 0, 1) := by decide +kernel
theorem dX2_readsBoth_9 : decode cX2_readsBoth 9 = .ok (.ireturn, 1) := by decide +kernel
theorem dX2_readsBoth_10 : decode cX2_readsBoth 10 = .ok (.iconst 0, 1) := by decide +kernel
theorem dX2_readsBoth_11 : decode cX2_readsBoth 11 = .ok (.istore_n 2, 1) := by decide +kernel
theorem dX2_readsBoth_12 : decode cX2_readsBoth 12 = .ok (.iload_n 2, 1) := by decide +kernel
theorem dX2_readsBoth_13 : decode cX2_readsBoth 13 = .ok (.bipush 100, 2) := by decide +kernel
theorem dX2_readsBoth_15 : decode cX2_readsBoth 15 = .ok (.if_icmp .ge 37, 3) := by decide +kernel
theorem dX2_readsBoth_18 : decode cX2_readsBoth 18 = .ok (.aload_n 0, 1) := by decide +kernel
theorem dX2_readsBoth_19 : decode cX2_readsBoth 19 = .ok (.bipush 38, 2) := by decide +kernel
theorem dX2_readsBoth_21 : decode cX2_readsBoth 21 = .ok (.invokevirtual 35, 3) := by decide +kernel
theorem dX2_readsBoth_24 : decode cX2_readsBoth 24 = .ok (.ifCond .eq 28, 3) := by decide +kernel
theorem dX2_readsBoth_27 : decode cX2_readsBoth 27 = .ok (.aload_n 0, 1) := by decide +kernel
theorem dX2_readsBoth_28 : decode cX2_readsBoth 28 = .ok (.iload_n 1, 1) := by decide +kernel
theorem dX2_readsBoth_29 : decode cX2_readsBoth 29 = .ok (.invokevirtual 75, 3) := by decide +kernel
theorem dX2_readsBoth_32 : decode cX2_readsBoth 32 = .ok (.ifCond .ne 5, 3) := by decide +kernel
theorem dX2_readsBoth_35 : decode cX2_readsBoth 35 = .ok (.iconst 0, 1) := by decide +kernel
theorem dX2_readsBoth_36 : decode cX2_readsBoth 36 = .ok (.ireturn, 1) := by decide +kernel
theorem dX2_readsBoth_37 : decode cX2_readsBoth 37 = .ok (.aload_n 0, 1) := by decide +kernel
theorem dX2_readsBoth_38 : decode cX2_readsBoth 38 = .ok (.getfield 24, 3) := by decide +kernel
theorem dX2_readsBoth_41 : decode cX2_readsBoth 41 = .ok (.bipush (-2), 2) := by decide +kernel
theorem dX2_readsBoth_43 : decode cX2_readsBoth 43 = .ok (.invokevirtual 72, 3) := by decide +kernel
theorem dX2_readsBoth_46 : decode cX2_readsBoth 46 = .ok (.iinc 2 1, 3) := by decide +kernel
theorem dX2_readsBoth_49 : decode cX2_readsBoth 49 = .ok (.goto (-37), 3) := by decide +kernel
theorem dX2_readsBoth_52 : decode cX2_readsBoth 52 = .ok (.iconst 1, 1) := by decide +kernel
theorem dX2_readsBoth_53 : decode cX2_readsBoth 53 = .ok (.ireturn, 1) := by decide +kernel
theorem dX2_readsFactor_0 : decode cX2_readsFactor 0 = .ok (.aload_n 0, 1) := by decide +kernel
theorem dX2_readsFactor_1 : decode cX2_readsFactor 1 = .ok (.bipush 33, 2) := by decide +kernel
theorem dX2_readsFactor_3 : decode cX2_readsFactor 3 = .ok (.invokevirtual 39, 3) := by decide +kernel
theorem dX2_readsFactor_6 : decode cX2_readsFactor 6 = .ok (.ifCond .ne 17, 3) := by decide +kernel
theorem dX2_readsFactor_9 : decode cX2_readsFactor 9 = .ok (.aload_n 0, 1) := by decide +kernel
theorem dX2_readsFactor_10 : decode cX2_readsFactor 10 = .ok (.bipush 40, 2) := by decide +kernel
theorem dX2_readsFactor_12 : decode cX2_readsFactor 12 = .ok (.invokevirtual 39, 3) := by decide +kernel
theorem dX2_readsFactor_15 : decode cX2_readsFactor 15 = .ok (.ifCond .ne 8, 3) := by decide +kernel
theorem dX2_readsFactor_18 : decode cX2_readsFactor 18 = .ok (.aload_n 0, 1) := by decide +kernel
theorem dX2_readsFactor_19 : decode cX2_readsFactor 19 = .ok (.invokevirtual 78, 3) := by decide +kernel
theorem dX2_readsFactor_22 : decode cX2_readsFactor 22 = .ok (.ireturn, 1) := by decide +kernel
theorem dX2_readsFactor_23 : decode cX2_readsFactor 23 = .ok (.iload_n 1, 1) := by decide +kernel
theorem dX2_readsFactor_24 : decode cX2_readsFactor 24 = .ok (.iconst 4, 1) := by decide +kernel
theorem dX2_readsFactor_25 : decode cX2_readsFactor 25 = .ok (.if_icmp .lt 5, 3) := by decide +kernel
theorem dX2_readsFactor_28 : decode cX2_readsFactor 28 = .ok (.iconst 0, 1) := by decide +kernel
theorem dX2_readsFactor_29 : decode cX2_readsFactor 29 = .ok (.ireturn, 1) := by decide +kernel
theorem dX2_readsFactor_30 : decode cX2_readsFactor 30 = .ok (.aload_n 0, 1) := by decide +kernel
theorem dX2_readsFactor_31 : decode cX2_readsFactor 31 = .ok (.bipush 40, 2) := by decide +kernel
theorem dX2_readsFactor_33 : decode cX2_readsFactor 33 = .ok (.invokevirtual 35, 3) := by decide +kernel
theorem dX2_readsFactor_36 : decode cX2_readsFactor 36 = .ok (.ifCond .eq 28, 3) := by decide +kernel
theorem dX2_readsFactor_39 : decode cX2_readsFactor 39 = .ok (.aload_n 0, 1) := by decide +kernel
theorem dX2_readsFactor_40 : decode cX2_readsFactor 40 = .ok (.iload_n 1, 1) := by decide +kernel
theorem dX2_readsFactor_41 : decode cX2_readsFactor 41 = .ok (.iconst 1, 1) := by decide +kernel
theorem dX2_readsFactor_42 : decode cX2_readsFactor 42 = .ok (.iadd, 1) := by decide +kernel
theorem dX2_readsFactor_43 : decode cX2_readsFactor 43 = .ok (.invokevirtual 62, 3) := by decide +kernel
theorem dX2_readsFactor_46 : decode cX2_readsFactor 46 = .ok (.ifCond .eq 16, 3) := by decide +kernel
theorem dX2_readsFactor_49 : decode cX2_readsFactor 49 = .ok (.aload_n 0, 1) := by decide +kernel
theorem dX2_readsFactor_50 : decode cX2_readsFactor 50 = .ok (.bipush 41, 2) := by decide +kernel
theorem dX2_readsFactor_52 : decode cX2_readsFactor 52 = .ok (.invokevirtual 35, 3) := by decide +kernel
theorem dX2_readsFactor_55 : decode cX2_readsFactor 55 = .ok (.ifCond .eq 7, 3) := by decide +kernel
theorem dX2_readsFactor_58 : decode cX2_readsFactor 58 = .ok (.iconst 1, 1) := by decide +kernel
theorem dX2_readsFactor_59 : decode cX2_readsFactor 59 = .ok (.goto 4, 3) := by decide +kernel
theorem dX2_readsFactor_62 : decode cX2_readsFactor 62 = .ok (.iconst 0, 1) := by decide +kernel
theorem dX2_readsFactor_63 : decode cX2_readsFactor 63 = .ok (.ireturn, 1) := by decide +kernel
theorem dX2_readsFactor_64 : decode cX2_readsFactor 64 = .ok (.aload_n 0, 1) := by decide +kernel
theorem dX2_readsFactor_65 : decode cX2_readsFactor 65 = .ok (.bipush 33, 2) := by decide +kernel
theorem dX2_readsFactor_67 : decode cX2_readsFactor 67 = .ok (.invokevirtual 35, 3) := by decide +kernel
theorem dX2_readsFactor_70 : decode cX2_readsFactor 70 = .ok (.ifCond .eq 13, 3) := by decide +kernel
theorem dX2_readsFactor_73 : decode cX2_readsFactor 73 = .ok (.aload_n 0, 1) := by decide +kernel
theorem dX2_readsFactor_74 : decode cX2_readsFactor 74 = .ok (.iload_n 1, 1) := by decide +kernel
theorem dX2_readsFactor_75 : decode cX2_readsFactor 75 = .ok (.iconst 1, 1) := by decide +kernel
theorem dX2_readsFactor_76 : decode cX2_readsFactor 76 = .ok (.iadd, 1) := by decide +kernel
theorem dX2_readsFactor_77 : decode cX2_readsFactor 77 = .ok (.invokevirtual 75, 3) := by decide +kernel
theorem dX2_readsFactor_80 : decode cX2_readsFactor 80 = .ok (.ifCond .ne 5, 3) := by decide +kernel
theorem dX2_readsFactor_83 : decode cX2_readsFactor 83 = .ok (.iconst 0, 1) := by decide +kernel
theorem dX2_readsFactor_84 : decode cX2_readsFactor 84 = .ok (.ireturn, 1) := by decide +kernel
theorem dX2_readsFactor_85 : decode cX2_readsFactor 85 = .ok (.aload_n 0, 1) := by decide +kernel
theorem dX2_readsFactor_86 : decode cX2_readsFactor 86 = .ok (.getfield 24, 3) := by decide +kernel
theorem dX2_readsFactor_89 : decode cX2_readsFactor 89 = .ok (.iconst (-1), 1) := by decide +kernel
theorem dX2_readsFactor_90 : decode cX2_readsFactor 90 = .ok (.invokevirtual 72, 3) := by decide +kernel
theorem dX2_readsFactor_93 : decode cX2_readsFactor 93 = .ok (.iconst 1, 1) := by decide +kernel
theorem dX2_readsFactor_94 : decode cX2_readsFactor 94 = .ok (.ireturn, 1) := by decide +kernel
theorem dX2_readsTest_0 : decode cX2_readsTest 0 = .ok (.aload_n 0, 1) := by decide +kernel
theorem dX2_readsTest_1 : decode cX2_readsTest 1 = .ok (.ldc 81, 2) := by decide +kernel
theorem dX2_readsTest_3 : decode cX2_readsTest 3 = .ok (.invokevirtual 83, 3) := by decide +kernel
theorem dX2_readsTest_6 : decode cX2_readsTest 6 = .ok (.istore_n 1, 1) := by decide +kernel
theorem dX2_readsTest_7 : decode cX2_readsTest 7 = .ok (.iload_n 1, 1) := by decide +kernel
theorem dX2_readsTest_8 : decode cX2_readsTest 8 = .ok (.ifCond .ge 5, 3) := by decide +kernel
theorem dX2_readsTest_11 : decode cX2_readsTest 11 = .ok (.iconst 0, 1) := by decide +kernel
theorem dX2_readsTest_12 : decode cX2_readsTest 12 = .ok (.ireturn, 1) := by decide +kernel
theorem dX2_readsTest_13 : decode cX2_readsTest 13 = .ok (.aload_n 0, 1) := by decide +kernel
theorem dX2_readsTest_14 : decode cX2_readsTest 14 = .ok (.ldc 87, 2) := by decide +kernel
theorem dX2_readsTest_16 : decode cX2_readsTest 16 = .ok (.invokevirtual 83, 3) := by decide +kernel
theorem dX2_readsTest_19 : decode cX2_readsTest 19 = .ok (.istore_n 2, 1) := by decide +kernel
theorem dX2_readsTest_20 : decode cX2_readsTest 20 = .ok (.iload_n 2, 1) := by decide +kernel
theorem dX2_readsTest_21 : decode cX2_readsTest 21 = .ok (.ifCond .ge 5, 3) := by decide +kernel
theorem dX2_readsTest_24 : decode cX2_readsTest 24 = .ok (.iconst 0, 1) := by decide +kernel
theorem dX2_readsTest_25 : decode cX2_readsTest 25 = .ok (.ireturn, 1) := by decide +kernel
theorem dX2_readsTest_26 : decode cX2_readsTest 26 = .ok (.aload_n 0, 1) := by decide +kernel
theorem dX2_readsTest_27 : decode cX2_readsTest 27 = .ok (.invokevirtual 56, 3) := by decide +kernel
theorem dX2_readsTest_30 : decode cX2_readsTest 30 = .ok (.istore_n 3, 1) := by decide +kernel
theorem dX2_readsTest_31 : decode cX2_readsTest 31 = .ok (.iload_n 3, 1) := by decide +kernel
theorem dX2_readsTest_32 : decode cX2_readsTest 32 = .ok (.ifCond .ge 5, 3) := by decide +kernel
theorem dX2_readsTest_35 : decode cX2_readsTest 35 = .ok (.iconst 0, 1) := by decide +kernel
theorem dX2_readsTest_36 : decode cX2_readsTest 36 = .ok (.ireturn, 1) := by decide +kernel
theorem dX2_readsTest_37 : decode cX2_readsTest 37 = .ok (.aload_n 0, 1) := by decide +kernel
theorem dX2_readsTest_38 : decode cX2_readsTest 38 = .ok (.getfield 24, 3) := by decide +kernel
theorem dX2_readsTest_41 : decode cX2_readsTest 41 = .ok (.iload_n 1, 1) := by decide +kernel
theorem dX2_readsTest_42 : decode cX2_readsTest 42 = .ok (.iload_n 2, 1) := by decide +kernel
theorem dX2_readsTest_43 : decode cX2_readsTest 43 = .ok (.iload_n 3, 1) := by decide +kernel
theorem dX2_readsTest_44 : decode cX2_readsTest 44 = .ok (.invokevirtual 89, 3) := by decide +kernel
theorem dX2_readsTest_47 : decode cX2_readsTest 47 = .ok (.iconst 1, 1) := by decide +kernel
theorem dX2_readsTest_48 : decode cX2_readsTest 48 = .ok (.ireturn, 1) := by decide +kernel
theorem dX2_takeNumber_0 : decode cX2_takeNumber 0 = .ok (.iconst (-1), 1) := by decide +kernel
theorem dX2_takeNumber_1 : decode cX2_takeNumber 1 = .ok (.istore_n 1, 1) := by decide +kernel
theorem dX2_takeNumber_2 : decode cX2_takeNumber 2 = .ok (.iconst 0, 1) := by decide +kernel
theorem dX2_takeNumber_3 : decode cX2_takeNumber 3 = .ok (.istore_n 2, 1) := by decide +kernel
theorem dX2_takeNumber_4 : decode cX2_takeNumber 4 = .ok (.iload_n 2, 1) := by decide +kernel
theorem dX2_takeNumber_5 : decode cX2_takeNumber 5 = .ok (.iconst 2, 1) := by decide +kernel
theorem dX2_takeNumber_6 : decode cX2_takeNumber 6 = .ok (.if_icmp .ge 80, 3) := by decide +kernel
theorem dX2_takeNumber_9 : decode cX2_takeNumber 9 = .ok (.aload_n 0, 1) := by decide +kernel
theorem dX2_takeNumber_10 : decode cX2_takeNumber 10 = .ok (.getfield 28, 3) := by decide +kernel
theorem dX2_takeNumber_13 : decode cX2_takeNumber 13 = .ok (.aload_n 0, 1) := by decide +kernel
theorem dX2_takeNumber_14 : decode cX2_takeNumber 14 = .ok (.getfield 15, 3) := by decide +kernel
theorem dX2_takeNumber_17 : decode cX2_takeNumber 17 = .ok (.if_icmp .ge 69, 3) := by decide +kernel
theorem dX2_takeNumber_20 : decode cX2_takeNumber 20 = .ok (.aload_n 0, 1) := by decide +kernel
theorem dX2_takeNumber_21 : decode cX2_takeNumber 21 = .ok (.getfield 9, 3) := by decide +kernel
theorem dX2_takeNumber_24 : decode cX2_takeNumber 24 = .ok (.aload_n 0, 1) := by decide +kernel
theorem dX2_takeNumber_25 : decode cX2_takeNumber 25 = .ok (.getfield 28, 3) := by decide +kernel
theorem dX2_takeNumber_28 : decode cX2_takeNumber 28 = .ok (.baload, 1) := by decide +kernel
theorem dX2_takeNumber_29 : decode cX2_takeNumber 29 = .ok (.bipush 48, 2) := by decide +kernel
theorem dX2_takeNumber_31 : decode cX2_takeNumber 31 = .ok (.if_icmp .lt 55, 3) := by decide +kernel
theorem dX2_takeNumber_34 : decode cX2_takeNumber 34 = .ok (.aload_n 0, 1) := by decide +kernel
theorem dX2_takeNumber_35 : decode cX2_takeNumber 35 = .ok (.getfield 9, 3) := by decide +kernel
theorem dX2_takeNumber_38 : decode cX2_takeNumber 38 = .ok (.aload_n 0, 1) := by decide +kernel
theorem dX2_takeNumber_39 : decode cX2_takeNumber 39 = .ok (.getfield 28, 3) := by decide +kernel
theorem dX2_takeNumber_42 : decode cX2_takeNumber 42 = .ok (.baload, 1) := by decide +kernel
theorem dX2_takeNumber_43 : decode cX2_takeNumber 43 = .ok (.bipush 57, 2) := by decide +kernel
theorem dX2_takeNumber_45 : decode cX2_takeNumber 45 = .ok (.if_icmp .gt 41, 3) := by decide +kernel
theorem dX2_takeNumber_48 : decode cX2_takeNumber 48 = .ok (.iload_n 1, 1) := by decide +kernel
theorem dX2_takeNumber_49 : decode cX2_takeNumber 49 = .ok (.iconst 0, 1) := by decide +kernel
theorem dX2_takeNumber_50 : decode cX2_takeNumber 50 = .ok (.invokestatic 93, 3) := by decide +kernel
theorem dX2_takeNumber_53 : decode cX2_takeNumber 53 = .ok (.bipush 10, 2) := by decide +kernel
theorem dX2_takeNumber_55 : decode cX2_takeNumber 55 = .ok (.imul, 1) := by decide +kernel
theorem dX2_takeNumber_56 : decode cX2_takeNumber 56 = .ok (.aload_n 0, 1) := by decide +kernel
theorem dX2_takeNumber_57 : decode cX2_takeNumber 57 = .ok (.getfield 9, 3) := by decide +kernel
theorem dX2_takeNumber_60 : decode cX2_takeNumber 60 = .ok (.aload_n 0, 1) := by decide +kernel
theorem dX2_takeNumber_61 : decode cX2_takeNumber 61 = .ok (.getfield 28, 3) := by decide +kernel
theorem dX2_takeNumber_64 : decode cX2_takeNumber 64 = .ok (.baload, 1) := by decide +kernel
theorem dX2_takeNumber_65 : decode cX2_takeNumber 65 = .ok (.iadd, 1) := by decide +kernel
theorem dX2_takeNumber_66 : decode cX2_takeNumber 66 = .ok (.bipush 48, 2) := by decide +kernel
theorem dX2_takeNumber_68 : decode cX2_takeNumber 68 = .ok (.isub, 1) := by decide +kernel
theorem dX2_takeNumber_69 : decode cX2_takeNumber 69 = .ok (.istore_n 1, 1) := by decide +kernel
theorem dX2_takeNumber_70 : decode cX2_takeNumber 70 = .ok (.aload_n 0, 1) := by decide +kernel
theorem dX2_takeNumber_71 : decode cX2_takeNumber 71 = .ok (.dup, 1) := by decide +kernel
theorem dX2_takeNumber_72 : decode cX2_takeNumber 72 = .ok (.getfield 28, 3) := by decide +kernel
theorem dX2_takeNumber_75 : decode cX2_takeNumber 75 = .ok (.iconst 1, 1) := by decide +kernel
theorem dX2_takeNumber_76 : decode cX2_takeNumber 76 = .ok (.iadd, 1) := by decide +kernel
theorem dX2_takeNumber_77 : decode cX2_takeNumber 77 = .ok (.putfield 28, 3) := by decide +kernel
theorem dX2_takeNumber_80 : decode cX2_takeNumber 80 = .ok (.iinc 2 1, 3) := by decide +kernel
theorem dX2_takeNumber_83 : decode cX2_takeNumber 83 = .ok (.goto (-79), 3) := by decide +kernel
theorem dX2_takeNumber_86 : decode cX2_takeNumber 86 = .ok (.iload_n 1, 1) := by decide +kernel
theorem dX2_takeNumber_87 : decode cX2_takeNumber 87 = .ok (.ireturn, 1) := by decide +kernel
theorem dX2_takeOneOf_0 : decode cX2_takeOneOf 0 = .ok (.aload_n 0, 1) := by decide +kernel
theorem dX2_takeOneOf_1 : decode cX2_takeOneOf 1 = .ok (.getfield 28, 3) := by decide +kernel
theorem dX2_takeOneOf_4 : decode cX2_takeOneOf 4 = .ok (.aload_n 0, 1) := by decide +kernel
theorem dX2_takeOneOf_5 : decode cX2_takeOneOf 5 = .ok (.getfield 15, 3) := by decide +kernel
theorem dX2_takeOneOf_8 : decode cX2_takeOneOf 8 = .ok (.if_icmp .ge 20, 3) := by decide +kernel
theorem dX2_takeOneOf_11 : decode cX2_takeOneOf 11 = .ok (.aload_n 1, 1) := by decide +kernel
theorem dX2_takeOneOf_12 : decode cX2_takeOneOf 12 = .ok (.aload_n 0, 1) := by decide +kernel
theorem dX2_takeOneOf_13 : decode cX2_takeOneOf 13 = .ok (.getfield 9, 3) := by decide +kernel
theorem dX2_takeOneOf_16 : decode cX2_takeOneOf 16 = .ok (.aload_n 0, 1) := by decide +kernel
theorem dX2_takeOneOf_17 : decode cX2_takeOneOf 17 = .ok (.getfield 28, 3) := by decide +kernel
theorem dX2_takeOneOf_20 : decode cX2_takeOneOf 20 = .ok (.baload, 1) := by decide +kernel
theorem dX2_takeOneOf_21 : decode cX2_takeOneOf 21 = .ok (.i2c, 1) := by decide +kernel
theorem dX2_takeOneOf_22 : decode cX2_takeOneOf 22 = .ok (.invokevirtual 99, 3) := by decide +kernel
theorem dX2_takeOneOf_25 : decode cX2_takeOneOf 25 = .ok (.goto 4, 3) := by decide +kernel
theorem dX2_takeOneOf_28 : decode cX2_takeOneOf 28 = .ok (.iconst (-1), 1) := by decide +kernel
theorem dX2_takeOneOf_29 : decode cX2_takeOneOf 29 = .ok (.istore_n 2, 1) := by decide +kernel
theorem dX2_takeOneOf_30 : decode cX2_takeOneOf 30 = .ok (.iload_n 2, 1) := by decide +kernel
theorem dX2_takeOneOf_31 : decode cX2_takeOneOf 31 = .ok (.ifCond .lt 13, 3) := by decide +kernel
theorem dX2_takeOneOf_34 : decode cX2_takeOneOf 34 = .ok (.aload_n 0, 1) := by decide +kernel
theorem dX2_takeOneOf_35 : decode cX2_takeOneOf 35 = .ok (.dup, 1) := by decide +kernel
theorem dX2_takeOneOf_36 : decode cX2_takeOneOf 36 = .ok (.getfield 28, 3) := by decide +kernel
theorem dX2_takeOneOf_39 : decode cX2_takeOneOf 39 = .ok (.iconst 1, 1) := by decide +kernel
theorem dX2_takeOneOf_40 : decode cX2_takeOneOf 40 = .ok (.iadd, 1) := by decide +kernel
theorem dX2_takeOneOf_41 : decode cX2_takeOneOf 41 = .ok (.putfield 28, 3) := by decide +kernel
theorem dX2_takeOneOf_44 : decode cX2_takeOneOf 44 = .ok (.iload_n 2, 1) := by decide +kernel
theorem dX2_takeOneOf_45 : decode cX2_takeOneOf 45 = .ok (.ireturn, 1) := by decide +kernel
theorem dX2_takesWord_0 : decode cX2_takesWord 0 = .ok (.iconst 0, 1) := by decide +kernel
theorem dX2_takesWord_1 : decode cX2_takesWord 1 = .ok (.istore_n 2, 1) := by decide +kernel
theorem dX2_takesWord_2 : decode cX2_takesWord 2 = .ok (.iload_n 2, 1) := by decide +kernel
theorem dX2_takesWord_3 : decode cX2_takesWord 3 = .ok (.aload_n 1, 1) := by decide +kernel
theorem dX2_takesWord_4 : decode cX2_takesWord 4 = .ok (.invokevirtual 105, 3) := by decide +kernel
theorem dX2_takesWord_7 : decode cX2_takesWord 7 = .ok (.if_icmp .ge 23, 3) := by decide +kernel
theorem dX2_takesWord_10 : decode cX2_takesWord 10 = .ok (.aload_n 0, 1) := by decide +kernel
theorem dX2_takesWord_11 : decode cX2_takesWord 11 = .ok (.aload_n 1, 1) := by decide +kernel
theorem dX2_takesWord_12 : decode cX2_takesWord 12 = .ok (.iload_n 2, 1) := by decide +kernel
theorem dX2_takesWord_13 : decode cX2_takesWord 13 = .ok (.invokevirtual 108, 3) := by decide +kernel
theorem dX2_takesWord_16 : decode cX2_takesWord 16 = .ok (.invokevirtual 35, 3) := by decide +kernel
theorem dX2_takesWord_19 : decode cX2_takesWord 19 = .ok (.ifCond .ne 5, 3) := by decide +kernel
theorem dX2_takesWord_22 : decode cX2_takesWord 22 = .ok (.iconst 0, 1) := by decide +kernel
theorem dX2_takesWord_23 : decode cX2_takesWord 23 = .ok (.ireturn, 1) := by decide +kernel
theorem dX2_takesWord_24 : decode cX2_takesWord 24 = .ok (.iinc 2 1, 3) := by decide +kernel
theorem dX2_takesWord_27 : decode cX2_takesWord 27 = .ok (.goto (-25), 3) := by decide +kernel
theorem dX2_takesWord_30 : decode cX2_takesWord 30 = .ok (.iconst 1, 1) := by decide +kernel
theorem dX2_takesWord_31 : decode cX2_takesWord 31 = .ok (.ireturn, 1) := by decide +kernel
theorem dX2_takes_0 : decode cX2_takes 0 = .ok (.aload_n 0, 1) := by decide +kernel
theorem dX2_takes_1 : decode cX2_takes 1 = .ok (.iload_n 1, 1) := by decide +kernel
theorem dX2_takes_2 : decode cX2_takes 2 = .ok (.invokevirtual 39, 3) := by decide +kernel
theorem dX2_takes_5 : decode cX2_takes 5 = .ok (.istore_n 2, 1) := by decide +kernel
theorem dX2_takes_6 : decode cX2_takes 6 = .ok (.iload_n 2, 1) := by decide +kernel
theorem dX2_takes_7 : decode cX2_takes 7 = .ok (.ifCond .eq 13, 3) := by decide +kernel
theorem dX2_takes_10 : decode cX2_takes 10 = .ok (.aload_n 0, 1) := by decide +kernel
theorem dX2_takes_11 : decode cX2_takes 11 = .ok (.dup, 1) := by decide +kernel
theorem dX2_takes_12 : decode cX2_takes 12 = .ok (.getfield 28, 3) := by decide +kernel
theorem dX2_takes_15 : decode cX2_takes 15 = .ok (.iconst 1, 1) := by decide +kernel
theorem dX2_takes_16 : decode cX2_takes 16 = .ok (.iadd, 1) := by decide +kernel
theorem dX2_takes_17 : decode cX2_takes 17 = .ok (.putfield 28, 3) := by decide +kernel
theorem dX2_takes_20 : decode cX2_takes 20 = .ok (.iload_n 2, 1) := by decide +kernel
theorem dX2_takes_21 : decode cX2_takes 21 = .ok (.ireturn, 1) := by decide +kernel
theorem dX2_sees_0 : decode cX2_sees 0 = .ok (.aload_n 0, 1) := by decide +kernel
theorem dX2_sees_1 : decode cX2_sees 1 = .ok (.getfield 28, 3) := by decide +kernel
theorem dX2_sees_4 : decode cX2_sees 4 = .ok (.aload_n 0, 1) := by decide +kernel
theorem dX2_sees_5 : decode cX2_sees 5 = .ok (.getfield 15, 3) := by decide +kernel
theorem dX2_sees_8 : decode cX2_sees 8 = .ok (.if_icmp .ge 20, 3) := by decide +kernel
theorem dX2_sees_11 : decode cX2_sees 11 = .ok (.aload_n 0, 1) := by decide +kernel
theorem dX2_sees_12 : decode cX2_sees 12 = .ok (.getfield 9, 3) := by decide +kernel
theorem dX2_sees_15 : decode cX2_sees 15 = .ok (.aload_n 0, 1) := by decide +kernel
theorem dX2_sees_16 : decode cX2_sees 16 = .ok (.getfield 28, 3) := by decide +kernel
theorem dX2_sees_19 : decode cX2_sees 19 = .ok (.baload, 1) := by decide +kernel
theorem dX2_sees_20 : decode cX2_sees 20 = .ok (.iload_n 1, 1) := by decide +kernel
theorem dX2_sees_21 : decode cX2_sees 21 = .ok (.if_icmp .ne 7, 3) := by decide +kernel
theorem dX2_sees_24 : decode cX2_sees 24 = .ok (.iconst 1, 1) := by decide +kernel
theorem dX2_sees_25 : decode cX2_sees 25 = .ok (.goto 4, 3) := by decide +kernel
theorem dX2_sees_28 : decode cX2_sees 28 = .ok (.iconst 0, 1) := by decide +kernel
theorem dX2_sees_29 : decode cX2_sees 29 = .ok (.ireturn, 1) := by decide +kernel
theorem dX3_init_0 : decode cX3_init 0 = .ok (.aload_n 0, 1) := by decide +kernel
theorem dX3_init_1 : decode cX3_init 1 = .ok (.invokespecial 1, 3) := by decide +kernel
theorem dX3_init_4 : decode cX3_init 4 = .ok (.aload_n 0, 1) := by decide +kernel
theorem dX3_init_5 : decode cX3_init 5 = .ok (.iload_n 1, 1) := by decide +kernel
theorem dX3_init_6 : decode cX3_init 6 = .ok (.newarray .int, 2) := by decide +kernel
theorem dX3_init_8 : decode cX3_init 8 = .ok (.putfield 7, 3) := by decide +kernel
theorem dX3_init_11 : decode cX3_init 11 = .ok (.aload_n 0, 1) := by decide +kernel
theorem dX3_init_12 : decode cX3_init 12 = .ok (.iload_n 1, 1) := by decide +kernel
theorem dX3_init_13 : decode cX3_init 13 = .ok (.newarray .int, 2) := by decide +kernel
theorem dX3_init_15 : decode cX3_init 15 = .ok (.putfield 13, 3) := by decide +kernel
theorem dX3_init_18 : decode cX3_init 18 = .ok (.aload_n 0, 1) := by decide +kernel
theorem dX3_init_19 : decode cX3_init 19 = .ok (.iload_n 1, 1) := by decide +kernel
theorem dX3_init_20 : decode cX3_init 20 = .ok (.newarray .int, 2) := by decide +kernel
theorem dX3_init_22 : decode cX3_init 22 = .ok (.putfield 16, 3) := by decide +kernel
theorem dX3_init_25 : decode cX3_init 25 = .ok (.return_, 1) := by decide +kernel
theorem dX3_isFull_0 : decode cX3_isFull 0 = .ok (.aload_n 0, 1) := by decide +kernel
theorem dX3_isFull_1 : decode cX3_isFull 1 = .ok (.getfield 19, 3) := by decide +kernel
theorem dX3_isFull_4 : decode cX3_isFull 4 = .ok (.aload_n 0, 1) := by decide +kernel
theorem dX3_isFull_5 : decode cX3_isFull 5 = .ok (.getfield 7, 3) := by decide +kernel
theorem dX3_isFull_8 : decode cX3_isFull 8 = .ok (.arraylength, 1) := by decide +kernel
theorem dX3_isFull_9 : decode cX3_isFull 9 = .ok (.if_icmp .lt 7, 3) := by decide +kernel
theorem dX3_isFull_12 : decode cX3_isFull 12 = .ok (.iconst 1, 1) := by decide +kernel
theorem dX3_isFull_13 : decode cX3_isFull 13 = .ok (.goto 4, 3) := by decide +kernel
theorem dX3_isFull_16 : decode cX3_isFull 16 = .ok (.iconst 0, 1) := by decide +kernel
theorem dX3_isFull_17 : decode cX3_isFull 17 = .ok (.ireturn, 1) := by decide +kernel
theorem dX3_add_0 : decode cX3_add 0 = .ok (.aload_n 0, 1) := by decide +kernel
theorem dX3_add_1 : decode cX3_add 1 = .ok (.invokevirtual 23, 3) := by decide +kernel
theorem dX3_add_4 : decode cX3_add 4 = .ok (.ifCond .ne 43, 3) := by decide +kernel
theorem dX3_add_7 : decode cX3_add 7 = .ok (.aload_n 0, 1) := by decide +kernel
theorem dX3_add_8 : decode cX3_add 8 = .ok (.getfield 7, 3) := by decide +kernel
theorem dX3_add_11 : decode cX3_add 11 = .ok (.aload_n 0, 1) := by decide +kernel
theorem dX3_add_12 : decode cX3_add 12 = .ok (.getfield 19, 3) := by decide +kernel
theorem dX3_add_15 : decode cX3_add 15 = .ok (.iload_n 1, 1) := by decide +kernel
theorem dX3_add_16 : decode cX3_add 16 = .ok (.iastore, 1) := by decide +kernel
theorem dX3_add_17 : decode cX3_add 17 = .ok (.aload_n 0, 1) := by decide +kernel
theorem dX3_add_18 : decode cX3_add 18 = .ok (.getfield 13, 3) := by decide +kernel
theorem dX3_add_21 : decode cX3_add 21 = .ok (.aload_n 0, 1) := by decide +kernel
theorem dX3_add_22 : decode cX3_add 22 = .ok (.getfield 19, 3) := by decide +kernel
theorem dX3_add_25 : decode cX3_add 25 = .ok (.iload_n 2, 1) := by decide +kernel
theorem dX3_add_26 : decode cX3_add 26 = .ok (.iastore, 1) := by decide +kernel
theorem dX3_add_27 : decode cX3_add 27 = .ok (.aload_n 0, 1) := by decide +kernel
theorem dX3_add_28 : decode cX3_add 28 = .ok (.getfield 16, 3) := by decide +kernel
theorem dX3_add_31 : decode cX3_add 31 = .ok (.aload_n 0, 1) := by decide +kernel
theorem dX3_add_32 : decode cX3_add 32 = .ok (.getfield 19, 3) := by decide +kernel
theorem dX3_add_35 : decode cX3_add 35 = .ok (.iload_n 3, 1) := by decide +kernel
theorem dX3_add_36 : decode cX3_add 36 = .ok (.iastore, 1) := by decide +kernel
theorem dX3_add_37 : decode cX3_add 37 = .ok (.aload_n 0, 1) := by decide +kernel
theorem dX3_add_38 : decode cX3_add 38 = .ok (.dup, 1) := by decide +kernel
theorem dX3_add_39 : decode cX3_add 39 = .ok (.getfield 19, 3) := by decide +kernel
theorem dX3_add_42 : decode cX3_add 42 = .ok (.iconst 1, 1) := by decide +kernel
theorem dX3_add_43 : decode cX3_add 43 = .ok (.iadd, 1) := by decide +kernel
theorem dX3_add_44 : decode cX3_add 44 = .ok (.putfield 19, 3) := by decide +kernel
theorem dX3_add_47 : decode cX3_add 47 = .ok (.aload_n 0, 1) := by decide +kernel
theorem dX3_add_48 : decode cX3_add 48 = .ok (.getfield 19, 3) := by decide +kernel
theorem dX3_add_51 : decode cX3_add 51 = .ok (.ireturn, 1) := by decide +kernel
theorem dX3_empty_0 : decode cX3_empty 0 = .ok (.aload_n 0, 1) := by decide +kernel
theorem dX3_empty_1 : decode cX3_empty 1 = .ok (.iconst 0, 1) := by decide +kernel
theorem dX3_empty_2 : decode cX3_empty 2 = .ok (.putfield 19, 3) := by decide +kernel
theorem dX3_empty_5 : decode cX3_empty 5 = .ok (.aload_n 0, 1) := by decide +kernel
theorem dX3_empty_6 : decode cX3_empty 6 = .ok (.getfield 19, 3) := by decide +kernel
theorem dX3_empty_9 : decode cX3_empty 9 = .ok (.ireturn, 1) := by decide +kernel
theorem dX3_become_0 : decode cX3_become 0 = .ok (.aload_n 0, 1) := by decide +kernel
theorem dX3_become_1 : decode cX3_become 1 = .ok (.aload_n 1, 1) := by decide +kernel
theorem dX3_become_2 : decode cX3_become 2 = .ok (.getfield 19, 3) := by decide +kernel
theorem dX3_become_5 : decode cX3_become 5 = .ok (.putfield 19, 3) := by decide +kernel
theorem dX3_become_8 : decode cX3_become 8 = .ok (.iconst 0, 1) := by decide +kernel
theorem dX3_become_9 : decode cX3_become 9 = .ok (.istore_n 2, 1) := by decide +kernel
theorem dX3_become_10 : decode cX3_become 10 = .ok (.iload_n 2, 1) := by decide +kernel
theorem dX3_become_11 : decode cX3_become 11 = .ok (.aload_n 0, 1) := by decide +kernel
theorem dX3_become_12 : decode cX3_become 12 = .ok (.getfield 19, 3) := by decide +kernel
theorem dX3_become_15 : decode cX3_become 15 = .ok (.if_icmp .ge 54, 3) := by decide +kernel
theorem dX3_become_18 : decode cX3_become 18 = .ok (.iload_n 2, 1) := by decide +kernel
theorem dX3_become_19 : decode cX3_become 19 = .ok (.aload_n 0, 1) := by decide +kernel
theorem dX3_become_20 : decode cX3_become 20 = .ok (.getfield 7, 3) := by decide +kernel
theorem dX3_become_23 : decode cX3_become 23 = .ok (.arraylength, 1) := by decide +kernel
theorem dX3_become_24 : decode cX3_become 24 = .ok (.if_icmp .ge 45, 3) := by decide +kernel
theorem dX3_become_27 : decode cX3_become 27 = .ok (.aload_n 0, 1) := by decide +kernel
theorem dX3_become_28 : decode cX3_become 28 = .ok (.getfield 7, 3) := by decide +kernel
theorem dX3_become_31 : decode cX3_become 31 = .ok (.iload_n 2, 1) := by decide +kernel
theorem dX3_become_32 : decode cX3_become 32 = .ok (.aload_n 1, 1) := by decide +kernel
theorem dX3_become_33 : decode cX3_become 33 = .ok (.getfield 7, 3) := by decide +kernel
theorem dX3_become_36 : decode cX3_become 36 = .ok (.iload_n 2, 1) := by decide +kernel
theorem dX3_become_37 : decode cX3_become 37 = .ok (.iaload, 1) := by decide +kernel
theorem dX3_become_38 : decode cX3_become 38 = .ok (.iastore, 1) := by decide +kernel
theorem dX3_become_39 : decode cX3_become 39 = .ok (.aload_n 0, 1) := by decide +kernel
theorem dX3_become_40 : decode cX3_become 40 = .ok (.getfield 13, 3) := by decide +kernel
theorem dX3_become_43 : decode cX3_become 43 = .ok (.iload_n 2, 1) := by decide +kernel
theorem dX3_become_44 : decode cX3_become 44 = .ok (.aload_n 1, 1) := by decide +kernel
theorem dX3_become_45 : decode cX3_become 45 = .ok (.getfield 13, 3) := by decide +kernel
theorem dX3_become_48 : decode cX3_become 48 = .ok (.iload_n 2, 1) := by decide +kernel
theorem dX3_become_49 : decode cX3_become 49 = .ok (.iaload, 1) := by decide +kernel
theorem dX3_become_50 : decode cX3_become 50 = .ok (.iastore, 1) := by decide +kernel
theorem dX3_become_51 : decode cX3_become 51 = .ok (.aload_n 0, 1) := by decide +kernel
theorem dX3_become_52 : decode cX3_become 52 = .ok (.getfield 16, 3) := by decide +kernel
theorem dX3_become_55 : decode cX3_become 55 = .ok (.iload_n 2, 1) := by decide +kernel
theorem dX3_become_56 : decode cX3_become 56 = .ok (.aload_n 1, 1) := by decide +kernel
theorem dX3_become_57 : decode cX3_become 57 = .ok (.getfield 16, 3) := by decide +kernel
theorem dX3_become_60 : decode cX3_become 60 = .ok (.iload_n 2, 1) := by decide +kernel
theorem dX3_become_61 : decode cX3_become 61 = .ok (.iaload, 1) := by decide +kernel
theorem dX3_become_62 : decode cX3_become 62 = .ok (.iastore, 1) := by decide +kernel
theorem dX3_become_63 : decode cX3_become 63 = .ok (.iinc 2 1, 3) := by decide +kernel
theorem dX3_become_66 : decode cX3_become 66 = .ok (.goto (-56), 3) := by decide +kernel
theorem dX3_become_69 : decode cX3_become 69 = .ok (.return_, 1) := by decide +kernel
theorem dX4_init_0 : decode cX4_init 0 = .ok (.aload_n 0, 1) := by decide +kernel
theorem dX4_init_1 : decode cX4_init 1 = .ok (.invokespecial 3, 3) := by decide +kernel
theorem dX4_init_4 : decode cX4_init 4 = .ok (.aload_n 0, 1) := by decide +kernel
theorem dX4_init_5 : decode cX4_init 5 = .ok (.bipush 80, 2) := by decide +kernel
theorem dX4_init_7 : decode cX4_init 7 = .ok (.putfield 9, 3) := by decide +kernel
theorem dX4_init_10 : decode cX4_init 10 = .ok (.aload_n 0, 1) := by decide +kernel
theorem dX4_init_11 : decode cX4_init 11 = .ok (.bipush 100, 2) := by decide +kernel
theorem dX4_init_13 : decode cX4_init 13 = .ok (.newarray .int, 2) := by decide +kernel
theorem dX4_init_15 : decode cX4_init 15 = .ok (.putfield 15, 3) := by decide +kernel
theorem dX4_init_18 : decode cX4_init 18 = .ok (.aload_n 0, 1) := by decide +kernel
theorem dX4_init_19 : decode cX4_init 19 = .ok (.bipush 10, 2) := by decide +kernel
theorem dX4_init_21 : decode cX4_init 21 = .ok (.newarray .int, 2) := by decide +kernel
theorem dX4_init_23 : decode cX4_init 23 = .ok (.putfield 19, 3) := by decide +kernel
theorem dX4_init_26 : decode cX4_init 26 = .ok (.return_, 1) := by decide +kernel
theorem dX4_empty_0 : decode cX4_empty 0 = .ok (.aload_n 0, 1) := by decide +kernel
theorem dX4_empty_1 : decode cX4_empty 1 = .ok (.bipush 80, 2) := by decide +kernel
theorem dX4_empty_3 : decode cX4_empty 3 = .ok (.putfield 9, 3) := by decide +kernel
theorem dX4_empty_6 : decode cX4_empty 6 = .ok (.aload_n 0, 1) := by decide +kernel
theorem dX4_empty_7 : decode cX4_empty 7 = .ok (.iconst 0, 1) := by decide +kernel
theorem dX4_empty_8 : decode cX4_empty 8 = .ok (.putfield 22, 3) := by decide +kernel
theorem dX4_empty_11 : decode cX4_empty 11 = .ok (.aload_n 0, 1) := by decide +kernel
theorem dX4_empty_12 : decode cX4_empty 12 = .ok (.iconst 0, 1) := by decide +kernel
theorem dX4_empty_13 : decode cX4_empty 13 = .ok (.putfield 25, 3) := by decide +kernel
theorem dX4_empty_16 : decode cX4_empty 16 = .ok (.return_, 1) := by decide +kernel
theorem dX4_addTest_0 : decode cX4_addTest 0 = .ok (.aload_n 0, 1) := by decide +kernel
theorem dX4_addTest_1 : decode cX4_addTest 1 = .ok (.iload_n 3, 1) := by decide +kernel
theorem dX4_addTest_2 : decode cX4_addTest 2 = .ok (.iconst 5, 1) := by decide +kernel
theorem dX4_addTest_3 : decode cX4_addTest 3 = .ok (.ishl, 1) := by decide +kernel
theorem dX4_addTest_4 : decode cX4_addTest 4 = .ok (.iload_n 2, 1) := by decide +kernel
theorem dX4_addTest_5 : decode cX4_addTest 5 = .ok (.iconst 3, 1) := by decide +kernel
theorem dX4_addTest_6 : decode cX4_addTest 6 = .ok (.ishl, 1) := by decide +kernel
theorem dX4_addTest_7 : decode cX4_addTest 7 = .ok (.ior, 1) := by decide +kernel
theorem dX4_addTest_8 : decode cX4_addTest 8 = .ok (.iload_n 1, 1) := by decide +kernel
theorem dX4_addTest_9 : decode cX4_addTest 9 = .ok (.ior, 1) := by decide +kernel
theorem dX4_addTest_10 : decode cX4_addTest 10 = .ok (.invokevirtual 28, 3) := by decide +kernel
theorem dX4_addTest_13 : decode cX4_addTest 13 = .ok (.return_, 1) := by decide +kernel
theorem dX4_addStep_0 : decode cX4_addStep 0 = .ok (.aload_n 0, 1) := by decide +kernel
theorem dX4_addStep_1 : decode cX4_addStep 1 = .ok (.getfield 22, 3) := by decide +kernel
theorem dX4_addStep_4 : decode cX4_addStep 4 = .ok (.aload_n 0, 1) := by decide +kernel
theorem dX4_addStep_5 : decode cX4_addStep 5 = .ok (.getfield 15, 3) := by decide +kernel
theorem dX4_addStep_8 : decode cX4_addStep 8 = .ok (.arraylength, 1) := by decide +kernel
theorem dX4_addStep_9 : decode cX4_addStep 9 = .ok (.if_icmp .ge 23, 3) := by decide +kernel
theorem dX4_addStep_12 : decode cX4_addStep 12 = .ok (.aload_n 0, 1) := by decide +kernel
theorem dX4_addStep_13 : decode cX4_addStep 13 = .ok (.getfield 15, 3) := by decide +kernel
theorem dX4_addStep_16 : decode cX4_addStep 16 = .ok (.aload_n 0, 1) := by decide +kernel
theorem dX4_addStep_17 : decode cX4_addStep 17 = .ok (.getfield 22, 3) := by decide +kernel
theorem dX4_addStep_20 : decode cX4_addStep 20 = .ok (.iload_n 1, 1) := by decide +kernel
theorem dX4_addStep_21 : decode cX4_addStep 21 = .ok (.iastore, 1) := by decide +kernel
theorem dX4_addStep_22 : decode cX4_addStep 22 = .ok (.aload_n 0, 1) := by decide +kernel
theorem dX4_addStep_23 : decode cX4_addStep 23 = .ok (.dup, 1) := by decide +kernel
theorem dX4_addStep_24 : decode cX4_addStep 24 = .ok (.getfield 22, 3) := by decide +kernel
theorem dX4_addStep_27 : decode cX4_addStep 27 = .ok (.iconst 1, 1) := by decide +kernel
theorem dX4_addStep_28 : decode cX4_addStep 28 = .ok (.iadd, 1) := by decide +kernel
theorem dX4_addStep_29 : decode cX4_addStep 29 = .ok (.putfield 22, 3) := by decide +kernel
theorem dX4_addStep_32 : decode cX4_addStep 32 = .ok (.return_, 1) := by decide +kernel
theorem dX4_addClause_0 : decode cX4_addClause 0 = .ok (.aload_n 0, 1) := by decide +kernel
theorem dX4_addClause_1 : decode cX4_addClause 1 = .ok (.getfield 25, 3) := by decide +kernel
theorem dX4_addClause_4 : decode cX4_addClause 4 = .ok (.aload_n 0, 1) := by decide +kernel
theorem dX4_addClause_5 : decode cX4_addClause 5 = .ok (.getfield 19, 3) := by decide +kernel
theorem dX4_addClause_8 : decode cX4_addClause 8 = .ok (.arraylength, 1) := by decide +kernel
theorem dX4_addClause_9 : decode cX4_addClause 9 = .ok (.if_icmp .ge 29, 3) := by decide +kernel
theorem dX4_addClause_12 : decode cX4_addClause 12 = .ok (.aload_n 0, 1) := by decide +kernel
theorem dX4_addClause_13 : decode cX4_addClause 13 = .ok (.getfield 19, 3) := by decide +kernel
theorem dX4_addClause_16 : decode cX4_addClause 16 = .ok (.aload_n 0, 1) := by decide +kernel
theorem dX4_addClause_17 : decode cX4_addClause 17 = .ok (.getfield 25, 3) := by decide +kernel
theorem dX4_addClause_20 : decode cX4_addClause 20 = .ok (.iload_n 1, 1) := by decide +kernel
theorem dX4_addClause_21 : decode cX4_addClause 21 = .ok (.iastore, 1) := by decide +kernel
theorem dX4_addClause_22 : decode cX4_addClause 22 = .ok (.aload_n 0, 1) := by decide +kernel
theorem dX4_addClause_23 : decode cX4_addClause 23 = .ok (.dup, 1) := by decide +kernel
theorem dX4_addClause_24 : decode cX4_addClause 24 = .ok (.getfield 25, 3) := by decide +kernel
theorem dX4_addClause_27 : decode cX4_addClause 27 = .ok (.iconst 1, 1) := by decide +kernel
theorem dX4_addClause_28 : decode cX4_addClause 28 = .ok (.iadd, 1) := by decide +kernel
theorem dX4_addClause_29 : decode cX4_addClause 29 = .ok (.putfield 25, 3) := by decide +kernel
theorem dX4_addClause_32 : decode cX4_addClause 32 = .ok (.aload_n 0, 1) := by decide +kernel
theorem dX4_addClause_33 : decode cX4_addClause 33 = .ok (.bipush (-4), 2) := by decide +kernel
theorem dX4_addClause_35 : decode cX4_addClause 35 = .ok (.invokevirtual 28, 3) := by decide +kernel
theorem dX4_addClause_38 : decode cX4_addClause 38 = .ok (.return_, 1) := by decide +kernel
theorem dX4_sum_0 : decode cX4_sum 0 = .ok (.iconst 0, 1) := by decide +kernel
theorem dX4_sum_1 : decode cX4_sum 1 = .ok (.istore_n 2, 1) := by decide +kernel
theorem dX4_sum_2 : decode cX4_sum 2 = .ok (.iconst 0, 1) := by decide +kernel
theorem dX4_sum_3 : decode cX4_sum 3 = .ok (.istore_n 3, 1) := by decide +kernel
theorem dX4_sum_4 : decode cX4_sum 4 = .ok (.iconst 0, 1) := by decide +kernel
theorem dX4_sum_5 : decode cX4_sum 5 = .ok (.istore 4, 2) := by decide +kernel
theorem dX4_sum_7 : decode cX4_sum 7 = .ok (.iconst 0, 1) := by decide +kernel
theorem dX4_sum_8 : decode cX4_sum 8 = .ok (.istore 5, 2) := by decide +kernel
theorem dX4_sum_10 : decode cX4_sum 10 = .ok (.iload 5, 2) := by decide +kernel
theorem dX4_sum_12 : decode cX4_sum 12 = .ok (.aload_n 0, 1) := by decide +kernel
theorem dX4_sum_13 : decode cX4_sum 13 = .ok (.getfield 22, 3) := by decide +kernel
theorem dX4_sum_16 : decode cX4_sum 16 = .ok (.if_icmp .ge 140, 3) := by decide +kernel
theorem dX4_sum_19 : decode cX4_sum 19 = .ok (.aload_n 0, 1) := by decide +kernel
theorem dX4_sum_20 : decode cX4_sum 20 = .ok (.getfield 15, 3) := by decide +kernel
theorem dX4_sum_23 : decode cX4_sum 23 = .ok (.iload 5, 2) := by decide +kernel
theorem dX4_sum_25 : decode cX4_sum 25 = .ok (.iaload, 1) := by decide +kernel
theorem dX4_sum_26 : decode cX4_sum 26 = .ok (.istore 6, 2) := by decide +kernel
theorem dX4_sum_28 : decode cX4_sum 28 = .ok (.iload 4, 2) := by decide +kernel
theorem dX4_sum_30 : decode cX4_sum 30 = .ok (.iconst 1, 1) := by decide +kernel
theorem dX4_sum_31 : decode cX4_sum 31 = .ok (.iand, 1) := by decide +kernel
theorem dX4_sum_32 : decode cX4_sum 32 = .ok (.istore 7, 2) := by decide +kernel
theorem dX4_sum_34 : decode cX4_sum 34 = .ok (.iload 6, 2) := by decide +kernel
theorem dX4_sum_36 : decode cX4_sum 36 = .ok (.ifCond .lt 25, 3) := by decide +kernel
theorem dX4_sum_39 : decode cX4_sum 39 = .ok (.iload 4, 2) := by decide +kernel
theorem dX4_sum_41 : decode cX4_sum 41 = .ok (.iconst 1, 1) := by decide +kernel
theorem dX4_sum_42 : decode cX4_sum 42 = .ok (.ishl, 1) := by decide +kernel
theorem dX4_sum_43 : decode cX4_sum 43 = .ok (.iload 6, 2) := by decide +kernel
theorem dX4_sum_45 : decode cX4_sum 45 = .ok (.aload_n 1, 1) := by decide +kernel
theorem dX4_sum_46 : decode cX4_sum 46 = .ok (.iload 6, 2) := by decide +kernel
theorem dX4_sum_48 : decode cX4_sum 48 = .ok (.bipush 7, 2) := by decide +kernel
theorem dX4_sum_50 : decode cX4_sum 50 = .ok (.iand, 1) := by decide +kernel
theorem dX4_sum_51 : decode cX4_sum 51 = .ok (.iaload, 1) := by decide +kernel
theorem dX4_sum_52 : decode cX4_sum 52 = .ok (.invokestatic 32, 3) := by decide +kernel
theorem dX4_sum_55 : decode cX4_sum 55 = .ok (.ior, 1) := by decide +kernel
theorem dX4_sum_56 : decode cX4_sum 56 = .ok (.istore 4, 2) := by decide +kernel
theorem dX4_sum_58 : decode cX4_sum 58 = .ok (.goto 92, 3) := by decide +kernel
theorem dX4_sum_61 : decode cX4_sum 61 = .ok (.iload 6, 2) := by decide +kernel
theorem dX4_sum_63 : decode cX4_sum 63 = .ok (.iconst (-1), 1) := by decide +kernel
theorem dX4_sum_64 : decode cX4_sum 64 = .ok (.if_icmp .ne 12, 3) := by decide +kernel
theorem dX4_sum_67 : decode cX4_sum 67 = .ok (.iload 4, 2) := by decide +kernel
theorem dX4_sum_69 : decode cX4_sum 69 = .ok (.iconst 1, 1) := by decide +kernel
theorem dX4_sum_70 : decode cX4_sum 70 = .ok (.ixor, 1) := by decide +kernel
theorem dX4_sum_71 : decode cX4_sum 71 = .ok (.istore 4, 2) := by decide +kernel
theorem dX4_sum_73 : decode cX4_sum 73 = .ok (.goto 77, 3) := by decide +kernel
theorem dX4_sum_76 : decode cX4_sum 76 = .ok (.iload 6, 2) := by decide +kernel
theorem dX4_sum_78 : decode cX4_sum 78 = .ok (.bipush (-2), 2) := by decide +kernel
theorem dX4_sum_80 : decode cX4_sum 80 = .ok (.if_icmp .ne 18, 3) := by decide +kernel
theorem dX4_sum_83 : decode cX4_sum 83 = .ok (.iload 4, 2) := by decide +kernel
theorem dX4_sum_85 : decode cX4_sum 85 = .ok (.iconst 1, 1) := by decide +kernel
theorem dX4_sum_86 : decode cX4_sum 86 = .ok (.ishr, 1) := by decide +kernel
theorem dX4_sum_87 : decode cX4_sum 87 = .ok (.iload 7, 2) := by decide +kernel
theorem dX4_sum_89 : decode cX4_sum 89 = .ok (.bipush (-2), 2) := by decide +kernel
theorem dX4_sum_91 : decode cX4_sum 91 = .ok (.ior, 1) := by decide +kernel
theorem dX4_sum_92 : decode cX4_sum 92 = .ok (.iand, 1) := by decide +kernel
theorem dX4_sum_93 : decode cX4_sum 93 = .ok (.istore 4, 2) := by decide +kernel
theorem dX4_sum_95 : decode cX4_sum 95 = .ok (.goto 55, 3) := by decide +kernel
theorem dX4_sum_98 : decode cX4_sum 98 = .ok (.iload 6, 2) := by decide +kernel
theorem dX4_sum_100 : decode cX4_sum 100 = .ok (.bipush (-3), 2) := by decide +kernel
theorem dX4_sum_102 : decode cX4_sum 102 = .ok (.if_icmp .ne 15, 3) := by decide +kernel
theorem dX4_sum_105 : decode cX4_sum 105 = .ok (.iload 4, 2) := by decide +kernel
theorem dX4_sum_107 : decode cX4_sum 107 = .ok (.iconst 1, 1) := by decide +kernel
theorem dX4_sum_108 : decode cX4_sum 108 = .ok (.ishr, 1) := by decide +kernel
theorem dX4_sum_109 : decode cX4_sum 109 = .ok (.iload 7, 2) := by decide +kernel
theorem dX4_sum_111 : decode cX4_sum 111 = .ok (.ior, 1) := by decide +kernel
theorem dX4_sum_112 : decode cX4_sum 112 = .ok (.istore 4, 2) := by decide +kernel
theorem dX4_sum_114 : decode cX4_sum 114 = .ok (.goto 36, 3) := by decide +kernel
theorem dX4_sum_117 : decode cX4_sum 117 = .ok (.iload_n 3, 1) := by decide +kernel
theorem dX4_sum_118 : decode cX4_sum 118 = .ok (.aload_n 0, 1) := by decide +kernel
theorem dX4_sum_119 : decode cX4_sum 119 = .ok (.getfield 25, 3) := by decide +kernel
theorem dX4_sum_122 : decode cX4_sum 122 = .ok (.if_icmp .ge 28, 3) := by decide +kernel
theorem dX4_sum_125 : decode cX4_sum 125 = .ok (.iload_n 2, 1) := by decide +kernel
theorem dX4_sum_126 : decode cX4_sum 126 = .ok (.iload 7, 2) := by decide +kernel
theorem dX4_sum_128 : decode cX4_sum 128 = .ok (.iconst 1, 1) := by decide +kernel
theorem dX4_sum_129 : decode cX4_sum 129 = .ok (.if_icmp .ne 12, 3) := by decide +kernel
theorem dX4_sum_132 : decode cX4_sum 132 = .ok (.aload_n 0, 1) := by decide +kernel
theorem dX4_sum_133 : decode cX4_sum 133 = .ok (.getfield 19, 3) := by decide +kernel
theorem dX4_sum_136 : decode cX4_sum 136 = .ok (.iload_n 3, 1) := by decide +kernel
theorem dX4_sum_137 : decode cX4_sum 137 = .ok (.iaload, 1) := by decide +kernel
theorem dX4_sum_138 : decode cX4_sum 138 = .ok (.goto 4, 3) := by decide +kernel
theorem dX4_sum_141 : decode cX4_sum 141 = .ok (.iconst 0, 1) := by decide +kernel
theorem dX4_sum_142 : decode cX4_sum 142 = .ok (.iadd, 1) := by decide +kernel
theorem dX4_sum_143 : decode cX4_sum 143 = .ok (.istore_n 2, 1) := by decide +kernel
theorem dX4_sum_144 : decode cX4_sum 144 = .ok (.iinc 3 1, 3) := by decide +kernel
theorem dX4_sum_147 : decode cX4_sum 147 = .ok (.iconst 0, 1) := by decide +kernel
theorem dX4_sum_148 : decode cX4_sum 148 = .ok (.istore 4, 2) := by decide +kernel
theorem dX4_sum_150 : decode cX4_sum 150 = .ok (.iinc 5 1, 3) := by decide +kernel
theorem dX4_sum_153 : decode cX4_sum 153 = .ok (.goto (-143), 3) := by decide +kernel
theorem dX4_sum_156 : decode cX4_sum 156 = .ok (.iload_n 2, 1) := by decide +kernel
theorem dX4_sum_157 : decode cX4_sum 157 = .ok (.ireturn, 1) := by decide +kernel
theorem dX4_test_0 : decode cX4_test 0 = .ok (.iload_n 0, 1) := by decide +kernel
theorem dX4_test_1 : decode cX4_test 1 = .ok (.iconst 5, 1) := by decide +kernel
theorem dX4_test_2 : decode cX4_test 2 = .ok (.ishr, 1) := by decide +kernel
theorem dX4_test_3 : decode cX4_test 3 = .ok (.istore_n 2, 1) := by decide +kernel
theorem dX4_test_4 : decode cX4_test 4 = .ok (.iload_n 0, 1) := by decide +kernel
theorem dX4_test_5 : decode cX4_test 5 = .ok (.iconst 3, 1) := by decide +kernel
theorem dX4_test_6 : decode cX4_test 6 = .ok (.ishr, 1) := by decide +kernel
theorem dX4_test_7 : decode cX4_test 7 = .ok (.iconst 3, 1) := by decide +kernel
theorem dX4_test_8 : decode cX4_test 8 = .ok (.iand, 1) := by decide +kernel
theorem dX4_test_9 : decode cX4_test 9 = .ok (.lookupswitch 49 #[(0, 27), (1, 38)], 27) := by decide +kernel
theorem dX4_test_36 : decode cX4_test 36 = .ok (.iload_n 1, 1) := by decide +kernel
theorem dX4_test_37 : decode cX4_test 37 = .ok (.iload_n 2, 1) := by decide +kernel
theorem dX4_test_38 : decode cX4_test 38 = .ok (.if_icmp .ge 7, 3) := by decide +kernel
theorem dX4_test_41 : decode cX4_test 41 = .ok (.iconst 1, 1) := by decide +kernel
theorem dX4_test_42 : decode cX4_test 42 = .ok (.goto 4, 3) := by decide +kernel
theorem dX4_test_45 : decode cX4_test 45 = .ok (.iconst 0, 1) := by decide +kernel
theorem dX4_test_46 : decode cX4_test 46 = .ok (.ireturn, 1) := by decide +kernel
theorem dX4_test_47 : decode cX4_test 47 = .ok (.iload_n 1, 1) := by decide +kernel
theorem dX4_test_48 : decode cX4_test 48 = .ok (.iload_n 2, 1) := by decide +kernel
theorem dX4_test_49 : decode cX4_test 49 = .ok (.if_icmp .ne 7, 3) := by decide +kernel
theorem dX4_test_52 : decode cX4_test 52 = .ok (.iconst 1, 1) := by decide +kernel
theorem dX4_test_53 : decode cX4_test 53 = .ok (.goto 4, 3) := by decide +kernel
theorem dX4_test_56 : decode cX4_test 56 = .ok (.iconst 0, 1) := by decide +kernel
theorem dX4_test_57 : decode cX4_test 57 = .ok (.ireturn, 1) := by decide +kernel
theorem dX4_test_58 : decode cX4_test 58 = .ok (.iload_n 1, 1) := by decide +kernel
theorem dX4_test_59 : decode cX4_test 59 = .ok (.iload_n 2, 1) := by decide +kernel
theorem dX4_test_60 : decode cX4_test 60 = .ok (.if_icmp .le 7, 3) := by decide +kernel
theorem dX4_test_63 : decode cX4_test 63 = .ok (.iconst 1, 1) := by decide +kernel
theorem dX4_test_64 : decode cX4_test 64 = .ok (.goto 4, 3) := by decide +kernel
theorem dX4_test_67 : decode cX4_test 67 = .ok (.iconst 0, 1) := by decide +kernel
theorem dX4_test_68 : decode cX4_test 68 = .ok (.ireturn, 1) := by decide +kernel
theorem dX5_init_0 : decode cX5_init 0 = .ok (.aload_n 0, 1) := by decide +kernel
theorem dX5_init_1 : decode cX5_init 1 = .ok (.invokespecial 3, 3) := by decide +kernel
theorem dX5_init_4 : decode cX5_init 4 = .ok (.aload_n 0, 1) := by decide +kernel
theorem dX5_init_5 : decode cX5_init 5 = .ok (.bipush 6, 2) := by decide +kernel
theorem dX5_init_7 : decode cX5_init 7 = .ok (.newarray .int, 2) := by decide +kernel
theorem dX5_init_9 : decode cX5_init 9 = .ok (.putfield 9, 3) := by decide +kernel
theorem dX5_init_12 : decode cX5_init 12 = .ok (.aload_n 0, 1) := by decide +kernel
theorem dX5_init_13 : decode cX5_init 13 = .ok (.bipush 6, 2) := by decide +kernel
theorem dX5_init_15 : decode cX5_init 15 = .ok (.newarray .int, 2) := by decide +kernel
theorem dX5_init_17 : decode cX5_init 17 = .ok (.putfield 15, 3) := by decide +kernel
theorem dX5_init_20 : decode cX5_init 20 = .ok (.aload_n 0, 1) := by decide +kernel
theorem dX5_init_21 : decode cX5_init 21 = .ok (.bipush 6, 2) := by decide +kernel
theorem dX5_init_23 : decode cX5_init 23 = .ok (.bipush 60, 2) := by decide +kernel
theorem dX5_init_25 : decode cX5_init 25 = .ok (.multianewarray 18 2, 4) := by decide +kernel
theorem dX5_init_29 : decode cX5_init 29 = .ok (.putfield 20, 3) := by decide +kernel
theorem dX5_init_32 : decode cX5_init 32 = .ok (.iconst 0, 1) := by decide +kernel
theorem dX5_init_33 : decode cX5_init 33 = .ok (.istore_n 1, 1) := by decide +kernel
theorem dX5_init_34 : decode cX5_init 34 = .ok (.iload_n 1, 1) := by decide +kernel
theorem dX5_init_35 : decode cX5_init 35 = .ok (.bipush 6, 2) := by decide +kernel
theorem dX5_init_37 : decode cX5_init 37 = .ok (.if_icmp .ge 16, 3) := by decide +kernel
theorem dX5_init_40 : decode cX5_init 40 = .ok (.aload_n 0, 1) := by decide +kernel
theorem dX5_init_41 : decode cX5_init 41 = .ok (.getfield 9, 3) := by decide +kernel
theorem dX5_init_44 : decode cX5_init 44 = .ok (.iload_n 1, 1) := by decide +kernel
theorem dX5_init_45 : decode cX5_init 45 = .ok (.iconst (-1), 1) := by decide +kernel
theorem dX5_init_46 : decode cX5_init 46 = .ok (.iastore, 1) := by decide +kernel
theorem dX5_init_47 : decode cX5_init 47 = .ok (.iinc 1 1, 3) := by decide +kernel
theorem dX5_init_50 : decode cX5_init 50 = .ok (.goto (-16), 3) := by decide +kernel
theorem dX5_init_53 : decode cX5_init 53 = .ok (.return_, 1) := by decide +kernel
theorem dX5_has_0 : decode cX5_has 0 = .ok (.iload_n 1, 1) := by decide +kernel
theorem dX5_has_1 : decode cX5_has 1 = .ok (.ifCond .lt 13, 3) := by decide +kernel
theorem dX5_has_4 : decode cX5_has 4 = .ok (.iload_n 1, 1) := by decide +kernel
theorem dX5_has_5 : decode cX5_has 5 = .ok (.bipush 6, 2) := by decide +kernel
theorem dX5_has_7 : decode cX5_has 7 = .ok (.if_icmp .ge 7, 3) := by decide +kernel
theorem dX5_has_10 : decode cX5_has 10 = .ok (.iconst 1, 1) := by decide +kernel
theorem dX5_has_11 : decode cX5_has 11 = .ok (.goto 4, 3) := by decide +kernel
theorem dX5_has_14 : decode cX5_has 14 = .ok (.iconst 0, 1) := by decide +kernel
theorem dX5_has_15 : decode cX5_has 15 = .ok (.ireturn, 1) := by decide +kernel
theorem dX5_holds_0 : decode cX5_holds 0 = .ok (.aload_n 0, 1) := by decide +kernel
theorem dX5_holds_1 : decode cX5_holds 1 = .ok (.getfield 9, 3) := by decide +kernel
theorem dX5_holds_4 : decode cX5_holds 4 = .ok (.iload_n 1, 1) := by decide +kernel
theorem dX5_holds_5 : decode cX5_holds 5 = .ok (.iaload, 1) := by decide +kernel
theorem dX5_holds_6 : decode cX5_holds 6 = .ok (.iconst (-1), 1) := by decide +kernel
theorem dX5_holds_7 : decode cX5_holds 7 = .ok (.if_icmp .eq 7, 3) := by decide +kernel
theorem dX5_holds_10 : decode cX5_holds 10 = .ok (.iconst 1, 1) := by decide +kernel
theorem dX5_holds_11 : decode cX5_holds 11 = .ok (.goto 4, 3) := by decide +kernel
theorem dX5_holds_14 : decode cX5_holds 14 = .ok (.iconst 0, 1) := by decide +kernel
theorem dX5_holds_15 : decode cX5_holds 15 = .ok (.ireturn, 1) := by decide +kernel
theorem dX5_hasItems_0 : decode cX5_hasItems 0 = .ok (.iload_n 3, 1) := by decide +kernel
theorem dX5_hasItems_1 : decode cX5_hasItems 1 = .ok (.ifCond .lt 33, 3) := by decide +kernel
theorem dX5_hasItems_4 : decode cX5_hasItems 4 = .ok (.iload_n 3, 1) := by decide +kernel
theorem dX5_hasItems_5 : decode cX5_hasItems 5 = .ok (.aload_n 0, 1) := by decide +kernel
theorem dX5_hasItems_6 : decode cX5_hasItems 6 = .ok (.getfield 15, 3) := by decide +kernel
theorem dX5_hasItems_9 : decode cX5_hasItems 9 = .ok (.iload_n 1, 1) := by decide +kernel
theorem dX5_hasItems_10 : decode cX5_hasItems 10 = .ok (.iaload, 1) := by decide +kernel
theorem dX5_hasItems_11 : decode cX5_hasItems 11 = .ok (.if_icmp .gt 23, 3) := by decide +kernel
theorem dX5_hasItems_14 : decode cX5_hasItems 14 = .ok (.iload_n 2, 1) := by decide +kernel
theorem dX5_hasItems_15 : decode cX5_hasItems 15 = .ok (.ifCond .lt 19, 3) := by decide +kernel
theorem dX5_hasItems_18 : decode cX5_hasItems 18 = .ok (.iload_n 2, 1) := by decide +kernel
theorem dX5_hasItems_19 : decode cX5_hasItems 19 = .ok (.aload_n 0, 1) := by decide +kernel
theorem dX5_hasItems_20 : decode cX5_hasItems 20 = .ok (.getfield 15, 3) := by decide +kernel
theorem dX5_hasItems_23 : decode cX5_hasItems 23 = .ok (.iload_n 1, 1) := by decide +kernel
theorem dX5_hasItems_24 : decode cX5_hasItems 24 = .ok (.iaload, 1) := by decide +kernel
theorem dX5_hasItems_25 : decode cX5_hasItems 25 = .ok (.iload_n 3, 1) := by decide +kernel
theorem dX5_hasItems_26 : decode cX5_hasItems 26 = .ok (.isub, 1) := by decide +kernel
theorem dX5_hasItems_27 : decode cX5_hasItems 27 = .ok (.if_icmp .gt 7, 3) := by decide +kernel
theorem dX5_hasItems_30 : decode cX5_hasItems 30 = .ok (.iconst 1, 1) := by decide +kernel
theorem dX5_hasItems_31 : decode cX5_hasItems 31 = .ok (.goto 4, 3) := by decide +kernel
theorem dX5_hasItems_34 : decode cX5_hasItems 34 = .ok (.iconst 0, 1) := by decide +kernel
theorem dX5_hasItems_35 : decode cX5_hasItems 35 = .ok (.ireturn, 1) := by decide +kernel
theorem dX5_become_0 : decode cX5_become 0 = .ok (.aload_n 0, 1) := by decide +kernel
theorem dX5_become_1 : decode cX5_become 1 = .ok (.getfield 9, 3) := by decide +kernel
theorem dX5_become_4 : decode cX5_become 4 = .ok (.iload_n 1, 1) := by decide +kernel
theorem dX5_become_5 : decode cX5_become 5 = .ok (.iload_n 2, 1) := by decide +kernel
theorem dX5_become_6 : decode cX5_become 6 = .ok (.iastore, 1) := by decide +kernel
theorem dX5_become_7 : decode cX5_become 7 = .ok (.aload_n 0, 1) := by decide +kernel
theorem dX5_become_8 : decode cX5_become 8 = .ok (.getfield 15, 3) := by decide +kernel
theorem dX5_become_11 : decode cX5_become 11 = .ok (.iload_n 1, 1) := by decide +kernel
theorem dX5_become_12 : decode cX5_become 12 = .ok (.iload_n 3, 1) := by decide +kernel
theorem dX5_become_13 : decode cX5_become 13 = .ok (.iastore, 1) := by decide +kernel
theorem dX5_become_14 : decode cX5_become 14 = .ok (.iconst 0, 1) := by decide +kernel
theorem dX5_become_15 : decode cX5_become 15 = .ok (.istore 4, 2) := by decide +kernel
theorem dX5_become_17 : decode cX5_become 17 = .ok (.iload 4, 2) := by decide +kernel
theorem dX5_become_19 : decode cX5_become 19 = .ok (.iload_n 3, 1) := by decide +kernel
theorem dX5_become_20 : decode cX5_become 20 = .ok (.if_icmp .ge 19, 3) := by decide +kernel
theorem dX5_become_23 : decode cX5_become 23 = .ok (.aload_n 0, 1) := by decide +kernel
theorem dX5_become_24 : decode cX5_become 24 = .ok (.getfield 20, 3) := by decide +kernel
theorem dX5_become_27 : decode cX5_become 27 = .ok (.iload_n 1, 1) := by decide +kernel
theorem dX5_become_28 : decode cX5_become 28 = .ok (.aaload, 1) := by decide +kernel
theorem dX5_become_29 : decode cX5_become 29 = .ok (.iload 4, 2) := by decide +kernel
theorem dX5_become_31 : decode cX5_become 31 = .ok (.lconst 0, 1) := by decide +kernel
theorem dX5_become_32 : decode cX5_become 32 = .ok (.lastore, 1) := by decide +kernel
theorem dX5_become_33 : decode cX5_become 33 = .ok (.iinc 4 1, 3) := by decide +kernel
theorem dX5_become_36 : decode cX5_become 36 = .ok (.goto (-19), 3) := by decide +kernel
theorem dX5_become_39 : decode cX5_become 39 = .ok (.iconst 1, 1) := by decide +kernel
theorem dX5_become_40 : decode cX5_become 40 = .ok (.ireturn, 1) := by decide +kernel
theorem dX5_put_0 : decode cX5_put 0 = .ok (.aload_n 0, 1) := by decide +kernel
theorem dX5_put_1 : decode cX5_put 1 = .ok (.getfield 20, 3) := by decide +kernel
theorem dX5_put_4 : decode cX5_put 4 = .ok (.iload_n 1, 1) := by decide +kernel
theorem dX5_put_5 : decode cX5_put 5 = .ok (.aaload, 1) := by decide +kernel
theorem dX5_put_6 : decode cX5_put 6 = .ok (.iload_n 2, 1) := by decide +kernel
theorem dX5_put_7 : decode cX5_put 7 = .ok (.aload_n 0, 1) := by decide +kernel
theorem dX5_put_8 : decode cX5_put 8 = .ok (.getfield 9, 3) := by decide +kernel
theorem dX5_put_11 : decode cX5_put 11 = .ok (.iload_n 1, 1) := by decide +kernel
theorem dX5_put_12 : decode cX5_put 12 = .ok (.iaload, 1) := by decide +kernel
theorem dX5_put_13 : decode cX5_put 13 = .ok (.lload_n 3, 1) := by decide +kernel
theorem dX5_put_14 : decode cX5_put 14 = .ok (.invokestatic 23, 3) := by decide +kernel
theorem dX5_put_17 : decode cX5_put 17 = .ok (.lastore, 1) := by decide +kernel
theorem dX5_put_18 : decode cX5_put 18 = .ok (.iconst 1, 1) := by decide +kernel
theorem dX5_put_19 : decode cX5_put 19 = .ok (.ireturn, 1) := by decide +kernel
theorem dX5_cut_0 : decode cX5_cut 0 = .ok (.iload_n 0, 1) := by decide +kernel
theorem dX5_cut_1 : decode cX5_cut 1 = .ok (.tableswitch 47 0 3 #[31, 36, 41, 45], 31) := by decide +kernel
theorem dX5_cut_32 : decode cX5_cut 32 = .ok (.lload_n 1, 1) := by decide +kernel
theorem dX5_cut_33 : decode cX5_cut 33 = .ok (.l2i, 1) := by decide +kernel
theorem dX5_cut_34 : decode cX5_cut 34 = .ok (.i2b, 1) := by decide +kernel
theorem dX5_cut_35 : decode cX5_cut 35 = .ok (.i2l, 1) := by decide +kernel
theorem dX5_cut_36 : decode cX5_cut 36 = .ok (.lreturn, 1) := by decide +kernel
theorem dX5_cut_37 : decode cX5_cut 37 = .ok (.lload_n 1, 1) := by decide +kernel
theorem dX5_cut_38 : decode cX5_cut 38 = .ok (.l2i, 1) := by decide +kernel
theorem dX5_cut_39 : decode cX5_cut 39 = .ok (.i2s, 1) := by decide +kernel
theorem dX5_cut_40 : decode cX5_cut 40 = .ok (.i2l, 1) := by decide +kernel
theorem dX5_cut_41 : decode cX5_cut 41 = .ok (.lreturn, 1) := by decide +kernel
theorem dX5_cut_42 : decode cX5_cut 42 = .ok (.lload_n 1, 1) := by decide +kernel
theorem dX5_cut_43 : decode cX5_cut 43 = .ok (.l2i, 1) := by decide +kernel
theorem dX5_cut_44 : decode cX5_cut 44 = .ok (.i2l, 1) := by decide +kernel
theorem dX5_cut_45 : decode cX5_cut 45 = .ok (.lreturn, 1) := by decide +kernel
theorem dX5_cut_46 : decode cX5_cut 46 = .ok (.lload_n 1, 1) := by decide +kernel
theorem dX5_cut_47 : decode cX5_cut 47 = .ok (.lreturn, 1) := by decide +kernel
theorem dX5_cut_48 : decode cX5_cut 48 = .ok (.lload_n 1, 1) := by decide +kernel
theorem dX5_cut_49 : decode cX5_cut 49 = .ok (.lconst 0, 1) := by decide +kernel
theorem dX5_cut_50 : decode cX5_cut 50 = .ok (.lcmp, 1) := by decide +kernel
theorem dX5_cut_51 : decode cX5_cut 51 = .ok (.ifCond .eq 7, 3) := by decide +kernel
theorem dX5_cut_54 : decode cX5_cut 54 = .ok (.iconst 1, 1) := by decide +kernel
theorem dX5_cut_55 : decode cX5_cut 55 = .ok (.goto 4, 3) := by decide +kernel
theorem dX5_cut_58 : decode cX5_cut 58 = .ok (.iconst 0, 1) := by decide +kernel
theorem dX5_cut_59 : decode cX5_cut 59 = .ok (.invokestatic 27, 3) := by decide +kernel
theorem dX5_cut_62 : decode cX5_cut 62 = .ok (.i2l, 1) := by decide +kernel
theorem dX5_cut_63 : decode cX5_cut 63 = .ok (.lreturn, 1) := by decide +kernel
theorem dX6_init_0 : decode cX6_init 0 = .ok (.aload_n 0, 1) := by decide +kernel
theorem dX6_init_1 : decode cX6_init 1 = .ok (.invokespecial 3, 3) := by decide +kernel
theorem dX6_init_4 : decode cX6_init 4 = .ok (.aload_n 0, 1) := by decide +kernel
theorem dX6_init_5 : decode cX6_init 5 = .ok (.bipush 6, 2) := by decide +kernel
theorem dX6_init_7 : decode cX6_init 7 = .ok (.newarray .int, 2) := by decide +kernel
theorem dX6_init_9 : decode cX6_init 9 = .ok (.putfield 9, 3) := by decide +kernel
theorem dX6_init_12 : decode cX6_init 12 = .ok (.aload_n 0, 1) := by decide +kernel
theorem dX6_init_13 : decode cX6_init 13 = .ok (.bipush 6, 2) := by decide +kernel
theorem dX6_init_15 : decode cX6_init 15 = .ok (.newarray .int, 2) := by decide +kernel
theorem dX6_init_17 : decode cX6_init 17 = .ok (.putfield 15, 3) := by decide +kernel
theorem dX6_init_20 : decode cX6_init 20 = .ok (.aload_n 0, 1) := by decide +kernel
theorem dX6_init_21 : decode cX6_init 21 = .ok (.bipush 6, 2) := by decide +kernel
theorem dX6_init_23 : decode cX6_init 23 = .ok (.newarray .int, 2) := by decide +kernel
theorem dX6_init_25 : decode cX6_init 25 = .ok (.putfield 18, 3) := by decide +kernel
theorem dX6_init_28 : decode cX6_init 28 = .ok (.aload_n 0, 1) := by decide +kernel
theorem dX6_init_29 : decode cX6_init 29 = .ok (.bipush 6, 2) := by decide +kernel
theorem dX6_init_31 : decode cX6_init 31 = .ok (.newarray .boolean, 2) := by decide +kernel
theorem dX6_init_33 : decode cX6_init 33 = .ok (.putfield 21, 3) := by decide +kernel
theorem dX6_init_36 : decode cX6_init 36 = .ok (.aload_n 0, 1) := by decide +kernel
theorem dX6_init_37 : decode cX6_init 37 = .ok (.bipush 24, 2) := by decide +kernel
theorem dX6_init_39 : decode cX6_init 39 = .ok (.newarray .int, 2) := by decide +kernel
theorem dX6_init_41 : decode cX6_init 41 = .ok (.putfield 25, 3) := by decide +kernel
theorem dX6_init_44 : decode cX6_init 44 = .ok (.aload_n 0, 1) := by decide +kernel
theorem dX6_init_45 : decode cX6_init 45 = .ok (.iconst 4, 1) := by decide +kernel
theorem dX6_init_46 : decode cX6_init 46 = .ok (.newarray .int, 2) := by decide +kernel
theorem dX6_init_48 : decode cX6_init 48 = .ok (.putfield 28, 3) := by decide +kernel
theorem dX6_init_51 : decode cX6_init 51 = .ok (.aload_n 0, 1) := by decide +kernel
theorem dX6_init_52 : decode cX6_init 52 = .ok (.iconst 4, 1) := by decide +kernel
theorem dX6_init_53 : decode cX6_init 53 = .ok (.newarray .int, 2) := by decide +kernel
theorem dX6_init_55 : decode cX6_init 55 = .ok (.putfield 31, 3) := by decide +kernel
theorem dX6_init_58 : decode cX6_init 58 = .ok (.aload_n 0, 1) := by decide +kernel
theorem dX6_init_59 : decode cX6_init 59 = .ok (.iconst 4, 1) := by decide +kernel
theorem dX6_init_60 : decode cX6_init 60 = .ok (.newarray .int, 2) := by decide +kernel
theorem dX6_init_62 : decode cX6_init 62 = .ok (.putfield 34, 3) := by decide +kernel
theorem dX6_init_65 : decode cX6_init 65 = .ok (.aload_n 0, 1) := by decide +kernel
theorem dX6_init_66 : decode cX6_init 66 = .ok (.iconst (-1), 1) := by decide +kernel
theorem dX6_init_67 : decode cX6_init 67 = .ok (.putfield 37, 3) := by decide +kernel
theorem dX6_init_70 : decode cX6_init 70 = .ok (.aload_n 0, 1) := by decide +kernel
theorem dX6_init_71 : decode cX6_init 71 = .ok (.bipush 6, 2) := by decide +kernel
theorem dX6_init_73 : decode cX6_init 73 = .ok (.newarray .int, 2) := by decide +kernel
theorem dX6_init_75 : decode cX6_init 75 = .ok (.putfield 41, 3) := by decide +kernel
theorem dX6_init_78 : decode cX6_init 78 = .ok (.aload_n 0, 1) := by decide +kernel
theorem dX6_init_79 : decode cX6_init 79 = .ok (.bipush 8, 2) := by decide +kernel
theorem dX6_init_81 : decode cX6_init 81 = .ok (.newarray .int, 2) := by decide +kernel
theorem dX6_init_83 : decode cX6_init 83 = .ok (.putfield 46, 3) := by decide +kernel
theorem dX6_init_86 : decode cX6_init 86 = .ok (.return_, 1) := by decide +kernel
theorem dX6_hasOne_0 : decode cX6_hasOne 0 = .ok (.iload_n 1, 1) := by decide +kernel
theorem dX6_hasOne_1 : decode cX6_hasOne 1 = .ok (.ifCond .lt 15, 3) := by decide +kernel
theorem dX6_hasOne_4 : decode cX6_hasOne 4 = .ok (.iload_n 1, 1) := by decide +kernel
theorem dX6_hasOne_5 : decode cX6_hasOne 5 = .ok (.aload_n 0, 1) := by decide +kernel
theorem dX6_hasOne_6 : decode cX6_hasOne 6 = .ok (.getfield 49, 3) := by decide +kernel
theorem dX6_hasOne_9 : decode cX6_hasOne 9 = .ok (.if_icmp .ge 7, 3) := by decide +kernel
theorem dX6_hasOne_12 : decode cX6_hasOne 12 = .ok (.iconst 1, 1) := by decide +kernel
theorem dX6_hasOne_13 : decode cX6_hasOne 13 = .ok (.goto 4, 3) := by decide +kernel
theorem dX6_hasOne_16 : decode cX6_hasOne 16 = .ok (.iconst 0, 1) := by decide +kernel
theorem dX6_hasOne_17 : decode cX6_hasOne 17 = .ok (.ireturn, 1) := by decide +kernel
theorem dX6_hasWork_0 : decode cX6_hasWork 0 = .ok (.iload_n 1, 1) := by decide +kernel
theorem dX6_hasWork_1 : decode cX6_hasWork 1 = .ok (.ifCond .lt 15, 3) := by decide +kernel
theorem dX6_hasWork_4 : decode cX6_hasWork 4 = .ok (.iload_n 1, 1) := by decide +kernel
theorem dX6_hasWork_5 : decode cX6_hasWork 5 = .ok (.aload_n 0, 1) := by decide +kernel
theorem dX6_hasWork_6 : decode cX6_hasWork 6 = .ok (.getfield 52, 3) := by decide +kernel
theorem dX6_hasWork_9 : decode cX6_hasWork 9 = .ok (.if_icmp .ge 7, 3) := by decide +kernel
theorem dX6_hasWork_12 : decode cX6_hasWork 12 = .ok (.iconst 1, 1) := by decide +kernel
theorem dX6_hasWork_13 : decode cX6_hasWork 13 = .ok (.goto 4, 3) := by decide +kernel
theorem dX6_hasWork_16 : decode cX6_hasWork 16 = .ok (.iconst 0, 1) := by decide +kernel
theorem dX6_hasWork_17 : decode cX6_hasWork 17 = .ok (.ireturn, 1) := by decide +kernel
theorem dX6_addOne_0 : decode cX6_addOne 0 = .ok (.aload_n 0, 1) := by decide +kernel
theorem dX6_addOne_1 : decode cX6_addOne 1 = .ok (.getfield 49, 3) := by decide +kernel
theorem dX6_addOne_4 : decode cX6_addOne 4 = .ok (.istore 4, 2) := by decide +kernel
theorem dX6_addOne_6 : decode cX6_addOne 6 = .ok (.aload_n 0, 1) := by decide +kernel
theorem dX6_addOne_7 : decode cX6_addOne 7 = .ok (.getfield 9, 3) := by decide +kernel
theorem dX6_addOne_10 : decode cX6_addOne 10 = .ok (.iload 4, 2) := by decide +kernel
theorem dX6_addOne_12 : decode cX6_addOne 12 = .ok (.iload_n 1, 1) := by decide +kernel
theorem dX6_addOne_13 : decode cX6_addOne 13 = .ok (.iastore, 1) := by decide +kernel
theorem dX6_addOne_14 : decode cX6_addOne 14 = .ok (.aload_n 0, 1) := by decide +kernel
theorem dX6_addOne_15 : decode cX6_addOne 15 = .ok (.getfield 15, 3) := by decide +kernel
theorem dX6_addOne_18 : decode cX6_addOne 18 = .ok (.iload 4, 2) := by decide +kernel
theorem dX6_addOne_20 : decode cX6_addOne 20 = .ok (.iload_n 2, 1) := by decide +kernel
theorem dX6_addOne_21 : decode cX6_addOne 21 = .ok (.iastore, 1) := by decide +kernel
theorem dX6_addOne_22 : decode cX6_addOne 22 = .ok (.aload_n 0, 1) := by decide +kernel
theorem dX6_addOne_23 : decode cX6_addOne 23 = .ok (.getfield 18, 3) := by decide +kernel
theorem dX6_addOne_26 : decode cX6_addOne 26 = .ok (.iload 4, 2) := by decide +kernel
theorem dX6_addOne_28 : decode cX6_addOne 28 = .ok (.iload_n 3, 1) := by decide +kernel
theorem dX6_addOne_29 : decode cX6_addOne 29 = .ok (.iastore, 1) := by decide +kernel
theorem dX6_addOne_30 : decode cX6_addOne 30 = .ok (.aload_n 0, 1) := by decide +kernel
theorem dX6_addOne_31 : decode cX6_addOne 31 = .ok (.getfield 21, 3) := by decide +kernel
theorem dX6_addOne_34 : decode cX6_addOne 34 = .ok (.iload 4, 2) := by decide +kernel
theorem dX6_addOne_36 : decode cX6_addOne 36 = .ok (.iconst 0, 1) := by decide +kernel
theorem dX6_addOne_37 : decode cX6_addOne 37 = .ok (.bastore, 1) := by decide +kernel
theorem dX6_addOne_38 : decode cX6_addOne 38 = .ok (.iconst 0, 1) := by decide +kernel
theorem dX6_addOne_39 : decode cX6_addOne 39 = .ok (.istore 5, 2) := by decide +kernel
theorem dX6_addOne_41 : decode cX6_addOne 41 = .ok (.iload 5, 2) := by decide +kernel
theorem dX6_addOne_43 : decode cX6_addOne 43 = .ok (.iconst 4, 1) := by decide +kernel
theorem dX6_addOne_44 : decode cX6_addOne 44 = .ok (.if_icmp .ge 22, 3) := by decide +kernel
theorem dX6_addOne_47 : decode cX6_addOne 47 = .ok (.aload_n 0, 1) := by decide +kernel
theorem dX6_addOne_48 : decode cX6_addOne 48 = .ok (.getfield 25, 3) := by decide +kernel
theorem dX6_addOne_51 : decode cX6_addOne 51 = .ok (.iload 4, 2) := by decide +kernel
theorem dX6_addOne_53 : decode cX6_addOne 53 = .ok (.iconst 4, 1) := by decide +kernel
theorem dX6_addOne_54 : decode cX6_addOne 54 = .ok (.imul, 1) := by decide +kernel
theorem dX6_addOne_55 : decode cX6_addOne 55 = .ok (.iload 5, 2) := by decide +kernel
theorem dX6_addOne_57 : decode cX6_addOne 57 = .ok (.iadd, 1) := by decide +kernel
theorem dX6_addOne_58 : decode cX6_addOne 58 = .ok (.iconst 0, 1) := by decide +kernel
theorem dX6_addOne_59 : decode cX6_addOne 59 = .ok (.iastore, 1) := by decide +kernel
theorem dX6_addOne_60 : decode cX6_addOne 60 = .ok (.iinc 5 1, 3) := by decide +kernel
theorem dX6_addOne_63 : decode cX6_addOne 63 = .ok (.goto (-22), 3) := by decide +kernel
theorem dX6_addOne_66 : decode cX6_addOne 66 = .ok (.aload_n 0, 1) := by decide +kernel
theorem dX6_addOne_67 : decode cX6_addOne 67 = .ok (.dup, 1) := by decide +kernel
theorem dX6_addOne_68 : decode cX6_addOne 68 = .ok (.getfield 49, 3) := by decide +kernel
theorem dX6_addOne_71 : decode cX6_addOne 71 = .ok (.iconst 1, 1) := by decide +kernel
theorem dX6_addOne_72 : decode cX6_addOne 72 = .ok (.iadd, 1) := by decide +kernel
theorem dX6_addOne_73 : decode cX6_addOne 73 = .ok (.putfield 49, 3) := by decide +kernel
theorem dX6_addOne_76 : decode cX6_addOne 76 = .ok (.iload 4, 2) := by decide +kernel
theorem dX6_addOne_78 : decode cX6_addOne 78 = .ok (.ireturn, 1) := by decide +kernel
theorem dX6_addWork_0 : decode cX6_addWork 0 = .ok (.aload_n 0, 1) := by decide +kernel
theorem dX6_addWork_1 : decode cX6_addWork 1 = .ok (.getfield 52, 3) := by decide +kernel
theorem dX6_addWork_4 : decode cX6_addWork 4 = .ok (.istore_n 3, 1) := by decide +kernel
theorem dX6_addWork_5 : decode cX6_addWork 5 = .ok (.aload_n 0, 1) := by decide +kernel
theorem dX6_addWork_6 : decode cX6_addWork 6 = .ok (.getfield 28, 3) := by decide +kernel
theorem dX6_addWork_9 : decode cX6_addWork 9 = .ok (.iload_n 3, 1) := by decide +kernel
theorem dX6_addWork_10 : decode cX6_addWork 10 = .ok (.iload_n 1, 1) := by decide +kernel
theorem dX6_addWork_11 : decode cX6_addWork 11 = .ok (.iastore, 1) := by decide +kernel
theorem dX6_addWork_12 : decode cX6_addWork 12 = .ok (.aload_n 0, 1) := by decide +kernel
theorem dX6_addWork_13 : decode cX6_addWork 13 = .ok (.getfield 31, 3) := by decide +kernel
theorem dX6_addWork_16 : decode cX6_addWork 16 = .ok (.iload_n 3, 1) := by decide +kernel
theorem dX6_addWork_17 : decode cX6_addWork 17 = .ok (.iload_n 2, 1) := by decide +kernel
theorem dX6_addWork_18 : decode cX6_addWork 18 = .ok (.iastore, 1) := by decide +kernel
theorem dX6_addWork_19 : decode cX6_addWork 19 = .ok (.aload_n 0, 1) := by decide +kernel
theorem dX6_addWork_20 : decode cX6_addWork 20 = .ok (.getfield 34, 3) := by decide +kernel
theorem dX6_addWork_23 : decode cX6_addWork 23 = .ok (.iload_n 3, 1) := by decide +kernel
theorem dX6_addWork_24 : decode cX6_addWork 24 = .ok (.iconst 0, 1) := by decide +kernel
theorem dX6_addWork_25 : decode cX6_addWork 25 = .ok (.iastore, 1) := by decide +kernel
theorem dX6_addWork_26 : decode cX6_addWork 26 = .ok (.aload_n 0, 1) := by decide +kernel
theorem dX6_addWork_27 : decode cX6_addWork 27 = .ok (.dup, 1) := by decide +kernel
theorem dX6_addWork_28 : decode cX6_addWork 28 = .ok (.getfield 52, 3) := by decide +kernel
theorem dX6_addWork_31 : decode cX6_addWork 31 = .ok (.iconst 1, 1) := by decide +kernel
theorem dX6_addWork_32 : decode cX6_addWork 32 = .ok (.iadd, 1) := by decide +kernel
theorem dX6_addWork_33 : decode cX6_addWork 33 = .ok (.putfield 52, 3) := by decide +kernel
theorem dX6_addWork_36 : decode cX6_addWork 36 = .ok (.iload_n 3, 1) := by decide +kernel
theorem dX6_addWork_37 : decode cX6_addWork 37 = .ok (.ireturn, 1) := by decide +kernel
theorem dX6_become_0 : decode cX6_become 0 = .ok (.aload_n 0, 1) := by decide +kernel
theorem dX6_become_1 : decode cX6_become 1 = .ok (.aload_n 1, 1) := by decide +kernel
theorem dX6_become_2 : decode cX6_become 2 = .ok (.getfield 49, 3) := by decide +kernel
theorem dX6_become_5 : decode cX6_become 5 = .ok (.putfield 49, 3) := by decide +kernel
theorem dX6_become_8 : decode cX6_become 8 = .ok (.aload_n 1, 1) := by decide +kernel
theorem dX6_become_9 : decode cX6_become 9 = .ok (.getfield 9, 3) := by decide +kernel
theorem dX6_become_12 : decode cX6_become 12 = .ok (.iconst 0, 1) := by decide +kernel
theorem dX6_become_13 : decode cX6_become 13 = .ok (.aload_n 0, 1) := by decide +kernel
theorem dX6_become_14 : decode cX6_become 14 = .ok (.getfield 9, 3) := by decide +kernel
theorem dX6_become_17 : decode cX6_become 17 = .ok (.iconst 0, 1) := by decide +kernel
theorem dX6_become_18 : decode cX6_become 18 = .ok (.bipush 6, 2) := by decide +kernel
theorem dX6_become_20 : decode cX6_become 20 = .ok (.invokestatic 55, 3) := by decide +kernel
theorem dX6_become_23 : decode cX6_become 23 = .ok (.aload_n 1, 1) := by decide +kernel
theorem dX6_become_24 : decode cX6_become 24 = .ok (.getfield 15, 3) := by decide +kernel
theorem dX6_become_27 : decode cX6_become 27 = .ok (.iconst 0, 1) := by decide +kernel
theorem dX6_become_28 : decode cX6_become 28 = .ok (.aload_n 0, 1) := by decide +kernel
theorem dX6_become_29 : decode cX6_become 29 = .ok (.getfield 15, 3) := by decide +kernel
theorem dX6_become_32 : decode cX6_become 32 = .ok (.iconst 0, 1) := by decide +kernel
theorem dX6_become_33 : decode cX6_become 33 = .ok (.bipush 6, 2) := by decide +kernel
theorem dX6_become_35 : decode cX6_become 35 = .ok (.invokestatic 55, 3) := by decide +kernel
theorem dX6_become_38 : decode cX6_become 38 = .ok (.aload_n 1, 1) := by decide +kernel
theorem dX6_become_39 : decode cX6_become 39 = .ok (.getfield 18, 3) := by decide +kernel
theorem dX6_become_42 : decode cX6_become 42 = .ok (.iconst 0, 1) := by decide +kernel
theorem dX6_become_43 : decode cX6_become 43 = .ok (.aload_n 0, 1) := by decide +kernel
theorem dX6_become_44 : decode cX6_become 44 = .ok (.getfield 18, 3) := by decide +kernel
theorem dX6_become_47 : decode cX6_become 47 = .ok (.iconst 0, 1) := by decide +kernel
theorem dX6_become_48 : decode cX6_become 48 = .ok (.bipush 6, 2) := by decide +kernel
theorem dX6_become_50 : decode cX6_become 50 = .ok (.invokestatic 55, 3) := by decide +kernel
theorem dX6_become_53 : decode cX6_become 53 = .ok (.iconst 0, 1) := by decide +kernel
theorem dX6_become_54 : decode cX6_become 54 = .ok (.istore_n 2, 1) := by decide +kernel
theorem dX6_become_55 : decode cX6_become 55 = .ok (.iload_n 2, 1) := by decide +kernel
theorem dX6_become_56 : decode cX6_become 56 = .ok (.bipush 6, 2) := by decide +kernel
theorem dX6_become_58 : decode cX6_become 58 = .ok (.if_icmp .ge 21, 3) := by decide +kernel
theorem dX6_become_61 : decode cX6_become 61 = .ok (.aload_n 0, 1) := by decide +kernel
theorem dX6_become_62 : decode cX6_become 62 = .ok (.getfield 21, 3) := by decide +kernel
theorem dX6_become_65 : decode cX6_become 65 = .ok (.iload_n 2, 1) := by decide +kernel
theorem dX6_become_66 : decode cX6_become 66 = .ok (.aload_n 1, 1) := by decide +kernel
theorem dX6_become_67 : decode cX6_become 67 = .ok (.getfield 21, 3) := by decide +kernel
theorem dX6_become_70 : decode cX6_become 70 = .ok (.iload_n 2, 1) := by decide +kernel
theorem dX6_become_71 : decode cX6_become 71 = .ok (.baload, 1) := by decide +kernel
theorem dX6_become_72 : decode cX6_become 72 = .ok (.bastore, 1) := by decide +kernel
theorem dX6_become_73 : decode cX6_become 73 = .ok (.iinc 2 1, 3) := by decide +kernel
theorem dX6_become_76 : decode cX6_become 76 = .ok (.goto (-21), 3) := by decide +kernel
theorem dX6_become_79 : decode cX6_become 79 = .ok (.aload_n 1, 1) := by decide +kernel
theorem dX6_become_80 : decode cX6_become 80 = .ok (.getfield 25, 3) := by decide +kernel
theorem dX6_become_83 : decode cX6_become 83 = .ok (.iconst 0, 1) := by decide +kernel
theorem dX6_become_84 : decode cX6_become 84 = .ok (.aload_n 0, 1) := by decide +kernel
theorem dX6_become_85 : decode cX6_become 85 = .ok (.getfield 25, 3) := by decide +kernel
theorem dX6_become_88 : decode cX6_become 88 = .ok (.iconst 0, 1) := by decide +kernel
theorem dX6_become_89 : decode cX6_become 89 = .ok (.aload_n 0, 1) := by decide +kernel
theorem dX6_become_90 : decode cX6_become 90 = .ok (.getfield 25, 3) := by decide +kernel
theorem dX6_become_93 : decode cX6_become 93 = .ok (.arraylength, 1) := by decide +kernel
theorem dX6_become_94 : decode cX6_become 94 = .ok (.invokestatic 55, 3) := by decide +kernel
theorem dX6_become_97 : decode cX6_become 97 = .ok (.aload_n 0, 1) := by decide +kernel
theorem dX6_become_98 : decode cX6_become 98 = .ok (.aload_n 1, 1) := by decide +kernel
theorem dX6_become_99 : decode cX6_become 99 = .ok (.getfield 52, 3) := by decide +kernel
theorem dX6_become_102 : decode cX6_become 102 = .ok (.putfield 52, 3) := by decide +kernel
theorem dX6_become_105 : decode cX6_become 105 = .ok (.aload_n 1, 1) := by decide +kernel
theorem dX6_become_106 : decode cX6_become 106 = .ok (.getfield 28, 3) := by decide +kernel
theorem dX6_become_109 : decode cX6_become 109 = .ok (.iconst 0, 1) := by decide +kernel
theorem dX6_become_110 : decode cX6_become 110 = .ok (.aload_n 0, 1) := by decide +kernel
theorem dX6_become_111 : decode cX6_become 111 = .ok (.getfield 28, 3) := by decide +kernel
theorem dX6_become_114 : decode cX6_become 114 = .ok (.iconst 0, 1) := by decide +kernel
theorem dX6_become_115 : decode cX6_become 115 = .ok (.iconst 4, 1) := by decide +kernel
theorem dX6_become_116 : decode cX6_become 116 = .ok (.invokestatic 55, 3) := by decide +kernel
theorem dX6_become_119 : decode cX6_become 119 = .ok (.aload_n 1, 1) := by decide +kernel
theorem dX6_become_120 : decode cX6_become 120 = .ok (.getfield 31, 3) := by decide +kernel
theorem dX6_become_123 : decode cX6_become 123 = .ok (.iconst 0, 1) := by decide +kernel
theorem dX6_become_124 : decode cX6_become 124 = .ok (.aload_n 0, 1) := by decide +kernel
theorem dX6_become_125 : decode cX6_become 125 = .ok (.getfield 31, 3) := by decide +kernel
theorem dX6_become_128 : decode cX6_become 128 = .ok (.iconst 0, 1) := by decide +kernel
theorem dX6_become_129 : decode cX6_become 129 = .ok (.iconst 4, 1) := by decide +kernel
theorem dX6_become_130 : decode cX6_become 130 = .ok (.invokestatic 55, 3) := by decide +kernel
theorem dX6_become_133 : decode cX6_become 133 = .ok (.aload_n 1, 1) := by decide +kernel
theorem dX6_become_134 : decode cX6_become 134 = .ok (.getfield 34, 3) := by decide +kernel
theorem dX6_become_137 : decode cX6_become 137 = .ok (.iconst 0, 1) := by decide +kernel
theorem dX6_become_138 : decode cX6_become 138 = .ok (.aload_n 0, 1) := by decide +kernel
theorem dX6_become_139 : decode cX6_become 139 = .ok (.getfield 34, 3) := by decide +kernel
theorem dX6_become_142 : decode cX6_become 142 = .ok (.iconst 0, 1) := by decide +kernel
theorem dX6_become_143 : decode cX6_become 143 = .ok (.iconst 4, 1) := by decide +kernel
theorem dX6_become_144 : decode cX6_become 144 = .ok (.invokestatic 55, 3) := by decide +kernel
theorem dX6_become_147 : decode cX6_become 147 = .ok (.aload_n 0, 1) := by decide +kernel
theorem dX6_become_148 : decode cX6_become 148 = .ok (.aload_n 1, 1) := by decide +kernel
theorem dX6_become_149 : decode cX6_become 149 = .ok (.getfield 37, 3) := by decide +kernel
theorem dX6_become_152 : decode cX6_become 152 = .ok (.putfield 37, 3) := by decide +kernel
theorem dX6_become_155 : decode cX6_become 155 = .ok (.aload_n 0, 1) := by decide +kernel
theorem dX6_become_156 : decode cX6_become 156 = .ok (.aload_n 1, 1) := by decide +kernel
theorem dX6_become_157 : decode cX6_become 157 = .ok (.getfield 61, 3) := by decide +kernel
theorem dX6_become_160 : decode cX6_become 160 = .ok (.putfield 61, 3) := by decide +kernel
theorem dX6_become_163 : decode cX6_become 163 = .ok (.aload_n 0, 1) := by decide +kernel
theorem dX6_become_164 : decode cX6_become 164 = .ok (.aload_n 1, 1) := by decide +kernel
theorem dX6_become_165 : decode cX6_become 165 = .ok (.getfield 64, 3) := by decide +kernel
theorem dX6_become_168 : decode cX6_become 168 = .ok (.putfield 64, 3) := by decide +kernel
theorem dX6_become_171 : decode cX6_become 171 = .ok (.return_, 1) := by decide +kernel
theorem dX6_isHot_0 : decode cX6_isHot 0 = .ok (.aload_n 0, 1) := by decide +kernel
theorem dX6_isHot_1 : decode cX6_isHot 1 = .ok (.iload_n 1, 1) := by decide +kernel
theorem dX6_isHot_2 : decode cX6_isHot 2 = .ok (.invokevirtual 68, 3) := by decide +kernel
theorem dX6_isHot_5 : decode cX6_isHot 5 = .ok (.ifCond .eq 18, 3) := by decide +kernel
theorem dX6_isHot_8 : decode cX6_isHot 8 = .ok (.aload_n 0, 1) := by decide +kernel
theorem dX6_isHot_9 : decode cX6_isHot 9 = .ok (.getfield 18, 3) := by decide +kernel
theorem dX6_isHot_12 : decode cX6_isHot 12 = .ok (.iload_n 1, 1) := by decide +kernel
theorem dX6_isHot_13 : decode cX6_isHot 13 = .ok (.iaload, 1) := by decide +kernel
theorem dX6_isHot_14 : decode cX6_isHot 14 = .ok (.bipush 50, 2) := by decide +kernel
theorem dX6_isHot_16 : decode cX6_isHot 16 = .ok (.if_icmp .lt 7, 3) := by decide +kernel
theorem dX6_isHot_19 : decode cX6_isHot 19 = .ok (.iconst 1, 1) := by decide +kernel
theorem dX6_isHot_20 : decode cX6_isHot 20 = .ok (.goto 4, 3) := by decide +kernel
theorem dX6_isHot_23 : decode cX6_isHot 23 = .ok (.iconst 0, 1) := by decide +kernel
theorem dX6_isHot_24 : decode cX6_isHot 24 = .ok (.ireturn, 1) := by decide +kernel
theorem dX6_isDone_0 : decode cX6_isDone 0 = .ok (.aload_n 0, 1) := by decide +kernel
theorem dX6_isDone_1 : decode cX6_isDone 1 = .ok (.iload_n 1, 1) := by decide +kernel
theorem dX6_isDone_2 : decode cX6_isDone 2 = .ok (.invokevirtual 72, 3) := by decide +kernel
theorem dX6_isDone_5 : decode cX6_isDone 5 = .ok (.ifCond .eq 22, 3) := by decide +kernel
theorem dX6_isDone_8 : decode cX6_isDone 8 = .ok (.aload_n 0, 1) := by decide +kernel
theorem dX6_isDone_9 : decode cX6_isDone 9 = .ok (.getfield 34, 3) := by decide +kernel
theorem dX6_isDone_12 : decode cX6_isDone 12 = .ok (.iload_n 1, 1) := by decide +kernel
theorem dX6_isDone_13 : decode cX6_isDone 13 = .ok (.iaload, 1) := by decide +kernel
theorem dX6_isDone_14 : decode cX6_isDone 14 = .ok (.aload_n 0, 1) := by decide +kernel
theorem dX6_isDone_15 : decode cX6_isDone 15 = .ok (.getfield 28, 3) := by decide +kernel
theorem dX6_isDone_18 : decode cX6_isDone 18 = .ok (.iload_n 1, 1) := by decide +kernel
theorem dX6_isDone_19 : decode cX6_isDone 19 = .ok (.iaload, 1) := by decide +kernel
theorem dX6_isDone_20 : decode cX6_isDone 20 = .ok (.if_icmp .lt 7, 3) := by decide +kernel
theorem dX6_isDone_23 : decode cX6_isDone 23 = .ok (.iconst 1, 1) := by decide +kernel
theorem dX6_isDone_24 : decode cX6_isDone 24 = .ok (.goto 4, 3) := by decide +kernel
theorem dX6_isDone_27 : decode cX6_isDone 27 = .ok (.iconst 0, 1) := by decide +kernel
theorem dX6_isDone_28 : decode cX6_isDone 28 = .ok (.ireturn, 1) := by decide +kernel
theorem dX6_doneBits_0 : decode cX6_doneBits 0 = .ok (.iconst 0, 1) := by decide +kernel
theorem dX6_doneBits_1 : decode cX6_doneBits 1 = .ok (.istore_n 1, 1) := by decide +kernel
theorem dX6_doneBits_2 : decode cX6_doneBits 2 = .ok (.iconst 0, 1) := by decide +kernel
theorem dX6_doneBits_3 : decode cX6_doneBits 3 = .ok (.istore_n 2, 1) := by decide +kernel
theorem dX6_doneBits_4 : decode cX6_doneBits 4 = .ok (.iload_n 2, 1) := by decide +kernel
theorem dX6_doneBits_5 : decode cX6_doneBits 5 = .ok (.aload_n 0, 1) := by decide +kernel
theorem dX6_doneBits_6 : decode cX6_doneBits 6 = .ok (.getfield 52, 3) := by decide +kernel
theorem dX6_doneBits_9 : decode cX6_doneBits 9 = .ok (.if_icmp .ge 23, 3) := by decide +kernel
theorem dX6_doneBits_12 : decode cX6_doneBits 12 = .ok (.aload_n 0, 1) := by decide +kernel
theorem dX6_doneBits_13 : decode cX6_doneBits 13 = .ok (.iload_n 2, 1) := by decide +kernel
theorem dX6_doneBits_14 : decode cX6_doneBits 14 = .ok (.invokevirtual 75, 3) := by decide +kernel
theorem dX6_doneBits_17 : decode cX6_doneBits 17 = .ok (.ifCond .eq 9, 3) := by decide +kernel
theorem dX6_doneBits_20 : decode cX6_doneBits 20 = .ok (.iload_n 1, 1) := by decide +kernel
theorem dX6_doneBits_21 : decode cX6_doneBits 21 = .ok (.iconst 1, 1) := by decide +kernel
theorem dX6_doneBits_22 : decode cX6_doneBits 22 = .ok (.iload_n 2, 1) := by decide +kernel
theorem dX6_doneBits_23 : decode cX6_doneBits 23 = .ok (.ishl, 1) := by decide +kernel
theorem dX6_doneBits_24 : decode cX6_doneBits 24 = .ok (.ior, 1) := by decide +kernel
theorem dX6_doneBits_25 : decode cX6_doneBits 25 = .ok (.istore_n 1, 1) := by decide +kernel
theorem dX6_doneBits_26 : decode cX6_doneBits 26 = .ok (.iinc 2 1, 3) := by decide +kernel
theorem dX6_doneBits_29 : decode cX6_doneBits 29 = .ok (.goto (-25), 3) := by decide +kernel
theorem dX6_doneBits_32 : decode cX6_doneBits 32 = .ok (.iload_n 1, 1) := by decide +kernel
theorem dX6_doneBits_33 : decode cX6_doneBits 33 = .ok (.ireturn, 1) := by decide +kernel
theorem dX6_heatOfAll_0 : decode cX6_heatOfAll 0 = .ok (.iconst 0, 1) := by decide +kernel
theorem dX6_heatOfAll_1 : decode cX6_heatOfAll 1 = .ok (.istore_n 1, 1) := by decide +kernel
theorem dX6_heatOfAll_2 : decode cX6_heatOfAll 2 = .ok (.iconst 0, 1) := by decide +kernel
theorem dX6_heatOfAll_3 : decode cX6_heatOfAll 3 = .ok (.istore_n 2, 1) := by decide +kernel
theorem dX6_heatOfAll_4 : decode cX6_heatOfAll 4 = .ok (.iload_n 2, 1) := by decide +kernel
theorem dX6_heatOfAll_5 : decode cX6_heatOfAll 5 = .ok (.aload_n 0, 1) := by decide +kernel
theorem dX6_heatOfAll_6 : decode cX6_heatOfAll 6 = .ok (.getfield 49, 3) := by decide +kernel
theorem dX6_heatOfAll_9 : decode cX6_heatOfAll 9 = .ok (.if_icmp .ge 18, 3) := by decide +kernel
theorem dX6_heatOfAll_12 : decode cX6_heatOfAll 12 = .ok (.iload_n 1, 1) := by decide +kernel
theorem dX6_heatOfAll_13 : decode cX6_heatOfAll 13 = .ok (.aload_n 0, 1) := by decide +kernel
theorem dX6_heatOfAll_14 : decode cX6_heatOfAll 14 = .ok (.getfield 18, 3) := by decide +kernel
theorem dX6_heatOfAll_17 : decode cX6_heatOfAll 17 = .ok (.iload_n 2, 1) := by decide +kernel
theorem dX6_heatOfAll_18 : decode cX6_heatOfAll 18 = .ok (.iaload, 1) := by decide +kernel
theorem dX6_heatOfAll_19 : decode cX6_heatOfAll 19 = .ok (.iadd, 1) := by decide +kernel
theorem dX6_heatOfAll_20 : decode cX6_heatOfAll 20 = .ok (.istore_n 1, 1) := by decide +kernel
theorem dX6_heatOfAll_21 : decode cX6_heatOfAll 21 = .ok (.iinc 2 1, 3) := by decide +kernel
theorem dX6_heatOfAll_24 : decode cX6_heatOfAll 24 = .ok (.goto (-20), 3) := by decide +kernel
theorem dX6_heatOfAll_27 : decode cX6_heatOfAll 27 = .ok (.iload_n 1, 1) := by decide +kernel
theorem dX6_heatOfAll_28 : decode cX6_heatOfAll 28 = .ok (.ireturn, 1) := by decide +kernel
theorem dX6_countHere_0 : decode cX6_countHere 0 = .ok (.iconst 0, 1) := by decide +kernel
theorem dX6_countHere_1 : decode cX6_countHere 1 = .ok (.istore_n 1, 1) := by decide +kernel
theorem dX6_countHere_2 : decode cX6_countHere 2 = .ok (.iconst 0, 1) := by decide +kernel
theorem dX6_countHere_3 : decode cX6_countHere 3 = .ok (.istore_n 2, 1) := by decide +kernel
theorem dX6_countHere_4 : decode cX6_countHere 4 = .ok (.iload_n 2, 1) := by decide +kernel
theorem dX6_countHere_5 : decode cX6_countHere 5 = .ok (.aload_n 0, 1) := by decide +kernel
theorem dX6_countHere_6 : decode cX6_countHere 6 = .ok (.getfield 49, 3) := by decide +kernel
theorem dX6_countHere_9 : decode cX6_countHere 9 = .ok (.if_icmp .ge 21, 3) := by decide +kernel
theorem dX6_countHere_12 : decode cX6_countHere 12 = .ok (.aload_n 0, 1) := by decide +kernel
theorem dX6_countHere_13 : decode cX6_countHere 13 = .ok (.getfield 21, 3) := by decide +kernel
theorem dX6_countHere_16 : decode cX6_countHere 16 = .ok (.iload_n 2, 1) := by decide +kernel
theorem dX6_countHere_17 : decode cX6_countHere 17 = .ok (.baload, 1) := by decide +kernel
theorem dX6_countHere_18 : decode cX6_countHere 18 = .ok (.ifCond .ne 6, 3) := by decide +kernel
theorem dX6_countHere_21 : decode cX6_countHere 21 = .ok (.iinc 1 1, 3) := by decide +kernel
theorem dX6_countHere_24 : decode cX6_countHere 24 = .ok (.iinc 2 1, 3) := by decide +kernel
theorem dX6_countHere_27 : decode cX6_countHere 27 = .ok (.goto (-23), 3) := by decide +kernel
theorem dX6_countHere_30 : decode cX6_countHere 30 = .ok (.iload_n 1, 1) := by decide +kernel
theorem dX6_countHere_31 : decode cX6_countHere 31 = .ok (.ireturn, 1) := by decide +kernel
theorem dX6_hottest_0 : decode cX6_hottest 0 = .ok (.iconst (-1), 1) := by decide +kernel
theorem dX6_hottest_1 : decode cX6_hottest 1 = .ok (.istore_n 1, 1) := by decide +kernel
theorem dX6_hottest_2 : decode cX6_hottest 2 = .ok (.iconst 0, 1) := by decide +kernel
theorem dX6_hottest_3 : decode cX6_hottest 3 = .ok (.istore_n 2, 1) := by decide +kernel
theorem dX6_hottest_4 : decode cX6_hottest 4 = .ok (.iload_n 2, 1) := by decide +kernel
theorem dX6_hottest_5 : decode cX6_hottest 5 = .ok (.aload_n 0, 1) := by decide +kernel
theorem dX6_hottest_6 : decode cX6_hottest 6 = .ok (.getfield 49, 3) := by decide +kernel
theorem dX6_hottest_9 : decode cX6_hottest 9 = .ok (.if_icmp .ge 39, 3) := by decide +kernel
theorem dX6_hottest_12 : decode cX6_hottest 12 = .ok (.aload_n 0, 1) := by decide +kernel
theorem dX6_hottest_13 : decode cX6_hottest 13 = .ok (.getfield 21, 3) := by decide +kernel
theorem dX6_hottest_16 : decode cX6_hottest 16 = .ok (.iload_n 2, 1) := by decide +kernel
theorem dX6_hottest_17 : decode cX6_hottest 17 = .ok (.baload, 1) := by decide +kernel
theorem dX6_hottest_18 : decode cX6_hottest 18 = .ok (.ifCond .ne 24, 3) := by decide +kernel
theorem dX6_hottest_21 : decode cX6_hottest 21 = .ok (.iload_n 1, 1) := by decide +kernel
theorem dX6_hottest_22 : decode cX6_hottest 22 = .ok (.ifCond .lt 18, 3) := by decide +kernel
theorem dX6_hottest_25 : decode cX6_hottest 25 = .ok (.aload_n 0, 1) := by decide +kernel
theorem dX6_hottest_26 : decode cX6_hottest 26 = .ok (.getfield 18, 3) := by decide +kernel
theorem dX6_hottest_29 : decode cX6_hottest 29 = .ok (.iload_n 2, 1) := by decide +kernel
theorem dX6_hottest_30 : decode cX6_hottest 30 = .ok (.iaload, 1) := by decide +kernel
theorem dX6_hottest_31 : decode cX6_hottest 31 = .ok (.aload_n 0, 1) := by decide +kernel
theorem dX6_hottest_32 : decode cX6_hottest 32 = .ok (.getfield 18, 3) := by decide +kernel
theorem dX6_hottest_35 : decode cX6_hottest 35 = .ok (.iload_n 1, 1) := by decide +kernel
theorem dX6_hottest_36 : decode cX6_hottest 36 = .ok (.iaload, 1) := by decide +kernel
theorem dX6_hottest_37 : decode cX6_hottest 37 = .ok (.if_icmp .le 5, 3) := by decide +kernel
theorem dX6_hottest_40 : decode cX6_hottest 40 = .ok (.iload_n 2, 1) := by decide +kernel
theorem dX6_hottest_41 : decode cX6_hottest 41 = .ok (.istore_n 1, 1) := by decide +kernel
theorem dX6_hottest_42 : decode cX6_hottest 42 = .ok (.iinc 2 1, 3) := by decide +kernel
theorem dX6_hottest_45 : decode cX6_hottest 45 = .ok (.goto (-41), 3) := by decide +kernel
theorem dX6_hottest_48 : decode cX6_hottest 48 = .ok (.iload_n 1, 1) := by decide +kernel
theorem dX6_hottest_49 : decode cX6_hottest 49 = .ok (.ireturn, 1) := by decide +kernel
theorem dX6_countBeside_0 : decode cX6_countBeside 0 = .ok (.iconst 0, 1) := by decide +kernel
theorem dX6_countBeside_1 : decode cX6_countBeside 1 = .ok (.istore_n 3, 1) := by decide +kernel
theorem dX6_countBeside_2 : decode cX6_countBeside 2 = .ok (.aload_n 0, 1) := by decide +kernel
theorem dX6_countBeside_3 : decode cX6_countBeside 3 = .ok (.iload_n 1, 1) := by decide +kernel
theorem dX6_countBeside_4 : decode cX6_countBeside 4 = .ok (.iconst 1, 1) := by decide +kernel
theorem dX6_countBeside_5 : decode cX6_countBeside 5 = .ok (.isub, 1) := by decide +kernel
theorem dX6_countBeside_6 : decode cX6_countBeside 6 = .ok (.invokevirtual 68, 3) := by decide +kernel
theorem dX6_countBeside_9 : decode cX6_countBeside 9 = .ok (.ifCond .eq 29, 3) := by decide +kernel
theorem dX6_countBeside_12 : decode cX6_countBeside 12 = .ok (.aload_n 0, 1) := by decide +kernel
theorem dX6_countBeside_13 : decode cX6_countBeside 13 = .ok (.getfield 21, 3) := by decide +kernel
theorem dX6_countBeside_16 : decode cX6_countBeside 16 = .ok (.iload_n 1, 1) := by decide +kernel
theorem dX6_countBeside_17 : decode cX6_countBeside 17 = .ok (.iconst 1, 1) := by decide +kernel
theorem dX6_countBeside_18 : decode cX6_countBeside 18 = .ok (.isub, 1) := by decide +kernel
theorem dX6_countBeside_19 : decode cX6_countBeside 19 = .ok (.baload, 1) := by decide +kernel
theorem dX6_countBeside_20 : decode cX6_countBeside 20 = .ok (.ifCond .ne 18, 3) := by decide +kernel
theorem dX6_countBeside_23 : decode cX6_countBeside 23 = .ok (.aload_n 0, 1) := by decide +kernel
theorem dX6_countBeside_24 : decode cX6_countBeside 24 = .ok (.getfield 18, 3) := by decide +kernel
theorem dX6_countBeside_27 : decode cX6_countBeside 27 = .ok (.iload_n 1, 1) := by decide +kernel
theorem dX6_countBeside_28 : decode cX6_countBeside 28 = .ok (.iconst 1, 1) := by decide +kernel
theorem dX6_countBeside_29 : decode cX6_countBeside 29 = .ok (.isub, 1) := by decide +kernel
theorem dX6_countBeside_30 : decode cX6_countBeside 30 = .ok (.iaload, 1) := by decide +kernel
theorem dX6_countBeside_31 : decode cX6_countBeside 31 = .ok (.iload_n 2, 1) := by decide +kernel
theorem dX6_countBeside_32 : decode cX6_countBeside 32 = .ok (.if_icmp .lt 6, 3) := by decide +kernel
theorem dX6_countBeside_35 : decode cX6_countBeside 35 = .ok (.iinc 3 1, 3) := by decide +kernel
theorem dX6_countBeside_38 : decode cX6_countBeside 38 = .ok (.aload_n 0, 1) := by decide +kernel
theorem dX6_countBeside_39 : decode cX6_countBeside 39 = .ok (.iload_n 1, 1) := by decide +kernel
theorem dX6_countBeside_40 : decode cX6_countBeside 40 = .ok (.iconst 1, 1) := by decide +kernel
theorem dX6_countBeside_41 : decode cX6_countBeside 41 = .ok (.iadd, 1) := by decide +kernel
theorem dX6_countBeside_42 : decode cX6_countBeside 42 = .ok (.invokevirtual 68, 3) := by decide +kernel
theorem dX6_countBeside_45 : decode cX6_countBeside 45 = .ok (.ifCond .eq 29, 3) := by decide +kernel
theorem dX6_countBeside_48 : decode cX6_countBeside 48 = .ok (.aload_n 0, 1) := by decide +kernel
theorem dX6_countBeside_49 : decode cX6_countBeside 49 = .ok (.getfield 21, 3) := by decide +kernel
theorem dX6_countBeside_52 : decode cX6_countBeside 52 = .ok (.iload_n 1, 1) := by decide +kernel
theorem dX6_countBeside_53 : decode cX6_countBeside 53 = .ok (.iconst 1, 1) := by decide +kernel
theorem dX6_countBeside_54 : decode cX6_countBeside 54 = .ok (.iadd, 1) := by decide +kernel
theorem dX6_countBeside_55 : decode cX6_countBeside 55 = .ok (.baload, 1) := by decide +kernel
theorem dX6_countBeside_56 : decode cX6_countBeside 56 = .ok (.ifCond .ne 18, 3) := by decide +kernel
theorem dX6_countBeside_59 : decode cX6_countBeside 59 = .ok (.aload_n 0, 1) := by decide +kernel
theorem dX6_countBeside_60 : decode cX6_countBeside 60 = .ok (.getfield 18, 3) := by decide +kernel
theorem dX6_countBeside_63 : decode cX6_countBeside 63 = .ok (.iload_n 1, 1) := by decide +kernel
theorem dX6_countBeside_64 : decode cX6_countBeside 64 = .ok (.iconst 1, 1) := by decide +kernel
theorem dX6_countBeside_65 : decode cX6_countBeside 65 = .ok (.iadd, 1) := by decide +kernel
theorem dX6_countBeside_66 : decode cX6_countBeside 66 = .ok (.iaload, 1) := by decide +kernel
theorem dX6_countBeside_67 : decode cX6_countBeside 67 = .ok (.iload_n 2, 1) := by decide +kernel
theorem dX6_countBeside_68 : decode cX6_countBeside 68 = .ok (.if_icmp .lt 6, 3) := by decide +kernel
theorem dX6_countBeside_71 : decode cX6_countBeside 71 = .ok (.iinc 3 1, 3) := by decide +kernel
theorem dX6_countBeside_74 : decode cX6_countBeside 74 = .ok (.iload_n 3, 1) := by decide +kernel
theorem dX6_countBeside_75 : decode cX6_countBeside 75 = .ok (.ireturn, 1) := by decide +kernel
theorem dX6_spark_0 : decode cX6_spark 0 = .ok (.aload_n 0, 1) := by decide +kernel
theorem dX6_spark_1 : decode cX6_spark 1 = .ok (.getfield 64, 3) := by decide +kernel
theorem dX6_spark_4 : decode cX6_spark 4 = .ok (.ifnonnull 8, 3) := by decide +kernel
theorem dX6_spark_7 : decode cX6_spark 7 = .ok (.bipush 80, 2) := by decide +kernel
theorem dX6_spark_9 : decode cX6_spark 9 = .ok (.goto 10, 3) := by decide +kernel
theorem dX6_spark_12 : decode cX6_spark 12 = .ok (.aload_n 0, 1) := by decide +kernel
theorem dX6_spark_13 : decode cX6_spark 13 = .ok (.getfield 64, 3) := by decide +kernel
theorem dX6_spark_16 : decode cX6_spark 16 = .ok (.getfield 78, 3) := by decide +kernel
theorem dX6_spark_19 : decode cX6_spark 19 = .ok (.ireturn, 1) := by decide +kernel
theorem dX6_riseOf_0 : decode cX6_riseOf 0 = .ok (.aload_n 0, 1) := by decide +kernel
theorem dX6_riseOf_1 : decode cX6_riseOf 1 = .ok (.iload_n 1, 1) := by decide +kernel
theorem dX6_riseOf_2 : decode cX6_riseOf 2 = .ok (.bipush 50, 2) := by decide +kernel
theorem dX6_riseOf_4 : decode cX6_riseOf 4 = .ok (.invokevirtual 81, 3) := by decide +kernel
theorem dX6_riseOf_7 : decode cX6_riseOf 7 = .ok (.istore_n 2, 1) := by decide +kernel
theorem dX6_riseOf_8 : decode cX6_riseOf 8 = .ok (.aload_n 0, 1) := by decide +kernel
theorem dX6_riseOf_9 : decode cX6_riseOf 9 = .ok (.iload_n 1, 1) := by decide +kernel
theorem dX6_riseOf_10 : decode cX6_riseOf 10 = .ok (.iload_n 2, 1) := by decide +kernel
theorem dX6_riseOf_11 : decode cX6_riseOf 11 = .ok (.invokevirtual 85, 3) := by decide +kernel
theorem dX6_riseOf_14 : decode cX6_riseOf 14 = .ok (.aload_n 0, 1) := by decide +kernel
theorem dX6_riseOf_15 : decode cX6_riseOf 15 = .ok (.getfield 64, 3) := by decide +kernel
theorem dX6_riseOf_18 : decode cX6_riseOf 18 = .ok (.ifnonnull 7, 3) := by decide +kernel
theorem dX6_riseOf_21 : decode cX6_riseOf 21 = .ok (.iconst 0, 1) := by decide +kernel
theorem dX6_riseOf_22 : decode cX6_riseOf 22 = .ok (.goto 14, 3) := by decide +kernel
theorem dX6_riseOf_25 : decode cX6_riseOf 25 = .ok (.aload_n 0, 1) := by decide +kernel
theorem dX6_riseOf_26 : decode cX6_riseOf 26 = .ok (.getfield 64, 3) := by decide +kernel
theorem dX6_riseOf_29 : decode cX6_riseOf 29 = .ok (.aload_n 0, 1) := by decide +kernel
theorem dX6_riseOf_30 : decode cX6_riseOf 30 = .ok (.getfield 46, 3) := by decide +kernel
theorem dX6_riseOf_33 : decode cX6_riseOf 33 = .ok (.invokevirtual 89, 3) := by decide +kernel
theorem dX6_riseOf_36 : decode cX6_riseOf 36 = .ok (.istore_n 3, 1) := by decide +kernel
theorem dX6_riseOf_37 : decode cX6_riseOf 37 = .ok (.aload_n 0, 1) := by decide +kernel
theorem dX6_riseOf_38 : decode cX6_riseOf 38 = .ok (.getfield 61, 3) := by decide +kernel
theorem dX6_riseOf_41 : decode cX6_riseOf 41 = .ok (.iconst 3, 1) := by decide +kernel
theorem dX6_riseOf_42 : decode cX6_riseOf 42 = .ok (.irem, 1) := by decide +kernel
theorem dX6_riseOf_43 : decode cX6_riseOf 43 = .ok (.ifCond .ne 9, 3) := by decide +kernel
theorem dX6_riseOf_46 : decode cX6_riseOf 46 = .ok (.iload_n 3, 1) := by decide +kernel
theorem dX6_riseOf_47 : decode cX6_riseOf 47 = .ok (.iconst 5, 1) := by decide +kernel
theorem dX6_riseOf_48 : decode cX6_riseOf 48 = .ok (.iadd, 1) := by decide +kernel
theorem dX6_riseOf_49 : decode cX6_riseOf 49 = .ok (.goto 4, 3) := by decide +kernel
theorem dX6_riseOf_52 : decode cX6_riseOf 52 = .ok (.iload_n 3, 1) := by decide +kernel
theorem dX6_riseOf_53 : decode cX6_riseOf 53 = .ok (.istore 4, 2) := by decide +kernel
theorem dX6_riseOf_55 : decode cX6_riseOf 55 = .ok (.aload_n 0, 1) := by decide +kernel
theorem dX6_riseOf_56 : decode cX6_riseOf 56 = .ok (.getfield 18, 3) := by decide +kernel
theorem dX6_riseOf_59 : decode cX6_riseOf 59 = .ok (.iload_n 1, 1) := by decide +kernel
theorem dX6_riseOf_60 : decode cX6_riseOf 60 = .ok (.iaload, 1) := by decide +kernel
theorem dX6_riseOf_61 : decode cX6_riseOf 61 = .ok (.bipush 50, 2) := by decide +kernel
theorem dX6_riseOf_63 : decode cX6_riseOf 63 = .ok (.if_icmp .lt 9, 3) := by decide +kernel
theorem dX6_riseOf_66 : decode cX6_riseOf 66 = .ok (.iload_n 3, 1) := by decide +kernel
theorem dX6_riseOf_67 : decode cX6_riseOf 67 = .ok (.iconst 3, 1) := by decide +kernel
theorem dX6_riseOf_68 : decode cX6_riseOf 68 = .ok (.isub, 1) := by decide +kernel
theorem dX6_riseOf_69 : decode cX6_riseOf 69 = .ok (.goto 4, 3) := by decide +kernel
theorem dX6_riseOf_72 : decode cX6_riseOf 72 = .ok (.iload_n 3, 1) := by decide +kernel
theorem dX6_riseOf_73 : decode cX6_riseOf 73 = .ok (.istore 5, 2) := by decide +kernel
theorem dX6_riseOf_75 : decode cX6_riseOf 75 = .ok (.aload_n 0, 1) := by decide +kernel
theorem dX6_riseOf_76 : decode cX6_riseOf 76 = .ok (.getfield 9, 3) := by decide +kernel
theorem dX6_riseOf_79 : decode cX6_riseOf 79 = .ok (.iload_n 1, 1) := by decide +kernel
theorem dX6_riseOf_80 : decode cX6_riseOf 80 = .ok (.iaload, 1) := by decide +kernel
theorem dX6_riseOf_81 : decode cX6_riseOf 81 = .ok (.tableswitch 86 1 6 #[39, 42, 45, 49, 59, 66], 39) := by decide +kernel
theorem dX6_riseOf_120 : decode cX6_riseOf 120 = .ok (.iload 5, 2) := by decide +kernel
theorem dX6_riseOf_122 : decode cX6_riseOf 122 = .ok (.ireturn, 1) := by decide +kernel
theorem dX6_riseOf_123 : decode cX6_riseOf 123 = .ok (.iload 4, 2) := by decide +kernel
theorem dX6_riseOf_125 : decode cX6_riseOf 125 = .ok (.ireturn, 1) := by decide +kernel
theorem dX6_riseOf_126 : decode cX6_riseOf 126 = .ok (.iload_n 3, 1) := by decide +kernel
theorem dX6_riseOf_127 : decode cX6_riseOf 127 = .ok (.iconst 2, 1) := by decide +kernel
theorem dX6_riseOf_128 : decode cX6_riseOf 128 = .ok (.idiv, 1) := by decide +kernel
theorem dX6_riseOf_129 : decode cX6_riseOf 129 = .ok (.ireturn, 1) := by decide +kernel
theorem dX6_riseOf_130 : decode cX6_riseOf 130 = .ok (.iload 5, 2) := by decide +kernel
theorem dX6_riseOf_132 : decode cX6_riseOf 132 = .ok (.aload_n 0, 1) := by decide +kernel
theorem dX6_riseOf_133 : decode cX6_riseOf 133 = .ok (.getfield 15, 3) := by decide +kernel
theorem dX6_riseOf_136 : decode cX6_riseOf 136 = .ok (.iload_n 1, 1) := by decide +kernel
theorem dX6_riseOf_137 : decode cX6_riseOf 137 = .ok (.iaload, 1) := by decide +kernel
theorem dX6_riseOf_138 : decode cX6_riseOf 138 = .ok (.iadd, 1) := by decide +kernel
theorem dX6_riseOf_139 : decode cX6_riseOf 139 = .ok (.ireturn, 1) := by decide +kernel
theorem dX6_riseOf_140 : decode cX6_riseOf 140 = .ok (.iload 4, 2) := by decide +kernel
theorem dX6_riseOf_142 : decode cX6_riseOf 142 = .ok (.iconst 2, 1) := by decide +kernel
theorem dX6_riseOf_143 : decode cX6_riseOf 143 = .ok (.iload_n 2, 1) := by decide +kernel
theorem dX6_riseOf_144 : decode cX6_riseOf 144 = .ok (.imul, 1) := by decide +kernel
theorem dX6_riseOf_145 : decode cX6_riseOf 145 = .ok (.iadd, 1) := by decide +kernel
theorem dX6_riseOf_146 : decode cX6_riseOf 146 = .ok (.ireturn, 1) := by decide +kernel
theorem dX6_riseOf_147 : decode cX6_riseOf 147 = .ok (.iload_n 3, 1) := by decide +kernel
theorem dX6_riseOf_148 : decode cX6_riseOf 148 = .ok (.iconst 2, 1) := by decide +kernel
theorem dX6_riseOf_149 : decode cX6_riseOf 149 = .ok (.idiv, 1) := by decide +kernel
theorem dX6_riseOf_150 : decode cX6_riseOf 150 = .ok (.aload_n 0, 1) := by decide +kernel
theorem dX6_riseOf_151 : decode cX6_riseOf 151 = .ok (.getfield 25, 3) := by decide +kernel
theorem dX6_riseOf_154 : decode cX6_riseOf 154 = .ok (.iload_n 1, 1) := by decide +kernel
theorem dX6_riseOf_155 : decode cX6_riseOf 155 = .ok (.iconst 4, 1) := by decide +kernel
theorem dX6_riseOf_156 : decode cX6_riseOf 156 = .ok (.imul, 1) := by decide +kernel
theorem dX6_riseOf_157 : decode cX6_riseOf 157 = .ok (.aload_n 0, 1) := by decide +kernel
theorem dX6_riseOf_158 : decode cX6_riseOf 158 = .ok (.getfield 61, 3) := by decide +kernel
theorem dX6_riseOf_161 : decode cX6_riseOf 161 = .ok (.iconst 4, 1) := by decide +kernel
theorem dX6_riseOf_162 : decode cX6_riseOf 162 = .ok (.irem, 1) := by decide +kernel
theorem dX6_riseOf_163 : decode cX6_riseOf 163 = .ok (.iadd, 1) := by decide +kernel
theorem dX6_riseOf_164 : decode cX6_riseOf 164 = .ok (.iaload, 1) := by decide +kernel
theorem dX6_riseOf_165 : decode cX6_riseOf 165 = .ok (.iadd, 1) := by decide +kernel
theorem dX6_riseOf_166 : decode cX6_riseOf 166 = .ok (.ireturn, 1) := by decide +kernel
theorem dX6_riseOf_167 : decode cX6_riseOf 167 = .ok (.iload_n 3, 1) := by decide +kernel
theorem dX6_riseOf_168 : decode cX6_riseOf 168 = .ok (.ireturn, 1) := by decide +kernel
theorem dX6_setLetters_0 : decode cX6_setLetters 0 = .ok (.aload_n 0, 1) := by decide +kernel
theorem dX6_setLetters_1 : decode cX6_setLetters 1 = .ok (.getfield 46, 3) := by decide +kernel
theorem dX6_setLetters_4 : decode cX6_setLetters 4 = .ok (.iconst 0, 1) := by decide +kernel
theorem dX6_setLetters_5 : decode cX6_setLetters 5 = .ok (.iload_n 1, 1) := by decide +kernel
theorem dX6_setLetters_6 : decode cX6_setLetters 6 = .ok (.iastore, 1) := by decide +kernel
theorem dX6_setLetters_7 : decode cX6_setLetters 7 = .ok (.aload_n 0, 1) := by decide +kernel
theorem dX6_setLetters_8 : decode cX6_setLetters 8 = .ok (.getfield 46, 3) := by decide +kernel
theorem dX6_setLetters_11 : decode cX6_setLetters 11 = .ok (.iconst 1, 1) := by decide +kernel
theorem dX6_setLetters_12 : decode cX6_setLetters 12 = .ok (.aload_n 0, 1) := by decide +kernel
theorem dX6_setLetters_13 : decode cX6_setLetters 13 = .ok (.getfield 9, 3) := by decide +kernel
theorem dX6_setLetters_16 : decode cX6_setLetters 16 = .ok (.iload_n 1, 1) := by decide +kernel
theorem dX6_setLetters_17 : decode cX6_setLetters 17 = .ok (.iaload, 1) := by decide +kernel
theorem dX6_setLetters_18 : decode cX6_setLetters 18 = .ok (.iastore, 1) := by decide +kernel
theorem dX6_setLetters_19 : decode cX6_setLetters 19 = .ok (.aload_n 0, 1) := by decide +kernel
theorem dX6_setLetters_20 : decode cX6_setLetters 20 = .ok (.getfield 46, 3) := by decide +kernel
theorem dX6_setLetters_23 : decode cX6_setLetters 23 = .ok (.iconst 2, 1) := by decide +kernel
theorem dX6_setLetters_24 : decode cX6_setLetters 24 = .ok (.aload_n 0, 1) := by decide +kernel
theorem dX6_setLetters_25 : decode cX6_setLetters 25 = .ok (.getfield 15, 3) := by decide +kernel
theorem dX6_setLetters_28 : decode cX6_setLetters 28 = .ok (.iload_n 1, 1) := by decide +kernel
theorem dX6_setLetters_29 : decode cX6_setLetters 29 = .ok (.iaload, 1) := by decide +kernel
theorem dX6_setLetters_30 : decode cX6_setLetters 30 = .ok (.iastore, 1) := by decide +kernel
theorem dX6_setLetters_31 : decode cX6_setLetters 31 = .ok (.aload_n 0, 1) := by decide +kernel
theorem dX6_setLetters_32 : decode cX6_setLetters 32 = .ok (.getfield 46, 3) := by decide +kernel
theorem dX6_setLetters_35 : decode cX6_setLetters 35 = .ok (.iconst 3, 1) := by decide +kernel
theorem dX6_setLetters_36 : decode cX6_setLetters 36 = .ok (.aload_n 0, 1) := by decide +kernel
theorem dX6_setLetters_37 : decode cX6_setLetters 37 = .ok (.getfield 18, 3) := by decide +kernel
theorem dX6_setLetters_40 : decode cX6_setLetters 40 = .ok (.iload_n 1, 1) := by decide +kernel
theorem dX6_setLetters_41 : decode cX6_setLetters 41 = .ok (.iaload, 1) := by decide +kernel
theorem dX6_setLetters_42 : decode cX6_setLetters 42 = .ok (.bipush 10, 2) := by decide +kernel
theorem dX6_setLetters_44 : decode cX6_setLetters 44 = .ok (.idiv, 1) := by decide +kernel
theorem dX6_setLetters_45 : decode cX6_setLetters 45 = .ok (.iastore, 1) := by decide +kernel
theorem dX6_setLetters_46 : decode cX6_setLetters 46 = .ok (.aload_n 0, 1) := by decide +kernel
theorem dX6_setLetters_47 : decode cX6_setLetters 47 = .ok (.getfield 46, 3) := by decide +kernel
theorem dX6_setLetters_50 : decode cX6_setLetters 50 = .ok (.iconst 4, 1) := by decide +kernel
theorem dX6_setLetters_51 : decode cX6_setLetters 51 = .ok (.iload_n 2, 1) := by decide +kernel
theorem dX6_setLetters_52 : decode cX6_setLetters 52 = .ok (.iastore, 1) := by decide +kernel
theorem dX6_setLetters_53 : decode cX6_setLetters 53 = .ok (.aload_n 0, 1) := by decide +kernel
theorem dX6_setLetters_54 : decode cX6_setLetters 54 = .ok (.getfield 46, 3) := by decide +kernel
theorem dX6_setLetters_57 : decode cX6_setLetters 57 = .ok (.iconst 5, 1) := by decide +kernel
theorem dX6_setLetters_58 : decode cX6_setLetters 58 = .ok (.aload_n 0, 1) := by decide +kernel
theorem dX6_setLetters_59 : decode cX6_setLetters 59 = .ok (.getfield 61, 3) := by decide +kernel
theorem dX6_setLetters_62 : decode cX6_setLetters 62 = .ok (.bipush 10, 2) := by decide +kernel
theorem dX6_setLetters_64 : decode cX6_setLetters 64 = .ok (.irem, 1) := by decide +kernel
theorem dX6_setLetters_65 : decode cX6_setLetters 65 = .ok (.iastore, 1) := by decide +kernel
theorem dX6_setLetters_66 : decode cX6_setLetters 66 = .ok (.return_, 1) := by decide +kernel
theorem dX6_goOn_0 : decode cX6_goOn 0 = .ok (.iconst 0, 1) := by decide +kernel
theorem dX6_goOn_1 : decode cX6_goOn 1 = .ok (.istore_n 2, 1) := by decide +kernel
theorem dX6_goOn_2 : decode cX6_goOn 2 = .ok (.iload_n 2, 1) := by decide +kernel
theorem dX6_goOn_3 : decode cX6_goOn 3 = .ok (.iload_n 1, 1) := by decide +kernel
theorem dX6_goOn_4 : decode cX6_goOn 4 = .ok (.if_icmp .ge 13, 3) := by decide +kernel
theorem dX6_goOn_7 : decode cX6_goOn 7 = .ok (.aload_n 0, 1) := by decide +kernel
theorem dX6_goOn_8 : decode cX6_goOn 8 = .ok (.invokevirtual 93, 3) := by decide +kernel
theorem dX6_goOn_11 : decode cX6_goOn 11 = .ok (.iinc 2 1, 3) := by decide +kernel
theorem dX6_goOn_14 : decode cX6_goOn 14 = .ok (.goto (-12), 3) := by decide +kernel
theorem dX6_goOn_17 : decode cX6_goOn 17 = .ok (.return_, 1) := by decide +kernel
theorem dX6_goOneMinute_0 : decode cX6_goOneMinute 0 = .ok (.aload_n 0, 1) := by decide +kernel
theorem dX6_goOneMinute_1 : decode cX6_goOneMinute 1 = .ok (.aload_n 0, 1) := by decide +kernel
theorem dX6_goOneMinute_2 : decode cX6_goOneMinute 2 = .ok (.getfield 37, 3) := by decide +kernel
theorem dX6_goOneMinute_5 : decode cX6_goOneMinute 5 = .ok (.invokevirtual 72, 3) := by decide +kernel
theorem dX6_goOneMinute_8 : decode cX6_goOneMinute 8 = .ok (.ifCond .eq 21, 3) := by decide +kernel
theorem dX6_goOneMinute_11 : decode cX6_goOneMinute 11 = .ok (.aload_n 0, 1) := by decide +kernel
theorem dX6_goOneMinute_12 : decode cX6_goOneMinute 12 = .ok (.aload_n 0, 1) := by decide +kernel
theorem dX6_goOneMinute_13 : decode cX6_goOneMinute 13 = .ok (.getfield 37, 3) := by decide +kernel
theorem dX6_goOneMinute_16 : decode cX6_goOneMinute 16 = .ok (.invokevirtual 75, 3) := by decide +kernel
theorem dX6_goOneMinute_19 : decode cX6_goOneMinute 19 = .ok (.ifCond .ne 10, 3) := by decide +kernel
theorem dX6_goOneMinute_22 : decode cX6_goOneMinute 22 = .ok (.aload_n 0, 1) := by decide +kernel
theorem dX6_goOneMinute_23 : decode cX6_goOneMinute 23 = .ok (.invokevirtual 96, 3) := by decide +kernel
theorem dX6_goOneMinute_26 : decode cX6_goOneMinute 26 = .ok (.goto 4, 3) := by decide +kernel
theorem dX6_goOneMinute_29 : decode cX6_goOneMinute 29 = .ok (.iconst (-1), 1) := by decide +kernel
theorem dX6_goOneMinute_30 : decode cX6_goOneMinute 30 = .ok (.istore_n 1, 1) := by decide +kernel
theorem dX6_goOneMinute_31 : decode cX6_goOneMinute 31 = .ok (.aload_n 0, 1) := by decide +kernel
theorem dX6_goOneMinute_32 : decode cX6_goOneMinute 32 = .ok (.invokevirtual 100, 3) := by decide +kernel
theorem dX6_goOneMinute_35 : decode cX6_goOneMinute 35 = .ok (.istore_n 2, 1) := by decide +kernel
theorem dX6_goOneMinute_36 : decode cX6_goOneMinute 36 = .ok (.iconst 0, 1) := by decide +kernel
theorem dX6_goOneMinute_37 : decode cX6_goOneMinute 37 = .ok (.istore_n 3, 1) := by decide +kernel
theorem dX6_goOneMinute_38 : decode cX6_goOneMinute 38 = .ok (.iload_n 3, 1) := by decide +kernel
theorem dX6_goOneMinute_39 : decode cX6_goOneMinute 39 = .ok (.aload_n 0, 1) := by decide +kernel
theorem dX6_goOneMinute_40 : decode cX6_goOneMinute 40 = .ok (.getfield 49, 3) := by decide +kernel
theorem dX6_goOneMinute_43 : decode cX6_goOneMinute 43 = .ok (.if_icmp .ge 76, 3) := by decide +kernel
theorem dX6_goOneMinute_46 : decode cX6_goOneMinute 46 = .ok (.aload_n 0, 1) := by decide +kernel
theorem dX6_goOneMinute_47 : decode cX6_goOneMinute 47 = .ok (.getfield 41, 3) := by decide +kernel
theorem dX6_goOneMinute_50 : decode cX6_goOneMinute 50 = .ok (.iload_n 3, 1) := by decide +kernel
theorem dX6_goOneMinute_51 : decode cX6_goOneMinute 51 = .ok (.aload_n 0, 1) := by decide +kernel
theorem dX6_goOneMinute_52 : decode cX6_goOneMinute 52 = .ok (.getfield 18, 3) := by decide +kernel
theorem dX6_goOneMinute_55 : decode cX6_goOneMinute 55 = .ok (.iload_n 3, 1) := by decide +kernel
theorem dX6_goOneMinute_56 : decode cX6_goOneMinute 56 = .ok (.iaload, 1) := by decide +kernel
theorem dX6_goOneMinute_57 : decode cX6_goOneMinute 57 = .ok (.iastore, 1) := by decide +kernel
theorem dX6_goOneMinute_58 : decode cX6_goOneMinute 58 = .ok (.aload_n 0, 1) := by decide +kernel
theorem dX6_goOneMinute_59 : decode cX6_goOneMinute 59 = .ok (.getfield 21, 3) := by decide +kernel
theorem dX6_goOneMinute_62 : decode cX6_goOneMinute 62 = .ok (.iload_n 3, 1) := by decide +kernel
theorem dX6_goOneMinute_63 : decode cX6_goOneMinute 63 = .ok (.baload, 1) := by decide +kernel
theorem dX6_goOneMinute_64 : decode cX6_goOneMinute 64 = .ok (.ifCond .ne 49, 3) := by decide +kernel
theorem dX6_goOneMinute_67 : decode cX6_goOneMinute 67 = .ok (.iload_n 3, 1) := by decide +kernel
theorem dX6_goOneMinute_68 : decode cX6_goOneMinute 68 = .ok (.iload_n 1, 1) := by decide +kernel
theorem dX6_goOneMinute_69 : decode cX6_goOneMinute 69 = .ok (.if_icmp .eq 44, 3) := by decide +kernel
theorem dX6_goOneMinute_72 : decode cX6_goOneMinute 72 = .ok (.aload_n 0, 1) := by decide +kernel
theorem dX6_goOneMinute_73 : decode cX6_goOneMinute 73 = .ok (.iload_n 3, 1) := by decide +kernel
theorem dX6_goOneMinute_74 : decode cX6_goOneMinute 74 = .ok (.invokevirtual 102, 3) := by decide +kernel
theorem dX6_goOneMinute_77 : decode cX6_goOneMinute 77 = .ok (.bipush 10, 2) := by decide +kernel
theorem dX6_goOneMinute_79 : decode cX6_goOneMinute 79 = .ok (.aload_n 0, 1) := by decide +kernel
theorem dX6_goOneMinute_80 : decode cX6_goOneMinute 80 = .ok (.iload_n 3, 1) := by decide +kernel
theorem dX6_goOneMinute_81 : decode cX6_goOneMinute 81 = .ok (.iload_n 2, 1) := by decide +kernel
theorem dX6_goOneMinute_82 : decode cX6_goOneMinute 82 = .ok (.invokevirtual 81, 3) := by decide +kernel
theorem dX6_goOneMinute_85 : decode cX6_goOneMinute 85 = .ok (.imul, 1) := by decide +kernel
theorem dX6_goOneMinute_86 : decode cX6_goOneMinute 86 = .ok (.iadd, 1) := by decide +kernel
theorem dX6_goOneMinute_87 : decode cX6_goOneMinute 87 = .ok (.istore 4, 2) := by decide +kernel
theorem dX6_goOneMinute_89 : decode cX6_goOneMinute 89 = .ok (.aload_n 0, 1) := by decide +kernel
theorem dX6_goOneMinute_90 : decode cX6_goOneMinute 90 = .ok (.getfield 41, 3) := by decide +kernel
theorem dX6_goOneMinute_93 : decode cX6_goOneMinute 93 = .ok (.iload_n 3, 1) := by decide +kernel
theorem dX6_goOneMinute_94 : decode cX6_goOneMinute 94 = .ok (.iconst 0, 1) := by decide +kernel
theorem dX6_goOneMinute_95 : decode cX6_goOneMinute 95 = .ok (.bipush 99, 2) := by decide +kernel
theorem dX6_goOneMinute_97 : decode cX6_goOneMinute 97 = .ok (.aload_n 0, 1) := by decide +kernel
theorem dX6_goOneMinute_98 : decode cX6_goOneMinute 98 = .ok (.getfield 18, 3) := by decide +kernel
theorem dX6_goOneMinute_101 : decode cX6_goOneMinute 101 = .ok (.iload_n 3, 1) := by decide +kernel
theorem dX6_goOneMinute_102 : decode cX6_goOneMinute 102 = .ok (.iaload, 1) := by decide +kernel
theorem dX6_goOneMinute_103 : decode cX6_goOneMinute 103 = .ok (.iload 4, 2) := by decide +kernel
theorem dX6_goOneMinute_105 : decode cX6_goOneMinute 105 = .ok (.iadd, 1) := by decide +kernel
theorem dX6_goOneMinute_106 : decode cX6_goOneMinute 106 = .ok (.invokestatic 106, 3) := by decide +kernel
theorem dX6_goOneMinute_109 : decode cX6_goOneMinute 109 = .ok (.invokestatic 111, 3) := by decide +kernel
theorem dX6_goOneMinute_112 : decode cX6_goOneMinute 112 = .ok (.iastore, 1) := by decide +kernel
theorem dX6_goOneMinute_113 : decode cX6_goOneMinute 113 = .ok (.iinc 3 1, 3) := by decide +kernel
theorem dX6_goOneMinute_116 : decode cX6_goOneMinute 116 = .ok (.goto (-78), 3) := by decide +kernel
theorem dX6_goOneMinute_119 : decode cX6_goOneMinute 119 = .ok (.iload_n 1, 1) := by decide +kernel
theorem dX6_goOneMinute_120 : decode cX6_goOneMinute 120 = .ok (.ifCond .lt 41, 3) := by decide +kernel
theorem dX6_goOneMinute_123 : decode cX6_goOneMinute 123 = .ok (.aload_n 0, 1) := by decide +kernel
theorem dX6_goOneMinute_124 : decode cX6_goOneMinute 124 = .ok (.getfield 34, 3) := by decide +kernel
theorem dX6_goOneMinute_127 : decode cX6_goOneMinute 127 = .ok (.aload_n 0, 1) := by decide +kernel
theorem dX6_goOneMinute_128 : decode cX6_goOneMinute 128 = .ok (.getfield 37, 3) := by decide +kernel
theorem dX6_goOneMinute_131 : decode cX6_goOneMinute 131 = .ok (.sipush 9999, 3) := by decide +kernel
theorem dX6_goOneMinute_134 : decode cX6_goOneMinute 134 = .ok (.aload_n 0, 1) := by decide +kernel
theorem dX6_goOneMinute_135 : decode cX6_goOneMinute 135 = .ok (.getfield 34, 3) := by decide +kernel
theorem dX6_goOneMinute_138 : decode cX6_goOneMinute 138 = .ok (.aload_n 0, 1) := by decide +kernel
theorem dX6_goOneMinute_139 : decode cX6_goOneMinute 139 = .ok (.getfield 37, 3) := by decide +kernel
theorem dX6_goOneMinute_142 : decode cX6_goOneMinute 142 = .ok (.iaload, 1) := by decide +kernel
theorem dX6_goOneMinute_143 : decode cX6_goOneMinute 143 = .ok (.aload_n 0, 1) := by decide +kernel
theorem dX6_goOneMinute_144 : decode cX6_goOneMinute 144 = .ok (.getfield 18, 3) := by decide +kernel
theorem dX6_goOneMinute_147 : decode cX6_goOneMinute 147 = .ok (.iload_n 1, 1) := by decide +kernel
theorem dX6_goOneMinute_148 : decode cX6_goOneMinute 148 = .ok (.iaload, 1) := by decide +kernel
theorem dX6_goOneMinute_149 : decode cX6_goOneMinute 149 = .ok (.iadd, 1) := by decide +kernel
theorem dX6_goOneMinute_150 : decode cX6_goOneMinute 150 = .ok (.invokestatic 106, 3) := by decide +kernel
theorem dX6_goOneMinute_153 : decode cX6_goOneMinute 153 = .ok (.iastore, 1) := by decide +kernel
theorem dX6_goOneMinute_154 : decode cX6_goOneMinute 154 = .ok (.aload_n 0, 1) := by decide +kernel
theorem dX6_goOneMinute_155 : decode cX6_goOneMinute 155 = .ok (.getfield 41, 3) := by decide +kernel
theorem dX6_goOneMinute_158 : decode cX6_goOneMinute 158 = .ok (.iload_n 1, 1) := by decide +kernel
theorem dX6_goOneMinute_159 : decode cX6_goOneMinute 159 = .ok (.iconst 0, 1) := by decide +kernel
theorem dX6_goOneMinute_160 : decode cX6_goOneMinute 160 = .ok (.iastore, 1) := by decide +kernel
theorem dX6_goOneMinute_161 : decode cX6_goOneMinute 161 = .ok (.aload_n 0, 1) := by decide +kernel
theorem dX6_goOneMinute_162 : decode cX6_goOneMinute 162 = .ok (.getfield 41, 3) := by decide +kernel
theorem dX6_goOneMinute_165 : decode cX6_goOneMinute 165 = .ok (.iconst 0, 1) := by decide +kernel
theorem dX6_goOneMinute_166 : decode cX6_goOneMinute 166 = .ok (.aload_n 0, 1) := by decide +kernel
theorem dX6_goOneMinute_167 : decode cX6_goOneMinute 167 = .ok (.getfield 18, 3) := by decide +kernel
theorem dX6_goOneMinute_170 : decode cX6_goOneMinute 170 = .ok (.iconst 0, 1) := by decide +kernel
theorem dX6_goOneMinute_171 : decode cX6_goOneMinute 171 = .ok (.bipush 6, 2) := by decide +kernel
theorem dX6_goOneMinute_173 : decode cX6_goOneMinute 173 = .ok (.invokestatic 55, 3) := by decide +kernel
theorem dX6_goOneMinute_176 : decode cX6_goOneMinute 176 = .ok (.aload_n 0, 1) := by decide +kernel
theorem dX6_goOneMinute_177 : decode cX6_goOneMinute 177 = .ok (.dup, 1) := by decide +kernel
theorem dX6_goOneMinute_178 : decode cX6_goOneMinute 178 = .ok (.getfield 61, 3) := by decide +kernel
theorem dX6_goOneMinute_181 : decode cX6_goOneMinute 181 = .ok (.iconst 1, 1) := by decide +kernel
theorem dX6_goOneMinute_182 : decode cX6_goOneMinute 182 = .ok (.iadd, 1) := by decide +kernel
theorem dX6_goOneMinute_183 : decode cX6_goOneMinute 183 = .ok (.putfield 61, 3) := by decide +kernel
theorem dX6_goOneMinute_186 : decode cX6_goOneMinute 186 = .ok (.return_, 1) := by decide +kernel
theorem dX7_init_0 : decode cX7_init 0 = .ok (.aload_n 0, 1) := by decide +kernel
theorem dX7_init_1 : decode cX7_init 1 = .ok (.invokespecial 3, 3) := by decide +kernel
theorem dX7_init_4 : decode cX7_init 4 = .ok (.aload_n 0, 1) := by decide +kernel
theorem dX7_init_5 : decode cX7_init 5 = .ok (.new 9, 3) := by decide +kernel
theorem dX7_init_8 : decode cX7_init 8 = .ok (.dup, 1) := by decide +kernel
theorem dX7_init_9 : decode cX7_init 9 = .ok (.invokespecial 11, 3) := by decide +kernel
theorem dX7_init_12 : decode cX7_init 12 = .ok (.putfield 12, 3) := by decide +kernel
theorem dX7_init_15 : decode cX7_init 15 = .ok (.aload_n 0, 1) := by decide +kernel
theorem dX7_init_16 : decode cX7_init 16 = .ok (.new 18, 3) := by decide +kernel
theorem dX7_init_19 : decode cX7_init 19 = .ok (.dup, 1) := by decide +kernel
theorem dX7_init_20 : decode cX7_init 20 = .ok (.iconst 5, 1) := by decide +kernel
theorem dX7_init_21 : decode cX7_init 21 = .ok (.invokespecial 20, 3) := by decide +kernel
theorem dX7_init_24 : decode cX7_init 24 = .ok (.putfield 23, 3) := by decide +kernel
theorem dX7_init_27 : decode cX7_init 27 = .ok (.aload_n 0, 1) := by decide +kernel
theorem dX7_init_28 : decode cX7_init 28 = .ok (.new 18, 3) := by decide +kernel
theorem dX7_init_31 : decode cX7_init 31 = .ok (.dup, 1) := by decide +kernel
theorem dX7_init_32 : decode cX7_init 32 = .ok (.bipush 10, 2) := by decide +kernel
theorem dX7_init_34 : decode cX7_init 34 = .ok (.invokespecial 20, 3) := by decide +kernel
theorem dX7_init_37 : decode cX7_init 37 = .ok (.putfield 27, 3) := by decide +kernel
theorem dX7_init_40 : decode cX7_init 40 = .ok (.aload_n 0, 1) := by decide +kernel
theorem dX7_init_41 : decode cX7_init 41 = .ok (.new 18, 3) := by decide +kernel
theorem dX7_init_44 : decode cX7_init 44 = .ok (.dup, 1) := by decide +kernel
theorem dX7_init_45 : decode cX7_init 45 = .ok (.bipush 8, 2) := by decide +kernel
theorem dX7_init_47 : decode cX7_init 47 = .ok (.invokespecial 20, 3) := by decide +kernel
theorem dX7_init_50 : decode cX7_init 50 = .ok (.putfield 30, 3) := by decide +kernel
theorem dX7_init_53 : decode cX7_init 53 = .ok (.return_, 1) := by decide +kernel
theorem dX7_become_0 : decode cX7_become 0 = .ok (.aload_n 0, 1) := by decide +kernel
theorem dX7_become_1 : decode cX7_become 1 = .ok (.getfield 12, 3) := by decide +kernel
theorem dX7_become_4 : decode cX7_become 4 = .ok (.aload_n 1, 1) := by decide +kernel
theorem dX7_become_5 : decode cX7_become 5 = .ok (.getfield 12, 3) := by decide +kernel
theorem dX7_become_8 : decode cX7_become 8 = .ok (.invokevirtual 33, 3) := by decide +kernel
theorem dX7_become_11 : decode cX7_become 11 = .ok (.aload_n 0, 1) := by decide +kernel
theorem dX7_become_12 : decode cX7_become 12 = .ok (.getfield 23, 3) := by decide +kernel
theorem dX7_become_15 : decode cX7_become 15 = .ok (.aload_n 1, 1) := by decide +kernel
theorem dX7_become_16 : decode cX7_become 16 = .ok (.getfield 23, 3) := by decide +kernel
theorem dX7_become_19 : decode cX7_become 19 = .ok (.invokevirtual 37, 3) := by decide +kernel
theorem dX7_become_22 : decode cX7_become 22 = .ok (.aload_n 0, 1) := by decide +kernel
theorem dX7_become_23 : decode cX7_become 23 = .ok (.getfield 27, 3) := by decide +kernel
theorem dX7_become_26 : decode cX7_become 26 = .ok (.aload_n 1, 1) := by decide +kernel
theorem dX7_become_27 : decode cX7_become 27 = .ok (.getfield 27, 3) := by decide +kernel
theorem dX7_become_30 : decode cX7_become 30 = .ok (.invokevirtual 37, 3) := by decide +kernel
theorem dX7_become_33 : decode cX7_become 33 = .ok (.aload_n 0, 1) := by decide +kernel
theorem dX7_become_34 : decode cX7_become 34 = .ok (.getfield 30, 3) := by decide +kernel
theorem dX7_become_37 : decode cX7_become 37 = .ok (.aload_n 1, 1) := by decide +kernel
theorem dX7_become_38 : decode cX7_become 38 = .ok (.getfield 30, 3) := by decide +kernel
theorem dX7_become_41 : decode cX7_become 41 = .ok (.invokevirtual 37, 3) := by decide +kernel
theorem dX7_become_44 : decode cX7_become 44 = .ok (.return_, 1) := by decide +kernel
