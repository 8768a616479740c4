theorem dX0_init_0 : decode cX0_init 0 = .ok (.aload_n 0, 1) := by decide +kernel
theorem dX0_init_1 : decode cX0_init 1 = .ok (.invokespecial 3, 3) := by decide +kernel
theorem dX0_init_4 : decode cX0_init 4 = .ok (.aload_n 0, 1) := by decide +kernel
theorem dX0_init_5 : decode cX0_init 5 = .ok (.bipush 20, 2) := by decide +kernel
theorem dX0_init_7 : decode cX0_init 7 = .ok (.newarray .int, 2) := by decide +kernel
theorem dX0_init_9 : decode cX0_init 9 = .ok (.putfield 9, 3) := by decide +kernel
theorem dX0_init_12 : decode cX0_init 12 = .ok (.return_, 1) := by decide +kernel
theorem dX0_clear_0 : decode cX0_clear 0 = .ok (.aload_n 0, 1) := by decide +kernel
theorem dX0_clear_1 : decode cX0_clear 1 = .ok (.iconst 0, 1) := by decide +kernel
theorem dX0_clear_2 : decode cX0_clear 2 = .ok (.putfield 15, 3) := by decide +kernel
theorem dX0_clear_5 : decode cX0_clear 5 = .ok (.return_, 1) := by decide +kernel
theorem dX0_start_0 : decode cX0_start 0 = .ok (.aload_n 0, 1) := by decide +kernel
theorem dX0_start_1 : decode cX0_start 1 = .ok (.iload_n 2, 1) := by decide +kernel
theorem dX0_start_2 : decode cX0_start 2 = .ok (.putfield 19, 3) := by decide +kernel
theorem dX0_start_5 : decode cX0_start 5 = .ok (.aload_n 0, 1) := by decide +kernel
theorem dX0_start_6 : decode cX0_start 6 = .ok (.aload_n 1, 1) := by decide +kernel
theorem dX0_start_7 : decode cX0_start 7 = .ok (.getfield 22, 3) := by decide +kernel
theorem dX0_start_10 : decode cX0_start 10 = .ok (.iload_n 2, 1) := by decide +kernel
theorem dX0_start_11 : decode cX0_start 11 = .ok (.invokestatic 27, 3) := by decide +kernel
theorem dX0_start_14 : decode cX0_start 14 = .ok (.putfield 31, 3) := by decide +kernel
theorem dX0_start_17 : decode cX0_start 17 = .ok (.aload_n 0, 1) := by decide +kernel
theorem dX0_start_18 : decode cX0_start 18 = .ok (.aload_n 1, 1) := by decide +kernel
theorem dX0_start_19 : decode cX0_start 19 = .ok (.getfield 34, 3) := by decide +kernel
theorem dX0_start_22 : decode cX0_start 22 = .ok (.iload_n 2, 1) := by decide +kernel
theorem dX0_start_23 : decode cX0_start 23 = .ok (.invokestatic 27, 3) := by decide +kernel
theorem dX0_start_26 : decode cX0_start 26 = .ok (.putfield 37, 3) := by decide +kernel
theorem dX0_start_29 : decode cX0_start 29 = .ok (.aload_n 0, 1) := by decide +kernel
theorem dX0_start_30 : decode cX0_start 30 = .ok (.iload_n 3, 1) := by decide +kernel
theorem dX0_start_31 : decode cX0_start 31 = .ok (.aload_n 0, 1) := by decide +kernel
theorem dX0_start_32 : decode cX0_start 32 = .ok (.getfield 37, 3) := by decide +kernel
theorem dX0_start_35 : decode cX0_start 35 = .ok (.iload 4, 2) := by decide +kernel
theorem dX0_start_37 : decode cX0_start 37 = .ok (.iconst 0, 1) := by decide +kernel
theorem dX0_start_38 : decode cX0_start 38 = .ok (.invokevirtual 40, 3) := by decide +kernel
theorem dX0_start_41 : decode cX0_start 41 = .ok (.ireturn, 1) := by decide +kernel
theorem dX0_run_0 : decode cX0_run 0 = .ok (.iload_n 1, 1) := by decide +kernel
theorem dX0_run_1 : decode cX0_run 1 = .ok (.iload_n 2, 1) := by decide +kernel
theorem dX0_run_2 : decode cX0_run 2 = .ok (.invokestatic 44, 3) := by decide +kernel
theorem dX0_run_5 : decode cX0_run 5 = .ok (.istore 5, 2) := by decide +kernel
theorem dX0_run_7 : decode cX0_run 7 = .ok (.getstatic 48, 3) := by decide +kernel
theorem dX0_run_10 : decode cX0_run 10 = .ok (.iload 5, 2) := by decide +kernel
theorem dX0_run_12 : decode cX0_run 12 = .ok (.invokestatic 27, 3) := by decide +kernel
theorem dX0_run_15 : decode cX0_run 15 = .ok (.istore 6, 2) := by decide +kernel
theorem dX0_run_17 : decode cX0_run 17 = .ok (.getstatic 51, 3) := by decide +kernel
theorem dX0_run_20 : decode cX0_run 20 = .ok (.iload_n 1, 1) := by decide +kernel
theorem dX0_run_21 : decode cX0_run 21 = .ok (.getstatic 48, 3) := by decide +kernel
theorem dX0_run_24 : decode cX0_run 24 = .ok (.arraylength, 1) := by decide +kernel
theorem dX0_run_25 : decode cX0_run 25 = .ok (.imul, 1) := by decide +kernel
theorem dX0_run_26 : decode cX0_run 26 = .ok (.iload 5, 2) := by decide +kernel
theorem dX0_run_28 : decode cX0_run 28 = .ok (.iadd, 1) := by decide +kernel
theorem dX0_run_29 : decode cX0_run 29 = .ok (.invokestatic 27, 3) := by decide +kernel
theorem dX0_run_32 : decode cX0_run 32 = .ok (.istore 7, 2) := by decide +kernel
theorem dX0_run_34 : decode cX0_run 34 = .ok (.iload 4, 2) := by decide +kernel
theorem dX0_run_36 : decode cX0_run 36 = .ok (.iconst 1, 1) := by decide +kernel
theorem dX0_run_37 : decode cX0_run 37 = .ok (.iadd, 1) := by decide +kernel
theorem dX0_run_38 : decode cX0_run 38 = .ok (.istore 8, 2) := by decide +kernel
theorem dX0_run_40 : decode cX0_run 40 = .ok (.iload 8, 2) := by decide +kernel
theorem dX0_run_42 : decode cX0_run 42 = .ok (.bipush 40, 2) := by decide +kernel
theorem dX0_run_44 : decode cX0_run 44 = .ok (.if_icmp .le 5, 3) := by decide +kernel
theorem dX0_run_47 : decode cX0_run 47 = .ok (.iconst 0, 1) := by decide +kernel
theorem dX0_run_48 : decode cX0_run 48 = .ok (.ireturn, 1) := by decide +kernel
theorem dX0_run_49 : decode cX0_run 49 = .ok (.aload_n 0, 1) := by decide +kernel
theorem dX0_run_50 : decode cX0_run 50 = .ok (.getfield 9, 3) := by decide +kernel
theorem dX0_run_53 : decode cX0_run 53 = .ok (.aload_n 0, 1) := by decide +kernel
theorem dX0_run_54 : decode cX0_run 54 = .ok (.getfield 15, 3) := by decide +kernel
theorem dX0_run_57 : decode cX0_run 57 = .ok (.iload 7, 2) := by decide +kernel
theorem dX0_run_59 : decode cX0_run 59 = .ok (.invokestatic 54, 3) := by decide +kernel
theorem dX0_run_62 : decode cX0_run 62 = .ok (.aload_n 0, 1) := by decide +kernel
theorem dX0_run_63 : decode cX0_run 63 = .ok (.dup, 1) := by decide +kernel
theorem dX0_run_64 : decode cX0_run 64 = .ok (.getfield 15, 3) := by decide +kernel
theorem dX0_run_67 : decode cX0_run 67 = .ok (.iconst 1, 1) := by decide +kernel
theorem dX0_run_68 : decode cX0_run 68 = .ok (.iadd, 1) := by decide +kernel
theorem dX0_run_69 : decode cX0_run 69 = .ok (.putfield 15, 3) := by decide +kernel
theorem dX0_run_72 : decode cX0_run 72 = .ok (.iload 7, 2) := by decide +kernel
theorem dX0_run_74 : decode cX0_run 74 = .ok (.lookupswitch 268 #[(10, 98), (11, 105), (12, 123), (20, 138), (30, 152), (40, 165), (50, 189), (51, 201), (60, 214), (70, 230), (71, 252)], 98) := by decide +kernel
theorem dX0_run_172 : decode cX0_run 172 = .ok (.iload_n 3, 1) := by decide +kernel
theorem dX0_run_173 : decode cX0_run 173 = .ok (.aload_n 0, 1) := by decide +kernel
theorem dX0_run_174 : decode cX0_run 174 = .ok (.getfield 19, 3) := by decide +kernel
theorem dX0_run_177 : decode cX0_run 177 = .ok (.iadd, 1) := by decide +kernel
theorem dX0_run_178 : decode cX0_run 178 = .ok (.ireturn, 1) := by decide +kernel
theorem dX0_run_179 : decode cX0_run 179 = .ok (.aload_n 0, 1) := by decide +kernel
theorem dX0_run_180 : decode cX0_run 180 = .ok (.iconst 0, 1) := by decide +kernel
theorem dX0_run_181 : decode cX0_run 181 = .ok (.aload_n 0, 1) := by decide +kernel
theorem dX0_run_182 : decode cX0_run 182 = .ok (.getfield 37, 3) := by decide +kernel
theorem dX0_run_185 : decode cX0_run 185 = .ok (.iload_n 3, 1) := by decide +kernel
theorem dX0_run_186 : decode cX0_run 186 = .ok (.iload 8, 2) := by decide +kernel
theorem dX0_run_188 : decode cX0_run 188 = .ok (.invokevirtual 40, 3) := by decide +kernel
theorem dX0_run_191 : decode cX0_run 191 = .ok (.aload_n 0, 1) := by decide +kernel
theorem dX0_run_192 : decode cX0_run 192 = .ok (.getfield 31, 3) := by decide +kernel
theorem dX0_run_195 : decode cX0_run 195 = .ok (.isub, 1) := by decide +kernel
theorem dX0_run_196 : decode cX0_run 196 = .ok (.ireturn, 1) := by decide +kernel
theorem dX0_run_197 : decode cX0_run 197 = .ok (.aload_n 0, 1) := by decide +kernel
theorem dX0_run_198 : decode cX0_run 198 = .ok (.iconst 1, 1) := by decide +kernel
theorem dX0_run_199 : decode cX0_run 199 = .ok (.aload_n 0, 1) := by decide +kernel
theorem dX0_run_200 : decode cX0_run 200 = .ok (.getfield 37, 3) := by decide +kernel
theorem dX0_run_203 : decode cX0_run 203 = .ok (.iload_n 3, 1) := by decide +kernel
theorem dX0_run_204 : decode cX0_run 204 = .ok (.iload 8, 2) := by decide +kernel
theorem dX0_run_206 : decode cX0_run 206 = .ok (.invokevirtual 40, 3) := by decide +kernel
theorem dX0_run_209 : decode cX0_run 209 = .ok (.iconst 2, 1) := by decide +kernel
theorem dX0_run_210 : decode cX0_run 210 = .ok (.imul, 1) := by decide +kernel
theorem dX0_run_211 : decode cX0_run 211 = .ok (.ireturn, 1) := by decide +kernel
theorem dX0_run_212 : decode cX0_run 212 = .ok (.aload_n 0, 1) := by decide +kernel
theorem dX0_run_213 : decode cX0_run 213 = .ok (.iconst 1, 1) := by decide +kernel
theorem dX0_run_214 : decode cX0_run 214 = .ok (.iload 6, 2) := by decide +kernel
theorem dX0_run_216 : decode cX0_run 216 = .ok (.iload_n 3, 1) := by decide +kernel
theorem dX0_run_217 : decode cX0_run 217 = .ok (.iload 8, 2) := by decide +kernel
theorem dX0_run_219 : decode cX0_run 219 = .ok (.invokevirtual 40, 3) := by decide +kernel
theorem dX0_run_222 : decode cX0_run 222 = .ok (.bipush 6, 2) := by decide +kernel
theorem dX0_run_224 : decode cX0_run 224 = .ok (.ixor, 1) := by decide +kernel
theorem dX0_run_225 : decode cX0_run 225 = .ok (.ireturn, 1) := by decide +kernel
theorem dX0_run_226 : decode cX0_run 226 = .ok (.aload_n 0, 1) := by decide +kernel
theorem dX0_run_227 : decode cX0_run 227 = .ok (.iconst 0, 1) := by decide +kernel
theorem dX0_run_228 : decode cX0_run 228 = .ok (.iload 6, 2) := by decide +kernel
theorem dX0_run_230 : decode cX0_run 230 = .ok (.iload_n 3, 1) := by decide +kernel
theorem dX0_run_231 : decode cX0_run 231 = .ok (.iconst 3, 1) := by decide +kernel
theorem dX0_run_232 : decode cX0_run 232 = .ok (.imul, 1) := by decide +kernel
theorem dX0_run_233 : decode cX0_run 233 = .ok (.iload 8, 2) := by decide +kernel
theorem dX0_run_235 : decode cX0_run 235 = .ok (.invokevirtual 40, 3) := by decide +kernel
theorem dX0_run_238 : decode cX0_run 238 = .ok (.ireturn, 1) := by decide +kernel
theorem dX0_run_239 : decode cX0_run 239 = .ok (.aload_n 0, 1) := by decide +kernel
theorem dX0_run_240 : decode cX0_run 240 = .ok (.iconst 2, 1) := by decide +kernel
theorem dX0_run_241 : decode cX0_run 241 = .ok (.iload 6, 2) := by decide +kernel
theorem dX0_run_243 : decode cX0_run 243 = .ok (.iload_n 3, 1) := by decide +kernel
theorem dX0_run_244 : decode cX0_run 244 = .ok (.iload 8, 2) := by decide +kernel
theorem dX0_run_246 : decode cX0_run 246 = .ok (.invokevirtual 40, 3) := by decide +kernel
theorem dX0_run_249 : decode cX0_run 249 = .ok (.aload_n 0, 1) := by decide +kernel
theorem dX0_run_250 : decode cX0_run 250 = .ok (.iconst 1, 1) := by decide +kernel
theorem dX0_run_251 : decode cX0_run 251 = .ok (.aload_n 0, 1) := by decide +kernel
theorem dX0_run_252 : decode cX0_run 252 = .ok (.getfield 37, 3) := by decide +kernel
theorem dX0_run_255 : decode cX0_run 255 = .ok (.iconst 1, 1) := by decide +kernel
theorem dX0_run_256 : decode cX0_run 256 = .ok (.iload 8, 2) := by decide +kernel
theorem dX0_run_258 : decode cX0_run 258 = .ok (.invokevirtual 40, 3) := by decide +kernel
theorem dX0_run_261 : decode cX0_run 261 = .ok (.iadd, 1) := by decide +kernel
theorem dX0_run_262 : decode cX0_run 262 = .ok (.ireturn, 1) := by decide +kernel
theorem dX0_run_263 : decode cX0_run 263 = .ok (.aload_n 0, 1) := by decide +kernel
theorem dX0_run_264 : decode cX0_run 264 = .ok (.iconst 0, 1) := by decide +kernel
theorem dX0_run_265 : decode cX0_run 265 = .ok (.iload 6, 2) := by decide +kernel
theorem dX0_run_267 : decode cX0_run 267 = .ok (.iload_n 3, 1) := by decide +kernel
theorem dX0_run_268 : decode cX0_run 268 = .ok (.iload 8, 2) := by decide +kernel
theorem dX0_run_270 : decode cX0_run 270 = .ok (.invokevirtual 40, 3) := by decide +kernel
theorem dX0_run_273 : decode cX0_run 273 = .ok (.ineg, 1) := by decide +kernel
theorem dX0_run_274 : decode cX0_run 274 = .ok (.ireturn, 1) := by decide +kernel
theorem dX0_run_275 : decode cX0_run 275 = .ok (.aload_n 0, 1) := by decide +kernel
theorem dX0_run_276 : decode cX0_run 276 = .ok (.iconst 1, 1) := by decide +kernel
theorem dX0_run_277 : decode cX0_run 277 = .ok (.iload 6, 2) := by decide +kernel
theorem dX0_run_279 : decode cX0_run 279 = .ok (.iload_n 3, 1) := by decide +kernel
theorem dX0_run_280 : decode cX0_run 280 = .ok (.iconst 1, 1) := by decide +kernel
theorem dX0_run_281 : decode cX0_run 281 = .ok (.iadd, 1) := by decide +kernel
theorem dX0_run_282 : decode cX0_run 282 = .ok (.iload 8, 2) := by decide +kernel
theorem dX0_run_284 : decode cX0_run 284 = .ok (.invokevirtual 40, 3) := by decide +kernel
theorem dX0_run_287 : decode cX0_run 287 = .ok (.ireturn, 1) := by decide +kernel
theorem dX0_run_288 : decode cX0_run 288 = .ok (.aload_n 0, 1) := by decide +kernel
theorem dX0_run_289 : decode cX0_run 289 = .ok (.iconst 2, 1) := by decide +kernel
theorem dX0_run_290 : decode cX0_run 290 = .ok (.iload 6, 2) := by decide +kernel
theorem dX0_run_292 : decode cX0_run 292 = .ok (.iload_n 3, 1) := by decide +kernel
theorem dX0_run_293 : decode cX0_run 293 = .ok (.aload_n 0, 1) := by decide +kernel
theorem dX0_run_294 : decode cX0_run 294 = .ok (.getfield 19, 3) := by decide +kernel
theorem dX0_run_297 : decode cX0_run 297 = .ok (.isub, 1) := by decide +kernel
theorem dX0_run_298 : decode cX0_run 298 = .ok (.iload 8, 2) := by decide +kernel
theorem dX0_run_300 : decode cX0_run 300 = .ok (.invokevirtual 40, 3) := by decide +kernel
theorem dX0_run_303 : decode cX0_run 303 = .ok (.ireturn, 1) := by decide +kernel
theorem dX0_run_304 : decode cX0_run 304 = .ok (.aload_n 0, 1) := by decide +kernel
theorem dX0_run_305 : decode cX0_run 305 = .ok (.iconst 1, 1) := by decide +kernel
theorem dX0_run_306 : decode cX0_run 306 = .ok (.iload 6, 2) := by decide +kernel
theorem dX0_run_308 : decode cX0_run 308 = .ok (.iload_n 3, 1) := by decide +kernel
theorem dX0_run_309 : decode cX0_run 309 = .ok (.iload 8, 2) := by decide +kernel
theorem dX0_run_311 : decode cX0_run 311 = .ok (.invokevirtual 40, 3) := by decide +kernel
theorem dX0_run_314 : decode cX0_run 314 = .ok (.aload_n 0, 1) := by decide +kernel
theorem dX0_run_315 : decode cX0_run 315 = .ok (.iconst 0, 1) := by decide +kernel
theorem dX0_run_316 : decode cX0_run 316 = .ok (.iload 6, 2) := by decide +kernel
theorem dX0_run_318 : decode cX0_run 318 = .ok (.iconst 2, 1) := by decide +kernel
theorem dX0_run_319 : decode cX0_run 319 = .ok (.iload 8, 2) := by decide +kernel
theorem dX0_run_321 : decode cX0_run 321 = .ok (.invokevirtual 40, 3) := by decide +kernel
theorem dX0_run_324 : decode cX0_run 324 = .ok (.iadd, 1) := by decide +kernel
theorem dX0_run_325 : decode cX0_run 325 = .ok (.ireturn, 1) := by decide +kernel
theorem dX0_run_326 : decode cX0_run 326 = .ok (.aload_n 0, 1) := by decide +kernel
theorem dX0_run_327 : decode cX0_run 327 = .ok (.iconst 0, 1) := by decide +kernel
theorem dX0_run_328 : decode cX0_run 328 = .ok (.iload 6, 2) := by decide +kernel
theorem dX0_run_330 : decode cX0_run 330 = .ok (.iload_n 3, 1) := by decide +kernel
theorem dX0_run_331 : decode cX0_run 331 = .ok (.iload 8, 2) := by decide +kernel
theorem dX0_run_333 : decode cX0_run 333 = .ok (.invokevirtual 40, 3) := by decide +kernel
theorem dX0_run_336 : decode cX0_run 336 = .ok (.aload_n 0, 1) := by decide +kernel
theorem dX0_run_337 : decode cX0_run 337 = .ok (.getfield 31, 3) := by decide +kernel
theorem dX0_run_340 : decode cX0_run 340 = .ok (.ixor, 1) := by decide +kernel
theorem dX0_run_341 : decode cX0_run 341 = .ok (.ireturn, 1) := by decide +kernel
theorem dX0_run_342 : decode cX0_run 342 = .ok (.iconst 0, 1) := by decide +kernel
theorem dX0_run_343 : decode cX0_run 343 = .ok (.ireturn, 1) := by decide +kernel
theorem dX0_ownerOf_0 : decode cX0_ownerOf 0 = .ok (.iload_n 1, 1) := by decide +kernel
theorem dX0_ownerOf_1 : decode cX0_ownerOf 1 = .ok (.istore_n 2, 1) := by decide +kernel
theorem dX0_ownerOf_2 : decode cX0_ownerOf 2 = .ok (.iconst 0, 1) := by decide +kernel
theorem dX0_ownerOf_3 : decode cX0_ownerOf 3 = .ok (.istore_n 3, 1) := by decide +kernel
theorem dX0_ownerOf_4 : decode cX0_ownerOf 4 = .ok (.iload_n 3, 1) := by decide +kernel
theorem dX0_ownerOf_5 : decode cX0_ownerOf 5 = .ok (.getstatic 48, 3) := by decide +kernel
theorem dX0_ownerOf_8 : decode cX0_ownerOf 8 = .ok (.arraylength, 1) := by decide +kernel
theorem dX0_ownerOf_9 : decode cX0_ownerOf 9 = .ok (.if_icmp .ge 40, 3) := by decide +kernel
theorem dX0_ownerOf_12 : decode cX0_ownerOf 12 = .ok (.iload_n 2, 1) := by decide +kernel
theorem dX0_ownerOf_13 : decode cX0_ownerOf 13 = .ok (.ifCond .le 36, 3) := by decide +kernel
theorem dX0_ownerOf_16 : decode cX0_ownerOf 16 = .ok (.getstatic 51, 3) := by decide +kernel
theorem dX0_ownerOf_19 : decode cX0_ownerOf 19 = .ok (.iload_n 0, 1) := by decide +kernel
theorem dX0_ownerOf_20 : decode cX0_ownerOf 20 = .ok (.getstatic 48, 3) := by decide +kernel
theorem dX0_ownerOf_23 : decode cX0_ownerOf 23 = .ok (.arraylength, 1) := by decide +kernel
theorem dX0_ownerOf_24 : decode cX0_ownerOf 24 = .ok (.imul, 1) := by decide +kernel
theorem dX0_ownerOf_25 : decode cX0_ownerOf 25 = .ok (.iload_n 2, 1) := by decide +kernel
theorem dX0_ownerOf_26 : decode cX0_ownerOf 26 = .ok (.iadd, 1) := by decide +kernel
theorem dX0_ownerOf_27 : decode cX0_ownerOf 27 = .ok (.invokestatic 27, 3) := by decide +kernel
theorem dX0_ownerOf_30 : decode cX0_ownerOf 30 = .ok (.ifCond .eq 5, 3) := by decide +kernel
theorem dX0_ownerOf_33 : decode cX0_ownerOf 33 = .ok (.iload_n 2, 1) := by decide +kernel
theorem dX0_ownerOf_34 : decode cX0_ownerOf 34 = .ok (.ireturn, 1) := by decide +kernel
theorem dX0_ownerOf_35 : decode cX0_ownerOf 35 = .ok (.getstatic 48, 3) := by decide +kernel
theorem dX0_ownerOf_38 : decode cX0_ownerOf 38 = .ok (.iload_n 2, 1) := by decide +kernel
theorem dX0_ownerOf_39 : decode cX0_ownerOf 39 = .ok (.invokestatic 27, 3) := by decide +kernel
theorem dX0_ownerOf_42 : decode cX0_ownerOf 42 = .ok (.istore_n 2, 1) := by decide +kernel
theorem dX0_ownerOf_43 : decode cX0_ownerOf 43 = .ok (.iinc 3 1, 3) := by decide +kernel
theorem dX0_ownerOf_46 : decode cX0_ownerOf 46 = .ok (.goto (-42), 3) := by decide +kernel
theorem dX0_ownerOf_49 : decode cX0_ownerOf 49 = .ok (.iconst 0, 1) := by decide +kernel
theorem dX0_ownerOf_50 : decode cX0_ownerOf 50 = .ok (.ireturn, 1) := by decide +kernel
theorem dX1_init_0 : decode cX1_init 0 = .ok (.aload_n 0, 1) := by decide +kernel
theorem dX1_init_1 : decode cX1_init 1 = .ok (.invokespecial 3, 3) := by decide +kernel
theorem dX1_init_4 : decode cX1_init 4 = .ok (.aload_n 0, 1) := by decide +kernel
theorem dX1_init_5 : decode cX1_init 5 = .ok (.bipush 8, 2) := by decide +kernel
theorem dX1_init_7 : decode cX1_init 7 = .ok (.newarray .int, 2) := by decide +kernel
theorem dX1_init_9 : decode cX1_init 9 = .ok (.putfield 9, 3) := by decide +kernel
theorem dX1_init_12 : decode cX1_init 12 = .ok (.aload_n 0, 1) := by decide +kernel
theorem dX1_init_13 : decode cX1_init 13 = .ok (.bipush 8, 2) := by decide +kernel
theorem dX1_init_15 : decode cX1_init 15 = .ok (.newarray .int, 2) := by decide +kernel
theorem dX1_init_17 : decode cX1_init 17 = .ok (.putfield 15, 3) := by decide +kernel
theorem dX1_init_20 : decode cX1_init 20 = .ok (.aload_n 0, 1) := by decide +kernel
theorem dX1_init_21 : decode cX1_init 21 = .ok (.iload_n 1, 1) := by decide +kernel
theorem dX1_init_22 : decode cX1_init 22 = .ok (.bipush 8, 2) := by decide +kernel
theorem dX1_init_24 : decode cX1_init 24 = .ok (.invokestatic 18, 3) := by decide +kernel
theorem dX1_init_27 : decode cX1_init 27 = .ok (.putfield 24, 3) := by decide +kernel
theorem dX1_init_30 : decode cX1_init 30 = .ok (.return_, 1) := by decide +kernel
theorem dX1_empty_0 : decode cX1_empty 0 = .ok (.aload_n 0, 1) := by decide +kernel
theorem dX1_empty_1 : decode cX1_empty 1 = .ok (.iconst 0, 1) := by decide +kernel
theorem dX1_empty_2 : decode cX1_empty 2 = .ok (.putfield 28, 3) := by decide +kernel
theorem dX1_empty_5 : decode cX1_empty 5 = .ok (.iconst 0, 1) := by decide +kernel
theorem dX1_empty_6 : decode cX1_empty 6 = .ok (.ireturn, 1) := by decide +kernel
theorem dX1_add_0 : decode cX1_add 0 = .ok (.aload_n 0, 1) := by decide +kernel
theorem dX1_add_1 : decode cX1_add 1 = .ok (.getfield 28, 3) := by decide +kernel
theorem dX1_add_4 : decode cX1_add 4 = .ok (.aload_n 0, 1) := by decide +kernel
theorem dX1_add_5 : decode cX1_add 5 = .ok (.getfield 24, 3) := by decide +kernel
theorem dX1_add_8 : decode cX1_add 8 = .ok (.if_icmp .lt 6, 3) := by decide +kernel
theorem dX1_add_11 : decode cX1_add 11 = .ok (.bipush (-4), 2) := by decide +kernel
theorem dX1_add_13 : decode cX1_add 13 = .ok (.ireturn, 1) := by decide +kernel
theorem dX1_add_14 : decode cX1_add 14 = .ok (.aload_n 0, 1) := by decide +kernel
theorem dX1_add_15 : decode cX1_add 15 = .ok (.getfield 9, 3) := by decide +kernel
theorem dX1_add_18 : decode cX1_add 18 = .ok (.aload_n 0, 1) := by decide +kernel
theorem dX1_add_19 : decode cX1_add 19 = .ok (.getfield 28, 3) := by decide +kernel
theorem dX1_add_22 : decode cX1_add 22 = .ok (.iload_n 1, 1) := by decide +kernel
theorem dX1_add_23 : decode cX1_add 23 = .ok (.invokestatic 31, 3) := by decide +kernel
theorem dX1_add_26 : decode cX1_add 26 = .ok (.aload_n 0, 1) := by decide +kernel
theorem dX1_add_27 : decode cX1_add 27 = .ok (.getfield 15, 3) := by decide +kernel
theorem dX1_add_30 : decode cX1_add 30 = .ok (.aload_n 0, 1) := by decide +kernel
theorem dX1_add_31 : decode cX1_add 31 = .ok (.getfield 28, 3) := by decide +kernel
theorem dX1_add_34 : decode cX1_add 34 = .ok (.iload_n 2, 1) := by decide +kernel
theorem dX1_add_35 : decode cX1_add 35 = .ok (.invokestatic 31, 3) := by decide +kernel
theorem dX1_add_38 : decode cX1_add 38 = .ok (.aload_n 0, 1) := by decide +kernel
theorem dX1_add_39 : decode cX1_add 39 = .ok (.dup, 1) := by decide +kernel
theorem dX1_add_40 : decode cX1_add 40 = .ok (.getfield 28, 3) := by decide +kernel
theorem dX1_add_43 : decode cX1_add 43 = .ok (.iconst 1, 1) := by decide +kernel
theorem dX1_add_44 : decode cX1_add 44 = .ok (.iadd, 1) := by decide +kernel
theorem dX1_add_45 : decode cX1_add 45 = .ok (.putfield 28, 3) := by decide +kernel
theorem dX1_add_48 : decode cX1_add 48 = .ok (.aload_n 0, 1) := by decide +kernel
theorem dX1_add_49 : decode cX1_add 49 = .ok (.getfield 28, 3) := by decide +kernel
theorem dX1_add_52 : decode cX1_add 52 = .ok (.ireturn, 1) := by decide +kernel
theorem dX1_takeAfter_0 : decode cX1_takeAfter 0 = .ok (.aload_n 1, 1) := by decide +kernel
theorem dX1_takeAfter_1 : decode cX1_takeAfter 1 = .ok (.getfield 9, 3) := by decide +kernel
theorem dX1_takeAfter_4 : decode cX1_takeAfter 4 = .ok (.aload_n 0, 1) := by decide +kernel
theorem dX1_takeAfter_5 : decode cX1_takeAfter 5 = .ok (.getfield 9, 3) := by decide +kernel
theorem dX1_takeAfter_8 : decode cX1_takeAfter 8 = .ok (.invokestatic 35, 3) := by decide +kernel
theorem dX1_takeAfter_11 : decode cX1_takeAfter 11 = .ok (.aload_n 1, 1) := by decide +kernel
theorem dX1_takeAfter_12 : decode cX1_takeAfter 12 = .ok (.getfield 15, 3) := by decide +kernel
theorem dX1_takeAfter_15 : decode cX1_takeAfter 15 = .ok (.aload_n 0, 1) := by decide +kernel
theorem dX1_takeAfter_16 : decode cX1_takeAfter 16 = .ok (.getfield 15, 3) := by decide +kernel
theorem dX1_takeAfter_19 : decode cX1_takeAfter 19 = .ok (.invokestatic 35, 3) := by decide +kernel
theorem dX1_takeAfter_22 : decode cX1_takeAfter 22 = .ok (.aload_n 0, 1) := by decide +kernel
theorem dX1_takeAfter_23 : decode cX1_takeAfter 23 = .ok (.aload_n 1, 1) := by decide +kernel
theorem dX1_takeAfter_24 : decode cX1_takeAfter 24 = .ok (.getfield 28, 3) := by decide +kernel
theorem dX1_takeAfter_27 : decode cX1_takeAfter 27 = .ok (.putfield 28, 3) := by decide +kernel
theorem dX1_takeAfter_30 : decode cX1_takeAfter 30 = .ok (.return_, 1) := by decide +kernel
theorem dX2_init_0 : decode cX2_init 0 = .ok (.aload_n 0, 1) := by decide +kernel
theorem dX2_init_1 : decode cX2_init 1 = .ok (.invokespecial 3, 3) := by decide +kernel
theorem dX2_init_4 : decode cX2_init 4 = .ok (.aload_n 0, 1) := by decide +kernel
theorem dX2_init_5 : decode cX2_init 5 = .ok (.iconst 2, 1) := by decide +kernel
theorem dX2_init_6 : decode cX2_init 6 = .ok (.putfield 11, 3) := by decide +kernel
theorem dX2_init_9 : decode cX2_init 9 = .ok (.aload_n 0, 1) := by decide +kernel
theorem dX2_init_10 : decode cX2_init 10 = .ok (.bipush 10, 2) := by decide +kernel
theorem dX2_init_12 : decode cX2_init 12 = .ok (.newarray .int, 2) := by decide +kernel
theorem dX2_init_14 : decode cX2_init 14 = .ok (.putfield 15, 3) := by decide +kernel
theorem dX2_init_17 : decode cX2_init 17 = .ok (.aload_n 0, 1) := by decide +kernel
theorem dX2_init_18 : decode cX2_init 18 = .ok (.bipush 10, 2) := by decide +kernel
theorem dX2_init_20 : decode cX2_init 20 = .ok (.newarray .int, 2) := by decide +kernel
theorem dX2_init_22 : decode cX2_init 22 = .ok (.putfield 19, 3) := by decide +kernel
theorem dX2_init_25 : decode cX2_init 25 = .ok (.aload_n 0, 1) := by decide +kernel
theorem dX2_init_26 : decode cX2_init 26 = .ok (.bipush 100, 2) := by decide +kernel
theorem dX2_init_28 : decode cX2_init 28 = .ok (.newarray .int, 2) := by decide +kernel
theorem dX2_init_30 : decode cX2_init 30 = .ok (.putfield 22, 3) := by decide +kernel
theorem dX2_init_33 : decode cX2_init 33 = .ok (.aload_n 0, 1) := by decide +kernel
theorem dX2_init_34 : decode cX2_init 34 = .ok (.bipush 100, 2) := by decide +kernel
theorem dX2_init_36 : decode cX2_init 36 = .ok (.newarray .int, 2) := by decide +kernel
theorem dX2_init_38 : decode cX2_init 38 = .ok (.putfield 25, 3) := by decide +kernel
theorem dX2_init_41 : decode cX2_init 41 = .ok (.aload_n 0, 1) := by decide +kernel
theorem dX2_init_42 : decode cX2_init 42 = .ok (.bipush 100, 2) := by decide +kernel
theorem dX2_init_44 : decode cX2_init 44 = .ok (.newarray .int, 2) := by decide +kernel
theorem dX2_init_46 : decode cX2_init 46 = .ok (.putfield 28, 3) := by decide +kernel
theorem dX2_init_49 : decode cX2_init 49 = .ok (.return_, 1) := by decide +kernel
theorem dX2_clear_0 : decode cX2_clear 0 = .ok (.aload_n 0, 1) := by decide +kernel
theorem dX2_clear_1 : decode cX2_clear 1 = .ok (.iconst 2, 1) := by decide +kernel
theorem dX2_clear_2 : decode cX2_clear 2 = .ok (.putfield 11, 3) := by decide +kernel
theorem dX2_clear_5 : decode cX2_clear 5 = .ok (.aload_n 0, 1) := by decide +kernel
theorem dX2_clear_6 : decode cX2_clear 6 = .ok (.iconst 0, 1) := by decide +kernel
theorem dX2_clear_7 : decode cX2_clear 7 = .ok (.putfield 31, 3) := by decide +kernel
theorem dX2_clear_10 : decode cX2_clear 10 = .ok (.aload_n 0, 1) := by decide +kernel
theorem dX2_clear_11 : decode cX2_clear 11 = .ok (.iconst 0, 1) := by decide +kernel
theorem dX2_clear_12 : decode cX2_clear 12 = .ok (.putfield 34, 3) := by decide +kernel
theorem dX2_clear_15 : decode cX2_clear 15 = .ok (.return_, 1) := by decide +kernel
theorem dX2_addStep_0 : decode cX2_addStep 0 = .ok (.aload_n 0, 1) := by decide +kernel
theorem dX2_addStep_1 : decode cX2_addStep 1 = .ok (.getfield 22, 3) := by decide +kernel
theorem dX2_addStep_4 : decode cX2_addStep 4 = .ok (.aload_n 0, 1) := by decide +kernel
theorem dX2_addStep_5 : decode cX2_addStep 5 = .ok (.getfield 34, 3) := by decide +kernel
theorem dX2_addStep_8 : decode cX2_addStep 8 = .ok (.iload_n 1, 1) := by decide +kernel
theorem dX2_addStep_9 : decode cX2_addStep 9 = .ok (.invokestatic 37, 3) := by decide +kernel
theorem dX2_addStep_12 : decode cX2_addStep 12 = .ok (.aload_n 0, 1) := by decide +kernel
theorem dX2_addStep_13 : decode cX2_addStep 13 = .ok (.getfield 25, 3) := by decide +kernel
theorem dX2_addStep_16 : decode cX2_addStep 16 = .ok (.aload_n 0, 1) := by decide +kernel
theorem dX2_addStep_17 : decode cX2_addStep 17 = .ok (.getfield 34, 3) := by decide +kernel
theorem dX2_addStep_20 : decode cX2_addStep 20 = .ok (.iload_n 2, 1) := by decide +kernel
theorem dX2_addStep_21 : decode cX2_addStep 21 = .ok (.invokestatic 37, 3) := by decide +kernel
theorem dX2_addStep_24 : decode cX2_addStep 24 = .ok (.aload_n 0, 1) := by decide +kernel
theorem dX2_addStep_25 : decode cX2_addStep 25 = .ok (.getfield 28, 3) := by decide +kernel
theorem dX2_addStep_28 : decode cX2_addStep 28 = .ok (.aload_n 0, 1) := by decide +kernel
theorem dX2_addStep_29 : decode cX2_addStep 29 = .ok (.getfield 34, 3) := by decide +kernel
theorem dX2_addStep_32 : decode cX2_addStep 32 = .ok (.iload_n 3, 1) := by decide +kernel
theorem dX2_addStep_33 : decode cX2_addStep 33 = .ok (.invokestatic 37, 3) := by decide +kernel
theorem dX2_addStep_36 : decode cX2_addStep 36 = .ok (.aload_n 0, 1) := by decide +kernel
theorem dX2_addStep_37 : decode cX2_addStep 37 = .ok (.dup, 1) := by decide +kernel
theorem dX2_addStep_38 : decode cX2_addStep 38 = .ok (.getfield 34, 3) := by decide +kernel
theorem dX2_addStep_41 : decode cX2_addStep 41 = .ok (.iconst 1, 1) := by decide +kernel
theorem dX2_addStep_42 : decode cX2_addStep 42 = .ok (.iadd, 1) := by decide +kernel
theorem dX2_addStep_43 : decode cX2_addStep 43 = .ok (.putfield 34, 3) := by decide +kernel
theorem dX2_addStep_46 : decode cX2_addStep 46 = .ok (.return_, 1) := by decide +kernel
theorem dX2_endClause_0 : decode cX2_endClause 0 = .ok (.aload_n 0, 1) := by decide +kernel
theorem dX2_endClause_1 : decode cX2_endClause 1 = .ok (.getfield 15, 3) := by decide +kernel
theorem dX2_endClause_4 : decode cX2_endClause 4 = .ok (.aload_n 0, 1) := by decide +kernel
theorem dX2_endClause_5 : decode cX2_endClause 5 = .ok (.getfield 31, 3) := by decide +kernel
theorem dX2_endClause_8 : decode cX2_endClause 8 = .ok (.iload_n 1, 1) := by decide +kernel
theorem dX2_endClause_9 : decode cX2_endClause 9 = .ok (.invokestatic 37, 3) := by decide +kernel
theorem dX2_endClause_12 : decode cX2_endClause 12 = .ok (.aload_n 0, 1) := by decide +kernel
theorem dX2_endClause_13 : decode cX2_endClause 13 = .ok (.getfield 19, 3) := by decide +kernel
theorem dX2_endClause_16 : decode cX2_endClause 16 = .ok (.aload_n 0, 1) := by decide +kernel
theorem dX2_endClause_17 : decode cX2_endClause 17 = .ok (.getfield 31, 3) := by decide +kernel
theorem dX2_endClause_20 : decode cX2_endClause 20 = .ok (.aload_n 0, 1) := by decide +kernel
theorem dX2_endClause_21 : decode cX2_endClause 21 = .ok (.getfield 34, 3) := by decide +kernel
theorem dX2_endClause_24 : decode cX2_endClause 24 = .ok (.invokestatic 37, 3) := by decide +kernel
theorem dX2_endClause_27 : decode cX2_endClause 27 = .ok (.aload_n 0, 1) := by decide +kernel
theorem dX2_endClause_28 : decode cX2_endClause 28 = .ok (.dup, 1) := by decide +kernel
theorem dX2_endClause_29 : decode cX2_endClause 29 = .ok (.getfield 31, 3) := by decide +kernel
theorem dX2_endClause_32 : decode cX2_endClause 32 = .ok (.iconst 1, 1) := by decide +kernel
theorem dX2_endClause_33 : decode cX2_endClause 33 = .ok (.iadd, 1) := by decide +kernel
theorem dX2_endClause_34 : decode cX2_endClause 34 = .ok (.putfield 31, 3) := by decide +kernel
theorem dX2_endClause_37 : decode cX2_endClause 37 = .ok (.return_, 1) := by decide +kernel
theorem dX2_sumOf_0 : decode cX2_sumOf 0 = .ok (.bipush 20, 2) := by decide +kernel
theorem dX2_sumOf_2 : decode cX2_sumOf 2 = .ok (.aload_n 0, 1) := by decide +kernel
theorem dX2_sumOf_3 : decode cX2_sumOf 3 = .ok (.getfield 11, 3) := by decide +kernel
theorem dX2_sumOf_6 : decode cX2_sumOf 6 = .ok (.aload_n 1, 1) := by decide +kernel
theorem dX2_sumOf_7 : decode cX2_sumOf 7 = .ok (.iconst 4, 1) := by decide +kernel
theorem dX2_sumOf_8 : decode cX2_sumOf 8 = .ok (.invokestatic 41, 3) := by decide +kernel
theorem dX2_sumOf_11 : decode cX2_sumOf 11 = .ok (.imul, 1) := by decide +kernel
theorem dX2_sumOf_12 : decode cX2_sumOf 12 = .ok (.isub, 1) := by decide +kernel
theorem dX2_sumOf_13 : decode cX2_sumOf 13 = .ok (.istore_n 2, 1) := by decide +kernel
theorem dX2_sumOf_14 : decode cX2_sumOf 14 = .ok (.iconst 0, 1) := by decide +kernel
theorem dX2_sumOf_15 : decode cX2_sumOf 15 = .ok (.istore_n 3, 1) := by decide +kernel
theorem dX2_sumOf_16 : decode cX2_sumOf 16 = .ok (.iconst 0, 1) := by decide +kernel
theorem dX2_sumOf_17 : decode cX2_sumOf 17 = .ok (.istore 4, 2) := by decide +kernel
theorem dX2_sumOf_19 : decode cX2_sumOf 19 = .ok (.iload 4, 2) := by decide +kernel
theorem dX2_sumOf_21 : decode cX2_sumOf 21 = .ok (.aload_n 0, 1) := by decide +kernel
theorem dX2_sumOf_22 : decode cX2_sumOf 22 = .ok (.getfield 31, 3) := by decide +kernel
theorem dX2_sumOf_25 : decode cX2_sumOf 25 = .ok (.if_icmp .ge 46, 3) := by decide +kernel
theorem dX2_sumOf_28 : decode cX2_sumOf 28 = .ok (.aload_n 0, 1) := by decide +kernel
theorem dX2_sumOf_29 : decode cX2_sumOf 29 = .ok (.getfield 19, 3) := by decide +kernel
theorem dX2_sumOf_32 : decode cX2_sumOf 32 = .ok (.iload 4, 2) := by decide +kernel
theorem dX2_sumOf_34 : decode cX2_sumOf 34 = .ok (.invokestatic 41, 3) := by decide +kernel
theorem dX2_sumOf_37 : decode cX2_sumOf 37 = .ok (.istore 5, 2) := by decide +kernel
theorem dX2_sumOf_39 : decode cX2_sumOf 39 = .ok (.aload_n 0, 1) := by decide +kernel
theorem dX2_sumOf_40 : decode cX2_sumOf 40 = .ok (.iload_n 3, 1) := by decide +kernel
theorem dX2_sumOf_41 : decode cX2_sumOf 41 = .ok (.iload 5, 2) := by decide +kernel
theorem dX2_sumOf_43 : decode cX2_sumOf 43 = .ok (.aload_n 1, 1) := by decide +kernel
theorem dX2_sumOf_44 : decode cX2_sumOf 44 = .ok (.invokevirtual 45, 3) := by decide +kernel
theorem dX2_sumOf_47 : decode cX2_sumOf 47 = .ok (.ifCond .eq 15, 3) := by decide +kernel
theorem dX2_sumOf_50 : decode cX2_sumOf 50 = .ok (.iload_n 2, 1) := by decide +kernel
theorem dX2_sumOf_51 : decode cX2_sumOf 51 = .ok (.aload_n 0, 1) := by decide +kernel
theorem dX2_sumOf_52 : decode cX2_sumOf 52 = .ok (.getfield 15, 3) := by decide +kernel
theorem dX2_sumOf_55 : decode cX2_sumOf 55 = .ok (.iload 4, 2) := by decide +kernel
theorem dX2_sumOf_57 : decode cX2_sumOf 57 = .ok (.invokestatic 41, 3) := by decide +kernel
theorem dX2_sumOf_60 : decode cX2_sumOf 60 = .ok (.iadd, 1) := by decide +kernel
theorem dX2_sumOf_61 : decode cX2_sumOf 61 = .ok (.istore_n 2, 1) := by decide +kernel
theorem dX2_sumOf_62 : decode cX2_sumOf 62 = .ok (.iload 5, 2) := by decide +kernel
theorem dX2_sumOf_64 : decode cX2_sumOf 64 = .ok (.istore_n 3, 1) := by decide +kernel
theorem dX2_sumOf_65 : decode cX2_sumOf 65 = .ok (.iinc 4 1, 3) := by decide +kernel
theorem dX2_sumOf_68 : decode cX2_sumOf 68 = .ok (.goto (-49), 3) := by decide +kernel
theorem dX2_sumOf_71 : decode cX2_sumOf 71 = .ok (.iload_n 2, 1) := by decide +kernel
theorem dX2_sumOf_72 : decode cX2_sumOf 72 = .ok (.ireturn, 1) := by decide +kernel
theorem dX2_holdsFrom_0 : decode cX2_holdsFrom 0 = .ok (.iconst 0, 1) := by decide +kernel
theorem dX2_holdsFrom_1 : decode cX2_holdsFrom 1 = .ok (.istore 4, 2) := by decide +kernel
theorem dX2_holdsFrom_3 : decode cX2_holdsFrom 3 = .ok (.iload_n 1, 1) := by decide +kernel
theorem dX2_holdsFrom_4 : decode cX2_holdsFrom 4 = .ok (.istore 5, 2) := by decide +kernel
theorem dX2_holdsFrom_6 : decode cX2_holdsFrom 6 = .ok (.iload 5, 2) := by decide +kernel
theorem dX2_holdsFrom_8 : decode cX2_holdsFrom 8 = .ok (.iload_n 2, 1) := by decide +kernel
theorem dX2_holdsFrom_9 : decode cX2_holdsFrom 9 = .ok (.if_icmp .ge 131, 3) := by decide +kernel
theorem dX2_holdsFrom_12 : decode cX2_holdsFrom 12 = .ok (.iload 4, 2) := by decide +kernel
theorem dX2_holdsFrom_14 : decode cX2_holdsFrom 14 = .ok (.iconst 1, 1) := by decide +kernel
theorem dX2_holdsFrom_15 : decode cX2_holdsFrom 15 = .ok (.ishr, 1) := by decide +kernel
theorem dX2_holdsFrom_16 : decode cX2_holdsFrom 16 = .ok (.istore 6, 2) := by decide +kernel
theorem dX2_holdsFrom_18 : decode cX2_holdsFrom 18 = .ok (.iload 4, 2) := by decide +kernel
theorem dX2_holdsFrom_20 : decode cX2_holdsFrom 20 = .ok (.iconst 1, 1) := by decide +kernel
theorem dX2_holdsFrom_21 : decode cX2_holdsFrom 21 = .ok (.iand, 1) := by decide +kernel
theorem dX2_holdsFrom_22 : decode cX2_holdsFrom 22 = .ok (.istore 7, 2) := by decide +kernel
theorem dX2_holdsFrom_24 : decode cX2_holdsFrom 24 = .ok (.aload_n 0, 1) := by decide +kernel
theorem dX2_holdsFrom_25 : decode cX2_holdsFrom 25 = .ok (.getfield 22, 3) := by decide +kernel
theorem dX2_holdsFrom_28 : decode cX2_holdsFrom 28 = .ok (.iload 5, 2) := by decide +kernel
theorem dX2_holdsFrom_30 : decode cX2_holdsFrom 30 = .ok (.invokestatic 41, 3) := by decide +kernel
theorem dX2_holdsFrom_33 : decode cX2_holdsFrom 33 = .ok (.istore 8, 2) := by decide +kernel
theorem dX2_holdsFrom_35 : decode cX2_holdsFrom 35 = .ok (.iload 8, 2) := by decide +kernel
theorem dX2_holdsFrom_37 : decode cX2_holdsFrom 37 = .ok (.bipush 6, 2) := by decide +kernel
theorem dX2_holdsFrom_39 : decode cX2_holdsFrom 39 = .ok (.if_icmp .ne 12, 3) := by decide +kernel
theorem dX2_holdsFrom_42 : decode cX2_holdsFrom 42 = .ok (.iload 4, 2) := by decide +kernel
theorem dX2_holdsFrom_44 : decode cX2_holdsFrom 44 = .ok (.iconst 1, 1) := by decide +kernel
theorem dX2_holdsFrom_45 : decode cX2_holdsFrom 45 = .ok (.ixor, 1) := by decide +kernel
theorem dX2_holdsFrom_46 : decode cX2_holdsFrom 46 = .ok (.istore 4, 2) := by decide +kernel
theorem dX2_holdsFrom_48 : decode cX2_holdsFrom 48 = .ok (.goto 86, 3) := by decide +kernel
theorem dX2_holdsFrom_51 : decode cX2_holdsFrom 51 = .ok (.iload 8, 2) := by decide +kernel
theorem dX2_holdsFrom_53 : decode cX2_holdsFrom 53 = .ok (.bipush 7, 2) := by decide +kernel
theorem dX2_holdsFrom_55 : decode cX2_holdsFrom 55 = .ok (.if_icmp .ne 16, 3) := by decide +kernel
theorem dX2_holdsFrom_58 : decode cX2_holdsFrom 58 = .ok (.iload 6, 2) := by decide +kernel
theorem dX2_holdsFrom_60 : decode cX2_holdsFrom 60 = .ok (.iload 7, 2) := by decide +kernel
theorem dX2_holdsFrom_62 : decode cX2_holdsFrom 62 = .ok (.bipush (-2), 2) := by decide +kernel
theorem dX2_holdsFrom_64 : decode cX2_holdsFrom 64 = .ok (.ior, 1) := by decide +kernel
theorem dX2_holdsFrom_65 : decode cX2_holdsFrom 65 = .ok (.iand, 1) := by decide +kernel
theorem dX2_holdsFrom_66 : decode cX2_holdsFrom 66 = .ok (.istore 4, 2) := by decide +kernel
theorem dX2_holdsFrom_68 : decode cX2_holdsFrom 68 = .ok (.goto 66, 3) := by decide +kernel
theorem dX2_holdsFrom_71 : decode cX2_holdsFrom 71 = .ok (.iload 8, 2) := by decide +kernel
theorem dX2_holdsFrom_73 : decode cX2_holdsFrom 73 = .ok (.bipush 8, 2) := by decide +kernel
theorem dX2_holdsFrom_75 : decode cX2_holdsFrom 75 = .ok (.if_icmp .ne 13, 3) := by decide +kernel
theorem dX2_holdsFrom_78 : decode cX2_holdsFrom 78 = .ok (.iload 6, 2) := by decide +kernel
theorem dX2_holdsFrom_80 : decode cX2_holdsFrom 80 = .ok (.iload 7, 2) := by decide +kernel
theorem dX2_holdsFrom_82 : decode cX2_holdsFrom 82 = .ok (.ior, 1) := by decide +kernel
theorem dX2_holdsFrom_83 : decode cX2_holdsFrom 83 = .ok (.istore 4, 2) := by decide +kernel
theorem dX2_holdsFrom_85 : decode cX2_holdsFrom 85 = .ok (.goto 49, 3) := by decide +kernel
theorem dX2_holdsFrom_88 : decode cX2_holdsFrom 88 = .ok (.aload_n 3, 1) := by decide +kernel
theorem dX2_holdsFrom_89 : decode cX2_holdsFrom 89 = .ok (.iload 8, 2) := by decide +kernel
theorem dX2_holdsFrom_91 : decode cX2_holdsFrom 91 = .ok (.invokestatic 41, 3) := by decide +kernel
theorem dX2_holdsFrom_94 : decode cX2_holdsFrom 94 = .ok (.aload_n 0, 1) := by decide +kernel
theorem dX2_holdsFrom_95 : decode cX2_holdsFrom 95 = .ok (.getfield 25, 3) := by decide +kernel
theorem dX2_holdsFrom_98 : decode cX2_holdsFrom 98 = .ok (.iload 5, 2) := by decide +kernel
theorem dX2_holdsFrom_100 : decode cX2_holdsFrom 100 = .ok (.invokestatic 41, 3) := by decide +kernel
theorem dX2_holdsFrom_103 : decode cX2_holdsFrom 103 = .ok (.aload_n 0, 1) := by decide +kernel
theorem dX2_holdsFrom_104 : decode cX2_holdsFrom 104 = .ok (.getfield 28, 3) := by decide +kernel
theorem dX2_holdsFrom_107 : decode cX2_holdsFrom 107 = .ok (.iload 5, 2) := by decide +kernel
theorem dX2_holdsFrom_109 : decode cX2_holdsFrom 109 = .ok (.invokestatic 41, 3) := by decide +kernel
theorem dX2_holdsFrom_112 : decode cX2_holdsFrom 112 = .ok (.invokestatic 49, 3) := by decide +kernel
theorem dX2_holdsFrom_115 : decode cX2_holdsFrom 115 = .ok (.istore 9, 2) := by decide +kernel
theorem dX2_holdsFrom_117 : decode cX2_holdsFrom 117 = .ok (.iload 4, 2) := by decide +kernel
theorem dX2_holdsFrom_119 : decode cX2_holdsFrom 119 = .ok (.iconst 1, 1) := by decide +kernel
theorem dX2_holdsFrom_120 : decode cX2_holdsFrom 120 = .ok (.ishl, 1) := by decide +kernel
theorem dX2_holdsFrom_121 : decode cX2_holdsFrom 121 = .ok (.iload 9, 2) := by decide +kernel
theorem dX2_holdsFrom_123 : decode cX2_holdsFrom 123 = .ok (.ifCond .eq 7, 3) := by decide +kernel
theorem dX2_holdsFrom_126 : decode cX2_holdsFrom 126 = .ok (.iconst 1, 1) := by decide +kernel
theorem dX2_holdsFrom_127 : decode cX2_holdsFrom 127 = .ok (.goto 4, 3) := by decide +kernel
theorem dX2_holdsFrom_130 : decode cX2_holdsFrom 130 = .ok (.iconst 0, 1) := by decide +kernel
theorem dX2_holdsFrom_131 : decode cX2_holdsFrom 131 = .ok (.ior, 1) := by decide +kernel
theorem dX2_holdsFrom_132 : decode cX2_holdsFrom 132 = .ok (.istore 4, 2) := by decide +kernel
theorem dX2_holdsFrom_134 : decode cX2_holdsFrom 134 = .ok (.iinc 5 1, 3) := by decide +kernel
theorem dX2_holdsFrom_137 : decode cX2_holdsFrom 137 = .ok (.goto (-131), 3) := by decide +kernel
theorem dX2_holdsFrom_140 : decode cX2_holdsFrom 140 = .ok (.iload 4, 2) := by decide +kernel
theorem dX2_holdsFrom_142 : decode cX2_holdsFrom 142 = .ok (.iconst 1, 1) := by decide +kernel
theorem dX2_holdsFrom_143 : decode cX2_holdsFrom 143 = .ok (.iand, 1) := by decide +kernel
theorem dX2_holdsFrom_144 : decode cX2_holdsFrom 144 = .ok (.ifCond .eq 7, 3) := by decide +kernel
theorem dX2_holdsFrom_147 : decode cX2_holdsFrom 147 = .ok (.iconst 1, 1) := by decide +kernel
theorem dX2_holdsFrom_148 : decode cX2_holdsFrom 148 = .ok (.goto 4, 3) := by decide +kernel
theorem dX2_holdsFrom_151 : decode cX2_holdsFrom 151 = .ok (.iconst 0, 1) := by decide +kernel
theorem dX2_holdsFrom_152 : decode cX2_holdsFrom 152 = .ok (.ireturn, 1) := by decide +kernel
theorem dX2_passes_0 : decode cX2_passes 0 = .ok (.iload_n 1, 1) := by decide +kernel
theorem dX2_passes_1 : decode cX2_passes 1 = .ok (.lookupswitch 49 #[(60, 27), (62, 38)], 27) := by decide +kernel
theorem dX2_passes_28 : decode cX2_passes 28 = .ok (.iload_n 0, 1) := by decide +kernel
theorem dX2_passes_29 : decode cX2_passes 29 = .ok (.iload_n 2, 1) := by decide +kernel
theorem dX2_passes_30 : decode cX2_passes 30 = .ok (.if_icmp .ge 7, 3) := by decide +kernel
theorem dX2_passes_33 : decode cX2_passes 33 = .ok (.iconst 1, 1) := by decide +kernel
theorem dX2_passes_34 : decode cX2_passes 34 = .ok (.goto 4, 3) := by decide +kernel
theorem dX2_passes_37 : decode cX2_passes 37 = .ok (.iconst 0, 1) := by decide +kernel
theorem dX2_passes_38 : decode cX2_passes 38 = .ok (.ireturn, 1) := by decide +kernel
theorem dX2_passes_39 : decode cX2_passes 39 = .ok (.iload_n 0, 1) := by decide +kernel
theorem dX2_passes_40 : decode cX2_passes 40 = .ok (.iload_n 2, 1) := by decide +kernel
theorem dX2_passes_41 : decode cX2_passes 41 = .ok (.if_icmp .le 7, 3) := by decide +kernel
theorem dX2_passes_44 : decode cX2_passes 44 = .ok (.iconst 1, 1) := by decide +kernel
theorem dX2_passes_45 : decode cX2_passes 45 = .ok (.goto 4, 3) := by decide +kernel
theorem dX2_passes_48 : decode cX2_passes 48 = .ok (.iconst 0, 1) := by decide +kernel
theorem dX2_passes_49 : decode cX2_passes 49 = .ok (.ireturn, 1) := by decide +kernel
theorem dX2_passes_50 : decode cX2_passes 50 = .ok (.iload_n 0, 1) := by decide +kernel
theorem dX2_passes_51 : decode cX2_passes 51 = .ok (.iload_n 2, 1) := by decide +kernel
theorem dX2_passes_52 : decode cX2_passes 52 = .ok (.if_icmp .ne 7, 3) := by decide +kernel
theorem dX2_passes_55 : decode cX2_passes 55 = .ok (.iconst 1, 1) := by decide +kernel
theorem dX2_passes_56 : decode cX2_passes 56 = .ok (.goto 4, 3) := by decide +kernel
theorem dX2_passes_59 : decode cX2_passes 59 = .ok (.iconst 0, 1) := by decide +kernel
theorem dX2_passes_60 : decode cX2_passes 60 = .ok (.ireturn, 1) := by decide +kernel
theorem dX3_init_0 : decode cX3_init 0 = .ok (.aload_n 0, 1) := by decide +kernel
theorem dX3_init_1 : decode cX3_init 1 = .ok (.invokespecial 3, 3) := by decide +kernel
theorem dX3_init_4 : decode cX3_init 4 = .ok (.aload_n 0, 1) := by decide +kernel
theorem dX3_init_5 : decode cX3_init 5 = .ok (.bipush 100, 2) := by decide +kernel
theorem dX3_init_7 : decode cX3_init 7 = .ok (.newarray .byte, 2) := by decide +kernel
theorem dX3_init_9 : decode cX3_init 9 = .ok (.putfield 9, 3) := by decide +kernel
theorem dX3_init_12 : decode cX3_init 12 = .ok (.aload_n 0, 1) := by decide +kernel
theorem dX3_init_13 : decode cX3_init 13 = .ok (.iconst (-1), 1) := by decide +kernel
theorem dX3_init_14 : decode cX3_init 14 = .ok (.putfield 15, 3) := by decide +kernel
theorem dX3_init_17 : decode cX3_init 17 = .ok (.aload_n 0, 1) := by decide +kernel
theorem dX3_init_18 : decode cX3_init 18 = .ok (.new 19, 3) := by decide +kernel
theorem dX3_init_21 : decode cX3_init 21 = .ok (.dup, 1) := by decide +kernel
theorem dX3_init_22 : decode cX3_init 22 = .ok (.invokespecial 21, 3) := by decide +kernel
theorem dX3_init_25 : decode cX3_init 25 = .ok (.putfield 22, 3) := by decide +kernel
theorem dX3_init_28 : decode cX3_init 28 = .ok (.return_, 1) := by decide +kernel
theorem dX3_append_0 : decode cX3_append 0 = .ok (.aload_n 0, 1) := by decide +kernel
theorem dX3_append_1 : decode cX3_append 1 = .ok (.getfield 26, 3) := by decide +kernel
theorem dX3_append_4 : decode cX3_append 4 = .ok (.ifCond .lt 15, 3) := by decide +kernel
theorem dX3_append_7 : decode cX3_append 7 = .ok (.aload_n 0, 1) := by decide +kernel
theorem dX3_append_8 : decode cX3_append 8 = .ok (.getfield 26, 3) := by decide +kernel
theorem dX3_append_11 : decode cX3_append 11 = .ok (.aload_n 0, 1) := by decide +kernel
theorem dX3_append_12 : decode cX3_append 12 = .ok (.getfield 9, 3) := by decide +kernel
theorem dX3_append_15 : decode cX3_append 15 = .ok (.arraylength, 1) := by decide +kernel
theorem dX3_append_16 : decode cX3_append 16 = .ok (.if_icmp .lt 6, 3) := by decide +kernel
theorem dX3_append_19 : decode cX3_append 19 = .ok (.bipush (-4), 2) := by decide +kernel
theorem dX3_append_21 : decode cX3_append 21 = .ok (.ireturn, 1) := by decide +kernel
theorem dX3_append_22 : decode cX3_append 22 = .ok (.aload_n 0, 1) := by decide +kernel
theorem dX3_append_23 : decode cX3_append 23 = .ok (.getfield 9, 3) := by decide +kernel
theorem dX3_append_26 : decode cX3_append 26 = .ok (.aload_n 0, 1) := by decide +kernel
theorem dX3_append_27 : decode cX3_append 27 = .ok (.getfield 26, 3) := by decide +kernel
theorem dX3_append_30 : decode cX3_append 30 = .ok (.iload_n 1, 1) := by decide +kernel
theorem dX3_append_31 : decode cX3_append 31 = .ok (.i2b, 1) := by decide +kernel
theorem dX3_append_32 : decode cX3_append 32 = .ok (.bastore, 1) := by decide +kernel
theorem dX3_append_33 : decode cX3_append 33 = .ok (.aload_n 0, 1) := by decide +kernel
theorem dX3_append_34 : decode cX3_append 34 = .ok (.dup, 1) := by decide +kernel
theorem dX3_append_35 : decode cX3_append 35 = .ok (.getfield 26, 3) := by decide +kernel
theorem dX3_append_38 : decode cX3_append 38 = .ok (.iconst 1, 1) := by decide +kernel
theorem dX3_append_39 : decode cX3_append 39 = .ok (.iadd, 1) := by decide +kernel
theorem dX3_append_40 : decode cX3_append 40 = .ok (.putfield 26, 3) := by decide +kernel
theorem dX3_append_43 : decode cX3_append 43 = .ok (.aload_n 0, 1) := by decide +kernel
theorem dX3_append_44 : decode cX3_append 44 = .ok (.getfield 26, 3) := by decide +kernel
theorem dX3_append_47 : decode cX3_append 47 = .ok (.ireturn, 1) := by decide +kernel
theorem dX3_readAll_0 : decode cX3_readAll 0 = .ok (.aload_n 0, 1) := by decide +kernel
theorem dX3_readAll_1 : decode cX3_readAll 1 = .ok (.aload_n 1, 1) := by decide +kernel
theorem dX3_readAll_2 : decode cX3_readAll 2 = .ok (.putfield 22, 3) := by decide +kernel
theorem dX3_readAll_5 : decode cX3_readAll 5 = .ok (.aload_n 0, 1) := by decide +kernel
theorem dX3_readAll_6 : decode cX3_readAll 6 = .ok (.getfield 22, 3) := by decide +kernel
theorem dX3_readAll_9 : decode cX3_readAll 9 = .ok (.invokevirtual 29, 3) := by decide +kernel
theorem dX3_readAll_12 : decode cX3_readAll 12 = .ok (.aload_n 0, 1) := by decide +kernel
theorem dX3_readAll_13 : decode cX3_readAll 13 = .ok (.iconst (-1), 1) := by decide +kernel
theorem dX3_readAll_14 : decode cX3_readAll 14 = .ok (.putfield 32, 3) := by decide +kernel
theorem dX3_readAll_17 : decode cX3_readAll 17 = .ok (.aload_n 0, 1) := by decide +kernel
theorem dX3_readAll_18 : decode cX3_readAll 18 = .ok (.invokevirtual 35, 3) := by decide +kernel
theorem dX3_readAll_21 : decode cX3_readAll 21 = .ok (.aload_n 0, 1) := by decide +kernel
theorem dX3_readAll_22 : decode cX3_readAll 22 = .ok (.invokevirtual 38, 3) := by decide +kernel
theorem dX3_readAll_25 : decode cX3_readAll 25 = .ok (.istore_n 2, 1) := by decide +kernel
theorem dX3_readAll_26 : decode cX3_readAll 26 = .ok (.iconst 1, 1) := by decide +kernel
theorem dX3_readAll_27 : decode cX3_readAll 27 = .ok (.istore_n 3, 1) := by decide +kernel
theorem dX3_readAll_28 : decode cX3_readAll 28 = .ok (.iload_n 3, 1) := by decide +kernel
theorem dX3_readAll_29 : decode cX3_readAll 29 = .ok (.bipush 10, 2) := by decide +kernel
theorem dX3_readAll_31 : decode cX3_readAll 31 = .ok (.if_icmp .ge 31, 3) := by decide +kernel
theorem dX3_readAll_34 : decode cX3_readAll 34 = .ok (.iload_n 2, 1) := by decide +kernel
theorem dX3_readAll_35 : decode cX3_readAll 35 = .ok (.ifCond .eq 27, 3) := by decide +kernel
theorem dX3_readAll_38 : decode cX3_readAll 38 = .ok (.aload_n 0, 1) := by decide +kernel
theorem dX3_readAll_39 : decode cX3_readAll 39 = .ok (.getfield 15, 3) := by decide +kernel
theorem dX3_readAll_42 : decode cX3_readAll 42 = .ok (.bipush 59, 2) := by decide +kernel
theorem dX3_readAll_44 : decode cX3_readAll 44 = .ok (.if_icmp .ne 18, 3) := by decide +kernel
theorem dX3_readAll_47 : decode cX3_readAll 47 = .ok (.aload_n 0, 1) := by decide +kernel
theorem dX3_readAll_48 : decode cX3_readAll 48 = .ok (.invokevirtual 35, 3) := by decide +kernel
theorem dX3_readAll_51 : decode cX3_readAll 51 = .ok (.aload_n 0, 1) := by decide +kernel
theorem dX3_readAll_52 : decode cX3_readAll 52 = .ok (.invokevirtual 38, 3) := by decide +kernel
theorem dX3_readAll_55 : decode cX3_readAll 55 = .ok (.istore_n 2, 1) := by decide +kernel
theorem dX3_readAll_56 : decode cX3_readAll 56 = .ok (.iinc 3 1, 3) := by decide +kernel
theorem dX3_readAll_59 : decode cX3_readAll 59 = .ok (.goto (-31), 3) := by decide +kernel
theorem dX3_readAll_62 : decode cX3_readAll 62 = .ok (.aload_n 0, 1) := by decide +kernel
theorem dX3_readAll_63 : decode cX3_readAll 63 = .ok (.iconst 0, 1) := by decide +kernel
theorem dX3_readAll_64 : decode cX3_readAll 64 = .ok (.putfield 26, 3) := by decide +kernel
theorem dX3_readAll_67 : decode cX3_readAll 67 = .ok (.iload_n 2, 1) := by decide +kernel
theorem dX3_readAll_68 : decode cX3_readAll 68 = .ok (.ifCond .eq 15, 3) := by decide +kernel
theorem dX3_readAll_71 : decode cX3_readAll 71 = .ok (.aload_n 0, 1) := by decide +kernel
theorem dX3_readAll_72 : decode cX3_readAll 72 = .ok (.getfield 15, 3) := by decide +kernel
theorem dX3_readAll_75 : decode cX3_readAll 75 = .ok (.iconst (-1), 1) := by decide +kernel
theorem dX3_readAll_76 : decode cX3_readAll 76 = .ok (.if_icmp .ne 7, 3) := by decide +kernel
theorem dX3_readAll_79 : decode cX3_readAll 79 = .ok (.iconst 1, 1) := by decide +kernel
theorem dX3_readAll_80 : decode cX3_readAll 80 = .ok (.goto 4, 3) := by decide +kernel
theorem dX3_readAll_83 : decode cX3_readAll 83 = .ok (.iconst 0, 1) := by decide +kernel
theorem dX3_readAll_84 : decode cX3_readAll 84 = .ok (.ireturn, 1) := by decide +kernel
theorem dX3_advance_0 : decode cX3_advance 0 = .ok (.aload_n 0, 1) := by decide +kernel
theorem dX3_advance_1 : decode cX3_advance 1 = .ok (.dup, 1) := by decide +kernel
theorem dX3_advance_2 : decode cX3_advance 2 = .ok (.getfield 32, 3) := by decide +kernel
theorem dX3_advance_5 : decode cX3_advance 5 = .ok (.iconst 1, 1) := by decide +kernel
theorem dX3_advance_6 : decode cX3_advance 6 = .ok (.iadd, 1) := by decide +kernel
theorem dX3_advance_7 : decode cX3_advance 7 = .ok (.putfield 32, 3) := by decide +kernel
theorem dX3_advance_10 : decode cX3_advance 10 = .ok (.aload_n 0, 1) := by decide +kernel
theorem dX3_advance_11 : decode cX3_advance 11 = .ok (.aload_n 0, 1) := by decide +kernel
theorem dX3_advance_12 : decode cX3_advance 12 = .ok (.getfield 32, 3) := by decide +kernel
theorem dX3_advance_15 : decode cX3_advance 15 = .ok (.ifCond .lt 38, 3) := by decide +kernel
theorem dX3_advance_18 : decode cX3_advance 18 = .ok (.aload_n 0, 1) := by decide +kernel
theorem dX3_advance_19 : decode cX3_advance 19 = .ok (.getfield 32, 3) := by decide +kernel
theorem dX3_advance_22 : decode cX3_advance 22 = .ok (.aload_n 0, 1) := by decide +kernel
theorem dX3_advance_23 : decode cX3_advance 23 = .ok (.getfield 26, 3) := by decide +kernel
theorem dX3_advance_26 : decode cX3_advance 26 = .ok (.if_icmp .ge 27, 3) := by decide +kernel
theorem dX3_advance_29 : decode cX3_advance 29 = .ok (.aload_n 0, 1) := by decide +kernel
theorem dX3_advance_30 : decode cX3_advance 30 = .ok (.getfield 32, 3) := by decide +kernel
theorem dX3_advance_33 : decode cX3_advance 33 = .ok (.aload_n 0, 1) := by decide +kernel
theorem dX3_advance_34 : decode cX3_advance 34 = .ok (.getfield 9, 3) := by decide +kernel
theorem dX3_advance_37 : decode cX3_advance 37 = .ok (.arraylength, 1) := by decide +kernel
theorem dX3_advance_38 : decode cX3_advance 38 = .ok (.if_icmp .ge 15, 3) := by decide +kernel
theorem dX3_advance_41 : decode cX3_advance 41 = .ok (.aload_n 0, 1) := by decide +kernel
theorem dX3_advance_42 : decode cX3_advance 42 = .ok (.getfield 9, 3) := by decide +kernel
theorem dX3_advance_45 : decode cX3_advance 45 = .ok (.aload_n 0, 1) := by decide +kernel
theorem dX3_advance_46 : decode cX3_advance 46 = .ok (.getfield 32, 3) := by decide +kernel
theorem dX3_advance_49 : decode cX3_advance 49 = .ok (.baload, 1) := by decide +kernel
theorem dX3_advance_50 : decode cX3_advance 50 = .ok (.goto 4, 3) := by decide +kernel
theorem dX3_advance_53 : decode cX3_advance 53 = .ok (.iconst (-1), 1) := by decide +kernel
theorem dX3_advance_54 : decode cX3_advance 54 = .ok (.putfield 15, 3) := by decide +kernel
theorem dX3_advance_57 : decode cX3_advance 57 = .ok (.return_, 1) := by decide +kernel
theorem dX3_readClause_0 : decode cX3_readClause 0 = .ok (.aload_n 0, 1) := by decide +kernel
theorem dX3_readClause_1 : decode cX3_readClause 1 = .ok (.getfield 15, 3) := by decide +kernel
theorem dX3_readClause_4 : decode cX3_readClause 4 = .ok (.bipush 121, 2) := by decide +kernel
theorem dX3_readClause_6 : decode cX3_readClause 6 = .ok (.if_icmp .ne 7, 3) := by decide +kernel
theorem dX3_readClause_9 : decode cX3_readClause 9 = .ok (.iconst 1, 1) := by decide +kernel
theorem dX3_readClause_10 : decode cX3_readClause 10 = .ok (.goto 4, 3) := by decide +kernel
theorem dX3_readClause_13 : decode cX3_readClause 13 = .ok (.iconst 0, 1) := by decide +kernel
theorem dX3_readClause_14 : decode cX3_readClause 14 = .ok (.istore_n 1, 1) := by decide +kernel
theorem dX3_readClause_15 : decode cX3_readClause 15 = .ok (.aload_n 0, 1) := by decide +kernel
theorem dX3_readClause_16 : decode cX3_readClause 16 = .ok (.getfield 15, 3) := by decide +kernel
theorem dX3_readClause_19 : decode cX3_readClause 19 = .ok (.bipush 108, 2) := by decide +kernel
theorem dX3_readClause_21 : decode cX3_readClause 21 = .ok (.if_icmp .ne 7, 3) := by decide +kernel
theorem dX3_readClause_24 : decode cX3_readClause 24 = .ok (.iconst 1, 1) := by decide +kernel
theorem dX3_readClause_25 : decode cX3_readClause 25 = .ok (.goto 4, 3) := by decide +kernel
theorem dX3_readClause_28 : decode cX3_readClause 28 = .ok (.iconst 0, 1) := by decide +kernel
theorem dX3_readClause_29 : decode cX3_readClause 29 = .ok (.istore_n 2, 1) := by decide +kernel
theorem dX3_readClause_30 : decode cX3_readClause 30 = .ok (.aload_n 0, 1) := by decide +kernel
theorem dX3_readClause_31 : decode cX3_readClause 31 = .ok (.iload_n 1, 1) := by decide +kernel
theorem dX3_readClause_32 : decode cX3_readClause 32 = .ok (.ifCond .eq 8, 3) := by decide +kernel
theorem dX3_readClause_35 : decode cX3_readClause 35 = .ok (.ldc 42, 2) := by decide +kernel
theorem dX3_readClause_37 : decode cX3_readClause 37 = .ok (.goto 14, 3) := by decide +kernel
theorem dX3_readClause_40 : decode cX3_readClause 40 = .ok (.iload_n 2, 1) := by decide +kernel
theorem dX3_readClause_41 : decode cX3_readClause 41 = .ok (.ifCond .eq 8, 3) := by decide +kernel
theorem dX3_readClause_44 : decode cX3_readClause 44 = .ok (.ldc 44, 2) := by decide +kernel
theorem dX3_readClause_46 : decode cX3_readClause 46 = .ok (.goto 5, 3) := by decide +kernel
theorem dX3_readClause_49 : decode cX3_readClause 49 = .ok (.ldc 46, 2) := by decide +kernel
theorem dX3_readClause_51 : decode cX3_readClause 51 = .ok (.invokevirtual 48, 3) := by decide +kernel
theorem dX3_readClause_54 : decode cX3_readClause 54 = .ok (.ifCond .eq 10, 3) := by decide +kernel
theorem dX3_readClause_57 : decode cX3_readClause 57 = .ok (.aload_n 0, 1) := by decide +kernel
theorem dX3_readClause_58 : decode cX3_readClause 58 = .ok (.invokevirtual 52, 3) := by decide +kernel
theorem dX3_readClause_61 : decode cX3_readClause 61 = .ok (.ifCond .ne 5, 3) := by decide +kernel
theorem dX3_readClause_64 : decode cX3_readClause 64 = .ok (.iconst 0, 1) := by decide +kernel
theorem dX3_readClause_65 : decode cX3_readClause 65 = .ok (.ireturn, 1) := by decide +kernel
theorem dX3_readClause_66 : decode cX3_readClause 66 = .ok (.iload_n 1, 1) := by decide +kernel
theorem dX3_readClause_67 : decode cX3_readClause 67 = .ok (.ifCond .eq 16, 3) := by decide +kernel
theorem dX3_readClause_70 : decode cX3_readClause 70 = .ok (.aload_n 0, 1) := by decide +kernel
theorem dX3_readClause_71 : decode cX3_readClause 71 = .ok (.getfield 22, 3) := by decide +kernel
theorem dX3_readClause_74 : decode cX3_readClause 74 = .ok (.aload_n 0, 1) := by decide +kernel
theorem dX3_readClause_75 : decode cX3_readClause 75 = .ok (.getfield 55, 3) := by decide +kernel
theorem dX3_readClause_78 : decode cX3_readClause 78 = .ok (.putfield 58, 3) := by decide +kernel
theorem dX3_readClause_81 : decode cX3_readClause 81 = .ok (.iconst 1, 1) := by decide +kernel
theorem dX3_readClause_82 : decode cX3_readClause 82 = .ok (.ireturn, 1) := by decide +kernel
theorem dX3_readClause_83 : decode cX3_readClause 83 = .ok (.iload_n 2, 1) := by decide +kernel
theorem dX3_readClause_84 : decode cX3_readClause 84 = .ok (.ifCond .eq 11, 3) := by decide +kernel
theorem dX3_readClause_87 : decode cX3_readClause 87 = .ok (.aload_n 0, 1) := by decide +kernel
theorem dX3_readClause_88 : decode cX3_readClause 88 = .ok (.getfield 55, 3) := by decide +kernel
theorem dX3_readClause_91 : decode cX3_readClause 91 = .ok (.ineg, 1) := by decide +kernel
theorem dX3_readClause_92 : decode cX3_readClause 92 = .ok (.goto 7, 3) := by decide +kernel
theorem dX3_readClause_95 : decode cX3_readClause 95 = .ok (.aload_n 0, 1) := by decide +kernel
theorem dX3_readClause_96 : decode cX3_readClause 96 = .ok (.getfield 55, 3) := by decide +kernel
theorem dX3_readClause_99 : decode cX3_readClause 99 = .ok (.istore_n 3, 1) := by decide +kernel
theorem dX3_readClause_100 : decode cX3_readClause 100 = .ok (.aload_n 0, 1) := by decide +kernel
theorem dX3_readClause_101 : decode cX3_readClause 101 = .ok (.ldc 61, 2) := by decide +kernel
theorem dX3_readClause_103 : decode cX3_readClause 103 = .ok (.invokevirtual 48, 3) := by decide +kernel
theorem dX3_readClause_106 : decode cX3_readClause 106 = .ok (.ifCond .eq 15, 3) := by decide +kernel
theorem dX3_readClause_109 : decode cX3_readClause 109 = .ok (.aload_n 0, 1) := by decide +kernel
theorem dX3_readClause_110 : decode cX3_readClause 110 = .ok (.iconst 0, 1) := by decide +kernel
theorem dX3_readClause_111 : decode cX3_readClause 111 = .ok (.invokevirtual 63, 3) := by decide +kernel
theorem dX3_readClause_114 : decode cX3_readClause 114 = .ok (.ifCond .eq 7, 3) := by decide +kernel
theorem dX3_readClause_117 : decode cX3_readClause 117 = .ok (.iconst 1, 1) := by decide +kernel
theorem dX3_readClause_118 : decode cX3_readClause 118 = .ok (.goto 4, 3) := by decide +kernel
theorem dX3_readClause_121 : decode cX3_readClause 121 = .ok (.iconst 0, 1) := by decide +kernel
theorem dX3_readClause_122 : decode cX3_readClause 122 = .ok (.istore 4, 2) := by decide +kernel
theorem dX3_readClause_124 : decode cX3_readClause 124 = .ok (.aload_n 0, 1) := by decide +kernel
theorem dX3_readClause_125 : decode cX3_readClause 125 = .ok (.getfield 22, 3) := by decide +kernel
theorem dX3_readClause_128 : decode cX3_readClause 128 = .ok (.iload_n 3, 1) := by decide +kernel
theorem dX3_readClause_129 : decode cX3_readClause 129 = .ok (.invokevirtual 67, 3) := by decide +kernel
theorem dX3_readClause_132 : decode cX3_readClause 132 = .ok (.iload 4, 2) := by decide +kernel
theorem dX3_readClause_134 : decode cX3_readClause 134 = .ok (.ireturn, 1) := by decide +kernel
theorem dX3_readWord_0 : decode cX3_readWord 0 = .ok (.iconst 0, 1) := by decide +kernel
theorem dX3_readWord_1 : decode cX3_readWord 1 = .ok (.istore_n 2, 1) := by decide +kernel
theorem dX3_readWord_2 : decode cX3_readWord 2 = .ok (.iload_n 2, 1) := by decide +kernel
theorem dX3_readWord_3 : decode cX3_readWord 3 = .ok (.aload_n 1, 1) := by decide +kernel
theorem dX3_readWord_4 : decode cX3_readWord 4 = .ok (.invokevirtual 71, 3) := by decide +kernel
theorem dX3_readWord_7 : decode cX3_readWord 7 = .ok (.if_icmp .ge 27, 3) := by decide +kernel
theorem dX3_readWord_10 : decode cX3_readWord 10 = .ok (.aload_n 0, 1) := by decide +kernel
theorem dX3_readWord_11 : decode cX3_readWord 11 = .ok (.getfield 15, 3) := by decide +kernel
theorem dX3_readWord_14 : decode cX3_readWord 14 = .ok (.aload_n 1, 1) := by decide +kernel
theorem dX3_readWord_15 : decode cX3_readWord 15 = .ok (.iload_n 2, 1) := by decide +kernel
theorem dX3_readWord_16 : decode cX3_readWord 16 = .ok (.invokevirtual 77, 3) := by decide +kernel
theorem dX3_readWord_19 : decode cX3_readWord 19 = .ok (.if_icmp .eq 5, 3) := by decide +kernel
theorem dX3_readWord_22 : decode cX3_readWord 22 = .ok (.iconst 0, 1) := by decide +kernel
theorem dX3_readWord_23 : decode cX3_readWord 23 = .ok (.ireturn, 1) := by decide +kernel
theorem dX3_readWord_24 : decode cX3_readWord 24 = .ok (.aload_n 0, 1) := by decide +kernel
theorem dX3_readWord_25 : decode cX3_readWord 25 = .ok (.invokevirtual 35, 3) := by decide +kernel
theorem dX3_readWord_28 : decode cX3_readWord 28 = .ok (.iinc 2 1, 3) := by decide +kernel
theorem dX3_readWord_31 : decode cX3_readWord 31 = .ok (.goto (-29), 3) := by decide +kernel
theorem dX3_readWord_34 : decode cX3_readWord 34 = .ok (.iconst 1, 1) := by decide +kernel
theorem dX3_readWord_35 : decode cX3_readWord 35 = .ok (.ireturn, 1) := by decide +kernel
theorem dX3_readNumber_0 : decode cX3_readNumber 0 = .ok (.aload_n 0, 1) := by decide +kernel
theorem dX3_readNumber_1 : decode cX3_readNumber 1 = .ok (.getfield 15, 3) := by decide +kernel
theorem dX3_readNumber_4 : decode cX3_readNumber 4 = .ok (.bipush 48, 2) := by decide +kernel
theorem dX3_readNumber_6 : decode cX3_readNumber 6 = .ok (.if_icmp .lt 12, 3) := by decide +kernel
theorem dX3_readNumber_9 : decode cX3_readNumber 9 = .ok (.aload_n 0, 1) := by decide +kernel
theorem dX3_readNumber_10 : decode cX3_readNumber 10 = .ok (.getfield 15, 3) := by decide +kernel
theorem dX3_readNumber_13 : decode cX3_readNumber 13 = .ok (.bipush 57, 2) := by decide +kernel
theorem dX3_readNumber_15 : decode cX3_readNumber 15 = .ok (.if_icmp .le 5, 3) := by decide +kernel
theorem dX3_readNumber_18 : decode cX3_readNumber 18 = .ok (.iconst 0, 1) := by decide +kernel
theorem dX3_readNumber_19 : decode cX3_readNumber 19 = .ok (.ireturn, 1) := by decide +kernel
theorem dX3_readNumber_20 : decode cX3_readNumber 20 = .ok (.aload_n 0, 1) := by decide +kernel
theorem dX3_readNumber_21 : decode cX3_readNumber 21 = .ok (.aload_n 0, 1) := by decide +kernel
theorem dX3_readNumber_22 : decode cX3_readNumber 22 = .ok (.getfield 15, 3) := by decide +kernel
theorem dX3_readNumber_25 : decode cX3_readNumber 25 = .ok (.bipush 48, 2) := by decide +kernel
theorem dX3_readNumber_27 : decode cX3_readNumber 27 = .ok (.isub, 1) := by decide +kernel
theorem dX3_readNumber_28 : decode cX3_readNumber 28 = .ok (.putfield 55, 3) := by decide +kernel
theorem dX3_readNumber_31 : decode cX3_readNumber 31 = .ok (.aload_n 0, 1) := by decide +kernel
theorem dX3_readNumber_32 : decode cX3_readNumber 32 = .ok (.invokevirtual 35, 3) := by decide +kernel
theorem dX3_readNumber_35 : decode cX3_readNumber 35 = .ok (.aload_n 0, 1) := by decide +kernel
theorem dX3_readNumber_36 : decode cX3_readNumber 36 = .ok (.getfield 15, 3) := by decide +kernel
theorem dX3_readNumber_39 : decode cX3_readNumber 39 = .ok (.bipush 48, 2) := by decide +kernel
theorem dX3_readNumber_41 : decode cX3_readNumber 41 = .ok (.if_icmp .lt 35, 3) := by decide +kernel
theorem dX3_readNumber_44 : decode cX3_readNumber 44 = .ok (.aload_n 0, 1) := by decide +kernel
theorem dX3_readNumber_45 : decode cX3_readNumber 45 = .ok (.getfield 15, 3) := by decide +kernel
theorem dX3_readNumber_48 : decode cX3_readNumber 48 = .ok (.bipush 57, 2) := by decide +kernel
theorem dX3_readNumber_50 : decode cX3_readNumber 50 = .ok (.if_icmp .gt 26, 3) := by decide +kernel
theorem dX3_readNumber_53 : decode cX3_readNumber 53 = .ok (.aload_n 0, 1) := by decide +kernel
theorem dX3_readNumber_54 : decode cX3_readNumber 54 = .ok (.aload_n 0, 1) := by decide +kernel
theorem dX3_readNumber_55 : decode cX3_readNumber 55 = .ok (.getfield 55, 3) := by decide +kernel
theorem dX3_readNumber_58 : decode cX3_readNumber 58 = .ok (.bipush 10, 2) := by decide +kernel
theorem dX3_readNumber_60 : decode cX3_readNumber 60 = .ok (.imul, 1) := by decide +kernel
theorem dX3_readNumber_61 : decode cX3_readNumber 61 = .ok (.aload_n 0, 1) := by decide +kernel
theorem dX3_readNumber_62 : decode cX3_readNumber 62 = .ok (.getfield 15, 3) := by decide +kernel
theorem dX3_readNumber_65 : decode cX3_readNumber 65 = .ok (.iadd, 1) := by decide +kernel
theorem dX3_readNumber_66 : decode cX3_readNumber 66 = .ok (.bipush 48, 2) := by decide +kernel
theorem dX3_readNumber_68 : decode cX3_readNumber 68 = .ok (.isub, 1) := by decide +kernel
theorem dX3_readNumber_69 : decode cX3_readNumber 69 = .ok (.putfield 55, 3) := by decide +kernel
theorem dX3_readNumber_72 : decode cX3_readNumber 72 = .ok (.aload_n 0, 1) := by decide +kernel
theorem dX3_readNumber_73 : decode cX3_readNumber 73 = .ok (.invokevirtual 35, 3) := by decide +kernel
theorem dX3_readNumber_76 : decode cX3_readNumber 76 = .ok (.iconst 1, 1) := by decide +kernel
theorem dX3_readNumber_77 : decode cX3_readNumber 77 = .ok (.ireturn, 1) := by decide +kernel
theorem dX3_readEither_0 : decode cX3_readEither 0 = .ok (.aload_n 0, 1) := by decide +kernel
theorem dX3_readEither_1 : decode cX3_readEither 1 = .ok (.iload_n 1, 1) := by decide +kernel
theorem dX3_readEither_2 : decode cX3_readEither 2 = .ok (.invokevirtual 81, 3) := by decide +kernel
theorem dX3_readEither_5 : decode cX3_readEither 5 = .ok (.istore_n 2, 1) := by decide +kernel
theorem dX3_readEither_6 : decode cX3_readEither 6 = .ok (.iconst 0, 1) := by decide +kernel
theorem dX3_readEither_7 : decode cX3_readEither 7 = .ok (.istore_n 3, 1) := by decide +kernel
theorem dX3_readEither_8 : decode cX3_readEither 8 = .ok (.iconst 0, 1) := by decide +kernel
theorem dX3_readEither_9 : decode cX3_readEither 9 = .ok (.istore 4, 2) := by decide +kernel
theorem dX3_readEither_11 : decode cX3_readEither 11 = .ok (.iload 4, 2) := by decide +kernel
theorem dX3_readEither_13 : decode cX3_readEither 13 = .ok (.bipush 100, 2) := by decide +kernel
theorem dX3_readEither_15 : decode cX3_readEither 15 = .ok (.if_icmp .ge 108, 3) := by decide +kernel
theorem dX3_readEither_18 : decode cX3_readEither 18 = .ok (.iload_n 2, 1) := by decide +kernel
theorem dX3_readEither_19 : decode cX3_readEither 19 = .ok (.ifCond .eq 104, 3) := by decide +kernel
theorem dX3_readEither_22 : decode cX3_readEither 22 = .ok (.aload_n 0, 1) := by decide +kernel
theorem dX3_readEither_23 : decode cX3_readEither 23 = .ok (.getfield 15, 3) := by decide +kernel
theorem dX3_readEither_26 : decode cX3_readEither 26 = .ok (.bipush 38, 2) := by decide +kernel
theorem dX3_readEither_28 : decode cX3_readEither 28 = .ok (.if_icmp .eq 12, 3) := by decide +kernel
theorem dX3_readEither_31 : decode cX3_readEither 31 = .ok (.aload_n 0, 1) := by decide +kernel
theorem dX3_readEither_32 : decode cX3_readEither 32 = .ok (.getfield 15, 3) := by decide +kernel
theorem dX3_readEither_35 : decode cX3_readEither 35 = .ok (.bipush 124, 2) := by decide +kernel
theorem dX3_readEither_37 : decode cX3_readEither 37 = .ok (.if_icmp .ne 86, 3) := by decide +kernel
theorem dX3_readEither_40 : decode cX3_readEither 40 = .ok (.aload_n 0, 1) := by decide +kernel
theorem dX3_readEither_41 : decode cX3_readEither 41 = .ok (.getfield 15, 3) := by decide +kernel
theorem dX3_readEither_44 : decode cX3_readEither 44 = .ok (.bipush 124, 2) := by decide +kernel
theorem dX3_readEither_46 : decode cX3_readEither 46 = .ok (.if_icmp .ne 7, 3) := by decide +kernel
theorem dX3_readEither_49 : decode cX3_readEither 49 = .ok (.iconst 1, 1) := by decide +kernel
theorem dX3_readEither_50 : decode cX3_readEither 50 = .ok (.goto 4, 3) := by decide +kernel
theorem dX3_readEither_53 : decode cX3_readEither 53 = .ok (.iconst 0, 1) := by decide +kernel
theorem dX3_readEither_54 : decode cX3_readEither 54 = .ok (.istore 5, 2) := by decide +kernel
theorem dX3_readEither_56 : decode cX3_readEither 56 = .ok (.iload 5, 2) := by decide +kernel
theorem dX3_readEither_58 : decode cX3_readEither 58 = .ok (.ifCond .eq 18, 3) := by decide +kernel
theorem dX3_readEither_61 : decode cX3_readEither 61 = .ok (.iload_n 3, 1) := by decide +kernel
theorem dX3_readEither_62 : decode cX3_readEither 62 = .ok (.ifCond .eq 14, 3) := by decide +kernel
theorem dX3_readEither_65 : decode cX3_readEither 65 = .ok (.aload_n 0, 1) := by decide +kernel
theorem dX3_readEither_66 : decode cX3_readEither 66 = .ok (.getfield 22, 3) := by decide +kernel
theorem dX3_readEither_69 : decode cX3_readEither 69 = .ok (.bipush 8, 2) := by decide +kernel
theorem dX3_readEither_71 : decode cX3_readEither 71 = .ok (.iconst 0, 1) := by decide +kernel
theorem dX3_readEither_72 : decode cX3_readEither 72 = .ok (.iconst 0, 1) := by decide +kernel
theorem dX3_readEither_73 : decode cX3_readEither 73 = .ok (.invokevirtual 84, 3) := by decide +kernel
theorem dX3_readEither_76 : decode cX3_readEither 76 = .ok (.iload_n 3, 1) := by decide +kernel
theorem dX3_readEither_77 : decode cX3_readEither 77 = .ok (.ifCond .ne 8, 3) := by decide +kernel
theorem dX3_readEither_80 : decode cX3_readEither 80 = .ok (.iload 5, 2) := by decide +kernel
theorem dX3_readEither_82 : decode cX3_readEither 82 = .ok (.ifCond .eq 7, 3) := by decide +kernel
theorem dX3_readEither_85 : decode cX3_readEither 85 = .ok (.iconst 1, 1) := by decide +kernel
theorem dX3_readEither_86 : decode cX3_readEither 86 = .ok (.goto 4, 3) := by decide +kernel
theorem dX3_readEither_89 : decode cX3_readEither 89 = .ok (.iconst 0, 1) := by decide +kernel
theorem dX3_readEither_90 : decode cX3_readEither 90 = .ok (.istore_n 3, 1) := by decide +kernel
theorem dX3_readEither_91 : decode cX3_readEither 91 = .ok (.aload_n 0, 1) := by decide +kernel
theorem dX3_readEither_92 : decode cX3_readEither 92 = .ok (.invokevirtual 35, 3) := by decide +kernel
theorem dX3_readEither_95 : decode cX3_readEither 95 = .ok (.aload_n 0, 1) := by decide +kernel
theorem dX3_readEither_96 : decode cX3_readEither 96 = .ok (.iload_n 1, 1) := by decide +kernel
theorem dX3_readEither_97 : decode cX3_readEither 97 = .ok (.invokevirtual 81, 3) := by decide +kernel
theorem dX3_readEither_100 : decode cX3_readEither 100 = .ok (.istore_n 2, 1) := by decide +kernel
theorem dX3_readEither_101 : decode cX3_readEither 101 = .ok (.iload 5, 2) := by decide +kernel
theorem dX3_readEither_103 : decode cX3_readEither 103 = .ok (.ifCond .ne 14, 3) := by decide +kernel
theorem dX3_readEither_106 : decode cX3_readEither 106 = .ok (.aload_n 0, 1) := by decide +kernel
theorem dX3_readEither_107 : decode cX3_readEither 107 = .ok (.getfield 22, 3) := by decide +kernel
theorem dX3_readEither_110 : decode cX3_readEither 110 = .ok (.bipush 7, 2) := by decide +kernel
theorem dX3_readEither_112 : decode cX3_readEither 112 = .ok (.iconst 0, 1) := by decide +kernel
theorem dX3_readEither_113 : decode cX3_readEither 113 = .ok (.iconst 0, 1) := by decide +kernel
theorem dX3_readEither_114 : decode cX3_readEither 114 = .ok (.invokevirtual 84, 3) := by decide +kernel
theorem dX3_readEither_117 : decode cX3_readEither 117 = .ok (.iinc 4 1, 3) := by decide +kernel
theorem dX3_readEither_120 : decode cX3_readEither 120 = .ok (.goto (-109), 3) := by decide +kernel
theorem dX3_readEither_123 : decode cX3_readEither 123 = .ok (.iload_n 3, 1) := by decide +kernel
theorem dX3_readEither_124 : decode cX3_readEither 124 = .ok (.ifCond .eq 14, 3) := by decide +kernel
theorem dX3_readEither_127 : decode cX3_readEither 127 = .ok (.aload_n 0, 1) := by decide +kernel
theorem dX3_readEither_128 : decode cX3_readEither 128 = .ok (.getfield 22, 3) := by decide +kernel
theorem dX3_readEither_131 : decode cX3_readEither 131 = .ok (.bipush 8, 2) := by decide +kernel
theorem dX3_readEither_133 : decode cX3_readEither 133 = .ok (.iconst 0, 1) := by decide +kernel
theorem dX3_readEither_134 : decode cX3_readEither 134 = .ok (.iconst 0, 1) := by decide +kernel
theorem dX3_readEither_135 : decode cX3_readEither 135 = .ok (.invokevirtual 84, 3) := by decide +kernel
theorem dX3_readEither_138 : decode cX3_readEither 138 = .ok (.iload_n 2, 1) := by decide +kernel
theorem dX3_readEither_139 : decode cX3_readEither 139 = .ok (.ireturn, 1) := by decide +kernel
theorem dX3_readPart_0 : decode cX3_readPart 0 = .ok (.aload_n 0, 1) := by decide +kernel
theorem dX3_readPart_1 : decode cX3_readPart 1 = .ok (.getfield 15, 3) := by decide +kernel
theorem dX3_readPart_4 : decode cX3_readPart 4 = .ok (.bipush 33, 2) := by decide +kernel
theorem dX3_readPart_6 : decode cX3_readPart 6 = .ok (.if_icmp .eq 17, 3) := by decide +kernel
theorem dX3_readPart_9 : decode cX3_readPart 9 = .ok (.aload_n 0, 1) := by decide +kernel
theorem dX3_readPart_10 : decode cX3_readPart 10 = .ok (.getfield 15, 3) := by decide +kernel
theorem dX3_readPart_13 : decode cX3_readPart 13 = .ok (.bipush 40, 2) := by decide +kernel
theorem dX3_readPart_15 : decode cX3_readPart 15 = .ok (.if_icmp .eq 8, 3) := by decide +kernel
theorem dX3_readPart_18 : decode cX3_readPart 18 = .ok (.aload_n 0, 1) := by decide +kernel
theorem dX3_readPart_19 : decode cX3_readPart 19 = .ok (.invokevirtual 88, 3) := by decide +kernel
theorem dX3_readPart_22 : decode cX3_readPart 22 = .ok (.ireturn, 1) := by decide +kernel
theorem dX3_readPart_23 : decode cX3_readPart 23 = .ok (.iload_n 1, 1) := by decide +kernel
theorem dX3_readPart_24 : decode cX3_readPart 24 = .ok (.iconst 4, 1) := by decide +kernel
theorem dX3_readPart_25 : decode cX3_readPart 25 = .ok (.if_icmp .lt 5, 3) := by decide +kernel
theorem dX3_readPart_28 : decode cX3_readPart 28 = .ok (.iconst 0, 1) := by decide +kernel
theorem dX3_readPart_29 : decode cX3_readPart 29 = .ok (.ireturn, 1) := by decide +kernel
theorem dX3_readPart_30 : decode cX3_readPart 30 = .ok (.aload_n 0, 1) := by decide +kernel
theorem dX3_readPart_31 : decode cX3_readPart 31 = .ok (.getfield 15, 3) := by decide +kernel
theorem dX3_readPart_34 : decode cX3_readPart 34 = .ok (.bipush 33, 2) := by decide +kernel
theorem dX3_readPart_36 : decode cX3_readPart 36 = .ok (.if_icmp .ne 7, 3) := by decide +kernel
theorem dX3_readPart_39 : decode cX3_readPart 39 = .ok (.iconst 1, 1) := by decide +kernel
theorem dX3_readPart_40 : decode cX3_readPart 40 = .ok (.goto 4, 3) := by decide +kernel
theorem dX3_readPart_43 : decode cX3_readPart 43 = .ok (.iconst 0, 1) := by decide +kernel
theorem dX3_readPart_44 : decode cX3_readPart 44 = .ok (.istore_n 2, 1) := by decide +kernel
theorem dX3_readPart_45 : decode cX3_readPart 45 = .ok (.aload_n 0, 1) := by decide +kernel
theorem dX3_readPart_46 : decode cX3_readPart 46 = .ok (.invokevirtual 35, 3) := by decide +kernel
theorem dX3_readPart_49 : decode cX3_readPart 49 = .ok (.iload_n 2, 1) := by decide +kernel
theorem dX3_readPart_50 : decode cX3_readPart 50 = .ok (.ifCond .eq 24, 3) := by decide +kernel
theorem dX3_readPart_53 : decode cX3_readPart 53 = .ok (.aload_n 0, 1) := by decide +kernel
theorem dX3_readPart_54 : decode cX3_readPart 54 = .ok (.iload_n 1, 1) := by decide +kernel
theorem dX3_readPart_55 : decode cX3_readPart 55 = .ok (.iconst 1, 1) := by decide +kernel
theorem dX3_readPart_56 : decode cX3_readPart 56 = .ok (.iadd, 1) := by decide +kernel
theorem dX3_readPart_57 : decode cX3_readPart 57 = .ok (.invokevirtual 81, 3) := by decide +kernel
theorem dX3_readPart_60 : decode cX3_readPart 60 = .ok (.istore_n 3, 1) := by decide +kernel
theorem dX3_readPart_61 : decode cX3_readPart 61 = .ok (.aload_n 0, 1) := by decide +kernel
theorem dX3_readPart_62 : decode cX3_readPart 62 = .ok (.getfield 22, 3) := by decide +kernel
theorem dX3_readPart_65 : decode cX3_readPart 65 = .ok (.bipush 6, 2) := by decide +kernel
theorem dX3_readPart_67 : decode cX3_readPart 67 = .ok (.iconst 0, 1) := by decide +kernel
theorem dX3_readPart_68 : decode cX3_readPart 68 = .ok (.iconst 0, 1) := by decide +kernel
theorem dX3_readPart_69 : decode cX3_readPart 69 = .ok (.invokevirtual 84, 3) := by decide +kernel
theorem dX3_readPart_72 : decode cX3_readPart 72 = .ok (.iload_n 3, 1) := by decide +kernel
theorem dX3_readPart_73 : decode cX3_readPart 73 = .ok (.ireturn, 1) := by decide +kernel
theorem dX3_readPart_74 : decode cX3_readPart 74 = .ok (.aload_n 0, 1) := by decide +kernel
theorem dX3_readPart_75 : decode cX3_readPart 75 = .ok (.iload_n 1, 1) := by decide +kernel
theorem dX3_readPart_76 : decode cX3_readPart 76 = .ok (.iconst 1, 1) := by decide +kernel
theorem dX3_readPart_77 : decode cX3_readPart 77 = .ok (.iadd, 1) := by decide +kernel
theorem dX3_readPart_78 : decode cX3_readPart 78 = .ok (.invokevirtual 63, 3) := by decide +kernel
theorem dX3_readPart_81 : decode cX3_readPart 81 = .ok (.ifCond .eq 16, 3) := by decide +kernel
theorem dX3_readPart_84 : decode cX3_readPart 84 = .ok (.aload_n 0, 1) := by decide +kernel
theorem dX3_readPart_85 : decode cX3_readPart 85 = .ok (.ldc 91, 2) := by decide +kernel
theorem dX3_readPart_87 : decode cX3_readPart 87 = .ok (.invokevirtual 48, 3) := by decide +kernel
theorem dX3_readPart_90 : decode cX3_readPart 90 = .ok (.ifCond .eq 7, 3) := by decide +kernel
theorem dX3_readPart_93 : decode cX3_readPart 93 = .ok (.iconst 1, 1) := by decide +kernel
theorem dX3_readPart_94 : decode cX3_readPart 94 = .ok (.goto 4, 3) := by decide +kernel
theorem dX3_readPart_97 : decode cX3_readPart 97 = .ok (.iconst 0, 1) := by decide +kernel
theorem dX3_readPart_98 : decode cX3_readPart 98 = .ok (.ireturn, 1) := by decide +kernel
theorem dX3_readTest_0 : decode cX3_readTest 0 = .ok (.aload_n 0, 1) := by decide +kernel
theorem dX3_readTest_1 : decode cX3_readTest 1 = .ok (.getfield 15, 3) := by decide +kernel
theorem dX3_readTest_4 : decode cX3_readTest 4 = .ok (.invokestatic 93, 3) := by decide +kernel
theorem dX3_readTest_7 : decode cX3_readTest 7 = .ok (.istore_n 1, 1) := by decide +kernel
theorem dX3_readTest_8 : decode cX3_readTest 8 = .ok (.iload_n 1, 1) := by decide +kernel
theorem dX3_readTest_9 : decode cX3_readTest 9 = .ok (.iconst (-1), 1) := by decide +kernel
theorem dX3_readTest_10 : decode cX3_readTest 10 = .ok (.if_icmp .ne 5, 3) := by decide +kernel
theorem dX3_readTest_13 : decode cX3_readTest 13 = .ok (.iconst 0, 1) := by decide +kernel
theorem dX3_readTest_14 : decode cX3_readTest 14 = .ok (.ireturn, 1) := by decide +kernel
theorem dX3_readTest_15 : decode cX3_readTest 15 = .ok (.aload_n 0, 1) := by decide +kernel
theorem dX3_readTest_16 : decode cX3_readTest 16 = .ok (.invokevirtual 35, 3) := by decide +kernel
theorem dX3_readTest_19 : decode cX3_readTest 19 = .ok (.aload_n 0, 1) := by decide +kernel
theorem dX3_readTest_20 : decode cX3_readTest 20 = .ok (.getfield 15, 3) := by decide +kernel
theorem dX3_readTest_23 : decode cX3_readTest 23 = .ok (.istore_n 2, 1) := by decide +kernel
theorem dX3_readTest_24 : decode cX3_readTest 24 = .ok (.iload_n 2, 1) := by decide +kernel
theorem dX3_readTest_25 : decode cX3_readTest 25 = .ok (.bipush 60, 2) := by decide +kernel
theorem dX3_readTest_27 : decode cX3_readTest 27 = .ok (.if_icmp .eq 17, 3) := by decide +kernel
theorem dX3_readTest_30 : decode cX3_readTest 30 = .ok (.iload_n 2, 1) := by decide +kernel
theorem dX3_readTest_31 : decode cX3_readTest 31 = .ok (.bipush 61, 2) := by decide +kernel
theorem dX3_readTest_33 : decode cX3_readTest 33 = .ok (.if_icmp .eq 11, 3) := by decide +kernel
theorem dX3_readTest_36 : decode cX3_readTest 36 = .ok (.iload_n 2, 1) := by decide +kernel
theorem dX3_readTest_37 : decode cX3_readTest 37 = .ok (.bipush 62, 2) := by decide +kernel
theorem dX3_readTest_39 : decode cX3_readTest 39 = .ok (.if_icmp .eq 5, 3) := by decide +kernel
theorem dX3_readTest_42 : decode cX3_readTest 42 = .ok (.iconst 0, 1) := by decide +kernel
theorem dX3_readTest_43 : decode cX3_readTest 43 = .ok (.ireturn, 1) := by decide +kernel
theorem dX3_readTest_44 : decode cX3_readTest 44 = .ok (.aload_n 0, 1) := by decide +kernel
theorem dX3_readTest_45 : decode cX3_readTest 45 = .ok (.invokevirtual 35, 3) := by decide +kernel
theorem dX3_readTest_48 : decode cX3_readTest 48 = .ok (.aload_n 0, 1) := by decide +kernel
theorem dX3_readTest_49 : decode cX3_readTest 49 = .ok (.invokevirtual 52, 3) := by decide +kernel
theorem dX3_readTest_52 : decode cX3_readTest 52 = .ok (.istore_n 3, 1) := by decide +kernel
theorem dX3_readTest_53 : decode cX3_readTest 53 = .ok (.aload_n 0, 1) := by decide +kernel
theorem dX3_readTest_54 : decode cX3_readTest 54 = .ok (.getfield 22, 3) := by decide +kernel
theorem dX3_readTest_57 : decode cX3_readTest 57 = .ok (.iload_n 1, 1) := by decide +kernel
theorem dX3_readTest_58 : decode cX3_readTest 58 = .ok (.iload_n 2, 1) := by decide +kernel
theorem dX3_readTest_59 : decode cX3_readTest 59 = .ok (.aload_n 0, 1) := by decide +kernel
theorem dX3_readTest_60 : decode cX3_readTest 60 = .ok (.getfield 55, 3) := by decide +kernel
theorem dX3_readTest_63 : decode cX3_readTest 63 = .ok (.invokevirtual 84, 3) := by decide +kernel
theorem dX3_readTest_66 : decode cX3_readTest 66 = .ok (.iload_n 3, 1) := by decide +kernel
theorem dX3_readTest_67 : decode cX3_readTest 67 = .ok (.ireturn, 1) := by decide +kernel
theorem dX3_whatOf_0 : decode cX3_whatOf 0 = .ok (.iload_n 0, 1) := by decide +kernel
theorem dX3_whatOf_1 : decode cX3_whatOf 1 = .ok (.lookupswitch 71 #[(100, 69), (107, 61), (108, 65), (112, 59), (118, 63), (121, 67)], 59) := by decide +kernel
theorem dX3_whatOf_60 : decode cX3_whatOf 60 = .ok (.iconst 0, 1) := by decide +kernel
theorem dX3_whatOf_61 : decode cX3_whatOf 61 = .ok (.ireturn, 1) := by decide +kernel
theorem dX3_whatOf_62 : decode cX3_whatOf 62 = .ok (.iconst 1, 1) := by decide +kernel
theorem dX3_whatOf_63 : decode cX3_whatOf 63 = .ok (.ireturn, 1) := by decide +kernel
theorem dX3_whatOf_64 : decode cX3_whatOf 64 = .ok (.iconst 2, 1) := by decide +kernel
theorem dX3_whatOf_65 : decode cX3_whatOf 65 = .ok (.ireturn, 1) := by decide +kernel
theorem dX3_whatOf_66 : decode cX3_whatOf 66 = .ok (.iconst 3, 1) := by decide +kernel
theorem dX3_whatOf_67 : decode cX3_whatOf 67 = .ok (.ireturn, 1) := by decide +kernel
theorem dX3_whatOf_68 : decode cX3_whatOf 68 = .ok (.iconst 4, 1) := by decide +kernel
theorem dX3_whatOf_69 : decode cX3_whatOf 69 = .ok (.ireturn, 1) := by decide +kernel
theorem dX3_whatOf_70 : decode cX3_whatOf 70 = .ok (.iconst 5, 1) := by decide +kernel
theorem dX3_whatOf_71 : decode cX3_whatOf 71 = .ok (.ireturn, 1) := by decide +kernel
theorem dX3_whatOf_72 : decode cX3_whatOf 72 = .ok (.iconst (-1), 1) := by decide +kernel
theorem dX3_whatOf_73 : decode cX3_whatOf 73 = .ok (.ireturn, 1) := by decide +kernel
theorem dX4_init_0 : decode cX4_init 0 = .ok (.aload_n 0, 1) := by decide +kernel
theorem dX4_init_1 : decode cX4_init 1 = .ok (.invokespecial 3, 3) := by decide +kernel
theorem dX4_init_4 : decode cX4_init 4 = .ok (.aload_n 0, 1) := by decide +kernel
theorem dX4_init_5 : decode cX4_init 5 = .ok (.bipush 60, 2) := by decide +kernel
theorem dX4_init_7 : decode cX4_init 7 = .ok (.newarray .int, 2) := by decide +kernel
theorem dX4_init_9 : decode cX4_init 9 = .ok (.putfield 9, 3) := by decide +kernel
theorem dX4_init_12 : decode cX4_init 12 = .ok (.aload_n 0, 1) := by decide +kernel
theorem dX4_init_13 : decode cX4_init 13 = .ok (.bipush 6, 2) := by decide +kernel
theorem dX4_init_15 : decode cX4_init 15 = .ok (.newarray .int, 2) := by decide +kernel
theorem dX4_init_17 : decode cX4_init 17 = .ok (.putfield 17, 3) := by decide +kernel
theorem dX4_init_20 : decode cX4_init 20 = .ok (.aload_n 0, 1) := by decide +kernel
theorem dX4_init_21 : decode cX4_init 21 = .ok (.bipush 6, 2) := by decide +kernel
theorem dX4_init_23 : decode cX4_init 23 = .ok (.newarray .int, 2) := by decide +kernel
theorem dX4_init_25 : decode cX4_init 25 = .ok (.putfield 20, 3) := by decide +kernel
theorem dX4_init_28 : decode cX4_init 28 = .ok (.return_, 1) := by decide +kernel
theorem dX4_look_0 : decode cX4_look 0 = .ok (.aload_n 0, 1) := by decide +kernel
theorem dX4_look_1 : decode cX4_look 1 = .ok (.getfield 17, 3) := by decide +kernel
theorem dX4_look_4 : decode cX4_look 4 = .ok (.iconst 5, 1) := by decide +kernel
theorem dX4_look_5 : decode cX4_look 5 = .ok (.aload_n 1, 1) := by decide +kernel
theorem dX4_look_6 : decode cX4_look 6 = .ok (.getfield 23, 3) := by decide +kernel
theorem dX4_look_9 : decode cX4_look 9 = .ok (.bipush 10, 2) := by decide +kernel
theorem dX4_look_11 : decode cX4_look 11 = .ok (.irem, 1) := by decide +kernel
theorem dX4_look_12 : decode cX4_look 12 = .ok (.invokestatic 29, 3) := by decide +kernel
theorem dX4_look_15 : decode cX4_look 15 = .ok (.iconst 0, 1) := by decide +kernel
theorem dX4_look_16 : decode cX4_look 16 = .ok (.istore_n 3, 1) := by decide +kernel
theorem dX4_look_17 : decode cX4_look 17 = .ok (.iload_n 3, 1) := by decide +kernel
theorem dX4_look_18 : decode cX4_look 18 = .ok (.aload_n 1, 1) := by decide +kernel
theorem dX4_look_19 : decode cX4_look 19 = .ok (.getfield 33, 3) := by decide +kernel
theorem dX4_look_22 : decode cX4_look 22 = .ok (.if_icmp .ge 125, 3) := by decide +kernel
theorem dX4_look_25 : decode cX4_look 25 = .ok (.aload_n 0, 1) := by decide +kernel
theorem dX4_look_26 : decode cX4_look 26 = .ok (.getfield 17, 3) := by decide +kernel
theorem dX4_look_29 : decode cX4_look 29 = .ok (.iconst 0, 1) := by decide +kernel
theorem dX4_look_30 : decode cX4_look 30 = .ok (.iload_n 3, 1) := by decide +kernel
theorem dX4_look_31 : decode cX4_look 31 = .ok (.invokestatic 29, 3) := by decide +kernel
theorem dX4_look_34 : decode cX4_look 34 = .ok (.aload_n 0, 1) := by decide +kernel
theorem dX4_look_35 : decode cX4_look 35 = .ok (.getfield 17, 3) := by decide +kernel
theorem dX4_look_38 : decode cX4_look 38 = .ok (.iconst 1, 1) := by decide +kernel
theorem dX4_look_39 : decode cX4_look 39 = .ok (.aload_n 1, 1) := by decide +kernel
theorem dX4_look_40 : decode cX4_look 40 = .ok (.getfield 36, 3) := by decide +kernel
theorem dX4_look_43 : decode cX4_look 43 = .ok (.iload_n 3, 1) := by decide +kernel
theorem dX4_look_44 : decode cX4_look 44 = .ok (.invokestatic 39, 3) := by decide +kernel
theorem dX4_look_47 : decode cX4_look 47 = .ok (.invokestatic 29, 3) := by decide +kernel
theorem dX4_look_50 : decode cX4_look 50 = .ok (.aload_n 0, 1) := by decide +kernel
theorem dX4_look_51 : decode cX4_look 51 = .ok (.getfield 17, 3) := by decide +kernel
theorem dX4_look_54 : decode cX4_look 54 = .ok (.iconst 2, 1) := by decide +kernel
theorem dX4_look_55 : decode cX4_look 55 = .ok (.aload_n 1, 1) := by decide +kernel
theorem dX4_look_56 : decode cX4_look 56 = .ok (.getfield 43, 3) := by decide +kernel
theorem dX4_look_59 : decode cX4_look 59 = .ok (.iload_n 3, 1) := by decide +kernel
theorem dX4_look_60 : decode cX4_look 60 = .ok (.invokestatic 39, 3) := by decide +kernel
theorem dX4_look_63 : decode cX4_look 63 = .ok (.invokestatic 29, 3) := by decide +kernel
theorem dX4_look_66 : decode cX4_look 66 = .ok (.aload_n 0, 1) := by decide +kernel
theorem dX4_look_67 : decode cX4_look 67 = .ok (.getfield 17, 3) := by decide +kernel
theorem dX4_look_70 : decode cX4_look 70 = .ok (.iconst 3, 1) := by decide +kernel
theorem dX4_look_71 : decode cX4_look 71 = .ok (.aload_n 1, 1) := by decide +kernel
theorem dX4_look_72 : decode cX4_look 72 = .ok (.getfield 46, 3) := by decide +kernel
theorem dX4_look_75 : decode cX4_look 75 = .ok (.iload_n 3, 1) := by decide +kernel
theorem dX4_look_76 : decode cX4_look 76 = .ok (.invokestatic 39, 3) := by decide +kernel
theorem dX4_look_79 : decode cX4_look 79 = .ok (.invokestatic 29, 3) := by decide +kernel
theorem dX4_look_82 : decode cX4_look 82 = .ok (.iconst 0, 1) := by decide +kernel
theorem dX4_look_83 : decode cX4_look 83 = .ok (.istore 4, 2) := by decide +kernel
theorem dX4_look_85 : decode cX4_look 85 = .ok (.iload 4, 2) := by decide +kernel
theorem dX4_look_87 : decode cX4_look 87 = .ok (.bipush 10, 2) := by decide +kernel
theorem dX4_look_89 : decode cX4_look 89 = .ok (.if_icmp .ge 52, 3) := by decide +kernel
theorem dX4_look_92 : decode cX4_look 92 = .ok (.aload_n 0, 1) := by decide +kernel
theorem dX4_look_93 : decode cX4_look 93 = .ok (.getfield 17, 3) := by decide +kernel
theorem dX4_look_96 : decode cX4_look 96 = .ok (.iconst 4, 1) := by decide +kernel
theorem dX4_look_97 : decode cX4_look 97 = .ok (.iload 4, 2) := by decide +kernel
theorem dX4_look_99 : decode cX4_look 99 = .ok (.invokestatic 29, 3) := by decide +kernel
theorem dX4_look_102 : decode cX4_look 102 = .ok (.aload_n 2, 1) := by decide +kernel
theorem dX4_look_103 : decode cX4_look 103 = .ok (.aload_n 0, 1) := by decide +kernel
theorem dX4_look_104 : decode cX4_look 104 = .ok (.getfield 17, 3) := by decide +kernel
theorem dX4_look_107 : decode cX4_look 107 = .ok (.invokevirtual 49, 3) := by decide +kernel
theorem dX4_look_110 : decode cX4_look 110 = .ok (.istore 5, 2) := by decide +kernel
theorem dX4_look_112 : decode cX4_look 112 = .ok (.aload_n 0, 1) := by decide +kernel
theorem dX4_look_113 : decode cX4_look 113 = .ok (.getfield 9, 3) := by decide +kernel
theorem dX4_look_116 : decode cX4_look 116 = .ok (.iload_n 3, 1) := by decide +kernel
theorem dX4_look_117 : decode cX4_look 117 = .ok (.bipush 10, 2) := by decide +kernel
theorem dX4_look_119 : decode cX4_look 119 = .ok (.imul, 1) := by decide +kernel
theorem dX4_look_120 : decode cX4_look 120 = .ok (.iload 4, 2) := by decide +kernel
theorem dX4_look_122 : decode cX4_look 122 = .ok (.iadd, 1) := by decide +kernel
theorem dX4_look_123 : decode cX4_look 123 = .ok (.aload_n 1, 1) := by decide +kernel
theorem dX4_look_124 : decode cX4_look 124 = .ok (.iload_n 3, 1) := by decide +kernel
theorem dX4_look_125 : decode cX4_look 125 = .ok (.iload 4, 2) := by decide +kernel
theorem dX4_look_127 : decode cX4_look 127 = .ok (.iload 5, 2) := by decide +kernel
theorem dX4_look_129 : decode cX4_look 129 = .ok (.invokestatic 53, 3) := by decide +kernel
theorem dX4_look_132 : decode cX4_look 132 = .ok (.invokestatic 29, 3) := by decide +kernel
theorem dX4_look_135 : decode cX4_look 135 = .ok (.iinc 4 1, 3) := by decide +kernel
theorem dX4_look_138 : decode cX4_look 138 = .ok (.goto (-53), 3) := by decide +kernel
theorem dX4_look_141 : decode cX4_look 141 = .ok (.iinc 3 1, 3) := by decide +kernel
theorem dX4_look_144 : decode cX4_look 144 = .ok (.goto (-127), 3) := by decide +kernel
theorem dX4_look_147 : decode cX4_look 147 = .ok (.return_, 1) := by decide +kernel
theorem dX4_rateBySum_0 : decode cX4_rateBySum 0 = .ok (.aload_n 0, 1) := by decide +kernel
theorem dX4_rateBySum_1 : decode cX4_rateBySum 1 = .ok (.getfield 43, 3) := by decide +kernel
theorem dX4_rateBySum_4 : decode cX4_rateBySum 4 = .ok (.iload_n 1, 1) := by decide +kernel
theorem dX4_rateBySum_5 : decode cX4_rateBySum 5 = .ok (.invokestatic 39, 3) := by decide +kernel
theorem dX4_rateBySum_8 : decode cX4_rateBySum 8 = .ok (.istore 4, 2) := by decide +kernel
theorem dX4_rateBySum_10 : decode cX4_rateBySum 10 = .ok (.iload_n 2, 1) := by decide +kernel
theorem dX4_rateBySum_11 : decode cX4_rateBySum 11 = .ok (.iconst 5, 1) := by decide +kernel
theorem dX4_rateBySum_12 : decode cX4_rateBySum 12 = .ok (.if_icmp .lt 7, 3) := by decide +kernel
theorem dX4_rateBySum_15 : decode cX4_rateBySum 15 = .ok (.iconst 1, 1) := by decide +kernel
theorem dX4_rateBySum_16 : decode cX4_rateBySum 16 = .ok (.goto 4, 3) := by decide +kernel
theorem dX4_rateBySum_19 : decode cX4_rateBySum 19 = .ok (.iload_n 3, 1) := by decide +kernel
theorem dX4_rateBySum_20 : decode cX4_rateBySum 20 = .ok (.istore 5, 2) := by decide +kernel
theorem dX4_rateBySum_22 : decode cX4_rateBySum 22 = .ok (.aload_n 0, 1) := by decide +kernel
theorem dX4_rateBySum_23 : decode cX4_rateBySum 23 = .ok (.getfield 36, 3) := by decide +kernel
theorem dX4_rateBySum_26 : decode cX4_rateBySum 26 = .ok (.iload_n 1, 1) := by decide +kernel
theorem dX4_rateBySum_27 : decode cX4_rateBySum 27 = .ok (.invokestatic 39, 3) := by decide +kernel
theorem dX4_rateBySum_30 : decode cX4_rateBySum 30 = .ok (.tableswitch 93 1 6 #[38, 43, 47, 50, 69, 75], 38) := by decide +kernel
theorem dX4_rateBySum_68 : decode cX4_rateBySum 68 = .ok (.iload_n 3, 1) := by decide +kernel
theorem dX4_rateBySum_69 : decode cX4_rateBySum 69 = .ok (.iload 4, 2) := by decide +kernel
theorem dX4_rateBySum_71 : decode cX4_rateBySum 71 = .ok (.iadd, 1) := by decide +kernel
theorem dX4_rateBySum_72 : decode cX4_rateBySum 72 = .ok (.ireturn, 1) := by decide +kernel
theorem dX4_rateBySum_73 : decode cX4_rateBySum 73 = .ok (.iload_n 3, 1) := by decide +kernel
theorem dX4_rateBySum_74 : decode cX4_rateBySum 74 = .ok (.iconst 2, 1) := by decide +kernel
theorem dX4_rateBySum_75 : decode cX4_rateBySum 75 = .ok (.idiv, 1) := by decide +kernel
theorem dX4_rateBySum_76 : decode cX4_rateBySum 76 = .ok (.ireturn, 1) := by decide +kernel
theorem dX4_rateBySum_77 : decode cX4_rateBySum 77 = .ok (.iload 5, 2) := by decide +kernel
theorem dX4_rateBySum_79 : decode cX4_rateBySum 79 = .ok (.ireturn, 1) := by decide +kernel
theorem dX4_rateBySum_80 : decode cX4_rateBySum 80 = .ok (.aload_n 0, 1) := by decide +kernel
theorem dX4_rateBySum_81 : decode cX4_rateBySum 81 = .ok (.getfield 23, 3) := by decide +kernel
theorem dX4_rateBySum_84 : decode cX4_rateBySum 84 = .ok (.bipush 7, 2) := by decide +kernel
theorem dX4_rateBySum_86 : decode cX4_rateBySum 86 = .ok (.irem, 1) := by decide +kernel
theorem dX4_rateBySum_87 : decode cX4_rateBySum 87 = .ok (.ifCond .ne 7, 3) := by decide +kernel
theorem dX4_rateBySum_90 : decode cX4_rateBySum 90 = .ok (.iconst 0, 1) := by decide +kernel
theorem dX4_rateBySum_91 : decode cX4_rateBySum 91 = .ok (.goto 7, 3) := by decide +kernel
theorem dX4_rateBySum_94 : decode cX4_rateBySum 94 = .ok (.iload_n 3, 1) := by decide +kernel
theorem dX4_rateBySum_95 : decode cX4_rateBySum 95 = .ok (.iload 4, 2) := by decide +kernel
theorem dX4_rateBySum_97 : decode cX4_rateBySum 97 = .ok (.iadd, 1) := by decide +kernel
theorem dX4_rateBySum_98 : decode cX4_rateBySum 98 = .ok (.ireturn, 1) := by decide +kernel
theorem dX4_rateBySum_99 : decode cX4_rateBySum 99 = .ok (.iload_n 3, 1) := by decide +kernel
theorem dX4_rateBySum_100 : decode cX4_rateBySum 100 = .ok (.iconst 2, 1) := by decide +kernel
theorem dX4_rateBySum_101 : decode cX4_rateBySum 101 = .ok (.idiv, 1) := by decide +kernel
theorem dX4_rateBySum_102 : decode cX4_rateBySum 102 = .ok (.iconst 5, 1) := by decide +kernel
theorem dX4_rateBySum_103 : decode cX4_rateBySum 103 = .ok (.iadd, 1) := by decide +kernel
theorem dX4_rateBySum_104 : decode cX4_rateBySum 104 = .ok (.ireturn, 1) := by decide +kernel
theorem dX4_rateBySum_105 : decode cX4_rateBySum 105 = .ok (.iload 5, 2) := by decide +kernel
theorem dX4_rateBySum_107 : decode cX4_rateBySum 107 = .ok (.aload_n 0, 1) := by decide +kernel
theorem dX4_rateBySum_108 : decode cX4_rateBySum 108 = .ok (.getfield 57, 3) := by decide +kernel
theorem dX4_rateBySum_111 : decode cX4_rateBySum 111 = .ok (.iload_n 1, 1) := by decide +kernel
theorem dX4_rateBySum_112 : decode cX4_rateBySum 112 = .ok (.iconst 4, 1) := by decide +kernel
theorem dX4_rateBySum_113 : decode cX4_rateBySum 113 = .ok (.imul, 1) := by decide +kernel
theorem dX4_rateBySum_114 : decode cX4_rateBySum 114 = .ok (.iload_n 2, 1) := by decide +kernel
theorem dX4_rateBySum_115 : decode cX4_rateBySum 115 = .ok (.iconst 4, 1) := by decide +kernel
theorem dX4_rateBySum_116 : decode cX4_rateBySum 116 = .ok (.irem, 1) := by decide +kernel
theorem dX4_rateBySum_117 : decode cX4_rateBySum 117 = .ok (.iadd, 1) := by decide +kernel
theorem dX4_rateBySum_118 : decode cX4_rateBySum 118 = .ok (.invokestatic 39, 3) := by decide +kernel
theorem dX4_rateBySum_121 : decode cX4_rateBySum 121 = .ok (.iadd, 1) := by decide +kernel
theorem dX4_rateBySum_122 : decode cX4_rateBySum 122 = .ok (.ireturn, 1) := by decide +kernel
theorem dX4_rateBySum_123 : decode cX4_rateBySum 123 = .ok (.iload_n 3, 1) := by decide +kernel
theorem dX4_rateBySum_124 : decode cX4_rateBySum 124 = .ok (.ireturn, 1) := by decide +kernel
theorem dX4_rate_0 : decode cX4_rate 0 = .ok (.aload_n 0, 1) := by decide +kernel
theorem dX4_rate_1 : decode cX4_rate 1 = .ok (.getfield 9, 3) := by decide +kernel
theorem dX4_rate_4 : decode cX4_rate 4 = .ok (.iload_n 1, 1) := by decide +kernel
theorem dX4_rate_5 : decode cX4_rate 5 = .ok (.bipush 10, 2) := by decide +kernel
theorem dX4_rate_7 : decode cX4_rate 7 = .ok (.imul, 1) := by decide +kernel
theorem dX4_rate_8 : decode cX4_rate 8 = .ok (.iload_n 2, 1) := by decide +kernel
theorem dX4_rate_9 : decode cX4_rate 9 = .ok (.iadd, 1) := by decide +kernel
theorem dX4_rate_10 : decode cX4_rate 10 = .ok (.invokestatic 39, 3) := by decide +kernel
theorem dX4_rate_13 : decode cX4_rate 13 = .ok (.ireturn, 1) := by decide +kernel
theorem dX4_share_0 : decode cX4_share 0 = .ok (.aload_n 0, 1) := by decide +kernel
theorem dX4_share_1 : decode cX4_share 1 = .ok (.aload_n 1, 1) := by decide +kernel
theorem dX4_share_2 : decode cX4_share 2 = .ok (.iload_n 2, 1) := by decide +kernel
theorem dX4_share_3 : decode cX4_share 3 = .ok (.aload_n 1, 1) := by decide +kernel
theorem dX4_share_4 : decode cX4_share 4 = .ok (.getfield 60, 3) := by decide +kernel
theorem dX4_share_7 : decode cX4_share 7 = .ok (.iload_n 2, 1) := by decide +kernel
theorem dX4_share_8 : decode cX4_share 8 = .ok (.invokestatic 39, 3) := by decide +kernel
theorem dX4_share_11 : decode cX4_share 11 = .ok (.iload_n 3, 1) := by decide +kernel
theorem dX4_share_12 : decode cX4_share 12 = .ok (.iload 4, 2) := by decide +kernel
theorem dX4_share_14 : decode cX4_share 14 = .ok (.invokevirtual 63, 3) := by decide +kernel
theorem dX4_share_17 : decode cX4_share 17 = .ok (.ireturn, 1) := by decide +kernel
theorem dX4_pays_0 : decode cX4_pays 0 = .ok (.iconst 0, 1) := by decide +kernel
theorem dX4_pays_1 : decode cX4_pays 1 = .ok (.istore 6, 2) := by decide +kernel
theorem dX4_pays_3 : decode cX4_pays 3 = .ok (.iconst (-1), 1) := by decide +kernel
theorem dX4_pays_4 : decode cX4_pays 4 = .ok (.istore 7, 2) := by decide +kernel
theorem dX4_pays_6 : decode cX4_pays 6 = .ok (.iconst 0, 1) := by decide +kernel
theorem dX4_pays_7 : decode cX4_pays 7 = .ok (.istore 8, 2) := by decide +kernel
theorem dX4_pays_9 : decode cX4_pays 9 = .ok (.iconst 0, 1) := by decide +kernel
theorem dX4_pays_10 : decode cX4_pays 10 = .ok (.istore 9, 2) := by decide +kernel
theorem dX4_pays_12 : decode cX4_pays 12 = .ok (.iload 9, 2) := by decide +kernel
theorem dX4_pays_14 : decode cX4_pays 14 = .ok (.aload_n 1, 1) := by decide +kernel
theorem dX4_pays_15 : decode cX4_pays 15 = .ok (.getfield 33, 3) := by decide +kernel
theorem dX4_pays_18 : decode cX4_pays 18 = .ok (.if_icmp .ge 98, 3) := by decide +kernel
theorem dX4_pays_21 : decode cX4_pays 21 = .ok (.iload 9, 2) := by decide +kernel
theorem dX4_pays_23 : decode cX4_pays 23 = .ok (.iload_n 2, 1) := by decide +kernel
theorem dX4_pays_24 : decode cX4_pays 24 = .ok (.if_icmp .ne 7, 3) := by decide +kernel
theorem dX4_pays_27 : decode cX4_pays 27 = .ok (.iload_n 3, 1) := by decide +kernel
theorem dX4_pays_28 : decode cX4_pays 28 = .ok (.goto 12, 3) := by decide +kernel
theorem dX4_pays_31 : decode cX4_pays 31 = .ok (.aload_n 1, 1) := by decide +kernel
theorem dX4_pays_32 : decode cX4_pays 32 = .ok (.getfield 60, 3) := by decide +kernel
theorem dX4_pays_35 : decode cX4_pays 35 = .ok (.iload 9, 2) := by decide +kernel
theorem dX4_pays_37 : decode cX4_pays 37 = .ok (.invokestatic 39, 3) := by decide +kernel
theorem dX4_pays_40 : decode cX4_pays 40 = .ok (.istore 10, 2) := by decide +kernel
theorem dX4_pays_42 : decode cX4_pays 42 = .ok (.iload 5, 2) := by decide +kernel
theorem dX4_pays_44 : decode cX4_pays 44 = .ok (.iload 9, 2) := by decide +kernel
theorem dX4_pays_46 : decode cX4_pays 46 = .ok (.ishr, 1) := by decide +kernel
theorem dX4_pays_47 : decode cX4_pays 47 = .ok (.iconst 1, 1) := by decide +kernel
theorem dX4_pays_48 : decode cX4_pays 48 = .ok (.iand, 1) := by decide +kernel
theorem dX4_pays_49 : decode cX4_pays 49 = .ok (.ifCond .eq 7, 3) := by decide +kernel
theorem dX4_pays_52 : decode cX4_pays 52 = .ok (.iconst 0, 1) := by decide +kernel
theorem dX4_pays_53 : decode cX4_pays 53 = .ok (.goto 22, 3) := by decide +kernel
theorem dX4_pays_56 : decode cX4_pays 56 = .ok (.iconst 0, 1) := by decide +kernel
theorem dX4_pays_57 : decode cX4_pays 57 = .ok (.aload_n 0, 1) := by decide +kernel
theorem dX4_pays_58 : decode cX4_pays 58 = .ok (.getfield 9, 3) := by decide +kernel
theorem dX4_pays_61 : decode cX4_pays 61 = .ok (.iload 9, 2) := by decide +kernel
theorem dX4_pays_63 : decode cX4_pays 63 = .ok (.bipush 10, 2) := by decide +kernel
theorem dX4_pays_65 : decode cX4_pays 65 = .ok (.imul, 1) := by decide +kernel
theorem dX4_pays_66 : decode cX4_pays 66 = .ok (.iload 10, 2) := by decide +kernel
theorem dX4_pays_68 : decode cX4_pays 68 = .ok (.iadd, 1) := by decide +kernel
theorem dX4_pays_69 : decode cX4_pays 69 = .ok (.invokestatic 39, 3) := by decide +kernel
theorem dX4_pays_72 : decode cX4_pays 72 = .ok (.invokestatic 67, 3) := by decide +kernel
theorem dX4_pays_75 : decode cX4_pays 75 = .ok (.istore 11, 2) := by decide +kernel
theorem dX4_pays_77 : decode cX4_pays 77 = .ok (.aload_n 0, 1) := by decide +kernel
theorem dX4_pays_78 : decode cX4_pays 78 = .ok (.getfield 20, 3) := by decide +kernel
theorem dX4_pays_81 : decode cX4_pays 81 = .ok (.iload 9, 2) := by decide +kernel
theorem dX4_pays_83 : decode cX4_pays 83 = .ok (.iload 11, 2) := by decide +kernel
theorem dX4_pays_85 : decode cX4_pays 85 = .ok (.invokestatic 29, 3) := by decide +kernel
theorem dX4_pays_88 : decode cX4_pays 88 = .ok (.iload 6, 2) := by decide +kernel
theorem dX4_pays_90 : decode cX4_pays 90 = .ok (.iload 11, 2) := by decide +kernel
theorem dX4_pays_92 : decode cX4_pays 92 = .ok (.iadd, 1) := by decide +kernel
theorem dX4_pays_93 : decode cX4_pays 93 = .ok (.istore 6, 2) := by decide +kernel
theorem dX4_pays_95 : decode cX4_pays 95 = .ok (.iload 11, 2) := by decide +kernel
theorem dX4_pays_97 : decode cX4_pays 97 = .ok (.iload 8, 2) := by decide +kernel
theorem dX4_pays_99 : decode cX4_pays 99 = .ok (.if_icmp .le 11, 3) := by decide +kernel
theorem dX4_pays_102 : decode cX4_pays 102 = .ok (.iload 11, 2) := by decide +kernel
theorem dX4_pays_104 : decode cX4_pays 104 = .ok (.istore 8, 2) := by decide +kernel
theorem dX4_pays_106 : decode cX4_pays 106 = .ok (.iload 9, 2) := by decide +kernel
theorem dX4_pays_108 : decode cX4_pays 108 = .ok (.istore 7, 2) := by decide +kernel
theorem dX4_pays_110 : decode cX4_pays 110 = .ok (.iinc 9 1, 3) := by decide +kernel
theorem dX4_pays_113 : decode cX4_pays 113 = .ok (.goto (-101), 3) := by decide +kernel
theorem dX4_pays_116 : decode cX4_pays 116 = .ok (.iload 6, 2) := by decide +kernel
theorem dX4_pays_118 : decode cX4_pays 118 = .ok (.ifCond .gt 5, 3) := by decide +kernel
theorem dX4_pays_121 : decode cX4_pays 121 = .ok (.iconst 0, 1) := by decide +kernel
theorem dX4_pays_122 : decode cX4_pays 122 = .ok (.ireturn, 1) := by decide +kernel
theorem dX4_pays_123 : decode cX4_pays 123 = .ok (.iload_n 2, 1) := by decide +kernel
theorem dX4_pays_124 : decode cX4_pays 124 = .ok (.iload 7, 2) := by decide +kernel
theorem dX4_pays_126 : decode cX4_pays 126 = .ok (.if_icmp .eq 18, 3) := by decide +kernel
theorem dX4_pays_129 : decode cX4_pays 129 = .ok (.iload 4, 2) := by decide +kernel
theorem dX4_pays_131 : decode cX4_pays 131 = .ok (.aload_n 0, 1) := by decide +kernel
theorem dX4_pays_132 : decode cX4_pays 132 = .ok (.getfield 20, 3) := by decide +kernel
theorem dX4_pays_135 : decode cX4_pays 135 = .ok (.iload_n 2, 1) := by decide +kernel
theorem dX4_pays_136 : decode cX4_pays 136 = .ok (.invokestatic 39, 3) := by decide +kernel
theorem dX4_pays_139 : decode cX4_pays 139 = .ok (.imul, 1) := by decide +kernel
theorem dX4_pays_140 : decode cX4_pays 140 = .ok (.iload 6, 2) := by decide +kernel
theorem dX4_pays_142 : decode cX4_pays 142 = .ok (.idiv, 1) := by decide +kernel
theorem dX4_pays_143 : decode cX4_pays 143 = .ok (.ireturn, 1) := by decide +kernel
theorem dX4_pays_144 : decode cX4_pays 144 = .ok (.iload 4, 2) := by decide +kernel
theorem dX4_pays_146 : decode cX4_pays 146 = .ok (.istore 9, 2) := by decide +kernel
theorem dX4_pays_148 : decode cX4_pays 148 = .ok (.iconst 0, 1) := by decide +kernel
theorem dX4_pays_149 : decode cX4_pays 149 = .ok (.istore 10, 2) := by decide +kernel
theorem dX4_pays_151 : decode cX4_pays 151 = .ok (.iload 10, 2) := by decide +kernel
theorem dX4_pays_153 : decode cX4_pays 153 = .ok (.aload_n 1, 1) := by decide +kernel
theorem dX4_pays_154 : decode cX4_pays 154 = .ok (.getfield 33, 3) := by decide +kernel
theorem dX4_pays_157 : decode cX4_pays 157 = .ok (.if_icmp .ge 40, 3) := by decide +kernel
theorem dX4_pays_160 : decode cX4_pays 160 = .ok (.iload 9, 2) := by decide +kernel
theorem dX4_pays_162 : decode cX4_pays 162 = .ok (.iload 10, 2) := by decide +kernel
theorem dX4_pays_164 : decode cX4_pays 164 = .ok (.iload 7, 2) := by decide +kernel
theorem dX4_pays_166 : decode cX4_pays 166 = .ok (.if_icmp .ne 7, 3) := by decide +kernel
theorem dX4_pays_169 : decode cX4_pays 169 = .ok (.iconst 0, 1) := by decide +kernel
theorem dX4_pays_170 : decode cX4_pays 170 = .ok (.goto 18, 3) := by decide +kernel
theorem dX4_pays_173 : decode cX4_pays 173 = .ok (.iload 4, 2) := by decide +kernel
theorem dX4_pays_175 : decode cX4_pays 175 = .ok (.aload_n 0, 1) := by decide +kernel
theorem dX4_pays_176 : decode cX4_pays 176 = .ok (.getfield 20, 3) := by decide +kernel
theorem dX4_pays_179 : decode cX4_pays 179 = .ok (.iload 10, 2) := by decide +kernel
theorem dX4_pays_181 : decode cX4_pays 181 = .ok (.invokestatic 39, 3) := by decide +kernel
theorem dX4_pays_184 : decode cX4_pays 184 = .ok (.imul, 1) := by decide +kernel
theorem dX4_pays_185 : decode cX4_pays 185 = .ok (.iload 6, 2) := by decide +kernel
theorem dX4_pays_187 : decode cX4_pays 187 = .ok (.idiv, 1) := by decide +kernel
theorem dX4_pays_188 : decode cX4_pays 188 = .ok (.isub, 1) := by decide +kernel
theorem dX4_pays_189 : decode cX4_pays 189 = .ok (.istore 9, 2) := by decide +kernel
theorem dX4_pays_191 : decode cX4_pays 191 = .ok (.iinc 10 1, 3) := by decide +kernel
theorem dX4_pays_194 : decode cX4_pays 194 = .ok (.goto (-43), 3) := by decide +kernel
theorem dX4_pays_197 : decode cX4_pays 197 = .ok (.iload 9, 2) := by decide +kernel
theorem dX4_pays_199 : decode cX4_pays 199 = .ok (.ireturn, 1) := by decide +kernel
theorem dX4_worth_0 : decode cX4_worth 0 = .ok (.aload_n 1, 1) := by decide +kernel
theorem dX4_worth_1 : decode cX4_worth 1 = .ok (.getfield 73, 3) := by decide +kernel
theorem dX4_worth_4 : decode cX4_worth 4 = .ok (.iconst 1, 1) := by decide +kernel
theorem dX4_worth_5 : decode cX4_worth 5 = .ok (.iload_n 2, 1) := by decide +kernel
theorem dX4_worth_6 : decode cX4_worth 6 = .ok (.ishl, 1) := by decide +kernel
theorem dX4_worth_7 : decode cX4_worth 7 = .ok (.iconst (-1), 1) := by decide +kernel
theorem dX4_worth_8 : decode cX4_worth 8 = .ok (.ixor, 1) := by decide +kernel
theorem dX4_worth_9 : decode cX4_worth 9 = .ok (.iand, 1) := by decide +kernel
theorem dX4_worth_10 : decode cX4_worth 10 = .ok (.istore 4, 2) := by decide +kernel
theorem dX4_worth_12 : decode cX4_worth 12 = .ok (.aload_n 1, 1) := by decide +kernel
theorem dX4_worth_13 : decode cX4_worth 13 = .ok (.getfield 46, 3) := by decide +kernel
theorem dX4_worth_16 : decode cX4_worth 16 = .ok (.iload_n 2, 1) := by decide +kernel
theorem dX4_worth_17 : decode cX4_worth 17 = .ok (.invokestatic 39, 3) := by decide +kernel
theorem dX4_worth_20 : decode cX4_worth 20 = .ok (.bipush 10, 2) := by decide +kernel
theorem dX4_worth_22 : decode cX4_worth 22 = .ok (.iload_n 3, 1) := by decide +kernel
theorem dX4_worth_23 : decode cX4_worth 23 = .ok (.isub, 1) := by decide +kernel
theorem dX4_worth_24 : decode cX4_worth 24 = .ok (.imul, 1) := by decide +kernel
theorem dX4_worth_25 : decode cX4_worth 25 = .ok (.istore 5, 2) := by decide +kernel
theorem dX4_worth_27 : decode cX4_worth 27 = .ok (.iload 5, 2) := by decide +kernel
theorem dX4_worth_29 : decode cX4_worth 29 = .ok (.aload_n 0, 1) := by decide +kernel
theorem dX4_worth_30 : decode cX4_worth 30 = .ok (.aload_n 1, 1) := by decide +kernel
theorem dX4_worth_31 : decode cX4_worth 31 = .ok (.iload_n 2, 1) := by decide +kernel
theorem dX4_worth_32 : decode cX4_worth 32 = .ok (.iload_n 3, 1) := by decide +kernel
theorem dX4_worth_33 : decode cX4_worth 33 = .ok (.aload_n 1, 1) := by decide +kernel
theorem dX4_worth_34 : decode cX4_worth 34 = .ok (.getfield 76, 3) := by decide +kernel
theorem dX4_worth_37 : decode cX4_worth 37 = .ok (.iload 4, 2) := by decide +kernel
theorem dX4_worth_39 : decode cX4_worth 39 = .ok (.invokevirtual 63, 3) := by decide +kernel
theorem dX4_worth_42 : decode cX4_worth 42 = .ok (.isub, 1) := by decide +kernel
theorem dX4_worth_43 : decode cX4_worth 43 = .ok (.ireturn, 1) := by decide +kernel
theorem dX4_best_0 : decode cX4_best 0 = .ok (.iconst 0, 1) := by decide +kernel
theorem dX4_best_1 : decode cX4_best 1 = .ok (.istore_n 3, 1) := by decide +kernel
theorem dX4_best_2 : decode cX4_best 2 = .ok (.aload_n 0, 1) := by decide +kernel
theorem dX4_best_3 : decode cX4_best 3 = .ok (.aload_n 1, 1) := by decide +kernel
theorem dX4_best_4 : decode cX4_best 4 = .ok (.iload_n 2, 1) := by decide +kernel
theorem dX4_best_5 : decode cX4_best 5 = .ok (.iconst 0, 1) := by decide +kernel
theorem dX4_best_6 : decode cX4_best 6 = .ok (.invokevirtual 79, 3) := by decide +kernel
theorem dX4_best_9 : decode cX4_best 9 = .ok (.istore 4, 2) := by decide +kernel
theorem dX4_best_11 : decode cX4_best 11 = .ok (.iconst 1, 1) := by decide +kernel
theorem dX4_best_12 : decode cX4_best 12 = .ok (.istore 5, 2) := by decide +kernel
theorem dX4_best_14 : decode cX4_best 14 = .ok (.iload 5, 2) := by decide +kernel
theorem dX4_best_16 : decode cX4_best 16 = .ok (.bipush 10, 2) := by decide +kernel
theorem dX4_best_18 : decode cX4_best 18 = .ok (.if_icmp .ge 33, 3) := by decide +kernel
theorem dX4_best_21 : decode cX4_best 21 = .ok (.aload_n 0, 1) := by decide +kernel
theorem dX4_best_22 : decode cX4_best 22 = .ok (.aload_n 1, 1) := by decide +kernel
theorem dX4_best_23 : decode cX4_best 23 = .ok (.iload_n 2, 1) := by decide +kernel
theorem dX4_best_24 : decode cX4_best 24 = .ok (.iload 5, 2) := by decide +kernel
theorem dX4_best_26 : decode cX4_best 26 = .ok (.invokevirtual 79, 3) := by decide +kernel
theorem dX4_best_29 : decode cX4_best 29 = .ok (.istore 6, 2) := by decide +kernel
theorem dX4_best_31 : decode cX4_best 31 = .ok (.iload 6, 2) := by decide +kernel
theorem dX4_best_33 : decode cX4_best 33 = .ok (.iload 4, 2) := by decide +kernel
theorem dX4_best_35 : decode cX4_best 35 = .ok (.if_icmp .le 10, 3) := by decide +kernel
theorem dX4_best_38 : decode cX4_best 38 = .ok (.iload 6, 2) := by decide +kernel
theorem dX4_best_40 : decode cX4_best 40 = .ok (.istore 4, 2) := by decide +kernel
theorem dX4_best_42 : decode cX4_best 42 = .ok (.iload 5, 2) := by decide +kernel
theorem dX4_best_44 : decode cX4_best 44 = .ok (.istore_n 3, 1) := by decide +kernel
theorem dX4_best_45 : decode cX4_best 45 = .ok (.iinc 5 1, 3) := by decide +kernel
theorem dX4_best_48 : decode cX4_best 48 = .ok (.goto (-34), 3) := by decide +kernel
theorem dX4_best_51 : decode cX4_best 51 = .ok (.iload_n 3, 1) := by decide +kernel
theorem dX4_best_52 : decode cX4_best 52 = .ok (.ireturn, 1) := by decide +kernel
theorem dX4_fits_0 : decode cX4_fits 0 = .ok (.iconst 0, 1) := by decide +kernel
theorem dX4_fits_1 : decode cX4_fits 1 = .ok (.istore_n 3, 1) := by decide +kernel
theorem dX4_fits_2 : decode cX4_fits 2 = .ok (.iload_n 3, 1) := by decide +kernel
theorem dX4_fits_3 : decode cX4_fits 3 = .ok (.aload_n 1, 1) := by decide +kernel
theorem dX4_fits_4 : decode cX4_fits 4 = .ok (.getfield 83, 3) := by decide +kernel
theorem dX4_fits_7 : decode cX4_fits 7 = .ok (.getfield 87, 3) := by decide +kernel
theorem dX4_fits_10 : decode cX4_fits 10 = .ok (.if_icmp .ge 50, 3) := by decide +kernel
theorem dX4_fits_13 : decode cX4_fits 13 = .ok (.aload_n 0, 1) := by decide +kernel
theorem dX4_fits_14 : decode cX4_fits 14 = .ok (.aload_n 1, 1) := by decide +kernel
theorem dX4_fits_15 : decode cX4_fits 15 = .ok (.aload_n 1, 1) := by decide +kernel
theorem dX4_fits_16 : decode cX4_fits 16 = .ok (.getfield 83, 3) := by decide +kernel
theorem dX4_fits_19 : decode cX4_fits 19 = .ok (.getfield 90, 3) := by decide +kernel
theorem dX4_fits_22 : decode cX4_fits 22 = .ok (.iload_n 3, 1) := by decide +kernel
theorem dX4_fits_23 : decode cX4_fits 23 = .ok (.invokestatic 39, 3) := by decide +kernel
theorem dX4_fits_26 : decode cX4_fits 26 = .ok (.iload_n 2, 1) := by decide +kernel
theorem dX4_fits_27 : decode cX4_fits 27 = .ok (.aload_n 1, 1) := by decide +kernel
theorem dX4_fits_28 : decode cX4_fits 28 = .ok (.getfield 73, 3) := by decide +kernel
theorem dX4_fits_31 : decode cX4_fits 31 = .ok (.invokevirtual 93, 3) := by decide +kernel
theorem dX4_fits_34 : decode cX4_fits 34 = .ok (.istore 4, 2) := by decide +kernel
theorem dX4_fits_36 : decode cX4_fits 36 = .ok (.iload 4, 2) := by decide +kernel
theorem dX4_fits_38 : decode cX4_fits 38 = .ok (.aload_n 1, 1) := by decide +kernel
theorem dX4_fits_39 : decode cX4_fits 39 = .ok (.getfield 83, 3) := by decide +kernel
theorem dX4_fits_42 : decode cX4_fits 42 = .ok (.getfield 96, 3) := by decide +kernel
theorem dX4_fits_45 : decode cX4_fits 45 = .ok (.iload_n 3, 1) := by decide +kernel
theorem dX4_fits_46 : decode cX4_fits 46 = .ok (.invokestatic 39, 3) := by decide +kernel
theorem dX4_fits_49 : decode cX4_fits 49 = .ok (.if_icmp .eq 5, 3) := by decide +kernel
theorem dX4_fits_52 : decode cX4_fits 52 = .ok (.iconst 0, 1) := by decide +kernel
theorem dX4_fits_53 : decode cX4_fits 53 = .ok (.ireturn, 1) := by decide +kernel
theorem dX4_fits_54 : decode cX4_fits 54 = .ok (.iinc 3 1, 3) := by decide +kernel
theorem dX4_fits_57 : decode cX4_fits 57 = .ok (.goto (-55), 3) := by decide +kernel
theorem dX4_fits_60 : decode cX4_fits 60 = .ok (.iconst 1, 1) := by decide +kernel
theorem dX4_fits_61 : decode cX4_fits 61 = .ok (.ireturn, 1) := by decide +kernel
theorem dX4_goDay_0 : decode cX4_goDay 0 = .ok (.aload_n 0, 1) := by decide +kernel
theorem dX4_goDay_1 : decode cX4_goDay 1 = .ok (.aload_n 1, 1) := by decide +kernel
theorem dX4_goDay_2 : decode cX4_goDay 2 = .ok (.aload_n 2, 1) := by decide +kernel
theorem dX4_goDay_3 : decode cX4_goDay 3 = .ok (.invokevirtual 99, 3) := by decide +kernel
theorem dX4_goDay_6 : decode cX4_goDay 6 = .ok (.iconst 0, 1) := by decide +kernel
theorem dX4_goDay_7 : decode cX4_goDay 7 = .ok (.istore 4, 2) := by decide +kernel
theorem dX4_goDay_9 : decode cX4_goDay 9 = .ok (.iconst 0, 1) := by decide +kernel
theorem dX4_goDay_10 : decode cX4_goDay 10 = .ok (.istore 5, 2) := by decide +kernel
theorem dX4_goDay_12 : decode cX4_goDay 12 = .ok (.iload 5, 2) := by decide +kernel
theorem dX4_goDay_14 : decode cX4_goDay 14 = .ok (.aload_n 1, 1) := by decide +kernel
theorem dX4_goDay_15 : decode cX4_goDay 15 = .ok (.getfield 33, 3) := by decide +kernel
theorem dX4_goDay_18 : decode cX4_goDay 18 = .ok (.if_icmp .ge 73, 3) := by decide +kernel
theorem dX4_goDay_21 : decode cX4_goDay 21 = .ok (.aload_n 1, 1) := by decide +kernel
theorem dX4_goDay_22 : decode cX4_goDay 22 = .ok (.getfield 60, 3) := by decide +kernel
theorem dX4_goDay_25 : decode cX4_goDay 25 = .ok (.iload 5, 2) := by decide +kernel
theorem dX4_goDay_27 : decode cX4_goDay 27 = .ok (.invokestatic 39, 3) := by decide +kernel
theorem dX4_goDay_30 : decode cX4_goDay 30 = .ok (.istore 6, 2) := by decide +kernel
theorem dX4_goDay_32 : decode cX4_goDay 32 = .ok (.aload_n 0, 1) := by decide +kernel
theorem dX4_goDay_33 : decode cX4_goDay 33 = .ok (.aload_n 1, 1) := by decide +kernel
theorem dX4_goDay_34 : decode cX4_goDay 34 = .ok (.iload 5, 2) := by decide +kernel
theorem dX4_goDay_36 : decode cX4_goDay 36 = .ok (.invokevirtual 103, 3) := by decide +kernel
theorem dX4_goDay_39 : decode cX4_goDay 39 = .ok (.istore 7, 2) := by decide +kernel
theorem dX4_goDay_41 : decode cX4_goDay 41 = .ok (.aload_n 1, 1) := by decide +kernel
theorem dX4_goDay_42 : decode cX4_goDay 42 = .ok (.iload 5, 2) := by decide +kernel
theorem dX4_goDay_44 : decode cX4_goDay 44 = .ok (.invokevirtual 107, 3) := by decide +kernel
theorem dX4_goDay_47 : decode cX4_goDay 47 = .ok (.ifCond .ne 38, 3) := by decide +kernel
theorem dX4_goDay_50 : decode cX4_goDay 50 = .ok (.aload_n 0, 1) := by decide +kernel
theorem dX4_goDay_51 : decode cX4_goDay 51 = .ok (.aload_n 1, 1) := by decide +kernel
theorem dX4_goDay_52 : decode cX4_goDay 52 = .ok (.iload 5, 2) := by decide +kernel
theorem dX4_goDay_54 : decode cX4_goDay 54 = .ok (.iload 7, 2) := by decide +kernel
theorem dX4_goDay_56 : decode cX4_goDay 56 = .ok (.invokevirtual 79, 3) := by decide +kernel
theorem dX4_goDay_59 : decode cX4_goDay 59 = .ok (.aload_n 0, 1) := by decide +kernel
theorem dX4_goDay_60 : decode cX4_goDay 60 = .ok (.aload_n 1, 1) := by decide +kernel
theorem dX4_goDay_61 : decode cX4_goDay 61 = .ok (.iload 5, 2) := by decide +kernel
theorem dX4_goDay_63 : decode cX4_goDay 63 = .ok (.iload 6, 2) := by decide +kernel
theorem dX4_goDay_65 : decode cX4_goDay 65 = .ok (.invokevirtual 79, 3) := by decide +kernel
theorem dX4_goDay_68 : decode cX4_goDay 68 = .ok (.if_icmp .le 17, 3) := by decide +kernel
theorem dX4_goDay_71 : decode cX4_goDay 71 = .ok (.aload_n 1, 1) := by decide +kernel
theorem dX4_goDay_72 : decode cX4_goDay 72 = .ok (.getfield 60, 3) := by decide +kernel
theorem dX4_goDay_75 : decode cX4_goDay 75 = .ok (.iload 5, 2) := by decide +kernel
theorem dX4_goDay_77 : decode cX4_goDay 77 = .ok (.iload 7, 2) := by decide +kernel
theorem dX4_goDay_79 : decode cX4_goDay 79 = .ok (.invokestatic 29, 3) := by decide +kernel
theorem dX4_goDay_82 : decode cX4_goDay 82 = .ok (.iinc 4 1, 3) := by decide +kernel
theorem dX4_goDay_85 : decode cX4_goDay 85 = .ok (.iinc 5 1, 3) := by decide +kernel
theorem dX4_goDay_88 : decode cX4_goDay 88 = .ok (.goto (-76), 3) := by decide +kernel
theorem dX4_goDay_91 : decode cX4_goDay 91 = .ok (.iconst 0, 1) := by decide +kernel
theorem dX4_goDay_92 : decode cX4_goDay 92 = .ok (.istore 5, 2) := by decide +kernel
theorem dX4_goDay_94 : decode cX4_goDay 94 = .ok (.iload 5, 2) := by decide +kernel
theorem dX4_goDay_96 : decode cX4_goDay 96 = .ok (.aload_n 1, 1) := by decide +kernel
theorem dX4_goDay_97 : decode cX4_goDay 97 = .ok (.getfield 33, 3) := by decide +kernel
theorem dX4_goDay_100 : decode cX4_goDay 100 = .ok (.if_icmp .ge 51, 3) := by decide +kernel
theorem dX4_goDay_103 : decode cX4_goDay 103 = .ok (.aload_n 1, 1) := by decide +kernel
theorem dX4_goDay_104 : decode cX4_goDay 104 = .ok (.getfield 111, 3) := by decide +kernel
theorem dX4_goDay_107 : decode cX4_goDay 107 = .ok (.iload 5, 2) := by decide +kernel
theorem dX4_goDay_109 : decode cX4_goDay 109 = .ok (.invokestatic 39, 3) := by decide +kernel
theorem dX4_goDay_112 : decode cX4_goDay 112 = .ok (.aload_n 0, 1) := by decide +kernel
theorem dX4_goDay_113 : decode cX4_goDay 113 = .ok (.aload_n 1, 1) := by decide +kernel
theorem dX4_goDay_114 : decode cX4_goDay 114 = .ok (.iload 5, 2) := by decide +kernel
theorem dX4_goDay_116 : decode cX4_goDay 116 = .ok (.aload_n 1, 1) := by decide +kernel
theorem dX4_goDay_117 : decode cX4_goDay 117 = .ok (.getfield 76, 3) := by decide +kernel
theorem dX4_goDay_120 : decode cX4_goDay 120 = .ok (.aload_n 1, 1) := by decide +kernel
theorem dX4_goDay_121 : decode cX4_goDay 121 = .ok (.getfield 73, 3) := by decide +kernel
theorem dX4_goDay_124 : decode cX4_goDay 124 = .ok (.invokevirtual 93, 3) := by decide +kernel
theorem dX4_goDay_127 : decode cX4_goDay 127 = .ok (.iadd, 1) := by decide +kernel
theorem dX4_goDay_128 : decode cX4_goDay 128 = .ok (.istore 6, 2) := by decide +kernel
theorem dX4_goDay_130 : decode cX4_goDay 130 = .ok (.aload_n 1, 1) := by decide +kernel
theorem dX4_goDay_131 : decode cX4_goDay 131 = .ok (.getfield 111, 3) := by decide +kernel
theorem dX4_goDay_134 : decode cX4_goDay 134 = .ok (.iload 5, 2) := by decide +kernel
theorem dX4_goDay_136 : decode cX4_goDay 136 = .ok (.iload_n 3, 1) := by decide +kernel
theorem dX4_goDay_137 : decode cX4_goDay 137 = .ok (.iload 6, 2) := by decide +kernel
theorem dX4_goDay_139 : decode cX4_goDay 139 = .ok (.invokestatic 114, 3) := by decide +kernel
theorem dX4_goDay_142 : decode cX4_goDay 142 = .ok (.invokestatic 29, 3) := by decide +kernel
theorem dX4_goDay_145 : decode cX4_goDay 145 = .ok (.iinc 5 1, 3) := by decide +kernel
theorem dX4_goDay_148 : decode cX4_goDay 148 = .ok (.goto (-54), 3) := by decide +kernel
theorem dX4_goDay_151 : decode cX4_goDay 151 = .ok (.aload_n 1, 1) := by decide +kernel
theorem dX4_goDay_152 : decode cX4_goDay 152 = .ok (.dup, 1) := by decide +kernel
theorem dX4_goDay_153 : decode cX4_goDay 153 = .ok (.getfield 23, 3) := by decide +kernel
theorem dX4_goDay_156 : decode cX4_goDay 156 = .ok (.iconst 1, 1) := by decide +kernel
theorem dX4_goDay_157 : decode cX4_goDay 157 = .ok (.iadd, 1) := by decide +kernel
theorem dX4_goDay_158 : decode cX4_goDay 158 = .ok (.putfield 23, 3) := by decide +kernel
theorem dX4_goDay_161 : decode cX4_goDay 161 = .ok (.iload 4, 2) := by decide +kernel
theorem dX4_goDay_163 : decode cX4_goDay 163 = .ok (.ireturn, 1) := by decide +kernel
theorem dX5_init_0 : decode cX5_init 0 = .ok (.aload_n 0, 1) := by decide +kernel
theorem dX5_init_1 : decode cX5_init 1 = .ok (.invokespecial 3, 3) := by decide +kernel
theorem dX5_init_4 : decode cX5_init 4 = .ok (.aload_n 0, 1) := by decide +kernel
theorem dX5_init_5 : decode cX5_init 5 = .ok (.bipush 6, 2) := by decide +kernel
theorem dX5_init_7 : decode cX5_init 7 = .ok (.newarray .int, 2) := by decide +kernel
theorem dX5_init_9 : decode cX5_init 9 = .ok (.putfield 9, 3) := by decide +kernel
theorem dX5_init_12 : decode cX5_init 12 = .ok (.aload_n 0, 1) := by decide +kernel
theorem dX5_init_13 : decode cX5_init 13 = .ok (.bipush 6, 2) := by decide +kernel
theorem dX5_init_15 : decode cX5_init 15 = .ok (.newarray .int, 2) := by decide +kernel
theorem dX5_init_17 : decode cX5_init 17 = .ok (.putfield 15, 3) := by decide +kernel
theorem dX5_init_20 : decode cX5_init 20 = .ok (.aload_n 0, 1) := by decide +kernel
theorem dX5_init_21 : decode cX5_init 21 = .ok (.bipush 6, 2) := by decide +kernel
theorem dX5_init_23 : decode cX5_init 23 = .ok (.newarray .int, 2) := by decide +kernel
theorem dX5_init_25 : decode cX5_init 25 = .ok (.putfield 18, 3) := by decide +kernel
theorem dX5_init_28 : decode cX5_init 28 = .ok (.aload_n 0, 1) := by decide +kernel
theorem dX5_init_29 : decode cX5_init 29 = .ok (.bipush 6, 2) := by decide +kernel
theorem dX5_init_31 : decode cX5_init 31 = .ok (.newarray .int, 2) := by decide +kernel
theorem dX5_init_33 : decode cX5_init 33 = .ok (.putfield 21, 3) := by decide +kernel
theorem dX5_init_36 : decode cX5_init 36 = .ok (.aload_n 0, 1) := by decide +kernel
theorem dX5_init_37 : decode cX5_init 37 = .ok (.bipush 6, 2) := by decide +kernel
theorem dX5_init_39 : decode cX5_init 39 = .ok (.newarray .int, 2) := by decide +kernel
theorem dX5_init_41 : decode cX5_init 41 = .ok (.putfield 24, 3) := by decide +kernel
theorem dX5_init_44 : decode cX5_init 44 = .ok (.aload_n 0, 1) := by decide +kernel
theorem dX5_init_45 : decode cX5_init 45 = .ok (.bipush 24, 2) := by decide +kernel
theorem dX5_init_47 : decode cX5_init 47 = .ok (.newarray .int, 2) := by decide +kernel
theorem dX5_init_49 : decode cX5_init 49 = .ok (.putfield 27, 3) := by decide +kernel
theorem dX5_init_52 : decode cX5_init 52 = .ok (.aload_n 0, 1) := by decide +kernel
theorem dX5_init_53 : decode cX5_init 53 = .ok (.bipush 100, 2) := by decide +kernel
theorem dX5_init_55 : decode cX5_init 55 = .ok (.putfield 30, 3) := by decide +kernel
theorem dX5_init_58 : decode cX5_init 58 = .ok (.aload_n 0, 1) := by decide +kernel
theorem dX5_init_59 : decode cX5_init 59 = .ok (.iconst (-1), 1) := by decide +kernel
theorem dX5_init_60 : decode cX5_init 60 = .ok (.putfield 34, 3) := by decide +kernel
theorem dX5_init_63 : decode cX5_init 63 = .ok (.aload_n 0, 1) := by decide +kernel
theorem dX5_init_64 : decode cX5_init 64 = .ok (.new 37, 3) := by decide +kernel
theorem dX5_init_67 : decode cX5_init 67 = .ok (.dup, 1) := by decide +kernel
theorem dX5_init_68 : decode cX5_init 68 = .ok (.iconst 5, 1) := by decide +kernel
theorem dX5_init_69 : decode cX5_init 69 = .ok (.invokespecial 39, 3) := by decide +kernel
theorem dX5_init_72 : decode cX5_init 72 = .ok (.putfield 42, 3) := by decide +kernel
theorem dX5_init_75 : decode cX5_init 75 = .ok (.aload_n 0, 1) := by decide +kernel
theorem dX5_init_76 : decode cX5_init 76 = .ok (.new 37, 3) := by decide +kernel
theorem dX5_init_79 : decode cX5_init 79 = .ok (.dup, 1) := by decide +kernel
theorem dX5_init_80 : decode cX5_init 80 = .ok (.bipush 8, 2) := by decide +kernel
theorem dX5_init_82 : decode cX5_init 82 = .ok (.invokespecial 39, 3) := by decide +kernel
theorem dX5_init_85 : decode cX5_init 85 = .ok (.putfield 46, 3) := by decide +kernel
theorem dX5_init_88 : decode cX5_init 88 = .ok (.aload_n 0, 1) := by decide +kernel
theorem dX5_init_89 : decode cX5_init 89 = .ok (.new 37, 3) := by decide +kernel
theorem dX5_init_92 : decode cX5_init 92 = .ok (.dup, 1) := by decide +kernel
theorem dX5_init_93 : decode cX5_init 93 = .ok (.bipush 8, 2) := by decide +kernel
theorem dX5_init_95 : decode cX5_init 95 = .ok (.invokespecial 39, 3) := by decide +kernel
theorem dX5_init_98 : decode cX5_init 98 = .ok (.putfield 49, 3) := by decide +kernel
theorem dX5_init_101 : decode cX5_init 101 = .ok (.return_, 1) := by decide +kernel
theorem dX5_has_0 : decode cX5_has 0 = .ok (.iload_n 1, 1) := by decide +kernel
theorem dX5_has_1 : decode cX5_has 1 = .ok (.ifCond .lt 15, 3) := by decide +kernel
theorem dX5_has_4 : decode cX5_has 4 = .ok (.iload_n 1, 1) := by decide +kernel
theorem dX5_has_5 : decode cX5_has 5 = .ok (.aload_n 0, 1) := by decide +kernel
theorem dX5_has_6 : decode cX5_has 6 = .ok (.getfield 52, 3) := by decide +kernel
theorem dX5_has_9 : decode cX5_has 9 = .ok (.if_icmp .ge 7, 3) := by decide +kernel
theorem dX5_has_12 : decode cX5_has 12 = .ok (.iconst 1, 1) := by decide +kernel
theorem dX5_has_13 : decode cX5_has 13 = .ok (.goto 4, 3) := by decide +kernel
theorem dX5_has_16 : decode cX5_has 16 = .ok (.iconst 0, 1) := by decide +kernel
theorem dX5_has_17 : decode cX5_has 17 = .ok (.ireturn, 1) := by decide +kernel
theorem dX5_isAway_0 : decode cX5_isAway 0 = .ok (.aload_n 0, 1) := by decide +kernel
theorem dX5_isAway_1 : decode cX5_isAway 1 = .ok (.getfield 55, 3) := by decide +kernel
theorem dX5_isAway_4 : decode cX5_isAway 4 = .ok (.iload_n 1, 1) := by decide +kernel
theorem dX5_isAway_5 : decode cX5_isAway 5 = .ok (.ishr, 1) := by decide +kernel
theorem dX5_isAway_6 : decode cX5_isAway 6 = .ok (.iconst 1, 1) := by decide +kernel
theorem dX5_isAway_7 : decode cX5_isAway 7 = .ok (.iand, 1) := by decide +kernel
theorem dX5_isAway_8 : decode cX5_isAway 8 = .ok (.ifCond .eq 7, 3) := by decide +kernel
theorem dX5_isAway_11 : decode cX5_isAway 11 = .ok (.iconst 1, 1) := by decide +kernel
theorem dX5_isAway_12 : decode cX5_isAway 12 = .ok (.goto 4, 3) := by decide +kernel
theorem dX5_isAway_15 : decode cX5_isAway 15 = .ok (.iconst 0, 1) := by decide +kernel
theorem dX5_isAway_16 : decode cX5_isAway 16 = .ok (.ireturn, 1) := by decide +kernel
theorem dX5_send_0 : decode cX5_send 0 = .ok (.aload_n 0, 1) := by decide +kernel
theorem dX5_send_1 : decode cX5_send 1 = .ok (.iload_n 2, 1) := by decide +kernel
theorem dX5_send_2 : decode cX5_send 2 = .ok (.ifCond .eq 14, 3) := by decide +kernel
theorem dX5_send_5 : decode cX5_send 5 = .ok (.aload_n 0, 1) := by decide +kernel
theorem dX5_send_6 : decode cX5_send 6 = .ok (.getfield 55, 3) := by decide +kernel
theorem dX5_send_9 : decode cX5_send 9 = .ok (.iconst 1, 1) := by decide +kernel
theorem dX5_send_10 : decode cX5_send 10 = .ok (.iload_n 1, 1) := by decide +kernel
theorem dX5_send_11 : decode cX5_send 11 = .ok (.ishl, 1) := by decide +kernel
theorem dX5_send_12 : decode cX5_send 12 = .ok (.ior, 1) := by decide +kernel
theorem dX5_send_13 : decode cX5_send 13 = .ok (.goto 13, 3) := by decide +kernel
theorem dX5_send_16 : decode cX5_send 16 = .ok (.aload_n 0, 1) := by decide +kernel
theorem dX5_send_17 : decode cX5_send 17 = .ok (.getfield 55, 3) := by decide +kernel
theorem dX5_send_20 : decode cX5_send 20 = .ok (.iconst 1, 1) := by decide +kernel
theorem dX5_send_21 : decode cX5_send 21 = .ok (.iload_n 1, 1) := by decide +kernel
theorem dX5_send_22 : decode cX5_send 22 = .ok (.ishl, 1) := by decide +kernel
theorem dX5_send_23 : decode cX5_send 23 = .ok (.iconst (-1), 1) := by decide +kernel
theorem dX5_send_24 : decode cX5_send 24 = .ok (.ixor, 1) := by decide +kernel
theorem dX5_send_25 : decode cX5_send 25 = .ok (.iand, 1) := by decide +kernel
theorem dX5_send_26 : decode cX5_send 26 = .ok (.putfield 55, 3) := by decide +kernel
theorem dX5_send_29 : decode cX5_send 29 = .ok (.return_, 1) := by decide +kernel
theorem dX5_add_0 : decode cX5_add 0 = .ok (.aload_n 0, 1) := by decide +kernel
theorem dX5_add_1 : decode cX5_add 1 = .ok (.getfield 52, 3) := by decide +kernel
theorem dX5_add_4 : decode cX5_add 4 = .ok (.istore 5, 2) := by decide +kernel
theorem dX5_add_6 : decode cX5_add 6 = .ok (.aload_n 0, 1) := by decide +kernel
theorem dX5_add_7 : decode cX5_add 7 = .ok (.getfield 9, 3) := by decide +kernel
theorem dX5_add_10 : decode cX5_add 10 = .ok (.iload 5, 2) := by decide +kernel
theorem dX5_add_12 : decode cX5_add 12 = .ok (.iload_n 1, 1) := by decide +kernel
theorem dX5_add_13 : decode cX5_add 13 = .ok (.invokestatic 58, 3) := by decide +kernel
theorem dX5_add_16 : decode cX5_add 16 = .ok (.aload_n 0, 1) := by decide +kernel
theorem dX5_add_17 : decode cX5_add 17 = .ok (.getfield 15, 3) := by decide +kernel
theorem dX5_add_20 : decode cX5_add 20 = .ok (.iload 5, 2) := by decide +kernel
theorem dX5_add_22 : decode cX5_add 22 = .ok (.iload_n 2, 1) := by decide +kernel
theorem dX5_add_23 : decode cX5_add 23 = .ok (.invokestatic 58, 3) := by decide +kernel
theorem dX5_add_26 : decode cX5_add 26 = .ok (.aload_n 0, 1) := by decide +kernel
theorem dX5_add_27 : decode cX5_add 27 = .ok (.getfield 18, 3) := by decide +kernel
theorem dX5_add_30 : decode cX5_add 30 = .ok (.iload 5, 2) := by decide +kernel
theorem dX5_add_32 : decode cX5_add 32 = .ok (.iload_n 3, 1) := by decide +kernel
theorem dX5_add_33 : decode cX5_add 33 = .ok (.invokestatic 58, 3) := by decide +kernel
theorem dX5_add_36 : decode cX5_add 36 = .ok (.aload_n 0, 1) := by decide +kernel
theorem dX5_add_37 : decode cX5_add 37 = .ok (.getfield 21, 3) := by decide +kernel
theorem dX5_add_40 : decode cX5_add 40 = .ok (.iload 5, 2) := by decide +kernel
theorem dX5_add_42 : decode cX5_add 42 = .ok (.iload 4, 2) := by decide +kernel
theorem dX5_add_44 : decode cX5_add 44 = .ok (.invokestatic 58, 3) := by decide +kernel
theorem dX5_add_47 : decode cX5_add 47 = .ok (.aload_n 0, 1) := by decide +kernel
theorem dX5_add_48 : decode cX5_add 48 = .ok (.dup, 1) := by decide +kernel
theorem dX5_add_49 : decode cX5_add 49 = .ok (.getfield 52, 3) := by decide +kernel
theorem dX5_add_52 : decode cX5_add 52 = .ok (.iconst 1, 1) := by decide +kernel
theorem dX5_add_53 : decode cX5_add 53 = .ok (.iadd, 1) := by decide +kernel
theorem dX5_add_54 : decode cX5_add 54 = .ok (.putfield 52, 3) := by decide +kernel
theorem dX5_add_57 : decode cX5_add 57 = .ok (.iload 5, 2) := by decide +kernel
theorem dX5_add_59 : decode cX5_add 59 = .ok (.ireturn, 1) := by decide +kernel
theorem dX5_takeAfter_0 : decode cX5_takeAfter 0 = .ok (.aload_n 0, 1) := by decide +kernel
theorem dX5_takeAfter_1 : decode cX5_takeAfter 1 = .ok (.aload_n 1, 1) := by decide +kernel
theorem dX5_takeAfter_2 : decode cX5_takeAfter 2 = .ok (.getfield 52, 3) := by decide +kernel
theorem dX5_takeAfter_5 : decode cX5_takeAfter 5 = .ok (.putfield 52, 3) := by decide +kernel
theorem dX5_takeAfter_8 : decode cX5_takeAfter 8 = .ok (.aload_n 1, 1) := by decide +kernel
theorem dX5_takeAfter_9 : decode cX5_takeAfter 9 = .ok (.getfield 9, 3) := by decide +kernel
theorem dX5_takeAfter_12 : decode cX5_takeAfter 12 = .ok (.aload_n 0, 1) := by decide +kernel
theorem dX5_takeAfter_13 : decode cX5_takeAfter 13 = .ok (.getfield 9, 3) := by decide +kernel
theorem dX5_takeAfter_16 : decode cX5_takeAfter 16 = .ok (.invokestatic 62, 3) := by decide +kernel
theorem dX5_takeAfter_19 : decode cX5_takeAfter 19 = .ok (.aload_n 1, 1) := by decide +kernel
theorem dX5_takeAfter_20 : decode cX5_takeAfter 20 = .ok (.getfield 15, 3) := by decide +kernel
theorem dX5_takeAfter_23 : decode cX5_takeAfter 23 = .ok (.aload_n 0, 1) := by decide +kernel
theorem dX5_takeAfter_24 : decode cX5_takeAfter 24 = .ok (.getfield 15, 3) := by decide +kernel
theorem dX5_takeAfter_27 : decode cX5_takeAfter 27 = .ok (.invokestatic 62, 3) := by decide +kernel
theorem dX5_takeAfter_30 : decode cX5_takeAfter 30 = .ok (.aload_n 1, 1) := by decide +kernel
theorem dX5_takeAfter_31 : decode cX5_takeAfter 31 = .ok (.getfield 18, 3) := by decide +kernel
theorem dX5_takeAfter_34 : decode cX5_takeAfter 34 = .ok (.aload_n 0, 1) := by decide +kernel
theorem dX5_takeAfter_35 : decode cX5_takeAfter 35 = .ok (.getfield 18, 3) := by decide +kernel
theorem dX5_takeAfter_38 : decode cX5_takeAfter 38 = .ok (.invokestatic 62, 3) := by decide +kernel
theorem dX5_takeAfter_41 : decode cX5_takeAfter 41 = .ok (.aload_n 1, 1) := by decide +kernel
theorem dX5_takeAfter_42 : decode cX5_takeAfter 42 = .ok (.getfield 21, 3) := by decide +kernel
theorem dX5_takeAfter_45 : decode cX5_takeAfter 45 = .ok (.aload_n 0, 1) := by decide +kernel
theorem dX5_takeAfter_46 : decode cX5_takeAfter 46 = .ok (.getfield 21, 3) := by decide +kernel
theorem dX5_takeAfter_49 : decode cX5_takeAfter 49 = .ok (.invokestatic 62, 3) := by decide +kernel
theorem dX5_takeAfter_52 : decode cX5_takeAfter 52 = .ok (.aload_n 1, 1) := by decide +kernel
theorem dX5_takeAfter_53 : decode cX5_takeAfter 53 = .ok (.getfield 24, 3) := by decide +kernel
theorem dX5_takeAfter_56 : decode cX5_takeAfter 56 = .ok (.aload_n 0, 1) := by decide +kernel
theorem dX5_takeAfter_57 : decode cX5_takeAfter 57 = .ok (.getfield 24, 3) := by decide +kernel
theorem dX5_takeAfter_60 : decode cX5_takeAfter 60 = .ok (.invokestatic 62, 3) := by decide +kernel
theorem dX5_takeAfter_63 : decode cX5_takeAfter 63 = .ok (.aload_n 1, 1) := by decide +kernel
theorem dX5_takeAfter_64 : decode cX5_takeAfter 64 = .ok (.getfield 27, 3) := by decide +kernel
theorem dX5_takeAfter_67 : decode cX5_takeAfter 67 = .ok (.aload_n 0, 1) := by decide +kernel
theorem dX5_takeAfter_68 : decode cX5_takeAfter 68 = .ok (.getfield 27, 3) := by decide +kernel
theorem dX5_takeAfter_71 : decode cX5_takeAfter 71 = .ok (.invokestatic 62, 3) := by decide +kernel
theorem dX5_takeAfter_74 : decode cX5_takeAfter 74 = .ok (.aload_n 0, 1) := by decide +kernel
theorem dX5_takeAfter_75 : decode cX5_takeAfter 75 = .ok (.aload_n 1, 1) := by decide +kernel
theorem dX5_takeAfter_76 : decode cX5_takeAfter 76 = .ok (.getfield 55, 3) := by decide +kernel
theorem dX5_takeAfter_79 : decode cX5_takeAfter 79 = .ok (.putfield 55, 3) := by decide +kernel
theorem dX5_takeAfter_82 : decode cX5_takeAfter 82 = .ok (.aload_n 0, 1) := by decide +kernel
theorem dX5_takeAfter_83 : decode cX5_takeAfter 83 = .ok (.aload_n 1, 1) := by decide +kernel
theorem dX5_takeAfter_84 : decode cX5_takeAfter 84 = .ok (.getfield 30, 3) := by decide +kernel
theorem dX5_takeAfter_87 : decode cX5_takeAfter 87 = .ok (.putfield 30, 3) := by decide +kernel
theorem dX5_takeAfter_90 : decode cX5_takeAfter 90 = .ok (.aload_n 0, 1) := by decide +kernel
theorem dX5_takeAfter_91 : decode cX5_takeAfter 91 = .ok (.aload_n 1, 1) := by decide +kernel
theorem dX5_takeAfter_92 : decode cX5_takeAfter 92 = .ok (.getfield 66, 3) := by decide +kernel
theorem dX5_takeAfter_95 : decode cX5_takeAfter 95 = .ok (.putfield 66, 3) := by decide +kernel
theorem dX5_takeAfter_98 : decode cX5_takeAfter 98 = .ok (.aload_n 0, 1) := by decide +kernel
theorem dX5_takeAfter_99 : decode cX5_takeAfter 99 = .ok (.aload_n 1, 1) := by decide +kernel
theorem dX5_takeAfter_100 : decode cX5_takeAfter 100 = .ok (.getfield 34, 3) := by decide +kernel
theorem dX5_takeAfter_103 : decode cX5_takeAfter 103 = .ok (.putfield 34, 3) := by decide +kernel
theorem dX5_takeAfter_106 : decode cX5_takeAfter 106 = .ok (.aload_n 0, 1) := by decide +kernel
theorem dX5_takeAfter_107 : decode cX5_takeAfter 107 = .ok (.getfield 42, 3) := by decide +kernel
theorem dX5_takeAfter_110 : decode cX5_takeAfter 110 = .ok (.aload_n 1, 1) := by decide +kernel
theorem dX5_takeAfter_111 : decode cX5_takeAfter 111 = .ok (.getfield 42, 3) := by decide +kernel
theorem dX5_takeAfter_114 : decode cX5_takeAfter 114 = .ok (.invokevirtual 69, 3) := by decide +kernel
theorem dX5_takeAfter_117 : decode cX5_takeAfter 117 = .ok (.aload_n 0, 1) := by decide +kernel
theorem dX5_takeAfter_118 : decode cX5_takeAfter 118 = .ok (.getfield 46, 3) := by decide +kernel
theorem dX5_takeAfter_121 : decode cX5_takeAfter 121 = .ok (.aload_n 1, 1) := by decide +kernel
theorem dX5_takeAfter_122 : decode cX5_takeAfter 122 = .ok (.getfield 46, 3) := by decide +kernel
theorem dX5_takeAfter_125 : decode cX5_takeAfter 125 = .ok (.invokevirtual 69, 3) := by decide +kernel
theorem dX5_takeAfter_128 : decode cX5_takeAfter 128 = .ok (.aload_n 0, 1) := by decide +kernel
theorem dX5_takeAfter_129 : decode cX5_takeAfter 129 = .ok (.getfield 49, 3) := by decide +kernel
theorem dX5_takeAfter_132 : decode cX5_takeAfter 132 = .ok (.aload_n 1, 1) := by decide +kernel
theorem dX5_takeAfter_133 : decode cX5_takeAfter 133 = .ok (.getfield 49, 3) := by decide +kernel
theorem dX5_takeAfter_136 : decode cX5_takeAfter 136 = .ok (.invokevirtual 69, 3) := by decide +kernel
theorem dX5_takeAfter_139 : decode cX5_takeAfter 139 = .ok (.return_, 1) := by decide +kernel
theorem dX6_init_0 : decode cX6_init 0 = .ok (.aload_n 0, 1) := by decide +kernel
theorem dX6_init_1 : decode cX6_init 1 = .ok (.invokespecial 3, 3) := by decide +kernel
theorem dX6_init_4 : decode cX6_init 4 = .ok (.aload_n 0, 1) := by decide +kernel
theorem dX6_init_5 : decode cX6_init 5 = .ok (.iconst (-1), 1) := by decide +kernel
theorem dX6_init_6 : decode cX6_init 6 = .ok (.putfield 11, 3) := by decide +kernel
theorem dX6_init_9 : decode cX6_init 9 = .ok (.aload_n 0, 1) := by decide +kernel
theorem dX6_init_10 : decode cX6_init 10 = .ok (.bipush 60, 2) := by decide +kernel
theorem dX6_init_12 : decode cX6_init 12 = .ok (.newarray .long, 2) := by decide +kernel
theorem dX6_init_14 : decode cX6_init 14 = .ok (.putfield 15, 3) := by decide +kernel
theorem dX6_init_17 : decode cX6_init 17 = .ok (.return_, 1) := by decide +kernel
theorem dX6_holdsRow_0 : decode cX6_holdsRow 0 = .ok (.aload_n 0, 1) := by decide +kernel
theorem dX6_holdsRow_1 : decode cX6_holdsRow 1 = .ok (.getfield 11, 3) := by decide +kernel
theorem dX6_holdsRow_4 : decode cX6_holdsRow 4 = .ok (.iconst (-1), 1) := by decide +kernel
theorem dX6_holdsRow_5 : decode cX6_holdsRow 5 = .ok (.if_icmp .eq 7, 3) := by decide +kernel
theorem dX6_holdsRow_8 : decode cX6_holdsRow 8 = .ok (.iconst 1, 1) := by decide +kernel
theorem dX6_holdsRow_9 : decode cX6_holdsRow 9 = .ok (.goto 4, 3) := by decide +kernel
theorem dX6_holdsRow_12 : decode cX6_holdsRow 12 = .ok (.iconst 0, 1) := by decide +kernel
theorem dX6_holdsRow_13 : decode cX6_holdsRow 13 = .ok (.ireturn, 1) := by decide +kernel
theorem dX6_become_0 : decode cX6_become 0 = .ok (.aload_n 0, 1) := by decide +kernel
theorem dX6_become_1 : decode cX6_become 1 = .ok (.iload_n 1, 1) := by decide +kernel
theorem dX6_become_2 : decode cX6_become 2 = .ok (.putfield 11, 3) := by decide +kernel
theorem dX6_become_5 : decode cX6_become 5 = .ok (.aload_n 0, 1) := by decide +kernel
theorem dX6_become_6 : decode cX6_become 6 = .ok (.iload_n 2, 1) := by decide +kernel
theorem dX6_become_7 : decode cX6_become 7 = .ok (.aload_n 0, 1) := by decide +kernel
theorem dX6_become_8 : decode cX6_become 8 = .ok (.getfield 15, 3) := by decide +kernel
theorem dX6_become_11 : decode cX6_become 11 = .ok (.arraylength, 1) := by decide +kernel
theorem dX6_become_12 : decode cX6_become 12 = .ok (.invokestatic 19, 3) := by decide +kernel
theorem dX6_become_15 : decode cX6_become 15 = .ok (.putfield 25, 3) := by decide +kernel
theorem dX6_become_18 : decode cX6_become 18 = .ok (.iconst 0, 1) := by decide +kernel
theorem dX6_become_19 : decode cX6_become 19 = .ok (.istore_n 3, 1) := by decide +kernel
theorem dX6_become_20 : decode cX6_become 20 = .ok (.iload_n 3, 1) := by decide +kernel
theorem dX6_become_21 : decode cX6_become 21 = .ok (.aload_n 0, 1) := by decide +kernel
theorem dX6_become_22 : decode cX6_become 22 = .ok (.getfield 15, 3) := by decide +kernel
theorem dX6_become_25 : decode cX6_become 25 = .ok (.arraylength, 1) := by decide +kernel
theorem dX6_become_26 : decode cX6_become 26 = .ok (.if_icmp .ge 16, 3) := by decide +kernel
theorem dX6_become_29 : decode cX6_become 29 = .ok (.aload_n 0, 1) := by decide +kernel
theorem dX6_become_30 : decode cX6_become 30 = .ok (.getfield 15, 3) := by decide +kernel
theorem dX6_become_33 : decode cX6_become 33 = .ok (.iload_n 3, 1) := by decide +kernel
theorem dX6_become_34 : decode cX6_become 34 = .ok (.lconst 0, 1) := by decide +kernel
theorem dX6_become_35 : decode cX6_become 35 = .ok (.lastore, 1) := by decide +kernel
theorem dX6_become_36 : decode cX6_become 36 = .ok (.iinc 3 1, 3) := by decide +kernel
theorem dX6_become_39 : decode cX6_become 39 = .ok (.goto (-19), 3) := by decide +kernel
theorem dX6_become_42 : decode cX6_become 42 = .ok (.return_, 1) := by decide +kernel
theorem dX6_itemAt_0 : decode cX6_itemAt 0 = .ok (.iload_n 1, 1) := by decide +kernel
theorem dX6_itemAt_1 : decode cX6_itemAt 1 = .ok (.ifCond .lt 29, 3) := by decide +kernel
theorem dX6_itemAt_4 : decode cX6_itemAt 4 = .ok (.iload_n 1, 1) := by decide +kernel
theorem dX6_itemAt_5 : decode cX6_itemAt 5 = .ok (.aload_n 0, 1) := by decide +kernel
theorem dX6_itemAt_6 : decode cX6_itemAt 6 = .ok (.getfield 25, 3) := by decide +kernel
theorem dX6_itemAt_9 : decode cX6_itemAt 9 = .ok (.if_icmp .ge 21, 3) := by decide +kernel
theorem dX6_itemAt_12 : decode cX6_itemAt 12 = .ok (.iload_n 1, 1) := by decide +kernel
theorem dX6_itemAt_13 : decode cX6_itemAt 13 = .ok (.aload_n 0, 1) := by decide +kernel
theorem dX6_itemAt_14 : decode cX6_itemAt 14 = .ok (.getfield 15, 3) := by decide +kernel
theorem dX6_itemAt_17 : decode cX6_itemAt 17 = .ok (.arraylength, 1) := by decide +kernel
theorem dX6_itemAt_18 : decode cX6_itemAt 18 = .ok (.if_icmp .ge 12, 3) := by decide +kernel
theorem dX6_itemAt_21 : decode cX6_itemAt 21 = .ok (.aload_n 0, 1) := by decide +kernel
theorem dX6_itemAt_22 : decode cX6_itemAt 22 = .ok (.getfield 15, 3) := by decide +kernel
theorem dX6_itemAt_25 : decode cX6_itemAt 25 = .ok (.iload_n 1, 1) := by decide +kernel
theorem dX6_itemAt_26 : decode cX6_itemAt 26 = .ok (.laload, 1) := by decide +kernel
theorem dX6_itemAt_27 : decode cX6_itemAt 27 = .ok (.goto 6, 3) := by decide +kernel
theorem dX6_itemAt_30 : decode cX6_itemAt 30 = .ok (.ldc2_w 28, 3) := by decide +kernel
theorem dX6_itemAt_33 : decode cX6_itemAt 33 = .ok (.lreturn, 1) := by decide +kernel
theorem dX6_store_0 : decode cX6_store 0 = .ok (.iload_n 1, 1) := by decide +kernel
theorem dX6_store_1 : decode cX6_store 1 = .ok (.ifCond .lt 20, 3) := by decide +kernel
theorem dX6_store_4 : decode cX6_store 4 = .ok (.iload_n 1, 1) := by decide +kernel
theorem dX6_store_5 : decode cX6_store 5 = .ok (.aload_n 0, 1) := by decide +kernel
theorem dX6_store_6 : decode cX6_store 6 = .ok (.getfield 25, 3) := by decide +kernel
theorem dX6_store_9 : decode cX6_store 9 = .ok (.if_icmp .ge 12, 3) := by decide +kernel
theorem dX6_store_12 : decode cX6_store 12 = .ok (.iload_n 1, 1) := by decide +kernel
theorem dX6_store_13 : decode cX6_store 13 = .ok (.aload_n 0, 1) := by decide +kernel
theorem dX6_store_14 : decode cX6_store 14 = .ok (.getfield 15, 3) := by decide +kernel
theorem dX6_store_17 : decode cX6_store 17 = .ok (.arraylength, 1) := by decide +kernel
theorem dX6_store_18 : decode cX6_store 18 = .ok (.if_icmp .lt 5, 3) := by decide +kernel
theorem dX6_store_21 : decode cX6_store 21 = .ok (.iconst 0, 1) := by decide +kernel
theorem dX6_store_22 : decode cX6_store 22 = .ok (.ireturn, 1) := by decide +kernel
theorem dX6_store_23 : decode cX6_store 23 = .ok (.aload_n 0, 1) := by decide +kernel
theorem dX6_store_24 : decode cX6_store 24 = .ok (.getfield 15, 3) := by decide +kernel
theorem dX6_store_27 : decode cX6_store 27 = .ok (.iload_n 1, 1) := by decide +kernel
theorem dX6_store_28 : decode cX6_store 28 = .ok (.aload_n 0, 1) := by decide +kernel
theorem dX6_store_29 : decode cX6_store 29 = .ok (.lload_n 2, 1) := by decide +kernel
theorem dX6_store_30 : decode cX6_store 30 = .ok (.invokevirtual 30, 3) := by decide +kernel
theorem dX6_store_33 : decode cX6_store 33 = .ok (.lastore, 1) := by decide +kernel
theorem dX6_store_34 : decode cX6_store 34 = .ok (.iconst 1, 1) := by decide +kernel
theorem dX6_store_35 : decode cX6_store 35 = .ok (.ireturn, 1) := by decide +kernel
theorem dX6_hasPlaces_0 : decode cX6_hasPlaces 0 = .ok (.iload_n 2, 1) := by decide +kernel
theorem dX6_hasPlaces_1 : decode cX6_hasPlaces 1 = .ok (.ifCond .lt 29, 3) := by decide +kernel
theorem dX6_hasPlaces_4 : decode cX6_hasPlaces 4 = .ok (.iload_n 1, 1) := by decide +kernel
theorem dX6_hasPlaces_5 : decode cX6_hasPlaces 5 = .ok (.ifCond .lt 25, 3) := by decide +kernel
theorem dX6_hasPlaces_8 : decode cX6_hasPlaces 8 = .ok (.iload_n 2, 1) := by decide +kernel
theorem dX6_hasPlaces_9 : decode cX6_hasPlaces 9 = .ok (.aload_n 0, 1) := by decide +kernel
theorem dX6_hasPlaces_10 : decode cX6_hasPlaces 10 = .ok (.getfield 25, 3) := by decide +kernel
theorem dX6_hasPlaces_13 : decode cX6_hasPlaces 13 = .ok (.if_icmp .gt 17, 3) := by decide +kernel
theorem dX6_hasPlaces_16 : decode cX6_hasPlaces 16 = .ok (.iload_n 1, 1) := by decide +kernel
theorem dX6_hasPlaces_17 : decode cX6_hasPlaces 17 = .ok (.aload_n 0, 1) := by decide +kernel
theorem dX6_hasPlaces_18 : decode cX6_hasPlaces 18 = .ok (.getfield 25, 3) := by decide +kernel
theorem dX6_hasPlaces_21 : decode cX6_hasPlaces 21 = .ok (.iload_n 2, 1) := by decide +kernel
theorem dX6_hasPlaces_22 : decode cX6_hasPlaces 22 = .ok (.isub, 1) := by decide +kernel
theorem dX6_hasPlaces_23 : decode cX6_hasPlaces 23 = .ok (.if_icmp .gt 7, 3) := by decide +kernel
theorem dX6_hasPlaces_26 : decode cX6_hasPlaces 26 = .ok (.iconst 1, 1) := by decide +kernel
theorem dX6_hasPlaces_27 : decode cX6_hasPlaces 27 = .ok (.goto 4, 3) := by decide +kernel
theorem dX6_hasPlaces_30 : decode cX6_hasPlaces 30 = .ok (.iconst 0, 1) := by decide +kernel
theorem dX6_hasPlaces_31 : decode cX6_hasPlaces 31 = .ok (.ireturn, 1) := by decide +kernel
theorem dX6_fitted_0 : decode cX6_fitted 0 = .ok (.aload_n 0, 1) := by decide +kernel
theorem dX6_fitted_1 : decode cX6_fitted 1 = .ok (.getfield 11, 3) := by decide +kernel
theorem dX6_fitted_4 : decode cX6_fitted 4 = .ok (.tableswitch 62 0 4 #[36, 41, 46, 62, 50], 36) := by decide +kernel
theorem dX6_fitted_40 : decode cX6_fitted 40 = .ok (.lload_n 1, 1) := by decide +kernel
theorem dX6_fitted_41 : decode cX6_fitted 41 = .ok (.l2i, 1) := by decide +kernel
theorem dX6_fitted_42 : decode cX6_fitted 42 = .ok (.i2b, 1) := by decide +kernel
theorem dX6_fitted_43 : decode cX6_fitted 43 = .ok (.i2l, 1) := by decide +kernel
theorem dX6_fitted_44 : decode cX6_fitted 44 = .ok (.lreturn, 1) := by decide +kernel
theorem dX6_fitted_45 : decode cX6_fitted 45 = .ok (.lload_n 1, 1) := by decide +kernel
theorem dX6_fitted_46 : decode cX6_fitted 46 = .ok (.l2i, 1) := by decide +kernel
theorem dX6_fitted_47 : decode cX6_fitted 47 = .ok (.i2s, 1) := by decide +kernel
theorem dX6_fitted_48 : decode cX6_fitted 48 = .ok (.i2l, 1) := by decide +kernel
theorem dX6_fitted_49 : decode cX6_fitted 49 = .ok (.lreturn, 1) := by decide +kernel
theorem dX6_fitted_50 : decode cX6_fitted 50 = .ok (.lload_n 1, 1) := by decide +kernel
theorem dX6_fitted_51 : decode cX6_fitted 51 = .ok (.l2i, 1) := by decide +kernel
theorem dX6_fitted_52 : decode cX6_fitted 52 = .ok (.i2l, 1) := by decide +kernel
theorem dX6_fitted_53 : decode cX6_fitted 53 = .ok (.lreturn, 1) := by decide +kernel
theorem dX6_fitted_54 : decode cX6_fitted 54 = .ok (.lload_n 1, 1) := by decide +kernel
theorem dX6_fitted_55 : decode cX6_fitted 55 = .ok (.lconst 0, 1) := by decide +kernel
theorem dX6_fitted_56 : decode cX6_fitted 56 = .ok (.lcmp, 1) := by decide +kernel
theorem dX6_fitted_57 : decode cX6_fitted 57 = .ok (.ifCond .eq 7, 3) := by decide +kernel
theorem dX6_fitted_60 : decode cX6_fitted 60 = .ok (.lconst 1, 1) := by decide +kernel
theorem dX6_fitted_61 : decode cX6_fitted 61 = .ok (.goto 4, 3) := by decide +kernel
theorem dX6_fitted_64 : decode cX6_fitted 64 = .ok (.lconst 0, 1) := by decide +kernel
theorem dX6_fitted_65 : decode cX6_fitted 65 = .ok (.lreturn, 1) := by decide +kernel
theorem dX6_fitted_66 : decode cX6_fitted 66 = .ok (.lload_n 1, 1) := by decide +kernel
theorem dX6_fitted_67 : decode cX6_fitted 67 = .ok (.lreturn, 1) := by decide +kernel
theorem dX7_init_0 : decode cX7_init 0 = .ok (.aload_n 0, 1) := by decide +kernel
theorem dX7_init_1 : decode cX7_init 1 = .ok (.invokespecial 5, 3) := by decide +kernel
theorem dX7_init_4 : decode cX7_init 4 = .ok (.aload_n 0, 1) := by decide +kernel
theorem dX7_init_5 : decode cX7_init 5 = .ok (.new 11, 3) := by decide +kernel
theorem dX7_init_8 : decode cX7_init 8 = .ok (.dup, 1) := by decide +kernel
theorem dX7_init_9 : decode cX7_init 9 = .ok (.invokespecial 13, 3) := by decide +kernel
theorem dX7_init_12 : decode cX7_init 12 = .ok (.putfield 14, 3) := by decide +kernel
theorem dX7_init_15 : decode cX7_init 15 = .ok (.aload_n 0, 1) := by decide +kernel
theorem dX7_init_16 : decode cX7_init 16 = .ok (.new 11, 3) := by decide +kernel
theorem dX7_init_19 : decode cX7_init 19 = .ok (.dup, 1) := by decide +kernel
theorem dX7_init_20 : decode cX7_init 20 = .ok (.invokespecial 13, 3) := by decide +kernel
theorem dX7_init_23 : decode cX7_init 23 = .ok (.putfield 20, 3) := by decide +kernel
theorem dX7_init_26 : decode cX7_init 26 = .ok (.aload_n 0, 1) := by decide +kernel
theorem dX7_init_27 : decode cX7_init 27 = .ok (.new 11, 3) := by decide +kernel
theorem dX7_init_30 : decode cX7_init 30 = .ok (.dup, 1) := by decide +kernel
theorem dX7_init_31 : decode cX7_init 31 = .ok (.invokespecial 13, 3) := by decide +kernel
theorem dX7_init_34 : decode cX7_init 34 = .ok (.putfield 23, 3) := by decide +kernel
theorem dX7_init_37 : decode cX7_init 37 = .ok (.aload_n 0, 1) := by decide +kernel
theorem dX7_init_38 : decode cX7_init 38 = .ok (.new 26, 3) := by decide +kernel
theorem dX7_init_41 : decode cX7_init 41 = .ok (.dup, 1) := by decide +kernel
theorem dX7_init_42 : decode cX7_init 42 = .ok (.invokespecial 28, 3) := by decide +kernel
theorem dX7_init_45 : decode cX7_init 45 = .ok (.putfield 29, 3) := by decide +kernel
theorem dX7_init_48 : decode cX7_init 48 = .ok (.aload_n 0, 1) := by decide +kernel
theorem dX7_init_49 : decode cX7_init 49 = .ok (.bipush 6, 2) := by decide +kernel
theorem dX7_init_51 : decode cX7_init 51 = .ok (.anewarray 33, 3) := by decide +kernel
theorem dX7_init_54 : decode cX7_init 54 = .ok (.putfield 35, 3) := by decide +kernel
theorem dX7_init_57 : decode cX7_init 57 = .ok (.aload_n 0, 1) := by decide +kernel
theorem dX7_init_58 : decode cX7_init 58 = .ok (.new 33, 3) := by decide +kernel
theorem dX7_init_61 : decode cX7_init 61 = .ok (.dup, 1) := by decide +kernel
theorem dX7_init_62 : decode cX7_init 62 = .ok (.invokespecial 39, 3) := by decide +kernel
theorem dX7_init_65 : decode cX7_init 65 = .ok (.putfield 40, 3) := by decide +kernel
theorem dX7_init_68 : decode cX7_init 68 = .ok (.aload_n 0, 1) := by decide +kernel
theorem dX7_init_69 : decode cX7_init 69 = .ok (.new 44, 3) := by decide +kernel
theorem dX7_init_72 : decode cX7_init 72 = .ok (.dup, 1) := by decide +kernel
theorem dX7_init_73 : decode cX7_init 73 = .ok (.invokespecial 46, 3) := by decide +kernel
theorem dX7_init_76 : decode cX7_init 76 = .ok (.putfield 47, 3) := by decide +kernel
theorem dX7_init_79 : decode cX7_init 79 = .ok (.aload_n 0, 1) := by decide +kernel
theorem dX7_init_80 : decode cX7_init 80 = .ok (.new 51, 3) := by decide +kernel
theorem dX7_init_83 : decode cX7_init 83 = .ok (.dup, 1) := by decide +kernel
theorem dX7_init_84 : decode cX7_init 84 = .ok (.invokespecial 53, 3) := by decide +kernel
theorem dX7_init_87 : decode cX7_init 87 = .ok (.putfield 54, 3) := by decide +kernel
theorem dX7_init_90 : decode cX7_init 90 = .ok (.aload_n 0, 1) := by decide +kernel
theorem dX7_init_91 : decode cX7_init 91 = .ok (.bipush 6, 2) := by decide +kernel
theorem dX7_init_93 : decode cX7_init 93 = .ok (.anewarray 58, 3) := by decide +kernel
theorem dX7_init_96 : decode cX7_init 96 = .ok (.putfield 60, 3) := by decide +kernel
theorem dX7_init_99 : decode cX7_init 99 = .ok (.iconst 0, 1) := by decide +kernel
theorem dX7_init_100 : decode cX7_init 100 = .ok (.istore_n 1, 1) := by decide +kernel
theorem dX7_init_101 : decode cX7_init 101 = .ok (.iload_n 1, 1) := by decide +kernel
theorem dX7_init_102 : decode cX7_init 102 = .ok (.aload_n 0, 1) := by decide +kernel
theorem dX7_init_103 : decode cX7_init 103 = .ok (.getfield 35, 3) := by decide +kernel
theorem dX7_init_106 : decode cX7_init 106 = .ok (.arraylength, 1) := by decide +kernel
theorem dX7_init_107 : decode cX7_init 107 = .ok (.if_icmp .ge 22, 3) := by decide +kernel
theorem dX7_init_110 : decode cX7_init 110 = .ok (.aload_n 0, 1) := by decide +kernel
theorem dX7_init_111 : decode cX7_init 111 = .ok (.getfield 35, 3) := by decide +kernel
theorem dX7_init_114 : decode cX7_init 114 = .ok (.iload_n 1, 1) := by decide +kernel
theorem dX7_init_115 : decode cX7_init 115 = .ok (.new 33, 3) := by decide +kernel
theorem dX7_init_118 : decode cX7_init 118 = .ok (.dup, 1) := by decide +kernel
theorem dX7_init_119 : decode cX7_init 119 = .ok (.invokespecial 39, 3) := by decide +kernel
theorem dX7_init_122 : decode cX7_init 122 = .ok (.aastore, 1) := by decide +kernel
theorem dX7_init_123 : decode cX7_init 123 = .ok (.iinc 1 1, 3) := by decide +kernel
theorem dX7_init_126 : decode cX7_init 126 = .ok (.goto (-25), 3) := by decide +kernel
theorem dX7_init_129 : decode cX7_init 129 = .ok (.iconst 0, 1) := by decide +kernel
theorem dX7_init_130 : decode cX7_init 130 = .ok (.istore_n 1, 1) := by decide +kernel
theorem dX7_init_131 : decode cX7_init 131 = .ok (.iload_n 1, 1) := by decide +kernel
theorem dX7_init_132 : decode cX7_init 132 = .ok (.aload_n 0, 1) := by decide +kernel
theorem dX7_init_133 : decode cX7_init 133 = .ok (.getfield 60, 3) := by decide +kernel
theorem dX7_init_136 : decode cX7_init 136 = .ok (.arraylength, 1) := by decide +kernel
theorem dX7_init_137 : decode cX7_init 137 = .ok (.if_icmp .ge 22, 3) := by decide +kernel
theorem dX7_init_140 : decode cX7_init 140 = .ok (.aload_n 0, 1) := by decide +kernel
theorem dX7_init_141 : decode cX7_init 141 = .ok (.getfield 60, 3) := by decide +kernel
theorem dX7_init_144 : decode cX7_init 144 = .ok (.iload_n 1, 1) := by decide +kernel
theorem dX7_init_145 : decode cX7_init 145 = .ok (.new 58, 3) := by decide +kernel
theorem dX7_init_148 : decode cX7_init 148 = .ok (.dup, 1) := by decide +kernel
theorem dX7_init_149 : decode cX7_init 149 = .ok (.invokespecial 64, 3) := by decide +kernel
theorem dX7_init_152 : decode cX7_init 152 = .ok (.aastore, 1) := by decide +kernel
theorem dX7_init_153 : decode cX7_init 153 = .ok (.iinc 1 1, 3) := by decide +kernel
theorem dX7_init_156 : decode cX7_init 156 = .ok (.goto (-25), 3) := by decide +kernel
theorem dX7_init_159 : decode cX7_init 159 = .ok (.return_, 1) := by decide +kernel
theorem dX7_mourner_0 : decode cX7_mourner 0 = .ok (.iload_n 1, 1) := by decide +kernel
theorem dX7_mourner_1 : decode cX7_mourner 1 = .ok (.bipush 6, 2) := by decide +kernel
theorem dX7_mourner_3 : decode cX7_mourner 3 = .ok (.invokestatic 65, 3) := by decide +kernel
theorem dX7_mourner_6 : decode cX7_mourner 6 = .ok (.ifCond .eq 13, 3) := by decide +kernel
theorem dX7_mourner_9 : decode cX7_mourner 9 = .ok (.iload 4, 2) := by decide +kernel
theorem dX7_mourner_11 : decode cX7_mourner 11 = .ok (.bipush 9, 2) := by decide +kernel
theorem dX7_mourner_13 : decode cX7_mourner 13 = .ok (.invokestatic 65, 3) := by decide +kernel
theorem dX7_mourner_16 : decode cX7_mourner 16 = .ok (.ifCond .ne 5, 3) := by decide +kernel
theorem dX7_mourner_19 : decode cX7_mourner 19 = .ok (.iconst (-1), 1) := by decide +kernel
theorem dX7_mourner_20 : decode cX7_mourner 20 = .ok (.ireturn, 1) := by decide +kernel
theorem dX7_mourner_21 : decode cX7_mourner 21 = .ok (.iload_n 2, 1) := by decide +kernel
theorem dX7_mourner_22 : decode cX7_mourner 22 = .ok (.bipush 9, 2) := by decide +kernel
theorem dX7_mourner_24 : decode cX7_mourner 24 = .ok (.invokestatic 65, 3) := by decide +kernel
theorem dX7_mourner_27 : decode cX7_mourner 27 = .ok (.ifCond .eq 12, 3) := by decide +kernel
theorem dX7_mourner_30 : decode cX7_mourner 30 = .ok (.iload_n 3, 1) := by decide +kernel
theorem dX7_mourner_31 : decode cX7_mourner 31 = .ok (.bipush 20, 2) := by decide +kernel
theorem dX7_mourner_33 : decode cX7_mourner 33 = .ok (.invokestatic 65, 3) := by decide +kernel
theorem dX7_mourner_36 : decode cX7_mourner 36 = .ok (.ifCond .ne 6, 3) := by decide +kernel
theorem dX7_mourner_39 : decode cX7_mourner 39 = .ok (.bipush (-2), 2) := by decide +kernel
theorem dX7_mourner_41 : decode cX7_mourner 41 = .ok (.ireturn, 1) := by decide +kernel
theorem dX7_mourner_42 : decode cX7_mourner 42 = .ok (.aload_n 0, 1) := by decide +kernel
theorem dX7_mourner_43 : decode cX7_mourner 43 = .ok (.getfield 14, 3) := by decide +kernel
theorem dX7_mourner_46 : decode cX7_mourner 46 = .ok (.getfield 69, 3) := by decide +kernel
theorem dX7_mourner_49 : decode cX7_mourner 49 = .ok (.bipush 6, 2) := by decide +kernel
theorem dX7_mourner_51 : decode cX7_mourner 51 = .ok (.if_icmp .lt 8, 3) := by decide +kernel
theorem dX7_mourner_54 : decode cX7_mourner 54 = .ok (.bipush (-4), 2) := by decide +kernel
theorem dX7_mourner_56 : decode cX7_mourner 56 = .ok (.goto 15, 3) := by decide +kernel
theorem dX7_mourner_59 : decode cX7_mourner 59 = .ok (.aload_n 0, 1) := by decide +kernel
theorem dX7_mourner_60 : decode cX7_mourner 60 = .ok (.getfield 14, 3) := by decide +kernel
theorem dX7_mourner_63 : decode cX7_mourner 63 = .ok (.iload_n 1, 1) := by decide +kernel
theorem dX7_mourner_64 : decode cX7_mourner 64 = .ok (.iload_n 2, 1) := by decide +kernel
theorem dX7_mourner_65 : decode cX7_mourner 65 = .ok (.iload_n 3, 1) := by decide +kernel
theorem dX7_mourner_66 : decode cX7_mourner 66 = .ok (.iload 4, 2) := by decide +kernel
theorem dX7_mourner_68 : decode cX7_mourner 68 = .ok (.invokevirtual 73, 3) := by decide +kernel
theorem dX7_mourner_71 : decode cX7_mourner 71 = .ok (.ireturn, 1) := by decide +kernel
theorem dX7_of_0 : decode cX7_of 0 = .ok (.aload_n 0, 1) := by decide +kernel
theorem dX7_of_1 : decode cX7_of 1 = .ok (.getfield 14, 3) := by decide +kernel
theorem dX7_of_4 : decode cX7_of 4 = .ok (.iload_n 1, 1) := by decide +kernel
theorem dX7_of_5 : decode cX7_of 5 = .ok (.invokevirtual 77, 3) := by decide +kernel
theorem dX7_of_8 : decode cX7_of 8 = .ok (.ifCond .ne 7, 3) := by decide +kernel
theorem dX7_of_11 : decode cX7_of 11 = .ok (.sipush (-10001), 3) := by decide +kernel
theorem dX7_of_14 : decode cX7_of 14 = .ok (.ireturn, 1) := by decide +kernel
theorem dX7_of_15 : decode cX7_of 15 = .ok (.iload_n 2, 1) := by decide +kernel
theorem dX7_of_16 : decode cX7_of 16 = .ok (.tableswitch 117 0 5 #[40, 52, 64, 76, 88, 105], 40) := by decide +kernel
theorem dX7_of_56 : decode cX7_of 56 = .ok (.aload_n 0, 1) := by decide +kernel
theorem dX7_of_57 : decode cX7_of 57 = .ok (.getfield 14, 3) := by decide +kernel
theorem dX7_of_60 : decode cX7_of 60 = .ok (.getfield 81, 3) := by decide +kernel
theorem dX7_of_63 : decode cX7_of 63 = .ok (.iload_n 1, 1) := by decide +kernel
theorem dX7_of_64 : decode cX7_of 64 = .ok (.invokestatic 85, 3) := by decide +kernel
theorem dX7_of_67 : decode cX7_of 67 = .ok (.ireturn, 1) := by decide +kernel
theorem dX7_of_68 : decode cX7_of 68 = .ok (.aload_n 0, 1) := by decide +kernel
theorem dX7_of_69 : decode cX7_of 69 = .ok (.getfield 14, 3) := by decide +kernel
theorem dX7_of_72 : decode cX7_of 72 = .ok (.getfield 89, 3) := by decide +kernel
theorem dX7_of_75 : decode cX7_of 75 = .ok (.iload_n 1, 1) := by decide +kernel
theorem dX7_of_76 : decode cX7_of 76 = .ok (.invokestatic 85, 3) := by decide +kernel
theorem dX7_of_79 : decode cX7_of 79 = .ok (.ireturn, 1) := by decide +kernel
theorem dX7_of_80 : decode cX7_of 80 = .ok (.aload_n 0, 1) := by decide +kernel
theorem dX7_of_81 : decode cX7_of 81 = .ok (.getfield 14, 3) := by decide +kernel
theorem dX7_of_84 : decode cX7_of 84 = .ok (.getfield 92, 3) := by decide +kernel
theorem dX7_of_87 : decode cX7_of 87 = .ok (.iload_n 1, 1) := by decide +kernel
theorem dX7_of_88 : decode cX7_of 88 = .ok (.invokestatic 85, 3) := by decide +kernel
theorem dX7_of_91 : decode cX7_of 91 = .ok (.ireturn, 1) := by decide +kernel
theorem dX7_of_92 : decode cX7_of 92 = .ok (.aload_n 0, 1) := by decide +kernel
theorem dX7_of_93 : decode cX7_of 93 = .ok (.getfield 14, 3) := by decide +kernel
theorem dX7_of_96 : decode cX7_of 96 = .ok (.getfield 95, 3) := by decide +kernel
theorem dX7_of_99 : decode cX7_of 99 = .ok (.iload_n 1, 1) := by decide +kernel
theorem dX7_of_100 : decode cX7_of 100 = .ok (.invokestatic 85, 3) := by decide +kernel
theorem dX7_of_103 : decode cX7_of 103 = .ok (.ireturn, 1) := by decide +kernel
theorem dX7_of_104 : decode cX7_of 104 = .ok (.aload_n 0, 1) := by decide +kernel
theorem dX7_of_105 : decode cX7_of 105 = .ok (.getfield 14, 3) := by decide +kernel
theorem dX7_of_108 : decode cX7_of 108 = .ok (.iload_n 1, 1) := by decide +kernel
theorem dX7_of_109 : decode cX7_of 109 = .ok (.invokevirtual 98, 3) := by decide +kernel
theorem dX7_of_112 : decode cX7_of 112 = .ok (.ifCond .eq 7, 3) := by decide +kernel
theorem dX7_of_115 : decode cX7_of 115 = .ok (.iconst 1, 1) := by decide +kernel
theorem dX7_of_116 : decode cX7_of 116 = .ok (.goto 4, 3) := by decide +kernel
theorem dX7_of_119 : decode cX7_of 119 = .ok (.iconst 0, 1) := by decide +kernel
theorem dX7_of_120 : decode cX7_of 120 = .ok (.ireturn, 1) := by decide +kernel
theorem dX7_of_121 : decode cX7_of 121 = .ok (.aload_n 0, 1) := by decide +kernel
theorem dX7_of_122 : decode cX7_of 122 = .ok (.getfield 14, 3) := by decide +kernel
theorem dX7_of_125 : decode cX7_of 125 = .ok (.getfield 101, 3) := by decide +kernel
theorem dX7_of_128 : decode cX7_of 128 = .ok (.iload_n 1, 1) := by decide +kernel
theorem dX7_of_129 : decode cX7_of 129 = .ok (.invokestatic 85, 3) := by decide +kernel
theorem dX7_of_132 : decode cX7_of 132 = .ok (.ireturn, 1) := by decide +kernel
theorem dX7_of_133 : decode cX7_of 133 = .ok (.aload_n 0, 1) := by decide +kernel
theorem dX7_of_134 : decode cX7_of 134 = .ok (.iload_n 1, 1) := by decide +kernel
theorem dX7_of_135 : decode cX7_of 135 = .ok (.iload_n 2, 1) := by decide +kernel
theorem dX7_of_136 : decode cX7_of 136 = .ok (.invokevirtual 104, 3) := by decide +kernel
theorem dX7_of_139 : decode cX7_of 139 = .ok (.ireturn, 1) := by decide +kernel
theorem dX7_reckonedOf_0 : decode cX7_reckonedOf 0 = .ok (.aload_n 0, 1) := by decide +kernel
theorem dX7_reckonedOf_1 : decode cX7_reckonedOf 1 = .ok (.getfield 47, 3) := by decide +kernel
theorem dX7_reckonedOf_4 : decode cX7_reckonedOf 4 = .ok (.aload_n 0, 1) := by decide +kernel
theorem dX7_reckonedOf_5 : decode cX7_reckonedOf 5 = .ok (.getfield 14, 3) := by decide +kernel
theorem dX7_reckonedOf_8 : decode cX7_reckonedOf 8 = .ok (.aload_n 0, 1) := by decide +kernel
theorem dX7_reckonedOf_9 : decode cX7_reckonedOf 9 = .ok (.invokevirtual 108, 3) := by decide +kernel
theorem dX7_reckonedOf_12 : decode cX7_reckonedOf 12 = .ok (.invokevirtual 112, 3) := by decide +kernel
theorem dX7_reckonedOf_15 : decode cX7_reckonedOf 15 = .ok (.iload_n 2, 1) := by decide +kernel
theorem dX7_reckonedOf_16 : decode cX7_reckonedOf 16 = .ok (.bipush 6, 2) := by decide +kernel
theorem dX7_reckonedOf_18 : decode cX7_reckonedOf 18 = .ok (.if_icmp .ne 30, 3) := by decide +kernel
theorem dX7_reckonedOf_21 : decode cX7_reckonedOf 21 = .ok (.aload_n 0, 1) := by decide +kernel
theorem dX7_reckonedOf_22 : decode cX7_reckonedOf 22 = .ok (.getfield 47, 3) := by decide +kernel
theorem dX7_reckonedOf_25 : decode cX7_reckonedOf 25 = .ok (.aload_n 0, 1) := by decide +kernel
theorem dX7_reckonedOf_26 : decode cX7_reckonedOf 26 = .ok (.getfield 14, 3) := by decide +kernel
theorem dX7_reckonedOf_29 : decode cX7_reckonedOf 29 = .ok (.iload_n 1, 1) := by decide +kernel
theorem dX7_reckonedOf_30 : decode cX7_reckonedOf 30 = .ok (.aload_n 0, 1) := by decide +kernel
theorem dX7_reckonedOf_31 : decode cX7_reckonedOf 31 = .ok (.getfield 14, 3) := by decide +kernel
theorem dX7_reckonedOf_34 : decode cX7_reckonedOf 34 = .ok (.getfield 116, 3) := by decide +kernel
theorem dX7_reckonedOf_37 : decode cX7_reckonedOf 37 = .ok (.aload_n 0, 1) := by decide +kernel
theorem dX7_reckonedOf_38 : decode cX7_reckonedOf 38 = .ok (.getfield 14, 3) := by decide +kernel
theorem dX7_reckonedOf_41 : decode cX7_reckonedOf 41 = .ok (.getfield 119, 3) := by decide +kernel
theorem dX7_reckonedOf_44 : decode cX7_reckonedOf 44 = .ok (.invokevirtual 122, 3) := by decide +kernel
theorem dX7_reckonedOf_47 : decode cX7_reckonedOf 47 = .ok (.ireturn, 1) := by decide +kernel
theorem dX7_reckonedOf_48 : decode cX7_reckonedOf 48 = .ok (.iload_n 2, 1) := by decide +kernel
theorem dX7_reckonedOf_49 : decode cX7_reckonedOf 49 = .ok (.bipush 7, 2) := by decide +kernel
theorem dX7_reckonedOf_51 : decode cX7_reckonedOf 51 = .ok (.if_icmp .ne 16, 3) := by decide +kernel
theorem dX7_reckonedOf_54 : decode cX7_reckonedOf 54 = .ok (.aload_n 0, 1) := by decide +kernel
theorem dX7_reckonedOf_55 : decode cX7_reckonedOf 55 = .ok (.getfield 47, 3) := by decide +kernel
theorem dX7_reckonedOf_58 : decode cX7_reckonedOf 58 = .ok (.aload_n 0, 1) := by decide +kernel
theorem dX7_reckonedOf_59 : decode cX7_reckonedOf 59 = .ok (.getfield 14, 3) := by decide +kernel
theorem dX7_reckonedOf_62 : decode cX7_reckonedOf 62 = .ok (.iload_n 1, 1) := by decide +kernel
theorem dX7_reckonedOf_63 : decode cX7_reckonedOf 63 = .ok (.invokevirtual 126, 3) := by decide +kernel
theorem dX7_reckonedOf_66 : decode cX7_reckonedOf 66 = .ok (.ireturn, 1) := by decide +kernel
theorem dX7_reckonedOf_67 : decode cX7_reckonedOf 67 = .ok (.iload_n 2, 1) := by decide +kernel
theorem dX7_reckonedOf_68 : decode cX7_reckonedOf 68 = .ok (.bipush 10, 2) := by decide +kernel
theorem dX7_reckonedOf_70 : decode cX7_reckonedOf 70 = .ok (.if_icmp .lt 22, 3) := by decide +kernel
theorem dX7_reckonedOf_73 : decode cX7_reckonedOf 73 = .ok (.iload_n 2, 1) := by decide +kernel
theorem dX7_reckonedOf_74 : decode cX7_reckonedOf 74 = .ok (.bipush 20, 2) := by decide +kernel
theorem dX7_reckonedOf_76 : decode cX7_reckonedOf 76 = .ok (.if_icmp .ge 16, 3) := by decide +kernel
theorem dX7_reckonedOf_79 : decode cX7_reckonedOf 79 = .ok (.aload_n 0, 1) := by decide +kernel
theorem dX7_reckonedOf_80 : decode cX7_reckonedOf 80 = .ok (.getfield 47, 3) := by decide +kernel
theorem dX7_reckonedOf_83 : decode cX7_reckonedOf 83 = .ok (.iload_n 1, 1) := by decide +kernel
theorem dX7_reckonedOf_84 : decode cX7_reckonedOf 84 = .ok (.iload_n 2, 1) := by decide +kernel
theorem dX7_reckonedOf_85 : decode cX7_reckonedOf 85 = .ok (.bipush 10, 2) := by decide +kernel
theorem dX7_reckonedOf_87 : decode cX7_reckonedOf 87 = .ok (.isub, 1) := by decide +kernel
theorem dX7_reckonedOf_88 : decode cX7_reckonedOf 88 = .ok (.invokevirtual 130, 3) := by decide +kernel
theorem dX7_reckonedOf_91 : decode cX7_reckonedOf 91 = .ok (.ireturn, 1) := by decide +kernel
theorem dX7_reckonedOf_92 : decode cX7_reckonedOf 92 = .ok (.iload_n 2, 1) := by decide +kernel
theorem dX7_reckonedOf_93 : decode cX7_reckonedOf 93 = .ok (.bipush 20, 2) := by decide +kernel
theorem dX7_reckonedOf_95 : decode cX7_reckonedOf 95 = .ok (.if_icmp .lt 26, 3) := by decide +kernel
theorem dX7_reckonedOf_98 : decode cX7_reckonedOf 98 = .ok (.iload_n 2, 1) := by decide +kernel
theorem dX7_reckonedOf_99 : decode cX7_reckonedOf 99 = .ok (.bipush 30, 2) := by decide +kernel
theorem dX7_reckonedOf_101 : decode cX7_reckonedOf 101 = .ok (.if_icmp .ge 20, 3) := by decide +kernel
theorem dX7_reckonedOf_104 : decode cX7_reckonedOf 104 = .ok (.aload_n 0, 1) := by decide +kernel
theorem dX7_reckonedOf_105 : decode cX7_reckonedOf 105 = .ok (.getfield 47, 3) := by decide +kernel
theorem dX7_reckonedOf_108 : decode cX7_reckonedOf 108 = .ok (.aload_n 0, 1) := by decide +kernel
theorem dX7_reckonedOf_109 : decode cX7_reckonedOf 109 = .ok (.getfield 14, 3) := by decide +kernel
theorem dX7_reckonedOf_112 : decode cX7_reckonedOf 112 = .ok (.iload_n 1, 1) := by decide +kernel
theorem dX7_reckonedOf_113 : decode cX7_reckonedOf 113 = .ok (.iload_n 2, 1) := by decide +kernel
theorem dX7_reckonedOf_114 : decode cX7_reckonedOf 114 = .ok (.bipush 20, 2) := by decide +kernel
theorem dX7_reckonedOf_116 : decode cX7_reckonedOf 116 = .ok (.isub, 1) := by decide +kernel
theorem dX7_reckonedOf_117 : decode cX7_reckonedOf 117 = .ok (.invokevirtual 133, 3) := by decide +kernel
theorem dX7_reckonedOf_120 : decode cX7_reckonedOf 120 = .ok (.ireturn, 1) := by decide +kernel
theorem dX7_reckonedOf_121 : decode cX7_reckonedOf 121 = .ok (.sipush (-10001), 3) := by decide +kernel
theorem dX7_reckonedOf_124 : decode cX7_reckonedOf 124 = .ok (.ireturn, 1) := by decide +kernel
theorem dX7_set_0 : decode cX7_set 0 = .ok (.aload_n 0, 1) := by decide +kernel
theorem dX7_set_1 : decode cX7_set 1 = .ok (.getfield 14, 3) := by decide +kernel
theorem dX7_set_4 : decode cX7_set 4 = .ok (.iload_n 1, 1) := by decide +kernel
theorem dX7_set_5 : decode cX7_set 5 = .ok (.invokevirtual 77, 3) := by decide +kernel
theorem dX7_set_8 : decode cX7_set 8 = .ok (.ifCond .eq 11, 3) := by decide +kernel
theorem dX7_set_11 : decode cX7_set 11 = .ok (.iload_n 2, 1) := by decide +kernel
theorem dX7_set_12 : decode cX7_set 12 = .ok (.iconst 1, 1) := by decide +kernel
theorem dX7_set_13 : decode cX7_set 13 = .ok (.invokestatic 65, 3) := by decide +kernel
theorem dX7_set_16 : decode cX7_set 16 = .ok (.ifCond .ne 5, 3) := by decide +kernel
theorem dX7_set_19 : decode cX7_set 19 = .ok (.iconst (-1), 1) := by decide +kernel
theorem dX7_set_20 : decode cX7_set 20 = .ok (.ireturn, 1) := by decide +kernel
theorem dX7_set_21 : decode cX7_set 21 = .ok (.iload_n 3, 1) := by decide +kernel
theorem dX7_set_22 : decode cX7_set 22 = .ok (.iload_n 2, 1) := by decide +kernel
theorem dX7_set_23 : decode cX7_set 23 = .ok (.ifCond .ne 8, 3) := by decide +kernel
theorem dX7_set_26 : decode cX7_set 26 = .ok (.bipush 20, 2) := by decide +kernel
theorem dX7_set_28 : decode cX7_set 28 = .ok (.goto 5, 3) := by decide +kernel
theorem dX7_set_31 : decode cX7_set 31 = .ok (.bipush 9, 2) := by decide +kernel
theorem dX7_set_33 : decode cX7_set 33 = .ok (.invokestatic 65, 3) := by decide +kernel
theorem dX7_set_36 : decode cX7_set 36 = .ok (.ifCond .ne 6, 3) := by decide +kernel
theorem dX7_set_39 : decode cX7_set 39 = .ok (.bipush (-2), 2) := by decide +kernel
theorem dX7_set_41 : decode cX7_set 41 = .ok (.ireturn, 1) := by decide +kernel
theorem dX7_set_42 : decode cX7_set 42 = .ok (.iload_n 2, 1) := by decide +kernel
theorem dX7_set_43 : decode cX7_set 43 = .ok (.ifCond .ne 13, 3) := by decide +kernel
theorem dX7_set_46 : decode cX7_set 46 = .ok (.aload_n 0, 1) := by decide +kernel
theorem dX7_set_47 : decode cX7_set 47 = .ok (.getfield 14, 3) := by decide +kernel
theorem dX7_set_50 : decode cX7_set 50 = .ok (.getfield 92, 3) := by decide +kernel
theorem dX7_set_53 : decode cX7_set 53 = .ok (.goto 10, 3) := by decide +kernel
theorem dX7_set_56 : decode cX7_set 56 = .ok (.aload_n 0, 1) := by decide +kernel
theorem dX7_set_57 : decode cX7_set 57 = .ok (.getfield 14, 3) := by decide +kernel
theorem dX7_set_60 : decode cX7_set 60 = .ok (.getfield 95, 3) := by decide +kernel
theorem dX7_set_63 : decode cX7_set 63 = .ok (.astore 4, 2) := by decide +kernel
theorem dX7_set_65 : decode cX7_set 65 = .ok (.aload 4, 2) := by decide +kernel
theorem dX7_set_67 : decode cX7_set 67 = .ok (.iload_n 1, 1) := by decide +kernel
theorem dX7_set_68 : decode cX7_set 68 = .ok (.invokestatic 85, 3) := by decide +kernel
theorem dX7_set_71 : decode cX7_set 71 = .ok (.istore 5, 2) := by decide +kernel
theorem dX7_set_73 : decode cX7_set 73 = .ok (.aload 4, 2) := by decide +kernel
theorem dX7_set_75 : decode cX7_set 75 = .ok (.iload_n 1, 1) := by decide +kernel
theorem dX7_set_76 : decode cX7_set 76 = .ok (.iload_n 3, 1) := by decide +kernel
theorem dX7_set_77 : decode cX7_set 77 = .ok (.invokestatic 137, 3) := by decide +kernel
theorem dX7_set_80 : decode cX7_set 80 = .ok (.iload 5, 2) := by decide +kernel
theorem dX7_set_82 : decode cX7_set 82 = .ok (.ireturn, 1) := by decide +kernel
theorem dX7_away_0 : decode cX7_away 0 = .ok (.aload_n 0, 1) := by decide +kernel
theorem dX7_away_1 : decode cX7_away 1 = .ok (.getfield 14, 3) := by decide +kernel
theorem dX7_away_4 : decode cX7_away 4 = .ok (.iload_n 1, 1) := by decide +kernel
theorem dX7_away_5 : decode cX7_away 5 = .ok (.invokevirtual 77, 3) := by decide +kernel
theorem dX7_away_8 : decode cX7_away 8 = .ok (.ifCond .ne 5, 3) := by decide +kernel
theorem dX7_away_11 : decode cX7_away 11 = .ok (.iconst (-1), 1) := by decide +kernel
theorem dX7_away_12 : decode cX7_away 12 = .ok (.ireturn, 1) := by decide +kernel
theorem dX7_away_13 : decode cX7_away 13 = .ok (.aload_n 0, 1) := by decide +kernel
theorem dX7_away_14 : decode cX7_away 14 = .ok (.getfield 14, 3) := by decide +kernel
theorem dX7_away_17 : decode cX7_away 17 = .ok (.iload_n 1, 1) := by decide +kernel
theorem dX7_away_18 : decode cX7_away 18 = .ok (.invokevirtual 98, 3) := by decide +kernel
theorem dX7_away_21 : decode cX7_away 21 = .ok (.istore_n 3, 1) := by decide +kernel
theorem dX7_away_22 : decode cX7_away 22 = .ok (.aload_n 0, 1) := by decide +kernel
theorem dX7_away_23 : decode cX7_away 23 = .ok (.getfield 14, 3) := by decide +kernel
theorem dX7_away_26 : decode cX7_away 26 = .ok (.iload_n 1, 1) := by decide +kernel
theorem dX7_away_27 : decode cX7_away 27 = .ok (.iload_n 2, 1) := by decide +kernel
theorem dX7_away_28 : decode cX7_away 28 = .ok (.invokevirtual 141, 3) := by decide +kernel
theorem dX7_away_31 : decode cX7_away 31 = .ok (.iload_n 3, 1) := by decide +kernel
theorem dX7_away_32 : decode cX7_away 32 = .ok (.ifCond .eq 7, 3) := by decide +kernel
theorem dX7_away_35 : decode cX7_away 35 = .ok (.iconst 1, 1) := by decide +kernel
theorem dX7_away_36 : decode cX7_away 36 = .ok (.goto 4, 3) := by decide +kernel
theorem dX7_away_39 : decode cX7_away 39 = .ok (.iconst 0, 1) := by decide +kernel
theorem dX7_away_40 : decode cX7_away 40 = .ok (.ireturn, 1) := by decide +kernel
theorem dX7_debt_0 : decode cX7_debt 0 = .ok (.iload_n 1, 1) := by decide +kernel
theorem dX7_debt_1 : decode cX7_debt 1 = .ok (.sipush 999, 3) := by decide +kernel
theorem dX7_debt_4 : decode cX7_debt 4 = .ok (.invokestatic 65, 3) := by decide +kernel
theorem dX7_debt_7 : decode cX7_debt 7 = .ok (.ifCond .ne 6, 3) := by decide +kernel
theorem dX7_debt_10 : decode cX7_debt 10 = .ok (.bipush (-2), 2) := by decide +kernel
theorem dX7_debt_12 : decode cX7_debt 12 = .ok (.ireturn, 1) := by decide +kernel
theorem dX7_debt_13 : decode cX7_debt 13 = .ok (.aload_n 0, 1) := by decide +kernel
theorem dX7_debt_14 : decode cX7_debt 14 = .ok (.getfield 14, 3) := by decide +kernel
theorem dX7_debt_17 : decode cX7_debt 17 = .ok (.getfield 116, 3) := by decide +kernel
theorem dX7_debt_20 : decode cX7_debt 20 = .ok (.istore_n 2, 1) := by decide +kernel
theorem dX7_debt_21 : decode cX7_debt 21 = .ok (.aload_n 0, 1) := by decide +kernel
theorem dX7_debt_22 : decode cX7_debt 22 = .ok (.getfield 14, 3) := by decide +kernel
theorem dX7_debt_25 : decode cX7_debt 25 = .ok (.iload_n 1, 1) := by decide +kernel
theorem dX7_debt_26 : decode cX7_debt 26 = .ok (.putfield 116, 3) := by decide +kernel
theorem dX7_debt_29 : decode cX7_debt 29 = .ok (.iload_n 2, 1) := by decide +kernel
theorem dX7_debt_30 : decode cX7_debt 30 = .ok (.ireturn, 1) := by decide +kernel
theorem dX7_row_0 : decode cX7_row 0 = .ok (.aload_n 0, 1) := by decide +kernel
theorem dX7_row_1 : decode cX7_row 1 = .ok (.getfield 14, 3) := by decide +kernel
theorem dX7_row_4 : decode cX7_row 4 = .ok (.iload_n 1, 1) := by decide +kernel
theorem dX7_row_5 : decode cX7_row 5 = .ok (.invokevirtual 77, 3) := by decide +kernel
theorem dX7_row_8 : decode cX7_row 8 = .ok (.ifCond .eq 11, 3) := by decide +kernel
theorem dX7_row_11 : decode cX7_row 11 = .ok (.iload_n 2, 1) := by decide +kernel
theorem dX7_row_12 : decode cX7_row 12 = .ok (.iconst 3, 1) := by decide +kernel
theorem dX7_row_13 : decode cX7_row 13 = .ok (.invokestatic 65, 3) := by decide +kernel
theorem dX7_row_16 : decode cX7_row 16 = .ok (.ifCond .ne 5, 3) := by decide +kernel
theorem dX7_row_19 : decode cX7_row 19 = .ok (.iconst (-1), 1) := by decide +kernel
theorem dX7_row_20 : decode cX7_row 20 = .ok (.ireturn, 1) := by decide +kernel
theorem dX7_row_21 : decode cX7_row 21 = .ok (.iload_n 3, 1) := by decide +kernel
theorem dX7_row_22 : decode cX7_row 22 = .ok (.bipush 9, 2) := by decide +kernel
theorem dX7_row_24 : decode cX7_row 24 = .ok (.invokestatic 65, 3) := by decide +kernel
theorem dX7_row_27 : decode cX7_row 27 = .ok (.ifCond .ne 6, 3) := by decide +kernel
theorem dX7_row_30 : decode cX7_row 30 = .ok (.bipush (-2), 2) := by decide +kernel
theorem dX7_row_32 : decode cX7_row 32 = .ok (.ireturn, 1) := by decide +kernel
theorem dX7_row_33 : decode cX7_row 33 = .ok (.aload_n 0, 1) := by decide +kernel
theorem dX7_row_34 : decode cX7_row 34 = .ok (.getfield 14, 3) := by decide +kernel
theorem dX7_row_37 : decode cX7_row 37 = .ok (.getfield 81, 3) := by decide +kernel
theorem dX7_row_40 : decode cX7_row 40 = .ok (.iload_n 1, 1) := by decide +kernel
theorem dX7_row_41 : decode cX7_row 41 = .ok (.invokestatic 85, 3) := by decide +kernel
theorem dX7_row_44 : decode cX7_row 44 = .ok (.bipush 6, 2) := by decide +kernel
theorem dX7_row_46 : decode cX7_row 46 = .ok (.if_icmp .eq 6, 3) := by decide +kernel
theorem dX7_row_49 : decode cX7_row 49 = .ok (.bipush (-3), 2) := by decide +kernel
theorem dX7_row_51 : decode cX7_row 51 = .ok (.ireturn, 1) := by decide +kernel
theorem dX7_row_52 : decode cX7_row 52 = .ok (.iload_n 1, 1) := by decide +kernel
theorem dX7_row_53 : decode cX7_row 53 = .ok (.iconst 4, 1) := by decide +kernel
theorem dX7_row_54 : decode cX7_row 54 = .ok (.imul, 1) := by decide +kernel
theorem dX7_row_55 : decode cX7_row 55 = .ok (.iload_n 2, 1) := by decide +kernel
theorem dX7_row_56 : decode cX7_row 56 = .ok (.iadd, 1) := by decide +kernel
theorem dX7_row_57 : decode cX7_row 57 = .ok (.istore 4, 2) := by decide +kernel
theorem dX7_row_59 : decode cX7_row 59 = .ok (.aload_n 0, 1) := by decide +kernel
theorem dX7_row_60 : decode cX7_row 60 = .ok (.getfield 14, 3) := by decide +kernel
theorem dX7_row_63 : decode cX7_row 63 = .ok (.getfield 145, 3) := by decide +kernel
theorem dX7_row_66 : decode cX7_row 66 = .ok (.iload 4, 2) := by decide +kernel
theorem dX7_row_68 : decode cX7_row 68 = .ok (.invokestatic 85, 3) := by decide +kernel
theorem dX7_row_71 : decode cX7_row 71 = .ok (.istore 5, 2) := by decide +kernel
theorem dX7_row_73 : decode cX7_row 73 = .ok (.aload_n 0, 1) := by decide +kernel
theorem dX7_row_74 : decode cX7_row 74 = .ok (.getfield 14, 3) := by decide +kernel
theorem dX7_row_77 : decode cX7_row 77 = .ok (.getfield 145, 3) := by decide +kernel
theorem dX7_row_80 : decode cX7_row 80 = .ok (.iload 4, 2) := by decide +kernel
theorem dX7_row_82 : decode cX7_row 82 = .ok (.iload_n 3, 1) := by decide +kernel
theorem dX7_row_83 : decode cX7_row 83 = .ok (.invokestatic 137, 3) := by decide +kernel
theorem dX7_row_86 : decode cX7_row 86 = .ok (.iload 5, 2) := by decide +kernel
theorem dX7_row_88 : decode cX7_row 88 = .ok (.ireturn, 1) := by decide +kernel
theorem dX7_feed_0 : decode cX7_feed 0 = .ok (.iload_n 1, 1) := by decide +kernel
theorem dX7_feed_1 : decode cX7_feed 1 = .ok (.bipush 127, 2) := by decide +kernel
theorem dX7_feed_3 : decode cX7_feed 3 = .ok (.invokestatic 65, 3) := by decide +kernel
theorem dX7_feed_6 : decode cX7_feed 6 = .ok (.ifCond .eq 14, 3) := by decide +kernel
theorem dX7_feed_9 : decode cX7_feed 9 = .ok (.aload_n 0, 1) := by decide +kernel
theorem dX7_feed_10 : decode cX7_feed 10 = .ok (.getfield 29, 3) := by decide +kernel
theorem dX7_feed_13 : decode cX7_feed 13 = .ok (.iload_n 1, 1) := by decide +kernel
theorem dX7_feed_14 : decode cX7_feed 14 = .ok (.invokevirtual 148, 3) := by decide +kernel
theorem dX7_feed_17 : decode cX7_feed 17 = .ok (.goto 5, 3) := by decide +kernel
theorem dX7_feed_20 : decode cX7_feed 20 = .ok (.bipush (-2), 2) := by decide +kernel
theorem dX7_feed_22 : decode cX7_feed 22 = .ok (.ireturn, 1) := by decide +kernel
theorem dX7_parish_0 : decode cX7_parish 0 = .ok (.aload_n 0, 1) := by decide +kernel
theorem dX7_parish_1 : decode cX7_parish 1 = .ok (.aload_n 0, 1) := by decide +kernel
theorem dX7_parish_2 : decode cX7_parish 2 = .ok (.getfield 152, 3) := by decide +kernel
theorem dX7_parish_5 : decode cX7_parish 5 = .ok (.invokevirtual 155, 3) := by decide +kernel
theorem dX7_parish_8 : decode cX7_parish 8 = .ok (.astore_n 1, 1) := by decide +kernel
theorem dX7_parish_9 : decode cX7_parish 9 = .ok (.aload_n 1, 1) := by decide +kernel
theorem dX7_parish_10 : decode cX7_parish 10 = .ok (.ifnonnull 6, 3) := by decide +kernel
theorem dX7_parish_13 : decode cX7_parish 13 = .ok (.bipush (-4), 2) := by decide +kernel
theorem dX7_parish_15 : decode cX7_parish 15 = .ok (.ireturn, 1) := by decide +kernel
theorem dX7_parish_16 : decode cX7_parish 16 = .ok (.aload_n 0, 1) := by decide +kernel
theorem dX7_parish_17 : decode cX7_parish 17 = .ok (.getfield 29, 3) := by decide +kernel
theorem dX7_parish_20 : decode cX7_parish 20 = .ok (.aload_n 1, 1) := by decide +kernel
theorem dX7_parish_21 : decode cX7_parish 21 = .ok (.invokevirtual 159, 3) := by decide +kernel
theorem dX7_parish_24 : decode cX7_parish 24 = .ok (.ifCond .ne 14, 3) := by decide +kernel
theorem dX7_parish_27 : decode cX7_parish 27 = .ok (.bipush (-10), 2) := by decide +kernel
theorem dX7_parish_29 : decode cX7_parish 29 = .ok (.aload_n 0, 1) := by decide +kernel
theorem dX7_parish_30 : decode cX7_parish 30 = .ok (.getfield 29, 3) := by decide +kernel
theorem dX7_parish_33 : decode cX7_parish 33 = .ok (.getfield 163, 3) := by decide +kernel
theorem dX7_parish_36 : decode cX7_parish 36 = .ok (.isub, 1) := by decide +kernel
theorem dX7_parish_37 : decode cX7_parish 37 = .ok (.ireturn, 1) := by decide +kernel
theorem dX7_parish_38 : decode cX7_parish 38 = .ok (.aload_n 0, 1) := by decide +kernel
theorem dX7_parish_39 : decode cX7_parish 39 = .ok (.getfield 14, 3) := by decide +kernel
theorem dX7_parish_42 : decode cX7_parish 42 = .ok (.aload_n 0, 1) := by decide +kernel
theorem dX7_parish_43 : decode cX7_parish 43 = .ok (.getfield 152, 3) := by decide +kernel
theorem dX7_parish_46 : decode cX7_parish 46 = .ok (.putfield 166, 3) := by decide +kernel
theorem dX7_parish_49 : decode cX7_parish 49 = .ok (.aload_n 0, 1) := by decide +kernel
theorem dX7_parish_50 : decode cX7_parish 50 = .ok (.dup, 1) := by decide +kernel
theorem dX7_parish_51 : decode cX7_parish 51 = .ok (.getfield 152, 3) := by decide +kernel
theorem dX7_parish_54 : decode cX7_parish 54 = .ok (.iconst 1, 1) := by decide +kernel
theorem dX7_parish_55 : decode cX7_parish 55 = .ok (.iadd, 1) := by decide +kernel
theorem dX7_parish_56 : decode cX7_parish 56 = .ok (.putfield 152, 3) := by decide +kernel
theorem dX7_parish_59 : decode cX7_parish 59 = .ok (.aload_n 0, 1) := by decide +kernel
theorem dX7_parish_60 : decode cX7_parish 60 = .ok (.getfield 14, 3) := by decide +kernel
theorem dX7_parish_63 : decode cX7_parish 63 = .ok (.getfield 166, 3) := by decide +kernel
theorem dX7_parish_66 : decode cX7_parish 66 = .ok (.ireturn, 1) := by decide +kernel
theorem dX7_told_0 : decode cX7_told 0 = .ok (.iload_n 1, 1) := by decide +kernel
theorem dX7_told_1 : decode cX7_told 1 = .ok (.tableswitch 101 0 7 #[47, 55, 63, 71, 79, 84, 89, 95], 47) := by decide +kernel
theorem dX7_told_48 : decode cX7_told 48 = .ok (.aload_n 0, 1) := by decide +kernel
theorem dX7_told_49 : decode cX7_told 49 = .ok (.getfield 14, 3) := by decide +kernel
theorem dX7_told_52 : decode cX7_told 52 = .ok (.getfield 169, 3) := by decide +kernel
theorem dX7_told_55 : decode cX7_told 55 = .ok (.ireturn, 1) := by decide +kernel
theorem dX7_told_56 : decode cX7_told 56 = .ok (.aload_n 0, 1) := by decide +kernel
theorem dX7_told_57 : decode cX7_told 57 = .ok (.invokevirtual 108, 3) := by decide +kernel
theorem dX7_told_60 : decode cX7_told 60 = .ok (.getfield 172, 3) := by decide +kernel
theorem dX7_told_63 : decode cX7_told 63 = .ok (.ireturn, 1) := by decide +kernel
theorem dX7_told_64 : decode cX7_told 64 = .ok (.aload_n 0, 1) := by decide +kernel
theorem dX7_told_65 : decode cX7_told 65 = .ok (.getfield 14, 3) := by decide +kernel
theorem dX7_told_68 : decode cX7_told 68 = .ok (.getfield 116, 3) := by decide +kernel
theorem dX7_told_71 : decode cX7_told 71 = .ok (.ireturn, 1) := by decide +kernel
theorem dX7_told_72 : decode cX7_told 72 = .ok (.aload_n 0, 1) := by decide +kernel
theorem dX7_told_73 : decode cX7_told 73 = .ok (.getfield 14, 3) := by decide +kernel
theorem dX7_told_76 : decode cX7_told 76 = .ok (.getfield 119, 3) := by decide +kernel
theorem dX7_told_79 : decode cX7_told 79 = .ok (.ireturn, 1) := by decide +kernel
theorem dX7_told_80 : decode cX7_told 80 = .ok (.aload_n 0, 1) := by decide +kernel
theorem dX7_told_81 : decode cX7_told 81 = .ok (.invokevirtual 175, 3) := by decide +kernel
theorem dX7_told_84 : decode cX7_told 84 = .ok (.ireturn, 1) := by decide +kernel
theorem dX7_told_85 : decode cX7_told 85 = .ok (.aload_n 0, 1) := by decide +kernel
theorem dX7_told_86 : decode cX7_told 86 = .ok (.invokevirtual 179, 3) := by decide +kernel
theorem dX7_told_89 : decode cX7_told 89 = .ok (.ireturn, 1) := by decide +kernel
theorem dX7_told_90 : decode cX7_told 90 = .ok (.aload_n 0, 1) := by decide +kernel
theorem dX7_told_91 : decode cX7_told 91 = .ok (.iconst 0, 1) := by decide +kernel
theorem dX7_told_92 : decode cX7_told 92 = .ok (.invokevirtual 182, 3) := by decide +kernel
theorem dX7_told_95 : decode cX7_told 95 = .ok (.ireturn, 1) := by decide +kernel
theorem dX7_told_96 : decode cX7_told 96 = .ok (.aload_n 0, 1) := by decide +kernel
theorem dX7_told_97 : decode cX7_told 97 = .ok (.iconst 1, 1) := by decide +kernel
theorem dX7_told_98 : decode cX7_told 98 = .ok (.invokevirtual 182, 3) := by decide +kernel
theorem dX7_told_101 : decode cX7_told 101 = .ok (.ireturn, 1) := by decide +kernel
theorem dX7_told_102 : decode cX7_told 102 = .ok (.iconst (-1), 1) := by decide +kernel
theorem dX7_told_103 : decode cX7_told 103 = .ok (.ireturn, 1) := by decide +kernel
theorem dX7_parishAt_0 : decode cX7_parishAt 0 = .ok (.iload_n 1, 1) := by decide +kernel
theorem dX7_parishAt_1 : decode cX7_parishAt 1 = .ok (.ifCond .lt 21, 3) := by decide +kernel
theorem dX7_parishAt_4 : decode cX7_parishAt 4 = .ok (.iload_n 1, 1) := by decide +kernel
theorem dX7_parishAt_5 : decode cX7_parishAt 5 = .ok (.aload_n 0, 1) := by decide +kernel
theorem dX7_parishAt_6 : decode cX7_parishAt 6 = .ok (.getfield 35, 3) := by decide +kernel
theorem dX7_parishAt_9 : decode cX7_parishAt 9 = .ok (.arraylength, 1) := by decide +kernel
theorem dX7_parishAt_10 : decode cX7_parishAt 10 = .ok (.if_icmp .ge 12, 3) := by decide +kernel
theorem dX7_parishAt_13 : decode cX7_parishAt 13 = .ok (.aload_n 0, 1) := by decide +kernel
theorem dX7_parishAt_14 : decode cX7_parishAt 14 = .ok (.getfield 35, 3) := by decide +kernel
theorem dX7_parishAt_17 : decode cX7_parishAt 17 = .ok (.iload_n 1, 1) := by decide +kernel
theorem dX7_parishAt_18 : decode cX7_parishAt 18 = .ok (.aaload, 1) := by decide +kernel
theorem dX7_parishAt_19 : decode cX7_parishAt 19 = .ok (.goto 4, 3) := by decide +kernel
theorem dX7_parishAt_22 : decode cX7_parishAt 22 = .ok (.aconst_null, 1) := by decide +kernel
theorem dX7_parishAt_23 : decode cX7_parishAt 23 = .ok (.areturn, 1) := by decide +kernel
theorem dX7_held_0 : decode cX7_held 0 = .ok (.aload_n 0, 1) := by decide +kernel
theorem dX7_held_1 : decode cX7_held 1 = .ok (.aload_n 0, 1) := by decide +kernel
theorem dX7_held_2 : decode cX7_held 2 = .ok (.getfield 14, 3) := by decide +kernel
theorem dX7_held_5 : decode cX7_held 5 = .ok (.getfield 166, 3) := by decide +kernel
theorem dX7_held_8 : decode cX7_held 8 = .ok (.invokevirtual 155, 3) := by decide +kernel
theorem dX7_held_11 : decode cX7_held 11 = .ok (.astore_n 1, 1) := by decide +kernel
theorem dX7_held_12 : decode cX7_held 12 = .ok (.aload_n 1, 1) := by decide +kernel
theorem dX7_held_13 : decode cX7_held 13 = .ok (.ifnonnull 10, 3) := by decide +kernel
theorem dX7_held_16 : decode cX7_held 16 = .ok (.aload_n 0, 1) := by decide +kernel
theorem dX7_held_17 : decode cX7_held 17 = .ok (.getfield 40, 3) := by decide +kernel
theorem dX7_held_20 : decode cX7_held 20 = .ok (.goto 4, 3) := by decide +kernel
theorem dX7_held_23 : decode cX7_held 23 = .ok (.aload_n 1, 1) := by decide +kernel
theorem dX7_held_24 : decode cX7_held 24 = .ok (.areturn, 1) := by decide +kernel
theorem dX7_pass_0 : decode cX7_pass 0 = .ok (.iload_n 1, 1) := by decide +kernel
theorem dX7_pass_1 : decode cX7_pass 1 = .ok (.bipush 20, 2) := by decide +kernel
theorem dX7_pass_3 : decode cX7_pass 3 = .ok (.invokestatic 65, 3) := by decide +kernel
theorem dX7_pass_6 : decode cX7_pass 6 = .ok (.ifCond .ne 6, 3) := by decide +kernel
theorem dX7_pass_9 : decode cX7_pass 9 = .ok (.bipush (-2), 2) := by decide +kernel
theorem dX7_pass_11 : decode cX7_pass 11 = .ok (.ireturn, 1) := by decide +kernel
theorem dX7_pass_12 : decode cX7_pass 12 = .ok (.aload_n 0, 1) := by decide +kernel
theorem dX7_pass_13 : decode cX7_pass 13 = .ok (.getfield 14, 3) := by decide +kernel
theorem dX7_pass_16 : decode cX7_pass 16 = .ok (.getfield 169, 3) := by decide +kernel
theorem dX7_pass_19 : decode cX7_pass 19 = .ok (.iload_n 1, 1) := by decide +kernel
theorem dX7_pass_20 : decode cX7_pass 20 = .ok (.iadd, 1) := by decide +kernel
theorem dX7_pass_21 : decode cX7_pass 21 = .ok (.sipush 9999, 3) := by decide +kernel
theorem dX7_pass_24 : decode cX7_pass 24 = .ok (.if_icmp .le 6, 3) := by decide +kernel
theorem dX7_pass_27 : decode cX7_pass 27 = .ok (.bipush (-3), 2) := by decide +kernel
theorem dX7_pass_29 : decode cX7_pass 29 = .ok (.ireturn, 1) := by decide +kernel
theorem dX7_pass_30 : decode cX7_pass 30 = .ok (.iconst 0, 1) := by decide +kernel
theorem dX7_pass_31 : decode cX7_pass 31 = .ok (.istore_n 2, 1) := by decide +kernel
theorem dX7_pass_32 : decode cX7_pass 32 = .ok (.iload_n 2, 1) := by decide +kernel
theorem dX7_pass_33 : decode cX7_pass 33 = .ok (.iload_n 1, 1) := by decide +kernel
theorem dX7_pass_34 : decode cX7_pass 34 = .ok (.if_icmp .ge 27, 3) := by decide +kernel
theorem dX7_pass_37 : decode cX7_pass 37 = .ok (.aload_n 0, 1) := by decide +kernel
theorem dX7_pass_38 : decode cX7_pass 38 = .ok (.getfield 47, 3) := by decide +kernel
theorem dX7_pass_41 : decode cX7_pass 41 = .ok (.aload_n 0, 1) := by decide +kernel
theorem dX7_pass_42 : decode cX7_pass 42 = .ok (.getfield 14, 3) := by decide +kernel
theorem dX7_pass_45 : decode cX7_pass 45 = .ok (.aload_n 0, 1) := by decide +kernel
theorem dX7_pass_46 : decode cX7_pass 46 = .ok (.invokevirtual 108, 3) := by decide +kernel
theorem dX7_pass_49 : decode cX7_pass 49 = .ok (.ldc 186, 2) := by decide +kernel
theorem dX7_pass_51 : decode cX7_pass 51 = .ok (.invokevirtual 187, 3) := by decide +kernel
theorem dX7_pass_54 : decode cX7_pass 54 = .ok (.pop, 1) := by decide +kernel
theorem dX7_pass_55 : decode cX7_pass 55 = .ok (.iinc 2 1, 3) := by decide +kernel
theorem dX7_pass_58 : decode cX7_pass 58 = .ok (.goto (-26), 3) := by decide +kernel
theorem dX7_pass_61 : decode cX7_pass 61 = .ok (.aload_n 0, 1) := by decide +kernel
theorem dX7_pass_62 : decode cX7_pass 62 = .ok (.getfield 14, 3) := by decide +kernel
theorem dX7_pass_65 : decode cX7_pass 65 = .ok (.getfield 169, 3) := by decide +kernel
theorem dX7_pass_68 : decode cX7_pass 68 = .ok (.ireturn, 1) := by decide +kernel
theorem dX7_on_0 : decode cX7_on 0 = .ok (.aload_n 0, 1) := by decide +kernel
theorem dX7_on_1 : decode cX7_on 1 = .ok (.getfield 14, 3) := by decide +kernel
theorem dX7_on_4 : decode cX7_on 4 = .ok (.iload_n 2, 1) := by decide +kernel
theorem dX7_on_5 : decode cX7_on 5 = .ok (.bipush 10, 2) := by decide +kernel
theorem dX7_on_7 : decode cX7_on 7 = .ok (.isub, 1) := by decide +kernel
theorem dX7_on_8 : decode cX7_on 8 = .ok (.invokevirtual 77, 3) := by decide +kernel
theorem dX7_on_11 : decode cX7_on 11 = .ok (.istore_n 3, 1) := by decide +kernel
theorem dX7_on_12 : decode cX7_on 12 = .ok (.aload_n 0, 1) := by decide +kernel
theorem dX7_on_13 : decode cX7_on 13 = .ok (.getfield 14, 3) := by decide +kernel
theorem dX7_on_16 : decode cX7_on 16 = .ok (.iload_n 2, 1) := by decide +kernel
theorem dX7_on_17 : decode cX7_on 17 = .ok (.bipush 20, 2) := by decide +kernel
theorem dX7_on_19 : decode cX7_on 19 = .ok (.isub, 1) := by decide +kernel
theorem dX7_on_20 : decode cX7_on 20 = .ok (.invokevirtual 77, 3) := by decide +kernel
theorem dX7_on_23 : decode cX7_on 23 = .ok (.istore 4, 2) := by decide +kernel
theorem dX7_on_25 : decode cX7_on 25 = .ok (.iload_n 3, 1) := by decide +kernel
theorem dX7_on_26 : decode cX7_on 26 = .ok (.ifCond .ne 10, 3) := by decide +kernel
theorem dX7_on_29 : decode cX7_on 29 = .ok (.iload 4, 2) := by decide +kernel
theorem dX7_on_31 : decode cX7_on 31 = .ok (.ifCond .ne 5, 3) := by decide +kernel
theorem dX7_on_34 : decode cX7_on 34 = .ok (.iconst (-1), 1) := by decide +kernel
theorem dX7_on_35 : decode cX7_on 35 = .ok (.ireturn, 1) := by decide +kernel
theorem dX7_on_36 : decode cX7_on 36 = .ok (.iload_n 1, 1) := by decide +kernel
theorem dX7_on_37 : decode cX7_on 37 = .ok (.bipush 20, 2) := by decide +kernel
theorem dX7_on_39 : decode cX7_on 39 = .ok (.invokestatic 65, 3) := by decide +kernel
theorem dX7_on_42 : decode cX7_on 42 = .ok (.ifCond .ne 6, 3) := by decide +kernel
theorem dX7_on_45 : decode cX7_on 45 = .ok (.bipush (-2), 2) := by decide +kernel
theorem dX7_on_47 : decode cX7_on 47 = .ok (.ireturn, 1) := by decide +kernel
theorem dX7_on_48 : decode cX7_on 48 = .ok (.aload_n 0, 1) := by decide +kernel
theorem dX7_on_49 : decode cX7_on 49 = .ok (.getfield 20, 3) := by decide +kernel
theorem dX7_on_52 : decode cX7_on 52 = .ok (.aload_n 0, 1) := by decide +kernel
theorem dX7_on_53 : decode cX7_on 53 = .ok (.getfield 14, 3) := by decide +kernel
theorem dX7_on_56 : decode cX7_on 56 = .ok (.invokevirtual 191, 3) := by decide +kernel
theorem dX7_on_59 : decode cX7_on 59 = .ok (.iconst 0, 1) := by decide +kernel
theorem dX7_on_60 : decode cX7_on 60 = .ok (.istore 5, 2) := by decide +kernel
theorem dX7_on_62 : decode cX7_on 62 = .ok (.iload 5, 2) := by decide +kernel
theorem dX7_on_64 : decode cX7_on 64 = .ok (.iload_n 1, 1) := by decide +kernel
theorem dX7_on_65 : decode cX7_on 65 = .ok (.if_icmp .ge 27, 3) := by decide +kernel
theorem dX7_on_68 : decode cX7_on 68 = .ok (.aload_n 0, 1) := by decide +kernel
theorem dX7_on_69 : decode cX7_on 69 = .ok (.getfield 47, 3) := by decide +kernel
theorem dX7_on_72 : decode cX7_on 72 = .ok (.aload_n 0, 1) := by decide +kernel
theorem dX7_on_73 : decode cX7_on 73 = .ok (.getfield 20, 3) := by decide +kernel
theorem dX7_on_76 : decode cX7_on 76 = .ok (.aload_n 0, 1) := by decide +kernel
theorem dX7_on_77 : decode cX7_on 77 = .ok (.invokevirtual 108, 3) := by decide +kernel
theorem dX7_on_80 : decode cX7_on 80 = .ok (.ldc 195, 2) := by decide +kernel
theorem dX7_on_82 : decode cX7_on 82 = .ok (.invokevirtual 187, 3) := by decide +kernel
theorem dX7_on_85 : decode cX7_on 85 = .ok (.pop, 1) := by decide +kernel
theorem dX7_on_86 : decode cX7_on 86 = .ok (.iinc 5 1, 3) := by decide +kernel
theorem dX7_on_89 : decode cX7_on 89 = .ok (.goto (-27), 3) := by decide +kernel
theorem dX7_on_92 : decode cX7_on 92 = .ok (.iload_n 3, 1) := by decide +kernel
theorem dX7_on_93 : decode cX7_on 93 = .ok (.ifCond .eq 20, 3) := by decide +kernel
theorem dX7_on_96 : decode cX7_on 96 = .ok (.aload_n 0, 1) := by decide +kernel
theorem dX7_on_97 : decode cX7_on 97 = .ok (.getfield 20, 3) := by decide +kernel
theorem dX7_on_100 : decode cX7_on 100 = .ok (.getfield 95, 3) := by decide +kernel
theorem dX7_on_103 : decode cX7_on 103 = .ok (.iload_n 2, 1) := by decide +kernel
theorem dX7_on_104 : decode cX7_on 104 = .ok (.bipush 10, 2) := by decide +kernel
theorem dX7_on_106 : decode cX7_on 106 = .ok (.isub, 1) := by decide +kernel
theorem dX7_on_107 : decode cX7_on 107 = .ok (.invokestatic 85, 3) := by decide +kernel
theorem dX7_on_110 : decode cX7_on 110 = .ok (.goto 17, 3) := by decide +kernel
theorem dX7_on_113 : decode cX7_on 113 = .ok (.aload_n 0, 1) := by decide +kernel
theorem dX7_on_114 : decode cX7_on 114 = .ok (.getfield 20, 3) := by decide +kernel
theorem dX7_on_117 : decode cX7_on 117 = .ok (.getfield 101, 3) := by decide +kernel
theorem dX7_on_120 : decode cX7_on 120 = .ok (.iload_n 2, 1) := by decide +kernel
theorem dX7_on_121 : decode cX7_on 121 = .ok (.bipush 20, 2) := by decide +kernel
theorem dX7_on_123 : decode cX7_on 123 = .ok (.isub, 1) := by decide +kernel
theorem dX7_on_124 : decode cX7_on 124 = .ok (.invokestatic 85, 3) := by decide +kernel
theorem dX7_on_127 : decode cX7_on 127 = .ok (.ireturn, 1) := by decide +kernel
theorem dX7_kept_0 : decode cX7_kept 0 = .ok (.aload_n 0, 1) := by decide +kernel
theorem dX7_kept_1 : decode cX7_kept 1 = .ok (.getfield 14, 3) := by decide +kernel
theorem dX7_kept_4 : decode cX7_kept 4 = .ok (.iload_n 1, 1) := by decide +kernel
theorem dX7_kept_5 : decode cX7_kept 5 = .ok (.invokevirtual 77, 3) := by decide +kernel
theorem dX7_kept_8 : decode cX7_kept 8 = .ok (.ifCond .ne 5, 3) := by decide +kernel
theorem dX7_kept_11 : decode cX7_kept 11 = .ok (.iconst (-1), 1) := by decide +kernel
theorem dX7_kept_12 : decode cX7_kept 12 = .ok (.ireturn, 1) := by decide +kernel
theorem dX7_kept_13 : decode cX7_kept 13 = .ok (.iload_n 2, 1) := by decide +kernel
theorem dX7_kept_14 : decode cX7_kept 14 = .ok (.sipush 999, 3) := by decide +kernel
theorem dX7_kept_17 : decode cX7_kept 17 = .ok (.invokestatic 65, 3) := by decide +kernel
theorem dX7_kept_20 : decode cX7_kept 20 = .ok (.ifCond .ne 6, 3) := by decide +kernel
theorem dX7_kept_23 : decode cX7_kept 23 = .ok (.bipush (-2), 2) := by decide +kernel
theorem dX7_kept_25 : decode cX7_kept 25 = .ok (.ireturn, 1) := by decide +kernel
theorem dX7_kept_26 : decode cX7_kept 26 = .ok (.aload_n 0, 1) := by decide +kernel
theorem dX7_kept_27 : decode cX7_kept 27 = .ok (.getfield 14, 3) := by decide +kernel
theorem dX7_kept_30 : decode cX7_kept 30 = .ok (.iload_n 1, 1) := by decide +kernel
theorem dX7_kept_31 : decode cX7_kept 31 = .ok (.invokevirtual 98, 3) := by decide +kernel
theorem dX7_kept_34 : decode cX7_kept 34 = .ok (.ifCond .eq 6, 3) := by decide +kernel
theorem dX7_kept_37 : decode cX7_kept 37 = .ok (.bipush (-5), 2) := by decide +kernel
theorem dX7_kept_39 : decode cX7_kept 39 = .ok (.ireturn, 1) := by decide +kernel
theorem dX7_kept_40 : decode cX7_kept 40 = .ok (.aload_n 0, 1) := by decide +kernel
theorem dX7_kept_41 : decode cX7_kept 41 = .ok (.getfield 47, 3) := by decide +kernel
theorem dX7_kept_44 : decode cX7_kept 44 = .ok (.aload_n 0, 1) := by decide +kernel
theorem dX7_kept_45 : decode cX7_kept 45 = .ok (.getfield 14, 3) := by decide +kernel
theorem dX7_kept_48 : decode cX7_kept 48 = .ok (.aload_n 0, 1) := by decide +kernel
theorem dX7_kept_49 : decode cX7_kept 49 = .ok (.invokevirtual 108, 3) := by decide +kernel
theorem dX7_kept_52 : decode cX7_kept 52 = .ok (.invokevirtual 112, 3) := by decide +kernel
theorem dX7_kept_55 : decode cX7_kept 55 = .ok (.bipush (-5), 2) := by decide +kernel
theorem dX7_kept_57 : decode cX7_kept 57 = .ok (.istore_n 3, 1) := by decide +kernel
theorem dX7_kept_58 : decode cX7_kept 58 = .ok (.bipush 7, 2) := by decide +kernel
theorem dX7_kept_60 : decode cX7_kept 60 = .ok (.istore 4, 2) := by decide +kernel
theorem dX7_kept_62 : decode cX7_kept 62 = .ok (.iconst 0, 1) := by decide +kernel
theorem dX7_kept_63 : decode cX7_kept 63 = .ok (.istore 5, 2) := by decide +kernel
theorem dX7_kept_65 : decode cX7_kept 65 = .ok (.iload 5, 2) := by decide +kernel
theorem dX7_kept_67 : decode cX7_kept 67 = .ok (.bipush 64, 2) := by decide +kernel
theorem dX7_kept_69 : decode cX7_kept 69 = .ok (.if_icmp .ge 96, 3) := by decide +kernel
theorem dX7_kept_72 : decode cX7_kept 72 = .ok (.iload 5, 2) := by decide +kernel
theorem dX7_kept_74 : decode cX7_kept 74 = .ok (.aload_n 0, 1) := by decide +kernel
theorem dX7_kept_75 : decode cX7_kept 75 = .ok (.getfield 14, 3) := by decide +kernel
theorem dX7_kept_78 : decode cX7_kept 78 = .ok (.getfield 69, 3) := by decide +kernel
theorem dX7_kept_81 : decode cX7_kept 81 = .ok (.ishr, 1) := by decide +kernel
theorem dX7_kept_82 : decode cX7_kept 82 = .ok (.ifCond .ne 16, 3) := by decide +kernel
theorem dX7_kept_85 : decode cX7_kept 85 = .ok (.iload 5, 2) := by decide +kernel
theorem dX7_kept_87 : decode cX7_kept 87 = .ok (.iload_n 1, 1) := by decide +kernel
theorem dX7_kept_88 : decode cX7_kept 88 = .ok (.ishr, 1) := by decide +kernel
theorem dX7_kept_89 : decode cX7_kept 89 = .ok (.iconst 1, 1) := by decide +kernel
theorem dX7_kept_90 : decode cX7_kept 90 = .ok (.iand, 1) := by decide +kernel
theorem dX7_kept_91 : decode cX7_kept 91 = .ok (.ifCond .ne 7, 3) := by decide +kernel
theorem dX7_kept_94 : decode cX7_kept 94 = .ok (.iconst 1, 1) := by decide +kernel
theorem dX7_kept_95 : decode cX7_kept 95 = .ok (.goto 4, 3) := by decide +kernel
theorem dX7_kept_98 : decode cX7_kept 98 = .ok (.iconst 0, 1) := by decide +kernel
theorem dX7_kept_99 : decode cX7_kept 99 = .ok (.istore 6, 2) := by decide +kernel
theorem dX7_kept_101 : decode cX7_kept 101 = .ok (.iload 6, 2) := by decide +kernel
theorem dX7_kept_103 : decode cX7_kept 103 = .ok (.ifCond .eq 56, 3) := by decide +kernel
theorem dX7_kept_106 : decode cX7_kept 106 = .ok (.iload 5, 2) := by decide +kernel
theorem dX7_kept_108 : decode cX7_kept 108 = .ok (.invokestatic 196, 3) := by decide +kernel
theorem dX7_kept_111 : decode cX7_kept 111 = .ok (.iload 4, 2) := by decide +kernel
theorem dX7_kept_113 : decode cX7_kept 113 = .ok (.if_icmp .ge 46, 3) := by decide +kernel
theorem dX7_kept_116 : decode cX7_kept 116 = .ok (.aload_n 0, 1) := by decide +kernel
theorem dX7_kept_117 : decode cX7_kept 117 = .ok (.getfield 47, 3) := by decide +kernel
theorem dX7_kept_120 : decode cX7_kept 120 = .ok (.aload_n 0, 1) := by decide +kernel
theorem dX7_kept_121 : decode cX7_kept 121 = .ok (.getfield 14, 3) := by decide +kernel
theorem dX7_kept_124 : decode cX7_kept 124 = .ok (.iload_n 1, 1) := by decide +kernel
theorem dX7_kept_125 : decode cX7_kept 125 = .ok (.aload_n 0, 1) := by decide +kernel
theorem dX7_kept_126 : decode cX7_kept 126 = .ok (.getfield 14, 3) := by decide +kernel
theorem dX7_kept_129 : decode cX7_kept 129 = .ok (.getfield 116, 3) := by decide +kernel
theorem dX7_kept_132 : decode cX7_kept 132 = .ok (.aload_n 0, 1) := by decide +kernel
theorem dX7_kept_133 : decode cX7_kept 133 = .ok (.getfield 14, 3) := by decide +kernel
theorem dX7_kept_136 : decode cX7_kept 136 = .ok (.getfield 119, 3) := by decide +kernel
theorem dX7_kept_139 : decode cX7_kept 139 = .ok (.iload 5, 2) := by decide +kernel
theorem dX7_kept_141 : decode cX7_kept 141 = .ok (.ior, 1) := by decide +kernel
theorem dX7_kept_142 : decode cX7_kept 142 = .ok (.invokevirtual 122, 3) := by decide +kernel
theorem dX7_kept_145 : decode cX7_kept 145 = .ok (.iload_n 2, 1) := by decide +kernel
theorem dX7_kept_146 : decode cX7_kept 146 = .ok (.if_icmp .lt 13, 3) := by decide +kernel
theorem dX7_kept_149 : decode cX7_kept 149 = .ok (.iload 5, 2) := by decide +kernel
theorem dX7_kept_151 : decode cX7_kept 151 = .ok (.istore_n 3, 1) := by decide +kernel
theorem dX7_kept_152 : decode cX7_kept 152 = .ok (.iload 5, 2) := by decide +kernel
theorem dX7_kept_154 : decode cX7_kept 154 = .ok (.invokestatic 196, 3) := by decide +kernel
theorem dX7_kept_157 : decode cX7_kept 157 = .ok (.istore 4, 2) := by decide +kernel
theorem dX7_kept_159 : decode cX7_kept 159 = .ok (.iinc 5 1, 3) := by decide +kernel
theorem dX7_kept_162 : decode cX7_kept 162 = .ok (.goto (-97), 3) := by decide +kernel
theorem dX7_kept_165 : decode cX7_kept 165 = .ok (.iload_n 3, 1) := by decide +kernel
theorem dX7_kept_166 : decode cX7_kept 166 = .ok (.ireturn, 1) := by decide +kernel
theorem dX7_still_0 : decode cX7_still 0 = .ok (.aload_n 0, 1) := by decide +kernel
theorem dX7_still_1 : decode cX7_still 1 = .ok (.getfield 20, 3) := by decide +kernel
theorem dX7_still_4 : decode cX7_still 4 = .ok (.aload_n 0, 1) := by decide +kernel
theorem dX7_still_5 : decode cX7_still 5 = .ok (.getfield 14, 3) := by decide +kernel
theorem dX7_still_8 : decode cX7_still 8 = .ok (.invokevirtual 191, 3) := by decide +kernel
theorem dX7_still_11 : decode cX7_still 11 = .ok (.iconst 0, 1) := by decide +kernel
theorem dX7_still_12 : decode cX7_still 12 = .ok (.istore_n 1, 1) := by decide +kernel
theorem dX7_still_13 : decode cX7_still 13 = .ok (.iload_n 1, 1) := by decide +kernel
theorem dX7_still_14 : decode cX7_still 14 = .ok (.bipush 20, 2) := by decide +kernel
theorem dX7_still_16 : decode cX7_still 16 = .ok (.if_icmp .gt 31, 3) := by decide +kernel
theorem dX7_still_19 : decode cX7_still 19 = .ok (.aload_n 0, 1) := by decide +kernel
theorem dX7_still_20 : decode cX7_still 20 = .ok (.getfield 47, 3) := by decide +kernel
theorem dX7_still_23 : decode cX7_still 23 = .ok (.aload_n 0, 1) := by decide +kernel
theorem dX7_still_24 : decode cX7_still 24 = .ok (.getfield 20, 3) := by decide +kernel
theorem dX7_still_27 : decode cX7_still 27 = .ok (.aload_n 0, 1) := by decide +kernel
theorem dX7_still_28 : decode cX7_still 28 = .ok (.invokevirtual 108, 3) := by decide +kernel
theorem dX7_still_31 : decode cX7_still 31 = .ok (.ldc 195, 2) := by decide +kernel
theorem dX7_still_33 : decode cX7_still 33 = .ok (.invokevirtual 187, 3) := by decide +kernel
theorem dX7_still_36 : decode cX7_still 36 = .ok (.ifCond .ne 5, 3) := by decide +kernel
theorem dX7_still_39 : decode cX7_still 39 = .ok (.iload_n 1, 1) := by decide +kernel
theorem dX7_still_40 : decode cX7_still 40 = .ok (.ireturn, 1) := by decide +kernel
theorem dX7_still_41 : decode cX7_still 41 = .ok (.iinc 1 1, 3) := by decide +kernel
theorem dX7_still_44 : decode cX7_still 44 = .ok (.goto (-31), 3) := by decide +kernel
theorem dX7_still_47 : decode cX7_still 47 = .ok (.bipush (-5), 2) := by decide +kernel
theorem dX7_still_49 : decode cX7_still 49 = .ok (.ireturn, 1) := by decide +kernel
theorem dX7_gains_0 : decode cX7_gains 0 = .ok (.aload_n 0, 1) := by decide +kernel
theorem dX7_gains_1 : decode cX7_gains 1 = .ok (.getfield 20, 3) := by decide +kernel
theorem dX7_gains_4 : decode cX7_gains 4 = .ok (.aload_n 0, 1) := by decide +kernel
theorem dX7_gains_5 : decode cX7_gains 5 = .ok (.getfield 14, 3) := by decide +kernel
theorem dX7_gains_8 : decode cX7_gains 8 = .ok (.invokevirtual 191, 3) := by decide +kernel
theorem dX7_gains_11 : decode cX7_gains 11 = .ok (.aload_n 0, 1) := by decide +kernel
theorem dX7_gains_12 : decode cX7_gains 12 = .ok (.getfield 47, 3) := by decide +kernel
theorem dX7_gains_15 : decode cX7_gains 15 = .ok (.aload_n 0, 1) := by decide +kernel
theorem dX7_gains_16 : decode cX7_gains 16 = .ok (.getfield 20, 3) := by decide +kernel
theorem dX7_gains_19 : decode cX7_gains 19 = .ok (.aload_n 0, 1) := by decide +kernel
theorem dX7_gains_20 : decode cX7_gains 20 = .ok (.invokevirtual 108, 3) := by decide +kernel
theorem dX7_gains_23 : decode cX7_gains 23 = .ok (.ldc 195, 2) := by decide +kernel
theorem dX7_gains_25 : decode cX7_gains 25 = .ok (.invokevirtual 187, 3) := by decide +kernel
theorem dX7_gains_28 : decode cX7_gains 28 = .ok (.pop, 1) := by decide +kernel
theorem dX7_gains_29 : decode cX7_gains 29 = .ok (.aload_n 0, 1) := by decide +kernel
theorem dX7_gains_30 : decode cX7_gains 30 = .ok (.getfield 47, 3) := by decide +kernel
theorem dX7_gains_33 : decode cX7_gains 33 = .ok (.aload_n 0, 1) := by decide +kernel
theorem dX7_gains_34 : decode cX7_gains 34 = .ok (.getfield 14, 3) := by decide +kernel
theorem dX7_gains_37 : decode cX7_gains 37 = .ok (.aload_n 0, 1) := by decide +kernel
theorem dX7_gains_38 : decode cX7_gains 38 = .ok (.invokevirtual 108, 3) := by decide +kernel
theorem dX7_gains_41 : decode cX7_gains 41 = .ok (.invokevirtual 112, 3) := by decide +kernel
theorem dX7_gains_44 : decode cX7_gains 44 = .ok (.iconst 0, 1) := by decide +kernel
theorem dX7_gains_45 : decode cX7_gains 45 = .ok (.istore_n 1, 1) := by decide +kernel
theorem dX7_gains_46 : decode cX7_gains 46 = .ok (.iconst 0, 1) := by decide +kernel
theorem dX7_gains_47 : decode cX7_gains 47 = .ok (.istore_n 2, 1) := by decide +kernel
theorem dX7_gains_48 : decode cX7_gains 48 = .ok (.iload_n 2, 1) := by decide +kernel
theorem dX7_gains_49 : decode cX7_gains 49 = .ok (.aload_n 0, 1) := by decide +kernel
theorem dX7_gains_50 : decode cX7_gains 50 = .ok (.getfield 14, 3) := by decide +kernel
theorem dX7_gains_53 : decode cX7_gains 53 = .ok (.getfield 69, 3) := by decide +kernel
theorem dX7_gains_56 : decode cX7_gains 56 = .ok (.if_icmp .ge 75, 3) := by decide +kernel
theorem dX7_gains_59 : decode cX7_gains 59 = .ok (.aload_n 0, 1) := by decide +kernel
theorem dX7_gains_60 : decode cX7_gains 60 = .ok (.getfield 14, 3) := by decide +kernel
theorem dX7_gains_63 : decode cX7_gains 63 = .ok (.iload_n 2, 1) := by decide +kernel
theorem dX7_gains_64 : decode cX7_gains 64 = .ok (.invokevirtual 98, 3) := by decide +kernel
theorem dX7_gains_67 : decode cX7_gains 67 = .ok (.ifCond .ne 58, 3) := by decide +kernel
theorem dX7_gains_70 : decode cX7_gains 70 = .ok (.aload_n 0, 1) := by decide +kernel
theorem dX7_gains_71 : decode cX7_gains 71 = .ok (.getfield 47, 3) := by decide +kernel
theorem dX7_gains_74 : decode cX7_gains 74 = .ok (.aload_n 0, 1) := by decide +kernel
theorem dX7_gains_75 : decode cX7_gains 75 = .ok (.getfield 20, 3) := by decide +kernel
theorem dX7_gains_78 : decode cX7_gains 78 = .ok (.iload_n 2, 1) := by decide +kernel
theorem dX7_gains_79 : decode cX7_gains 79 = .ok (.aload_n 0, 1) := by decide +kernel
theorem dX7_gains_80 : decode cX7_gains 80 = .ok (.getfield 20, 3) := by decide +kernel
theorem dX7_gains_83 : decode cX7_gains 83 = .ok (.getfield 95, 3) := by decide +kernel
theorem dX7_gains_86 : decode cX7_gains 86 = .ok (.iload_n 2, 1) := by decide +kernel
theorem dX7_gains_87 : decode cX7_gains 87 = .ok (.invokestatic 85, 3) := by decide +kernel
theorem dX7_gains_90 : decode cX7_gains 90 = .ok (.invokevirtual 133, 3) := by decide +kernel
theorem dX7_gains_93 : decode cX7_gains 93 = .ok (.aload_n 0, 1) := by decide +kernel
theorem dX7_gains_94 : decode cX7_gains 94 = .ok (.getfield 47, 3) := by decide +kernel
theorem dX7_gains_97 : decode cX7_gains 97 = .ok (.aload_n 0, 1) := by decide +kernel
theorem dX7_gains_98 : decode cX7_gains 98 = .ok (.getfield 14, 3) := by decide +kernel
theorem dX7_gains_101 : decode cX7_gains 101 = .ok (.iload_n 2, 1) := by decide +kernel
theorem dX7_gains_102 : decode cX7_gains 102 = .ok (.aload_n 0, 1) := by decide +kernel
theorem dX7_gains_103 : decode cX7_gains 103 = .ok (.getfield 14, 3) := by decide +kernel
theorem dX7_gains_106 : decode cX7_gains 106 = .ok (.getfield 95, 3) := by decide +kernel
theorem dX7_gains_109 : decode cX7_gains 109 = .ok (.iload_n 2, 1) := by decide +kernel
theorem dX7_gains_110 : decode cX7_gains 110 = .ok (.invokestatic 85, 3) := by decide +kernel
theorem dX7_gains_113 : decode cX7_gains 113 = .ok (.invokevirtual 133, 3) := by decide +kernel
theorem dX7_gains_116 : decode cX7_gains 116 = .ok (.if_icmp .le 9, 3) := by decide +kernel
theorem dX7_gains_119 : decode cX7_gains 119 = .ok (.iload_n 1, 1) := by decide +kernel
theorem dX7_gains_120 : decode cX7_gains 120 = .ok (.iconst 1, 1) := by decide +kernel
theorem dX7_gains_121 : decode cX7_gains 121 = .ok (.iload_n 2, 1) := by decide +kernel
theorem dX7_gains_122 : decode cX7_gains 122 = .ok (.ishl, 1) := by decide +kernel
theorem dX7_gains_123 : decode cX7_gains 123 = .ok (.ior, 1) := by decide +kernel
theorem dX7_gains_124 : decode cX7_gains 124 = .ok (.istore_n 1, 1) := by decide +kernel
theorem dX7_gains_125 : decode cX7_gains 125 = .ok (.iinc 2 1, 3) := by decide +kernel
theorem dX7_gains_128 : decode cX7_gains 128 = .ok (.goto (-80), 3) := by decide +kernel
theorem dX7_gains_131 : decode cX7_gains 131 = .ok (.iload_n 1, 1) := by decide +kernel
theorem dX7_gains_132 : decode cX7_gains 132 = .ok (.ireturn, 1) := by decide +kernel
theorem dX7_see_0 : decode cX7_see 0 = .ok (.iload_n 1, 1) := by decide +kernel
theorem dX7_see_1 : decode cX7_see 1 = .ok (.iconst (-1), 1) := by decide +kernel
theorem dX7_see_2 : decode cX7_see 2 = .ok (.if_icmp .ne 14, 3) := by decide +kernel
theorem dX7_see_5 : decode cX7_see 5 = .ok (.aload_n 0, 1) := by decide +kernel
theorem dX7_see_6 : decode cX7_see 6 = .ok (.getfield 14, 3) := by decide +kernel
theorem dX7_see_9 : decode cX7_see 9 = .ok (.getfield 199, 3) := by decide +kernel
theorem dX7_see_12 : decode cX7_see 12 = .ok (.invokevirtual 203, 3) := by decide +kernel
theorem dX7_see_15 : decode cX7_see 15 = .ok (.ireturn, 1) := by decide +kernel
theorem dX7_see_16 : decode cX7_see 16 = .ok (.aload_n 0, 1) := by decide +kernel
theorem dX7_see_17 : decode cX7_see 17 = .ok (.getfield 14, 3) := by decide +kernel
theorem dX7_see_20 : decode cX7_see 20 = .ok (.iload_n 1, 1) := by decide +kernel
theorem dX7_see_21 : decode cX7_see 21 = .ok (.invokevirtual 77, 3) := by decide +kernel
theorem dX7_see_24 : decode cX7_see 24 = .ok (.ifCond .ne 5, 3) := by decide +kernel
theorem dX7_see_27 : decode cX7_see 27 = .ok (.iconst (-1), 1) := by decide +kernel
theorem dX7_see_28 : decode cX7_see 28 = .ok (.ireturn, 1) := by decide +kernel
theorem dX7_see_29 : decode cX7_see 29 = .ok (.iload_n 2, 1) := by decide +kernel
theorem dX7_see_30 : decode cX7_see 30 = .ok (.sipush 999, 3) := by decide +kernel
theorem dX7_see_33 : decode cX7_see 33 = .ok (.invokestatic 65, 3) := by decide +kernel
theorem dX7_see_36 : decode cX7_see 36 = .ok (.ifCond .ne 6, 3) := by decide +kernel
theorem dX7_see_39 : decode cX7_see 39 = .ok (.bipush (-2), 2) := by decide +kernel
theorem dX7_see_41 : decode cX7_see 41 = .ok (.ireturn, 1) := by decide +kernel
theorem dX7_see_42 : decode cX7_see 42 = .ok (.aload_n 0, 1) := by decide +kernel
theorem dX7_see_43 : decode cX7_see 43 = .ok (.getfield 14, 3) := by decide +kernel
theorem dX7_see_46 : decode cX7_see 46 = .ok (.getfield 199, 3) := by decide +kernel
theorem dX7_see_49 : decode cX7_see 49 = .ok (.iload_n 1, 1) := by decide +kernel
theorem dX7_see_50 : decode cX7_see 50 = .ok (.iload_n 2, 1) := by decide +kernel
theorem dX7_see_51 : decode cX7_see 51 = .ok (.invokevirtual 208, 3) := by decide +kernel
theorem dX7_see_54 : decode cX7_see 54 = .ok (.ireturn, 1) := by decide +kernel
theorem dX7_can_0 : decode cX7_can 0 = .ok (.aload_n 0, 1) := by decide +kernel
theorem dX7_can_1 : decode cX7_can 1 = .ok (.getfield 14, 3) := by decide +kernel
theorem dX7_can_4 : decode cX7_can 4 = .ok (.iload_n 1, 1) := by decide +kernel
theorem dX7_can_5 : decode cX7_can 5 = .ok (.invokevirtual 77, 3) := by decide +kernel
theorem dX7_can_8 : decode cX7_can 8 = .ok (.ifCond .eq 11, 3) := by decide +kernel
theorem dX7_can_11 : decode cX7_can 11 = .ok (.iload_n 2, 1) := by decide +kernel
theorem dX7_can_12 : decode cX7_can 12 = .ok (.iconst 1, 1) := by decide +kernel
theorem dX7_can_13 : decode cX7_can 13 = .ok (.invokestatic 65, 3) := by decide +kernel
theorem dX7_can_16 : decode cX7_can 16 = .ok (.ifCond .ne 5, 3) := by decide +kernel
theorem dX7_can_19 : decode cX7_can 19 = .ok (.iconst (-1), 1) := by decide +kernel
theorem dX7_can_20 : decode cX7_can 20 = .ok (.ireturn, 1) := by decide +kernel
theorem dX7_can_21 : decode cX7_can 21 = .ok (.aload_n 0, 1) := by decide +kernel
theorem dX7_can_22 : decode cX7_can 22 = .ok (.getfield 20, 3) := by decide +kernel
theorem dX7_can_25 : decode cX7_can 25 = .ok (.aload_n 0, 1) := by decide +kernel
theorem dX7_can_26 : decode cX7_can 26 = .ok (.getfield 14, 3) := by decide +kernel
theorem dX7_can_29 : decode cX7_can 29 = .ok (.invokevirtual 191, 3) := by decide +kernel
theorem dX7_can_32 : decode cX7_can 32 = .ok (.iconst 0, 1) := by decide +kernel
theorem dX7_can_33 : decode cX7_can 33 = .ok (.istore_n 3, 1) := by decide +kernel
theorem dX7_can_34 : decode cX7_can 34 = .ok (.bipush (-5), 2) := by decide +kernel
theorem dX7_can_36 : decode cX7_can 36 = .ok (.istore 4, 2) := by decide +kernel
theorem dX7_can_38 : decode cX7_can 38 = .ok (.bipush 9, 2) := by decide +kernel
theorem dX7_can_40 : decode cX7_can 40 = .ok (.istore 5, 2) := by decide +kernel
theorem dX7_can_42 : decode cX7_can 42 = .ok (.iload 5, 2) := by decide +kernel
theorem dX7_can_44 : decode cX7_can 44 = .ok (.ifCond .lt 65, 3) := by decide +kernel
theorem dX7_can_47 : decode cX7_can 47 = .ok (.aload_n 0, 1) := by decide +kernel
theorem dX7_can_48 : decode cX7_can 48 = .ok (.getfield 20, 3) := by decide +kernel
theorem dX7_can_51 : decode cX7_can 51 = .ok (.getfield 89, 3) := by decide +kernel
theorem dX7_can_54 : decode cX7_can 54 = .ok (.iload_n 1, 1) := by decide +kernel
theorem dX7_can_55 : decode cX7_can 55 = .ok (.iload 5, 2) := by decide +kernel
theorem dX7_can_57 : decode cX7_can 57 = .ok (.invokestatic 137, 3) := by decide +kernel
theorem dX7_can_60 : decode cX7_can 60 = .ok (.aload_n 0, 1) := by decide +kernel
theorem dX7_can_61 : decode cX7_can 61 = .ok (.getfield 47, 3) := by decide +kernel
theorem dX7_can_64 : decode cX7_can 64 = .ok (.aload_n 0, 1) := by decide +kernel
theorem dX7_can_65 : decode cX7_can 65 = .ok (.getfield 20, 3) := by decide +kernel
theorem dX7_can_68 : decode cX7_can 68 = .ok (.aload_n 0, 1) := by decide +kernel
theorem dX7_can_69 : decode cX7_can 69 = .ok (.invokevirtual 108, 3) := by decide +kernel
theorem dX7_can_72 : decode cX7_can 72 = .ok (.invokevirtual 112, 3) := by decide +kernel
theorem dX7_can_75 : decode cX7_can 75 = .ok (.aload_n 0, 1) := by decide +kernel
theorem dX7_can_76 : decode cX7_can 76 = .ok (.getfield 47, 3) := by decide +kernel
theorem dX7_can_79 : decode cX7_can 79 = .ok (.aload_n 0, 1) := by decide +kernel
theorem dX7_can_80 : decode cX7_can 80 = .ok (.getfield 20, 3) := by decide +kernel
theorem dX7_can_83 : decode cX7_can 83 = .ok (.aload_n 0, 1) := by decide +kernel
theorem dX7_can_84 : decode cX7_can 84 = .ok (.getfield 20, 3) := by decide +kernel
theorem dX7_can_87 : decode cX7_can 87 = .ok (.getfield 116, 3) := by decide +kernel
theorem dX7_can_90 : decode cX7_can 90 = .ok (.invokevirtual 210, 3) := by decide +kernel
theorem dX7_can_93 : decode cX7_can 93 = .ok (.ifCond .eq 10, 3) := by decide +kernel
theorem dX7_can_96 : decode cX7_can 96 = .ok (.iinc 3 1, 3) := by decide +kernel
theorem dX7_can_99 : decode cX7_can 99 = .ok (.iload 5, 2) := by decide +kernel
theorem dX7_can_101 : decode cX7_can 101 = .ok (.istore 4, 2) := by decide +kernel
theorem dX7_can_103 : decode cX7_can 103 = .ok (.iinc 5 (-1), 3) := by decide +kernel
theorem dX7_can_106 : decode cX7_can 106 = .ok (.goto (-64), 3) := by decide +kernel
theorem dX7_can_109 : decode cX7_can 109 = .ok (.iload_n 2, 1) := by decide +kernel
theorem dX7_can_110 : decode cX7_can 110 = .ok (.ifCond .ne 7, 3) := by decide +kernel
theorem dX7_can_113 : decode cX7_can 113 = .ok (.iload_n 3, 1) := by decide +kernel
theorem dX7_can_114 : decode cX7_can 114 = .ok (.goto 5, 3) := by decide +kernel
theorem dX7_can_117 : decode cX7_can 117 = .ok (.iload 4, 2) := by decide +kernel
theorem dX7_can_119 : decode cX7_can 119 = .ok (.ireturn, 1) := by decide +kernel
theorem dX7_owed_0 : decode cX7_owed 0 = .ok (.aload_n 0, 1) := by decide +kernel
theorem dX7_owed_1 : decode cX7_owed 1 = .ok (.getfield 47, 3) := by decide +kernel
theorem dX7_owed_4 : decode cX7_owed 4 = .ok (.aload_n 0, 1) := by decide +kernel
theorem dX7_owed_5 : decode cX7_owed 5 = .ok (.getfield 14, 3) := by decide +kernel
theorem dX7_owed_8 : decode cX7_owed 8 = .ok (.aload_n 0, 1) := by decide +kernel
theorem dX7_owed_9 : decode cX7_owed 9 = .ok (.invokevirtual 108, 3) := by decide +kernel
theorem dX7_owed_12 : decode cX7_owed 12 = .ok (.invokevirtual 112, 3) := by decide +kernel
theorem dX7_owed_15 : decode cX7_owed 15 = .ok (.iconst 0, 1) := by decide +kernel
theorem dX7_owed_16 : decode cX7_owed 16 = .ok (.istore_n 2, 1) := by decide +kernel
theorem dX7_owed_17 : decode cX7_owed 17 = .ok (.bipush (-5), 2) := by decide +kernel
theorem dX7_owed_19 : decode cX7_owed 19 = .ok (.istore_n 3, 1) := by decide +kernel
theorem dX7_owed_20 : decode cX7_owed 20 = .ok (.sipush 999, 3) := by decide +kernel
