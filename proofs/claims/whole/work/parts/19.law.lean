theorem d_Y_law_0 : decode b_Y_law 0 = .ok (.new 8, 3) := by decide +kernel
theorem d_Y_law_3 : decode b_Y_law 3 = .ok (.dup, 1) := by decide +kernel
theorem d_Y_law_4 : decode b_Y_law 4 = .ok (.invokespecial 35, 3) := by decide +kernel
theorem d_Y_law_7 : decode b_Y_law 7 = .ok (.astore_n 1, 1) := by decide +kernel
theorem d_Y_law_8 : decode b_Y_law 8 = .ok (.new 36, 3) := by decide +kernel
theorem d_Y_law_11 : decode b_Y_law 11 = .ok (.dup, 1) := by decide +kernel
theorem d_Y_law_12 : decode b_Y_law 12 = .ok (.invokespecial 38, 3) := by decide +kernel
theorem d_Y_law_15 : decode b_Y_law 15 = .ok (.astore_n 2, 1) := by decide +kernel
theorem d_Y_law_16 : decode b_Y_law 16 = .ok (.iconst 1, 1) := by decide +kernel
theorem d_Y_law_17 : decode b_Y_law 17 = .ok (.newarray .long, 2) := by decide +kernel
theorem d_Y_law_19 : decode b_Y_law 19 = .ok (.astore_n 3, 1) := by decide +kernel
theorem d_Y_law_20 : decode b_Y_law 20 = .ok (.iconst 0, 1) := by decide +kernel
theorem d_Y_law_21 : decode b_Y_law 21 = .ok (.istore 4, 2) := by decide +kernel
theorem d_Y_law_23 : decode b_Y_law 23 = .ok (.iload 4, 2) := by decide +kernel
theorem d_Y_law_25 : decode b_Y_law 25 = .ok (.aload_n 0, 1) := by decide +kernel
theorem d_Y_law_26 : decode b_Y_law 26 = .ok (.arraylength, 1) := by decide +kernel
theorem d_Y_law_27 : decode b_Y_law 27 = .ok (.iconst 5, 1) := by decide +kernel
theorem d_Y_law_28 : decode b_Y_law 28 = .ok (.isub, 1) := by decide +kernel
theorem d_Y_law_29 : decode b_Y_law 29 = .ok (.if_icmp .gt 1001, 3) := by decide +kernel
theorem d_Y_law_32 : decode b_Y_law 32 = .ok (.aload_n 0, 1) := by decide +kernel
theorem d_Y_law_33 : decode b_Y_law 33 = .ok (.iload 4, 2) := by decide +kernel
theorem d_Y_law_35 : decode b_Y_law 35 = .ok (.iaload, 1) := by decide +kernel
theorem d_Y_law_36 : decode b_Y_law 36 = .ok (.bipush 31, 2) := by decide +kernel
theorem d_Y_law_38 : decode b_Y_law 38 = .ok (.iand, 1) := by decide +kernel
theorem d_Y_law_39 : decode b_Y_law 39 = .ok (.tableswitch 985 0 21 #[101, 138, 187, 243, 311, 367, 423, 436, 504, 560, 585, 610, 635, 660, 685, 710, 763, 800, 825, 862, 899, 924], 101) := by decide +kernel
theorem d_Y_law_140 : decode b_Y_law 140 = .ok (.aload_n 1, 1) := by decide +kernel
theorem d_Y_law_141 : decode b_Y_law 141 = .ok (.aload_n 0, 1) := by decide +kernel
theorem d_Y_law_142 : decode b_Y_law 142 = .ok (.iload 4, 2) := by decide +kernel
theorem d_Y_law_144 : decode b_Y_law 144 = .ok (.iconst 1, 1) := by decide +kernel
theorem d_Y_law_145 : decode b_Y_law 145 = .ok (.iadd, 1) := by decide +kernel
theorem d_Y_law_146 : decode b_Y_law 146 = .ok (.iaload, 1) := by decide +kernel
theorem d_Y_law_147 : decode b_Y_law 147 = .ok (.aload_n 0, 1) := by decide +kernel
theorem d_Y_law_148 : decode b_Y_law 148 = .ok (.iload 4, 2) := by decide +kernel
theorem d_Y_law_150 : decode b_Y_law 150 = .ok (.iconst 2, 1) := by decide +kernel
theorem d_Y_law_151 : decode b_Y_law 151 = .ok (.iadd, 1) := by decide +kernel
theorem d_Y_law_152 : decode b_Y_law 152 = .ok (.iaload, 1) := by decide +kernel
theorem d_Y_law_153 : decode b_Y_law 153 = .ok (.invokevirtual 39, 3) := by decide +kernel
theorem d_Y_law_156 : decode b_Y_law 156 = .ok (.aload_n 2, 1) := by decide +kernel
theorem d_Y_law_157 : decode b_Y_law 157 = .ok (.aload_n 0, 1) := by decide +kernel
theorem d_Y_law_158 : decode b_Y_law 158 = .ok (.iload 4, 2) := by decide +kernel
theorem d_Y_law_160 : decode b_Y_law 160 = .ok (.iconst 1, 1) := by decide +kernel
theorem d_Y_law_161 : decode b_Y_law 161 = .ok (.iadd, 1) := by decide +kernel
theorem d_Y_law_162 : decode b_Y_law 162 = .ok (.iaload, 1) := by decide +kernel
theorem d_Y_law_163 : decode b_Y_law 163 = .ok (.aload_n 0, 1) := by decide +kernel
theorem d_Y_law_164 : decode b_Y_law 164 = .ok (.iload 4, 2) := by decide +kernel
theorem d_Y_law_166 : decode b_Y_law 166 = .ok (.iconst 2, 1) := by decide +kernel
theorem d_Y_law_167 : decode b_Y_law 167 = .ok (.iadd, 1) := by decide +kernel
theorem d_Y_law_168 : decode b_Y_law 168 = .ok (.iaload, 1) := by decide +kernel
theorem d_Y_law_169 : decode b_Y_law 169 = .ok (.invokevirtual 42, 3) := by decide +kernel
theorem d_Y_law_172 : decode b_Y_law 172 = .ok (.if_icmp .eq 852, 3) := by decide +kernel
theorem d_Y_law_175 : decode b_Y_law 175 = .ok (.iconst 0, 1) := by decide +kernel
theorem d_Y_law_176 : decode b_Y_law 176 = .ok (.ireturn, 1) := by decide +kernel
theorem d_Y_law_177 : decode b_Y_law 177 = .ok (.aload_n 1, 1) := by decide +kernel
theorem d_Y_law_178 : decode b_Y_law 178 = .ok (.aload_n 0, 1) := by decide +kernel
theorem d_Y_law_179 : decode b_Y_law 179 = .ok (.iload 4, 2) := by decide +kernel
theorem d_Y_law_181 : decode b_Y_law 181 = .ok (.iconst 1, 1) := by decide +kernel
theorem d_Y_law_182 : decode b_Y_law 182 = .ok (.iadd, 1) := by decide +kernel
theorem d_Y_law_183 : decode b_Y_law 183 = .ok (.iaload, 1) := by decide +kernel
theorem d_Y_law_184 : decode b_Y_law 184 = .ok (.aload_n 0, 1) := by decide +kernel
theorem d_Y_law_185 : decode b_Y_law 185 = .ok (.iload 4, 2) := by decide +kernel
theorem d_Y_law_187 : decode b_Y_law 187 = .ok (.iconst 2, 1) := by decide +kernel
theorem d_Y_law_188 : decode b_Y_law 188 = .ok (.iadd, 1) := by decide +kernel
theorem d_Y_law_189 : decode b_Y_law 189 = .ok (.iaload, 1) := by decide +kernel
theorem d_Y_law_190 : decode b_Y_law 190 = .ok (.aload_n 0, 1) := by decide +kernel
theorem d_Y_law_191 : decode b_Y_law 191 = .ok (.iload 4, 2) := by decide +kernel
theorem d_Y_law_193 : decode b_Y_law 193 = .ok (.iconst 3, 1) := by decide +kernel
theorem d_Y_law_194 : decode b_Y_law 194 = .ok (.iadd, 1) := by decide +kernel
theorem d_Y_law_195 : decode b_Y_law 195 = .ok (.iaload, 1) := by decide +kernel
theorem d_Y_law_196 : decode b_Y_law 196 = .ok (.invokevirtual 43, 3) := by decide +kernel
theorem d_Y_law_199 : decode b_Y_law 199 = .ok (.aload_n 2, 1) := by decide +kernel
theorem d_Y_law_200 : decode b_Y_law 200 = .ok (.aload_n 0, 1) := by decide +kernel
theorem d_Y_law_201 : decode b_Y_law 201 = .ok (.iload 4, 2) := by decide +kernel
theorem d_Y_law_203 : decode b_Y_law 203 = .ok (.iconst 1, 1) := by decide +kernel
theorem d_Y_law_204 : decode b_Y_law 204 = .ok (.iadd, 1) := by decide +kernel
theorem d_Y_law_205 : decode b_Y_law 205 = .ok (.iaload, 1) := by decide +kernel
theorem d_Y_law_206 : decode b_Y_law 206 = .ok (.aload_n 0, 1) := by decide +kernel
theorem d_Y_law_207 : decode b_Y_law 207 = .ok (.iload 4, 2) := by decide +kernel
theorem d_Y_law_209 : decode b_Y_law 209 = .ok (.iconst 2, 1) := by decide +kernel
theorem d_Y_law_210 : decode b_Y_law 210 = .ok (.iadd, 1) := by decide +kernel
theorem d_Y_law_211 : decode b_Y_law 211 = .ok (.iaload, 1) := by decide +kernel
theorem d_Y_law_212 : decode b_Y_law 212 = .ok (.aload_n 0, 1) := by decide +kernel
theorem d_Y_law_213 : decode b_Y_law 213 = .ok (.iload 4, 2) := by decide +kernel
theorem d_Y_law_215 : decode b_Y_law 215 = .ok (.iconst 3, 1) := by decide +kernel
theorem d_Y_law_216 : decode b_Y_law 216 = .ok (.iadd, 1) := by decide +kernel
theorem d_Y_law_217 : decode b_Y_law 217 = .ok (.iaload, 1) := by decide +kernel
theorem d_Y_law_218 : decode b_Y_law 218 = .ok (.invokevirtual 47, 3) := by decide +kernel
theorem d_Y_law_221 : decode b_Y_law 221 = .ok (.if_icmp .eq 803, 3) := by decide +kernel
theorem d_Y_law_224 : decode b_Y_law 224 = .ok (.iconst 0, 1) := by decide +kernel
theorem d_Y_law_225 : decode b_Y_law 225 = .ok (.ireturn, 1) := by decide +kernel
theorem d_Y_law_226 : decode b_Y_law 226 = .ok (.aload_n 1, 1) := by decide +kernel
theorem d_Y_law_227 : decode b_Y_law 227 = .ok (.aload_n 0, 1) := by decide +kernel
theorem d_Y_law_228 : decode b_Y_law 228 = .ok (.iload 4, 2) := by decide +kernel
theorem d_Y_law_230 : decode b_Y_law 230 = .ok (.iconst 1, 1) := by decide +kernel
theorem d_Y_law_231 : decode b_Y_law 231 = .ok (.iadd, 1) := by decide +kernel
theorem d_Y_law_232 : decode b_Y_law 232 = .ok (.iaload, 1) := by decide +kernel
theorem d_Y_law_233 : decode b_Y_law 233 = .ok (.aload_n 3, 1) := by decide +kernel
theorem d_Y_law_234 : decode b_Y_law 234 = .ok (.invokestatic 48, 3) := by decide +kernel
theorem d_Y_law_237 : decode b_Y_law 237 = .ok (.istore 5, 2) := by decide +kernel
theorem d_Y_law_239 : decode b_Y_law 239 = .ok (.aload_n 2, 1) := by decide +kernel
theorem d_Y_law_240 : decode b_Y_law 240 = .ok (.aload_n 0, 1) := by decide +kernel
theorem d_Y_law_241 : decode b_Y_law 241 = .ok (.iload 4, 2) := by decide +kernel
theorem d_Y_law_243 : decode b_Y_law 243 = .ok (.iconst 1, 1) := by decide +kernel
theorem d_Y_law_244 : decode b_Y_law 244 = .ok (.iadd, 1) := by decide +kernel
theorem d_Y_law_245 : decode b_Y_law 245 = .ok (.iaload, 1) := by decide +kernel
theorem d_Y_law_246 : decode b_Y_law 246 = .ok (.invokevirtual 53, 3) := by decide +kernel
theorem d_Y_law_249 : decode b_Y_law 249 = .ok (.istore 6, 2) := by decide +kernel
theorem d_Y_law_251 : decode b_Y_law 251 = .ok (.aload_n 2, 1) := by decide +kernel
theorem d_Y_law_252 : decode b_Y_law 252 = .ok (.invokevirtual 54, 3) := by decide +kernel
theorem d_Y_law_255 : decode b_Y_law 255 = .ok (.iload 5, 2) := by decide +kernel
theorem d_Y_law_257 : decode b_Y_law 257 = .ok (.if_icmp .eq 5, 3) := by decide +kernel
theorem d_Y_law_260 : decode b_Y_law 260 = .ok (.iconst 0, 1) := by decide +kernel
theorem d_Y_law_261 : decode b_Y_law 261 = .ok (.ireturn, 1) := by decide +kernel
theorem d_Y_law_262 : decode b_Y_law 262 = .ok (.iload 5, 2) := by decide +kernel
theorem d_Y_law_264 : decode b_Y_law 264 = .ok (.ifCond .ne 15, 3) := by decide +kernel
theorem d_Y_law_267 : decode b_Y_law 267 = .ok (.aload_n 3, 1) := by decide +kernel
theorem d_Y_law_268 : decode b_Y_law 268 = .ok (.iconst 0, 1) := by decide +kernel
theorem d_Y_law_269 : decode b_Y_law 269 = .ok (.laload, 1) := by decide +kernel
theorem d_Y_law_270 : decode b_Y_law 270 = .ok (.iload 6, 2) := by decide +kernel
theorem d_Y_law_272 : decode b_Y_law 272 = .ok (.i2l, 1) := by decide +kernel
theorem d_Y_law_273 : decode b_Y_law 273 = .ok (.lcmp, 1) := by decide +kernel
theorem d_Y_law_274 : decode b_Y_law 274 = .ok (.ifCond .eq 5, 3) := by decide +kernel
theorem d_Y_law_277 : decode b_Y_law 277 = .ok (.iconst 0, 1) := by decide +kernel
theorem d_Y_law_278 : decode b_Y_law 278 = .ok (.ireturn, 1) := by decide +kernel
theorem d_Y_law_279 : decode b_Y_law 279 = .ok (.goto 745, 3) := by decide +kernel
theorem d_Y_law_282 : decode b_Y_law 282 = .ok (.aload_n 1, 1) := by decide +kernel
theorem d_Y_law_283 : decode b_Y_law 283 = .ok (.aload_n 0, 1) := by decide +kernel
theorem d_Y_law_284 : decode b_Y_law 284 = .ok (.iload 4, 2) := by decide +kernel
theorem d_Y_law_286 : decode b_Y_law 286 = .ok (.iconst 1, 1) := by decide +kernel
theorem d_Y_law_287 : decode b_Y_law 287 = .ok (.iadd, 1) := by decide +kernel
theorem d_Y_law_288 : decode b_Y_law 288 = .ok (.iaload, 1) := by decide +kernel
theorem d_Y_law_289 : decode b_Y_law 289 = .ok (.aload_n 0, 1) := by decide +kernel
theorem d_Y_law_290 : decode b_Y_law 290 = .ok (.iload 4, 2) := by decide +kernel
theorem d_Y_law_292 : decode b_Y_law 292 = .ok (.iconst 2, 1) := by decide +kernel
theorem d_Y_law_293 : decode b_Y_law 293 = .ok (.iadd, 1) := by decide +kernel
theorem d_Y_law_294 : decode b_Y_law 294 = .ok (.iaload, 1) := by decide +kernel
theorem d_Y_law_295 : decode b_Y_law 295 = .ok (.aload_n 3, 1) := by decide +kernel
theorem d_Y_law_296 : decode b_Y_law 296 = .ok (.invokestatic 58, 3) := by decide +kernel
theorem d_Y_law_299 : decode b_Y_law 299 = .ok (.istore 5, 2) := by decide +kernel
theorem d_Y_law_301 : decode b_Y_law 301 = .ok (.aload_n 2, 1) := by decide +kernel
theorem d_Y_law_302 : decode b_Y_law 302 = .ok (.aload_n 0, 1) := by decide +kernel
theorem d_Y_law_303 : decode b_Y_law 303 = .ok (.iload 4, 2) := by decide +kernel
theorem d_Y_law_305 : decode b_Y_law 305 = .ok (.iconst 1, 1) := by decide +kernel
theorem d_Y_law_306 : decode b_Y_law 306 = .ok (.iadd, 1) := by decide +kernel
theorem d_Y_law_307 : decode b_Y_law 307 = .ok (.iaload, 1) := by decide +kernel
theorem d_Y_law_308 : decode b_Y_law 308 = .ok (.aload_n 0, 1) := by decide +kernel
theorem d_Y_law_309 : decode b_Y_law 309 = .ok (.iload 4, 2) := by decide +kernel
theorem d_Y_law_311 : decode b_Y_law 311 = .ok (.iconst 2, 1) := by decide +kernel
theorem d_Y_law_312 : decode b_Y_law 312 = .ok (.iadd, 1) := by decide +kernel
theorem d_Y_law_313 : decode b_Y_law 313 = .ok (.iaload, 1) := by decide +kernel
theorem d_Y_law_314 : decode b_Y_law 314 = .ok (.invokevirtual 61, 3) := by decide +kernel
theorem d_Y_law_317 : decode b_Y_law 317 = .ok (.istore 6, 2) := by decide +kernel
theorem d_Y_law_319 : decode b_Y_law 319 = .ok (.aload_n 2, 1) := by decide +kernel
theorem d_Y_law_320 : decode b_Y_law 320 = .ok (.invokevirtual 54, 3) := by decide +kernel
theorem d_Y_law_323 : decode b_Y_law 323 = .ok (.iload 5, 2) := by decide +kernel
theorem d_Y_law_325 : decode b_Y_law 325 = .ok (.if_icmp .eq 5, 3) := by decide +kernel
theorem d_Y_law_328 : decode b_Y_law 328 = .ok (.iconst 0, 1) := by decide +kernel
theorem d_Y_law_329 : decode b_Y_law 329 = .ok (.ireturn, 1) := by decide +kernel
theorem d_Y_law_330 : decode b_Y_law 330 = .ok (.iload 5, 2) := by decide +kernel
theorem d_Y_law_332 : decode b_Y_law 332 = .ok (.ifCond .ne 15, 3) := by decide +kernel
theorem d_Y_law_335 : decode b_Y_law 335 = .ok (.aload_n 3, 1) := by decide +kernel
theorem d_Y_law_336 : decode b_Y_law 336 = .ok (.iconst 0, 1) := by decide +kernel
theorem d_Y_law_337 : decode b_Y_law 337 = .ok (.laload, 1) := by decide +kernel
theorem d_Y_law_338 : decode b_Y_law 338 = .ok (.iload 6, 2) := by decide +kernel
theorem d_Y_law_340 : decode b_Y_law 340 = .ok (.i2l, 1) := by decide +kernel
theorem d_Y_law_341 : decode b_Y_law 341 = .ok (.lcmp, 1) := by decide +kernel
theorem d_Y_law_342 : decode b_Y_law 342 = .ok (.ifCond .eq 5, 3) := by decide +kernel
theorem d_Y_law_345 : decode b_Y_law 345 = .ok (.iconst 0, 1) := by decide +kernel
theorem d_Y_law_346 : decode b_Y_law 346 = .ok (.ireturn, 1) := by decide +kernel
theorem d_Y_law_347 : decode b_Y_law 347 = .ok (.goto 677, 3) := by decide +kernel
theorem d_Y_law_350 : decode b_Y_law 350 = .ok (.aload_n 1, 1) := by decide +kernel
theorem d_Y_law_351 : decode b_Y_law 351 = .ok (.aload_n 0, 1) := by decide +kernel
theorem d_Y_law_352 : decode b_Y_law 352 = .ok (.iload 4, 2) := by decide +kernel
theorem d_Y_law_354 : decode b_Y_law 354 = .ok (.iconst 1, 1) := by decide +kernel
theorem d_Y_law_355 : decode b_Y_law 355 = .ok (.iadd, 1) := by decide +kernel
theorem d_Y_law_356 : decode b_Y_law 356 = .ok (.iaload, 1) := by decide +kernel
theorem d_Y_law_357 : decode b_Y_law 357 = .ok (.aload_n 3, 1) := by decide +kernel
theorem d_Y_law_358 : decode b_Y_law 358 = .ok (.invokestatic 62, 3) := by decide +kernel
theorem d_Y_law_361 : decode b_Y_law 361 = .ok (.istore 5, 2) := by decide +kernel
theorem d_Y_law_363 : decode b_Y_law 363 = .ok (.aload_n 2, 1) := by decide +kernel
theorem d_Y_law_364 : decode b_Y_law 364 = .ok (.aload_n 0, 1) := by decide +kernel
theorem d_Y_law_365 : decode b_Y_law 365 = .ok (.iload 4, 2) := by decide +kernel
theorem d_Y_law_367 : decode b_Y_law 367 = .ok (.iconst 1, 1) := by decide +kernel
theorem d_Y_law_368 : decode b_Y_law 368 = .ok (.iadd, 1) := by decide +kernel
theorem d_Y_law_369 : decode b_Y_law 369 = .ok (.iaload, 1) := by decide +kernel
theorem d_Y_law_370 : decode b_Y_law 370 = .ok (.invokevirtual 64, 3) := by decide +kernel
theorem d_Y_law_373 : decode b_Y_law 373 = .ok (.istore 6, 2) := by decide +kernel
theorem d_Y_law_375 : decode b_Y_law 375 = .ok (.aload_n 2, 1) := by decide +kernel
theorem d_Y_law_376 : decode b_Y_law 376 = .ok (.invokevirtual 54, 3) := by decide +kernel
theorem d_Y_law_379 : decode b_Y_law 379 = .ok (.iload 5, 2) := by decide +kernel
theorem d_Y_law_381 : decode b_Y_law 381 = .ok (.if_icmp .eq 5, 3) := by decide +kernel
theorem d_Y_law_384 : decode b_Y_law 384 = .ok (.iconst 0, 1) := by decide +kernel
theorem d_Y_law_385 : decode b_Y_law 385 = .ok (.ireturn, 1) := by decide +kernel
theorem d_Y_law_386 : decode b_Y_law 386 = .ok (.iload 5, 2) := by decide +kernel
theorem d_Y_law_388 : decode b_Y_law 388 = .ok (.ifCond .ne 15, 3) := by decide +kernel
theorem d_Y_law_391 : decode b_Y_law 391 = .ok (.aload_n 3, 1) := by decide +kernel
theorem d_Y_law_392 : decode b_Y_law 392 = .ok (.iconst 0, 1) := by decide +kernel
theorem d_Y_law_393 : decode b_Y_law 393 = .ok (.laload, 1) := by decide +kernel
theorem d_Y_law_394 : decode b_Y_law 394 = .ok (.iload 6, 2) := by decide +kernel
theorem d_Y_law_396 : decode b_Y_law 396 = .ok (.i2l, 1) := by decide +kernel
theorem d_Y_law_397 : decode b_Y_law 397 = .ok (.lcmp, 1) := by decide +kernel
theorem d_Y_law_398 : decode b_Y_law 398 = .ok (.ifCond .eq 5, 3) := by decide +kernel
theorem d_Y_law_401 : decode b_Y_law 401 = .ok (.iconst 0, 1) := by decide +kernel
theorem d_Y_law_402 : decode b_Y_law 402 = .ok (.ireturn, 1) := by decide +kernel
theorem d_Y_law_403 : decode b_Y_law 403 = .ok (.goto 621, 3) := by decide +kernel
theorem d_Y_law_406 : decode b_Y_law 406 = .ok (.aload_n 1, 1) := by decide +kernel
theorem d_Y_law_407 : decode b_Y_law 407 = .ok (.aload_n 0, 1) := by decide +kernel
theorem d_Y_law_408 : decode b_Y_law 408 = .ok (.iload 4, 2) := by decide +kernel
theorem d_Y_law_410 : decode b_Y_law 410 = .ok (.iconst 1, 1) := by decide +kernel
theorem d_Y_law_411 : decode b_Y_law 411 = .ok (.iadd, 1) := by decide +kernel
theorem d_Y_law_412 : decode b_Y_law 412 = .ok (.iaload, 1) := by decide +kernel
theorem d_Y_law_413 : decode b_Y_law 413 = .ok (.aload_n 3, 1) := by decide +kernel
theorem d_Y_law_414 : decode b_Y_law 414 = .ok (.invokestatic 65, 3) := by decide +kernel
theorem d_Y_law_417 : decode b_Y_law 417 = .ok (.istore 5, 2) := by decide +kernel
theorem d_Y_law_419 : decode b_Y_law 419 = .ok (.aload_n 2, 1) := by decide +kernel
theorem d_Y_law_420 : decode b_Y_law 420 = .ok (.aload_n 0, 1) := by decide +kernel
theorem d_Y_law_421 : decode b_Y_law 421 = .ok (.iload 4, 2) := by decide +kernel
theorem d_Y_law_423 : decode b_Y_law 423 = .ok (.iconst 1, 1) := by decide +kernel
theorem d_Y_law_424 : decode b_Y_law 424 = .ok (.iadd, 1) := by decide +kernel
theorem d_Y_law_425 : decode b_Y_law 425 = .ok (.iaload, 1) := by decide +kernel
theorem d_Y_law_426 : decode b_Y_law 426 = .ok (.invokevirtual 67, 3) := by decide +kernel
theorem d_Y_law_429 : decode b_Y_law 429 = .ok (.istore 6, 2) := by decide +kernel
theorem d_Y_law_431 : decode b_Y_law 431 = .ok (.aload_n 2, 1) := by decide +kernel
theorem d_Y_law_432 : decode b_Y_law 432 = .ok (.invokevirtual 54, 3) := by decide +kernel
theorem d_Y_law_435 : decode b_Y_law 435 = .ok (.iload 5, 2) := by decide +kernel
theorem d_Y_law_437 : decode b_Y_law 437 = .ok (.if_icmp .eq 5, 3) := by decide +kernel
theorem d_Y_law_440 : decode b_Y_law 440 = .ok (.iconst 0, 1) := by decide +kernel
theorem d_Y_law_441 : decode b_Y_law 441 = .ok (.ireturn, 1) := by decide +kernel
theorem d_Y_law_442 : decode b_Y_law 442 = .ok (.iload 5, 2) := by decide +kernel
theorem d_Y_law_444 : decode b_Y_law 444 = .ok (.ifCond .ne 15, 3) := by decide +kernel
theorem d_Y_law_447 : decode b_Y_law 447 = .ok (.aload_n 3, 1) := by decide +kernel
theorem d_Y_law_448 : decode b_Y_law 448 = .ok (.iconst 0, 1) := by decide +kernel
theorem d_Y_law_449 : decode b_Y_law 449 = .ok (.laload, 1) := by decide +kernel
theorem d_Y_law_450 : decode b_Y_law 450 = .ok (.iload 6, 2) := by decide +kernel
theorem d_Y_law_452 : decode b_Y_law 452 = .ok (.i2l, 1) := by decide +kernel
theorem d_Y_law_453 : decode b_Y_law 453 = .ok (.lcmp, 1) := by decide +kernel
theorem d_Y_law_454 : decode b_Y_law 454 = .ok (.ifCond .eq 5, 3) := by decide +kernel
theorem d_Y_law_457 : decode b_Y_law 457 = .ok (.iconst 0, 1) := by decide +kernel
theorem d_Y_law_458 : decode b_Y_law 458 = .ok (.ireturn, 1) := by decide +kernel
theorem d_Y_law_459 : decode b_Y_law 459 = .ok (.goto 565, 3) := by decide +kernel
theorem d_Y_law_462 : decode b_Y_law 462 = .ok (.aload_n 1, 1) := by decide +kernel
theorem d_Y_law_463 : decode b_Y_law 463 = .ok (.invokevirtual 68, 3) := by decide +kernel
theorem d_Y_law_466 : decode b_Y_law 466 = .ok (.aload_n 2, 1) := by decide +kernel
theorem d_Y_law_467 : decode b_Y_law 467 = .ok (.invokevirtual 71, 3) := by decide +kernel
theorem d_Y_law_470 : decode b_Y_law 470 = .ok (.if_icmp .eq 554, 3) := by decide +kernel
theorem d_Y_law_473 : decode b_Y_law 473 = .ok (.iconst 0, 1) := by decide +kernel
theorem d_Y_law_474 : decode b_Y_law 474 = .ok (.ireturn, 1) := by decide +kernel
theorem d_Y_law_475 : decode b_Y_law 475 = .ok (.aload_n 1, 1) := by decide +kernel
theorem d_Y_law_476 : decode b_Y_law 476 = .ok (.aload_n 0, 1) := by decide +kernel
theorem d_Y_law_477 : decode b_Y_law 477 = .ok (.iload 4, 2) := by decide +kernel
theorem d_Y_law_479 : decode b_Y_law 479 = .ok (.iconst 1, 1) := by decide +kernel
theorem d_Y_law_480 : decode b_Y_law 480 = .ok (.iadd, 1) := by decide +kernel
theorem d_Y_law_481 : decode b_Y_law 481 = .ok (.iaload, 1) := by decide +kernel
theorem d_Y_law_482 : decode b_Y_law 482 = .ok (.aload_n 0, 1) := by decide +kernel
theorem d_Y_law_483 : decode b_Y_law 483 = .ok (.iload 4, 2) := by decide +kernel
theorem d_Y_law_485 : decode b_Y_law 485 = .ok (.iconst 2, 1) := by decide +kernel
theorem d_Y_law_486 : decode b_Y_law 486 = .ok (.iadd, 1) := by decide +kernel
theorem d_Y_law_487 : decode b_Y_law 487 = .ok (.iaload, 1) := by decide +kernel
theorem d_Y_law_488 : decode b_Y_law 488 = .ok (.aload_n 3, 1) := by decide +kernel
theorem d_Y_law_489 : decode b_Y_law 489 = .ok (.invokestatic 72, 3) := by decide +kernel
theorem d_Y_law_492 : decode b_Y_law 492 = .ok (.istore 5, 2) := by decide +kernel
theorem d_Y_law_494 : decode b_Y_law 494 = .ok (.aload_n 2, 1) := by decide +kernel
theorem d_Y_law_495 : decode b_Y_law 495 = .ok (.aload_n 0, 1) := by decide +kernel
theorem d_Y_law_496 : decode b_Y_law 496 = .ok (.iload 4, 2) := by decide +kernel
theorem d_Y_law_498 : decode b_Y_law 498 = .ok (.iconst 1, 1) := by decide +kernel
theorem d_Y_law_499 : decode b_Y_law 499 = .ok (.iadd, 1) := by decide +kernel
theorem d_Y_law_500 : decode b_Y_law 500 = .ok (.iaload, 1) := by decide +kernel
theorem d_Y_law_501 : decode b_Y_law 501 = .ok (.aload_n 0, 1) := by decide +kernel
theorem d_Y_law_502 : decode b_Y_law 502 = .ok (.iload 4, 2) := by decide +kernel
theorem d_Y_law_504 : decode b_Y_law 504 = .ok (.iconst 2, 1) := by decide +kernel
theorem d_Y_law_505 : decode b_Y_law 505 = .ok (.iadd, 1) := by decide +kernel
theorem d_Y_law_506 : decode b_Y_law 506 = .ok (.iaload, 1) := by decide +kernel
theorem d_Y_law_507 : decode b_Y_law 507 = .ok (.invokevirtual 74, 3) := by decide +kernel
theorem d_Y_law_510 : decode b_Y_law 510 = .ok (.istore 6, 2) := by decide +kernel
theorem d_Y_law_512 : decode b_Y_law 512 = .ok (.aload_n 2, 1) := by decide +kernel
theorem d_Y_law_513 : decode b_Y_law 513 = .ok (.invokevirtual 54, 3) := by decide +kernel
theorem d_Y_law_516 : decode b_Y_law 516 = .ok (.iload 5, 2) := by decide +kernel
theorem d_Y_law_518 : decode b_Y_law 518 = .ok (.if_icmp .eq 5, 3) := by decide +kernel
theorem d_Y_law_521 : decode b_Y_law 521 = .ok (.iconst 0, 1) := by decide +kernel
theorem d_Y_law_522 : decode b_Y_law 522 = .ok (.ireturn, 1) := by decide +kernel
theorem d_Y_law_523 : decode b_Y_law 523 = .ok (.iload 5, 2) := by decide +kernel
theorem d_Y_law_525 : decode b_Y_law 525 = .ok (.ifCond .ne 15, 3) := by decide +kernel
theorem d_Y_law_528 : decode b_Y_law 528 = .ok (.aload_n 3, 1) := by decide +kernel
theorem d_Y_law_529 : decode b_Y_law 529 = .ok (.iconst 0, 1) := by decide +kernel
theorem d_Y_law_530 : decode b_Y_law 530 = .ok (.laload, 1) := by decide +kernel
theorem d_Y_law_531 : decode b_Y_law 531 = .ok (.iload 6, 2) := by decide +kernel
theorem d_Y_law_533 : decode b_Y_law 533 = .ok (.i2l, 1) := by decide +kernel
theorem d_Y_law_534 : decode b_Y_law 534 = .ok (.lcmp, 1) := by decide +kernel
theorem d_Y_law_535 : decode b_Y_law 535 = .ok (.ifCond .eq 5, 3) := by decide +kernel
theorem d_Y_law_538 : decode b_Y_law 538 = .ok (.iconst 0, 1) := by decide +kernel
theorem d_Y_law_539 : decode b_Y_law 539 = .ok (.ireturn, 1) := by decide +kernel
theorem d_Y_law_540 : decode b_Y_law 540 = .ok (.goto 484, 3) := by decide +kernel
theorem d_Y_law_543 : decode b_Y_law 543 = .ok (.aload_n 1, 1) := by decide +kernel
theorem d_Y_law_544 : decode b_Y_law 544 = .ok (.aload_n 0, 1) := by decide +kernel
theorem d_Y_law_545 : decode b_Y_law 545 = .ok (.iload 4, 2) := by decide +kernel
theorem d_Y_law_547 : decode b_Y_law 547 = .ok (.iconst 1, 1) := by decide +kernel
theorem d_Y_law_548 : decode b_Y_law 548 = .ok (.iadd, 1) := by decide +kernel
theorem d_Y_law_549 : decode b_Y_law 549 = .ok (.iaload, 1) := by decide +kernel
theorem d_Y_law_550 : decode b_Y_law 550 = .ok (.aload_n 3, 1) := by decide +kernel
theorem d_Y_law_551 : decode b_Y_law 551 = .ok (.invokestatic 75, 3) := by decide +kernel
theorem d_Y_law_554 : decode b_Y_law 554 = .ok (.istore 5, 2) := by decide +kernel
theorem d_Y_law_556 : decode b_Y_law 556 = .ok (.aload_n 2, 1) := by decide +kernel
theorem d_Y_law_557 : decode b_Y_law 557 = .ok (.aload_n 0, 1) := by decide +kernel
theorem d_Y_law_558 : decode b_Y_law 558 = .ok (.iload 4, 2) := by decide +kernel
theorem d_Y_law_560 : decode b_Y_law 560 = .ok (.iconst 1, 1) := by decide +kernel
theorem d_Y_law_561 : decode b_Y_law 561 = .ok (.iadd, 1) := by decide +kernel
theorem d_Y_law_562 : decode b_Y_law 562 = .ok (.iaload, 1) := by decide +kernel
theorem d_Y_law_563 : decode b_Y_law 563 = .ok (.invokevirtual 77, 3) := by decide +kernel
theorem d_Y_law_566 : decode b_Y_law 566 = .ok (.istore 6, 2) := by decide +kernel
theorem d_Y_law_568 : decode b_Y_law 568 = .ok (.aload_n 2, 1) := by decide +kernel
theorem d_Y_law_569 : decode b_Y_law 569 = .ok (.invokevirtual 54, 3) := by decide +kernel
theorem d_Y_law_572 : decode b_Y_law 572 = .ok (.iload 5, 2) := by decide +kernel
theorem d_Y_law_574 : decode b_Y_law 574 = .ok (.if_icmp .eq 5, 3) := by decide +kernel
theorem d_Y_law_577 : decode b_Y_law 577 = .ok (.iconst 0, 1) := by decide +kernel
theorem d_Y_law_578 : decode b_Y_law 578 = .ok (.ireturn, 1) := by decide +kernel
theorem d_Y_law_579 : decode b_Y_law 579 = .ok (.iload 5, 2) := by decide +kernel
theorem d_Y_law_581 : decode b_Y_law 581 = .ok (.ifCond .ne 15, 3) := by decide +kernel
theorem d_Y_law_584 : decode b_Y_law 584 = .ok (.aload_n 3, 1) := by decide +kernel
theorem d_Y_law_585 : decode b_Y_law 585 = .ok (.iconst 0, 1) := by decide +kernel
theorem d_Y_law_586 : decode b_Y_law 586 = .ok (.laload, 1) := by decide +kernel
theorem d_Y_law_587 : decode b_Y_law 587 = .ok (.iload 6, 2) := by decide +kernel
theorem d_Y_law_589 : decode b_Y_law 589 = .ok (.i2l, 1) := by decide +kernel
theorem d_Y_law_590 : decode b_Y_law 590 = .ok (.lcmp, 1) := by decide +kernel
theorem d_Y_law_591 : decode b_Y_law 591 = .ok (.ifCond .eq 5, 3) := by decide +kernel
theorem d_Y_law_594 : decode b_Y_law 594 = .ok (.iconst 0, 1) := by decide +kernel
theorem d_Y_law_595 : decode b_Y_law 595 = .ok (.ireturn, 1) := by decide +kernel
theorem d_Y_law_596 : decode b_Y_law 596 = .ok (.goto 428, 3) := by decide +kernel
theorem d_Y_law_599 : decode b_Y_law 599 = .ok (.aload_n 1, 1) := by decide +kernel
theorem d_Y_law_600 : decode b_Y_law 600 = .ok (.aload_n 0, 1) := by decide +kernel
theorem d_Y_law_601 : decode b_Y_law 601 = .ok (.iload 4, 2) := by decide +kernel
theorem d_Y_law_603 : decode b_Y_law 603 = .ok (.iconst 1, 1) := by decide +kernel
theorem d_Y_law_604 : decode b_Y_law 604 = .ok (.iadd, 1) := by decide +kernel
theorem d_Y_law_605 : decode b_Y_law 605 = .ok (.iaload, 1) := by decide +kernel
theorem d_Y_law_606 : decode b_Y_law 606 = .ok (.invokevirtual 78, 3) := by decide +kernel
theorem d_Y_law_609 : decode b_Y_law 609 = .ok (.aload_n 2, 1) := by decide +kernel
theorem d_Y_law_610 : decode b_Y_law 610 = .ok (.aload_n 0, 1) := by decide +kernel
theorem d_Y_law_611 : decode b_Y_law 611 = .ok (.iload 4, 2) := by decide +kernel
theorem d_Y_law_613 : decode b_Y_law 613 = .ok (.iconst 1, 1) := by decide +kernel
theorem d_Y_law_614 : decode b_Y_law 614 = .ok (.iadd, 1) := by decide +kernel
theorem d_Y_law_615 : decode b_Y_law 615 = .ok (.iaload, 1) := by decide +kernel
theorem d_Y_law_616 : decode b_Y_law 616 = .ok (.invokevirtual 82, 3) := by decide +kernel
theorem d_Y_law_619 : decode b_Y_law 619 = .ok (.if_icmp .eq 405, 3) := by decide +kernel
theorem d_Y_law_622 : decode b_Y_law 622 = .ok (.iconst 0, 1) := by decide +kernel
theorem d_Y_law_623 : decode b_Y_law 623 = .ok (.ireturn, 1) := by decide +kernel
theorem d_Y_law_624 : decode b_Y_law 624 = .ok (.aload_n 1, 1) := by decide +kernel
theorem d_Y_law_625 : decode b_Y_law 625 = .ok (.aload_n 0, 1) := by decide +kernel
theorem d_Y_law_626 : decode b_Y_law 626 = .ok (.iload 4, 2) := by decide +kernel
theorem d_Y_law_628 : decode b_Y_law 628 = .ok (.iconst 1, 1) := by decide +kernel
theorem d_Y_law_629 : decode b_Y_law 629 = .ok (.iadd, 1) := by decide +kernel
theorem d_Y_law_630 : decode b_Y_law 630 = .ok (.iaload, 1) := by decide +kernel
theorem d_Y_law_631 : decode b_Y_law 631 = .ok (.invokevirtual 83, 3) := by decide +kernel
theorem d_Y_law_634 : decode b_Y_law 634 = .ok (.aload_n 2, 1) := by decide +kernel
theorem d_Y_law_635 : decode b_Y_law 635 = .ok (.aload_n 0, 1) := by decide +kernel
theorem d_Y_law_636 : decode b_Y_law 636 = .ok (.iload 4, 2) := by decide +kernel
theorem d_Y_law_638 : decode b_Y_law 638 = .ok (.iconst 1, 1) := by decide +kernel
theorem d_Y_law_639 : decode b_Y_law 639 = .ok (.iadd, 1) := by decide +kernel
theorem d_Y_law_640 : decode b_Y_law 640 = .ok (.iaload, 1) := by decide +kernel
theorem d_Y_law_641 : decode b_Y_law 641 = .ok (.invokevirtual 86, 3) := by decide +kernel
theorem d_Y_law_644 : decode b_Y_law 644 = .ok (.if_icmp .eq 380, 3) := by decide +kernel
theorem d_Y_law_647 : decode b_Y_law 647 = .ok (.iconst 0, 1) := by decide +kernel
theorem d_Y_law_648 : decode b_Y_law 648 = .ok (.ireturn, 1) := by decide +kernel
theorem d_Y_law_649 : decode b_Y_law 649 = .ok (.aload_n 1, 1) := by decide +kernel
theorem d_Y_law_650 : decode b_Y_law 650 = .ok (.aload_n 0, 1) := by decide +kernel
theorem d_Y_law_651 : decode b_Y_law 651 = .ok (.iload 4, 2) := by decide +kernel
theorem d_Y_law_653 : decode b_Y_law 653 = .ok (.iconst 1, 1) := by decide +kernel
theorem d_Y_law_654 : decode b_Y_law 654 = .ok (.iadd, 1) := by decide +kernel
theorem d_Y_law_655 : decode b_Y_law 655 = .ok (.iaload, 1) := by decide +kernel
theorem d_Y_law_656 : decode b_Y_law 656 = .ok (.invokevirtual 87, 3) := by decide +kernel
theorem d_Y_law_659 : decode b_Y_law 659 = .ok (.aload_n 2, 1) := by decide +kernel
theorem d_Y_law_660 : decode b_Y_law 660 = .ok (.aload_n 0, 1) := by decide +kernel
theorem d_Y_law_661 : decode b_Y_law 661 = .ok (.iload 4, 2) := by decide +kernel
theorem d_Y_law_663 : decode b_Y_law 663 = .ok (.iconst 1, 1) := by decide +kernel
theorem d_Y_law_664 : decode b_Y_law 664 = .ok (.iadd, 1) := by decide +kernel
theorem d_Y_law_665 : decode b_Y_law 665 = .ok (.iaload, 1) := by decide +kernel
theorem d_Y_law_666 : decode b_Y_law 666 = .ok (.invokevirtual 90, 3) := by decide +kernel
theorem d_Y_law_669 : decode b_Y_law 669 = .ok (.if_icmp .eq 355, 3) := by decide +kernel
theorem d_Y_law_672 : decode b_Y_law 672 = .ok (.iconst 0, 1) := by decide +kernel
theorem d_Y_law_673 : decode b_Y_law 673 = .ok (.ireturn, 1) := by decide +kernel
theorem d_Y_law_674 : decode b_Y_law 674 = .ok (.aload_n 1, 1) := by decide +kernel
theorem d_Y_law_675 : decode b_Y_law 675 = .ok (.aload_n 0, 1) := by decide +kernel
theorem d_Y_law_676 : decode b_Y_law 676 = .ok (.iload 4, 2) := by decide +kernel
theorem d_Y_law_678 : decode b_Y_law 678 = .ok (.iconst 1, 1) := by decide +kernel
theorem d_Y_law_679 : decode b_Y_law 679 = .ok (.iadd, 1) := by decide +kernel
theorem d_Y_law_680 : decode b_Y_law 680 = .ok (.iaload, 1) := by decide +kernel
theorem d_Y_law_681 : decode b_Y_law 681 = .ok (.invokevirtual 91, 3) := by decide +kernel
theorem d_Y_law_684 : decode b_Y_law 684 = .ok (.aload_n 2, 1) := by decide +kernel
theorem d_Y_law_685 : decode b_Y_law 685 = .ok (.aload_n 0, 1) := by decide +kernel
theorem d_Y_law_686 : decode b_Y_law 686 = .ok (.iload 4, 2) := by decide +kernel
theorem d_Y_law_688 : decode b_Y_law 688 = .ok (.iconst 1, 1) := by decide +kernel
theorem d_Y_law_689 : decode b_Y_law 689 = .ok (.iadd, 1) := by decide +kernel
theorem d_Y_law_690 : decode b_Y_law 690 = .ok (.iaload, 1) := by decide +kernel
theorem d_Y_law_691 : decode b_Y_law 691 = .ok (.invokevirtual 94, 3) := by decide +kernel
theorem d_Y_law_694 : decode b_Y_law 694 = .ok (.if_icmp .eq 330, 3) := by decide +kernel
theorem d_Y_law_697 : decode b_Y_law 697 = .ok (.iconst 0, 1) := by decide +kernel
theorem d_Y_law_698 : decode b_Y_law 698 = .ok (.ireturn, 1) := by decide +kernel
theorem d_Y_law_699 : decode b_Y_law 699 = .ok (.aload_n 1, 1) := by decide +kernel
theorem d_Y_law_700 : decode b_Y_law 700 = .ok (.aload_n 0, 1) := by decide +kernel
theorem d_Y_law_701 : decode b_Y_law 701 = .ok (.iload 4, 2) := by decide +kernel
theorem d_Y_law_703 : decode b_Y_law 703 = .ok (.iconst 1, 1) := by decide +kernel
theorem d_Y_law_704 : decode b_Y_law 704 = .ok (.iadd, 1) := by decide +kernel
theorem d_Y_law_705 : decode b_Y_law 705 = .ok (.iaload, 1) := by decide +kernel
theorem d_Y_law_706 : decode b_Y_law 706 = .ok (.invokevirtual 95, 3) := by decide +kernel
theorem d_Y_law_709 : decode b_Y_law 709 = .ok (.aload_n 2, 1) := by decide +kernel
theorem d_Y_law_710 : decode b_Y_law 710 = .ok (.aload_n 0, 1) := by decide +kernel
theorem d_Y_law_711 : decode b_Y_law 711 = .ok (.iload 4, 2) := by decide +kernel
theorem d_Y_law_713 : decode b_Y_law 713 = .ok (.iconst 1, 1) := by decide +kernel
theorem d_Y_law_714 : decode b_Y_law 714 = .ok (.iadd, 1) := by decide +kernel
theorem d_Y_law_715 : decode b_Y_law 715 = .ok (.iaload, 1) := by decide +kernel
theorem d_Y_law_716 : decode b_Y_law 716 = .ok (.invokevirtual 98, 3) := by decide +kernel
theorem d_Y_law_719 : decode b_Y_law 719 = .ok (.if_icmp .eq 305, 3) := by decide +kernel
theorem d_Y_law_722 : decode b_Y_law 722 = .ok (.iconst 0, 1) := by decide +kernel
theorem d_Y_law_723 : decode b_Y_law 723 = .ok (.ireturn, 1) := by decide +kernel
theorem d_Y_law_724 : decode b_Y_law 724 = .ok (.aload_n 1, 1) := by decide +kernel
theorem d_Y_law_725 : decode b_Y_law 725 = .ok (.aload_n 0, 1) := by decide +kernel
theorem d_Y_law_726 : decode b_Y_law 726 = .ok (.iload 4, 2) := by decide +kernel
theorem d_Y_law_728 : decode b_Y_law 728 = .ok (.iconst 1, 1) := by decide +kernel
theorem d_Y_law_729 : decode b_Y_law 729 = .ok (.iadd, 1) := by decide +kernel
theorem d_Y_law_730 : decode b_Y_law 730 = .ok (.iaload, 1) := by decide +kernel
theorem d_Y_law_731 : decode b_Y_law 731 = .ok (.invokevirtual 99, 3) := by decide +kernel
theorem d_Y_law_734 : decode b_Y_law 734 = .ok (.aload_n 2, 1) := by decide +kernel
theorem d_Y_law_735 : decode b_Y_law 735 = .ok (.aload_n 0, 1) := by decide +kernel
theorem d_Y_law_736 : decode b_Y_law 736 = .ok (.iload 4, 2) := by decide +kernel
theorem d_Y_law_738 : decode b_Y_law 738 = .ok (.iconst 1, 1) := by decide +kernel
theorem d_Y_law_739 : decode b_Y_law 739 = .ok (.iadd, 1) := by decide +kernel
theorem d_Y_law_740 : decode b_Y_law 740 = .ok (.iaload, 1) := by decide +kernel
theorem d_Y_law_741 : decode b_Y_law 741 = .ok (.invokevirtual 102, 3) := by decide +kernel
theorem d_Y_law_744 : decode b_Y_law 744 = .ok (.if_icmp .eq 280, 3) := by decide +kernel
theorem d_Y_law_747 : decode b_Y_law 747 = .ok (.iconst 0, 1) := by decide +kernel
theorem d_Y_law_748 : decode b_Y_law 748 = .ok (.ireturn, 1) := by decide +kernel
theorem d_Y_law_749 : decode b_Y_law 749 = .ok (.aload_n 1, 1) := by decide +kernel
theorem d_Y_law_750 : decode b_Y_law 750 = .ok (.aload_n 0, 1) := by decide +kernel
theorem d_Y_law_751 : decode b_Y_law 751 = .ok (.iload 4, 2) := by decide +kernel
theorem d_Y_law_753 : decode b_Y_law 753 = .ok (.iconst 1, 1) := by decide +kernel
theorem d_Y_law_754 : decode b_Y_law 754 = .ok (.iadd, 1) := by decide +kernel
theorem d_Y_law_755 : decode b_Y_law 755 = .ok (.iaload, 1) := by decide +kernel
theorem d_Y_law_756 : decode b_Y_law 756 = .ok (.aload_n 0, 1) := by decide +kernel
theorem d_Y_law_757 : decode b_Y_law 757 = .ok (.iload 4, 2) := by decide +kernel
theorem d_Y_law_759 : decode b_Y_law 759 = .ok (.iconst 2, 1) := by decide +kernel
theorem d_Y_law_760 : decode b_Y_law 760 = .ok (.iadd, 1) := by decide +kernel
theorem d_Y_law_761 : decode b_Y_law 761 = .ok (.iaload, 1) := by decide +kernel
theorem d_Y_law_762 : decode b_Y_law 762 = .ok (.ifCond .eq 7, 3) := by decide +kernel
theorem d_Y_law_765 : decode b_Y_law 765 = .ok (.iconst 1, 1) := by decide +kernel
theorem d_Y_law_766 : decode b_Y_law 766 = .ok (.goto 4, 3) := by decide +kernel
theorem d_Y_law_769 : decode b_Y_law 769 = .ok (.iconst 0, 1) := by decide +kernel
theorem d_Y_law_770 : decode b_Y_law 770 = .ok (.invokevirtual 103, 3) := by decide +kernel
theorem d_Y_law_773 : decode b_Y_law 773 = .ok (.aload_n 2, 1) := by decide +kernel
theorem d_Y_law_774 : decode b_Y_law 774 = .ok (.aload_n 0, 1) := by decide +kernel
theorem d_Y_law_775 : decode b_Y_law 775 = .ok (.iload 4, 2) := by decide +kernel
theorem d_Y_law_777 : decode b_Y_law 777 = .ok (.iconst 1, 1) := by decide +kernel
theorem d_Y_law_778 : decode b_Y_law 778 = .ok (.iadd, 1) := by decide +kernel
theorem d_Y_law_779 : decode b_Y_law 779 = .ok (.iaload, 1) := by decide +kernel
theorem d_Y_law_780 : decode b_Y_law 780 = .ok (.aload_n 0, 1) := by decide +kernel
theorem d_Y_law_781 : decode b_Y_law 781 = .ok (.iload 4, 2) := by decide +kernel
theorem d_Y_law_783 : decode b_Y_law 783 = .ok (.iconst 2, 1) := by decide +kernel
theorem d_Y_law_784 : decode b_Y_law 784 = .ok (.iadd, 1) := by decide +kernel
theorem d_Y_law_785 : decode b_Y_law 785 = .ok (.iaload, 1) := by decide +kernel
theorem d_Y_law_786 : decode b_Y_law 786 = .ok (.ifCond .eq 7, 3) := by decide +kernel
theorem d_Y_law_789 : decode b_Y_law 789 = .ok (.iconst 1, 1) := by decide +kernel
theorem d_Y_law_790 : decode b_Y_law 790 = .ok (.goto 4, 3) := by decide +kernel
theorem d_Y_law_793 : decode b_Y_law 793 = .ok (.iconst 0, 1) := by decide +kernel
theorem d_Y_law_794 : decode b_Y_law 794 = .ok (.invokevirtual 107, 3) := by decide +kernel
theorem d_Y_law_797 : decode b_Y_law 797 = .ok (.if_icmp .eq 227, 3) := by decide +kernel
theorem d_Y_law_800 : decode b_Y_law 800 = .ok (.iconst 0, 1) := by decide +kernel
theorem d_Y_law_801 : decode b_Y_law 801 = .ok (.ireturn, 1) := by decide +kernel
theorem d_Y_law_802 : decode b_Y_law 802 = .ok (.aload_n 1, 1) := by decide +kernel
theorem d_Y_law_803 : decode b_Y_law 803 = .ok (.aload_n 0, 1) := by decide +kernel
theorem d_Y_law_804 : decode b_Y_law 804 = .ok (.iload 4, 2) := by decide +kernel
theorem d_Y_law_806 : decode b_Y_law 806 = .ok (.iconst 1, 1) := by decide +kernel
theorem d_Y_law_807 : decode b_Y_law 807 = .ok (.iadd, 1) := by decide +kernel
theorem d_Y_law_808 : decode b_Y_law 808 = .ok (.iaload, 1) := by decide +kernel
theorem d_Y_law_809 : decode b_Y_law 809 = .ok (.aload_n 0, 1) := by decide +kernel
theorem d_Y_law_810 : decode b_Y_law 810 = .ok (.iload 4, 2) := by decide +kernel
theorem d_Y_law_812 : decode b_Y_law 812 = .ok (.iconst 2, 1) := by decide +kernel
theorem d_Y_law_813 : decode b_Y_law 813 = .ok (.iadd, 1) := by decide +kernel
theorem d_Y_law_814 : decode b_Y_law 814 = .ok (.iaload, 1) := by decide +kernel
theorem d_Y_law_815 : decode b_Y_law 815 = .ok (.invokevirtual 108, 3) := by decide +kernel
theorem d_Y_law_818 : decode b_Y_law 818 = .ok (.aload_n 2, 1) := by decide +kernel
theorem d_Y_law_819 : decode b_Y_law 819 = .ok (.aload_n 0, 1) := by decide +kernel
theorem d_Y_law_820 : decode b_Y_law 820 = .ok (.iload 4, 2) := by decide +kernel
theorem d_Y_law_822 : decode b_Y_law 822 = .ok (.iconst 1, 1) := by decide +kernel
theorem d_Y_law_823 : decode b_Y_law 823 = .ok (.iadd, 1) := by decide +kernel
theorem d_Y_law_824 : decode b_Y_law 824 = .ok (.iaload, 1) := by decide +kernel
theorem d_Y_law_825 : decode b_Y_law 825 = .ok (.aload_n 0, 1) := by decide +kernel
theorem d_Y_law_826 : decode b_Y_law 826 = .ok (.iload 4, 2) := by decide +kernel
theorem d_Y_law_828 : decode b_Y_law 828 = .ok (.iconst 2, 1) := by decide +kernel
theorem d_Y_law_829 : decode b_Y_law 829 = .ok (.iadd, 1) := by decide +kernel
theorem d_Y_law_830 : decode b_Y_law 830 = .ok (.iaload, 1) := by decide +kernel
theorem d_Y_law_831 : decode b_Y_law 831 = .ok (.invokevirtual 111, 3) := by decide +kernel
theorem d_Y_law_834 : decode b_Y_law 834 = .ok (.if_icmp .eq 190, 3) := by decide +kernel
theorem d_Y_law_837 : decode b_Y_law 837 = .ok (.iconst 0, 1) := by decide +kernel
theorem d_Y_law_838 : decode b_Y_law 838 = .ok (.ireturn, 1) := by decide +kernel
theorem d_Y_law_839 : decode b_Y_law 839 = .ok (.aload_n 1, 1) := by decide +kernel
theorem d_Y_law_840 : decode b_Y_law 840 = .ok (.aload_n 0, 1) := by decide +kernel
theorem d_Y_law_841 : decode b_Y_law 841 = .ok (.iload 4, 2) := by decide +kernel
theorem d_Y_law_843 : decode b_Y_law 843 = .ok (.iconst 1, 1) := by decide +kernel
theorem d_Y_law_844 : decode b_Y_law 844 = .ok (.iadd, 1) := by decide +kernel
theorem d_Y_law_845 : decode b_Y_law 845 = .ok (.iaload, 1) := by decide +kernel
theorem d_Y_law_846 : decode b_Y_law 846 = .ok (.invokevirtual 112, 3) := by decide +kernel
theorem d_Y_law_849 : decode b_Y_law 849 = .ok (.aload_n 2, 1) := by decide +kernel
theorem d_Y_law_850 : decode b_Y_law 850 = .ok (.aload_n 0, 1) := by decide +kernel
theorem d_Y_law_851 : decode b_Y_law 851 = .ok (.iload 4, 2) := by decide +kernel
theorem d_Y_law_853 : decode b_Y_law 853 = .ok (.iconst 1, 1) := by decide +kernel
theorem d_Y_law_854 : decode b_Y_law 854 = .ok (.iadd, 1) := by decide +kernel
theorem d_Y_law_855 : decode b_Y_law 855 = .ok (.iaload, 1) := by decide +kernel
theorem d_Y_law_856 : decode b_Y_law 856 = .ok (.invokevirtual 115, 3) := by decide +kernel
theorem d_Y_law_859 : decode b_Y_law 859 = .ok (.if_icmp .eq 165, 3) := by decide +kernel
theorem d_Y_law_862 : decode b_Y_law 862 = .ok (.iconst 0, 1) := by decide +kernel
theorem d_Y_law_863 : decode b_Y_law 863 = .ok (.ireturn, 1) := by decide +kernel
theorem d_Y_law_864 : decode b_Y_law 864 = .ok (.aload_n 1, 1) := by decide +kernel
theorem d_Y_law_865 : decode b_Y_law 865 = .ok (.aload_n 0, 1) := by decide +kernel
theorem d_Y_law_866 : decode b_Y_law 866 = .ok (.iload 4, 2) := by decide +kernel
theorem d_Y_law_868 : decode b_Y_law 868 = .ok (.iconst 1, 1) := by decide +kernel
theorem d_Y_law_869 : decode b_Y_law 869 = .ok (.iadd, 1) := by decide +kernel
theorem d_Y_law_870 : decode b_Y_law 870 = .ok (.iaload, 1) := by decide +kernel
theorem d_Y_law_871 : decode b_Y_law 871 = .ok (.aload_n 0, 1) := by decide +kernel
theorem d_Y_law_872 : decode b_Y_law 872 = .ok (.iload 4, 2) := by decide +kernel
theorem d_Y_law_874 : decode b_Y_law 874 = .ok (.iconst 2, 1) := by decide +kernel
theorem d_Y_law_875 : decode b_Y_law 875 = .ok (.iadd, 1) := by decide +kernel
theorem d_Y_law_876 : decode b_Y_law 876 = .ok (.iaload, 1) := by decide +kernel
theorem d_Y_law_877 : decode b_Y_law 877 = .ok (.invokevirtual 116, 3) := by decide +kernel
theorem d_Y_law_880 : decode b_Y_law 880 = .ok (.aload_n 2, 1) := by decide +kernel
theorem d_Y_law_881 : decode b_Y_law 881 = .ok (.aload_n 0, 1) := by decide +kernel
theorem d_Y_law_882 : decode b_Y_law 882 = .ok (.iload 4, 2) := by decide +kernel
theorem d_Y_law_884 : decode b_Y_law 884 = .ok (.iconst 1, 1) := by decide +kernel
theorem d_Y_law_885 : decode b_Y_law 885 = .ok (.iadd, 1) := by decide +kernel
theorem d_Y_law_886 : decode b_Y_law 886 = .ok (.iaload, 1) := by decide +kernel
theorem d_Y_law_887 : decode b_Y_law 887 = .ok (.aload_n 0, 1) := by decide +kernel
theorem d_Y_law_888 : decode b_Y_law 888 = .ok (.iload 4, 2) := by decide +kernel
theorem d_Y_law_890 : decode b_Y_law 890 = .ok (.iconst 2, 1) := by decide +kernel
theorem d_Y_law_891 : decode b_Y_law 891 = .ok (.iadd, 1) := by decide +kernel
theorem d_Y_law_892 : decode b_Y_law 892 = .ok (.iaload, 1) := by decide +kernel
theorem d_Y_law_893 : decode b_Y_law 893 = .ok (.invokevirtual 119, 3) := by decide +kernel
theorem d_Y_law_896 : decode b_Y_law 896 = .ok (.if_icmp .eq 128, 3) := by decide +kernel
theorem d_Y_law_899 : decode b_Y_law 899 = .ok (.iconst 0, 1) := by decide +kernel
theorem d_Y_law_900 : decode b_Y_law 900 = .ok (.ireturn, 1) := by decide +kernel
theorem d_Y_law_901 : decode b_Y_law 901 = .ok (.aload_n 1, 1) := by decide +kernel
theorem d_Y_law_902 : decode b_Y_law 902 = .ok (.aload_n 0, 1) := by decide +kernel
theorem d_Y_law_903 : decode b_Y_law 903 = .ok (.iload 4, 2) := by decide +kernel
theorem d_Y_law_905 : decode b_Y_law 905 = .ok (.iconst 1, 1) := by decide +kernel
theorem d_Y_law_906 : decode b_Y_law 906 = .ok (.iadd, 1) := by decide +kernel
theorem d_Y_law_907 : decode b_Y_law 907 = .ok (.iaload, 1) := by decide +kernel
theorem d_Y_law_908 : decode b_Y_law 908 = .ok (.aload_n 0, 1) := by decide +kernel
theorem d_Y_law_909 : decode b_Y_law 909 = .ok (.iload 4, 2) := by decide +kernel
theorem d_Y_law_911 : decode b_Y_law 911 = .ok (.iconst 2, 1) := by decide +kernel
theorem d_Y_law_912 : decode b_Y_law 912 = .ok (.iadd, 1) := by decide +kernel
theorem d_Y_law_913 : decode b_Y_law 913 = .ok (.iaload, 1) := by decide +kernel
theorem d_Y_law_914 : decode b_Y_law 914 = .ok (.invokevirtual 120, 3) := by decide +kernel
theorem d_Y_law_917 : decode b_Y_law 917 = .ok (.aload_n 2, 1) := by decide +kernel
theorem d_Y_law_918 : decode b_Y_law 918 = .ok (.aload_n 0, 1) := by decide +kernel
theorem d_Y_law_919 : decode b_Y_law 919 = .ok (.iload 4, 2) := by decide +kernel
theorem d_Y_law_921 : decode b_Y_law 921 = .ok (.iconst 1, 1) := by decide +kernel
theorem d_Y_law_922 : decode b_Y_law 922 = .ok (.iadd, 1) := by decide +kernel
theorem d_Y_law_923 : decode b_Y_law 923 = .ok (.iaload, 1) := by decide +kernel
theorem d_Y_law_924 : decode b_Y_law 924 = .ok (.aload_n 0, 1) := by decide +kernel
theorem d_Y_law_925 : decode b_Y_law 925 = .ok (.iload 4, 2) := by decide +kernel
theorem d_Y_law_927 : decode b_Y_law 927 = .ok (.iconst 2, 1) := by decide +kernel
theorem d_Y_law_928 : decode b_Y_law 928 = .ok (.iadd, 1) := by decide +kernel
theorem d_Y_law_929 : decode b_Y_law 929 = .ok (.iaload, 1) := by decide +kernel
theorem d_Y_law_930 : decode b_Y_law 930 = .ok (.invokevirtual 123, 3) := by decide +kernel
theorem d_Y_law_933 : decode b_Y_law 933 = .ok (.if_icmp .eq 91, 3) := by decide +kernel
theorem d_Y_law_936 : decode b_Y_law 936 = .ok (.iconst 0, 1) := by decide +kernel
theorem d_Y_law_937 : decode b_Y_law 937 = .ok (.ireturn, 1) := by decide +kernel
theorem d_Y_law_938 : decode b_Y_law 938 = .ok (.aload_n 1, 1) := by decide +kernel
theorem d_Y_law_939 : decode b_Y_law 939 = .ok (.aload_n 0, 1) := by decide +kernel
theorem d_Y_law_940 : decode b_Y_law 940 = .ok (.iload 4, 2) := by decide +kernel
theorem d_Y_law_942 : decode b_Y_law 942 = .ok (.iconst 1, 1) := by decide +kernel
theorem d_Y_law_943 : decode b_Y_law 943 = .ok (.iadd, 1) := by decide +kernel
theorem d_Y_law_944 : decode b_Y_law 944 = .ok (.iaload, 1) := by decide +kernel
theorem d_Y_law_945 : decode b_Y_law 945 = .ok (.invokevirtual 124, 3) := by decide +kernel
theorem d_Y_law_948 : decode b_Y_law 948 = .ok (.aload_n 2, 1) := by decide +kernel
theorem d_Y_law_949 : decode b_Y_law 949 = .ok (.aload_n 0, 1) := by decide +kernel
theorem d_Y_law_950 : decode b_Y_law 950 = .ok (.iload 4, 2) := by decide +kernel
theorem d_Y_law_952 : decode b_Y_law 952 = .ok (.iconst 1, 1) := by decide +kernel
theorem d_Y_law_953 : decode b_Y_law 953 = .ok (.iadd, 1) := by decide +kernel
theorem d_Y_law_954 : decode b_Y_law 954 = .ok (.iaload, 1) := by decide +kernel
theorem d_Y_law_955 : decode b_Y_law 955 = .ok (.invokevirtual 127, 3) := by decide +kernel
theorem d_Y_law_958 : decode b_Y_law 958 = .ok (.if_icmp .eq 66, 3) := by decide +kernel
theorem d_Y_law_961 : decode b_Y_law 961 = .ok (.iconst 0, 1) := by decide +kernel
theorem d_Y_law_962 : decode b_Y_law 962 = .ok (.ireturn, 1) := by decide +kernel
theorem d_Y_law_963 : decode b_Y_law 963 = .ok (.aload_n 1, 1) := by decide +kernel
theorem d_Y_law_964 : decode b_Y_law 964 = .ok (.aload_n 0, 1) := by decide +kernel
theorem d_Y_law_965 : decode b_Y_law 965 = .ok (.iload 4, 2) := by decide +kernel
theorem d_Y_law_967 : decode b_Y_law 967 = .ok (.iconst 1, 1) := by decide +kernel
theorem d_Y_law_968 : decode b_Y_law 968 = .ok (.iadd, 1) := by decide +kernel
theorem d_Y_law_969 : decode b_Y_law 969 = .ok (.iaload, 1) := by decide +kernel
theorem d_Y_law_970 : decode b_Y_law 970 = .ok (.aload_n 0, 1) := by decide +kernel
theorem d_Y_law_971 : decode b_Y_law 971 = .ok (.iload 4, 2) := by decide +kernel
theorem d_Y_law_973 : decode b_Y_law 973 = .ok (.iconst 2, 1) := by decide +kernel
theorem d_Y_law_974 : decode b_Y_law 974 = .ok (.iadd, 1) := by decide +kernel
theorem d_Y_law_975 : decode b_Y_law 975 = .ok (.iaload, 1) := by decide +kernel
theorem d_Y_law_976 : decode b_Y_law 976 = .ok (.aload_n 0, 1) := by decide +kernel
theorem d_Y_law_977 : decode b_Y_law 977 = .ok (.iload 4, 2) := by decide +kernel
theorem d_Y_law_979 : decode b_Y_law 979 = .ok (.iconst 3, 1) := by decide +kernel
theorem d_Y_law_980 : decode b_Y_law 980 = .ok (.iadd, 1) := by decide +kernel
theorem d_Y_law_981 : decode b_Y_law 981 = .ok (.iaload, 1) := by decide +kernel
theorem d_Y_law_982 : decode b_Y_law 982 = .ok (.aload_n 0, 1) := by decide +kernel
theorem d_Y_law_983 : decode b_Y_law 983 = .ok (.iload 4, 2) := by decide +kernel
theorem d_Y_law_985 : decode b_Y_law 985 = .ok (.iconst 4, 1) := by decide +kernel
theorem d_Y_law_986 : decode b_Y_law 986 = .ok (.iadd, 1) := by decide +kernel
theorem d_Y_law_987 : decode b_Y_law 987 = .ok (.iaload, 1) := by decide +kernel
theorem d_Y_law_988 : decode b_Y_law 988 = .ok (.invokevirtual 128, 3) := by decide +kernel
theorem d_Y_law_991 : decode b_Y_law 991 = .ok (.aload_n 2, 1) := by decide +kernel
theorem d_Y_law_992 : decode b_Y_law 992 = .ok (.aload_n 0, 1) := by decide +kernel
theorem d_Y_law_993 : decode b_Y_law 993 = .ok (.iload 4, 2) := by decide +kernel
theorem d_Y_law_995 : decode b_Y_law 995 = .ok (.iconst 1, 1) := by decide +kernel
theorem d_Y_law_996 : decode b_Y_law 996 = .ok (.iadd, 1) := by decide +kernel
theorem d_Y_law_997 : decode b_Y_law 997 = .ok (.iaload, 1) := by decide +kernel
theorem d_Y_law_998 : decode b_Y_law 998 = .ok (.aload_n 0, 1) := by decide +kernel
theorem d_Y_law_999 : decode b_Y_law 999 = .ok (.iload 4, 2) := by decide +kernel
theorem d_Y_law_1001 : decode b_Y_law 1001 = .ok (.iconst 2, 1) := by decide +kernel
theorem d_Y_law_1002 : decode b_Y_law 1002 = .ok (.iadd, 1) := by decide +kernel
theorem d_Y_law_1003 : decode b_Y_law 1003 = .ok (.iaload, 1) := by decide +kernel
theorem d_Y_law_1004 : decode b_Y_law 1004 = .ok (.aload_n 0, 1) := by decide +kernel
theorem d_Y_law_1005 : decode b_Y_law 1005 = .ok (.iload 4, 2) := by decide +kernel
theorem d_Y_law_1007 : decode b_Y_law 1007 = .ok (.iconst 3, 1) := by decide +kernel
theorem d_Y_law_1008 : decode b_Y_law 1008 = .ok (.iadd, 1) := by decide +kernel
theorem d_Y_law_1009 : decode b_Y_law 1009 = .ok (.iaload, 1) := by decide +kernel
theorem d_Y_law_1010 : decode b_Y_law 1010 = .ok (.aload_n 0, 1) := by decide +kernel
theorem d_Y_law_1011 : decode b_Y_law 1011 = .ok (.iload 4, 2) := by decide +kernel
theorem d_Y_law_1013 : decode b_Y_law 1013 = .ok (.iconst 4, 1) := by decide +kernel
theorem d_Y_law_1014 : decode b_Y_law 1014 = .ok (.iadd, 1) := by decide +kernel
theorem d_Y_law_1015 : decode b_Y_law 1015 = .ok (.iaload, 1) := by decide +kernel
theorem d_Y_law_1016 : decode b_Y_law 1016 = .ok (.invokevirtual 132, 3) := by decide +kernel
theorem d_Y_law_1019 : decode b_Y_law 1019 = .ok (.if_icmp .eq 5, 3) := by decide +kernel
theorem d_Y_law_1022 : decode b_Y_law 1022 = .ok (.iconst 0, 1) := by decide +kernel
theorem d_Y_law_1023 : decode b_Y_law 1023 = .ok (.ireturn, 1) := by decide +kernel
theorem d_Y_law_1024 : decode b_Y_law 1024 = .ok (.iinc 4 5, 3) := by decide +kernel
theorem d_Y_law_1027 : decode b_Y_law 1027 = .ok (.goto (-1004), 3) := by decide +kernel
theorem d_Y_law_1030 : decode b_Y_law 1030 = .ok (.iconst 1, 1) := by decide +kernel
theorem d_Y_law_1031 : decode b_Y_law 1031 = .ok (.ireturn, 1) := by decide +kernel
theorem hd_Y_propose : y_Y_propose.cls ≠ "java/lang/invoke/MethodHandle" ∧ y_Y_propose.cls ≠ "java/lang/invoke/VarHandle" ∧ (parseMethodDescriptor y_Y_propose.desc).map (fun d => d.parameters.length) = some 3 := by decide +kernel
theorem hd_Y_silent : y_Y_silent.cls ≠ "java/lang/invoke/MethodHandle" ∧ y_Y_silent.cls ≠ "java/lang/invoke/VarHandle" ∧ (parseMethodDescriptor y_Y_silent.desc).map (fun d => d.parameters.length) = some 4 := by decide +kernel
theorem hd_Y_resend : y_Y_resend.cls ≠ "java/lang/invoke/MethodHandle" ∧ y_Y_resend.cls ≠ "java/lang/invoke/VarHandle" ∧ (parseMethodDescriptor y_Y_resend.desc).map (fun d => d.parameters.length) = some 3 := by decide +kernel
theorem hd_Y_spread : y_Y_spread.cls ≠ "java/lang/invoke/MethodHandle" ∧ y_Y_spread.cls ≠ "java/lang/invoke/VarHandle" ∧ (parseMethodDescriptor y_Y_spread.desc).map (fun d => d.parameters.length) = some 3 := by decide +kernel
theorem hd_Y_letter : y_Y_letter.cls ≠ "java/lang/invoke/MethodHandle" ∧ y_Y_letter.cls ≠ "java/lang/invoke/VarHandle" ∧ (parseMethodDescriptor y_Y_letter.desc).map (fun d => d.parameters.length) = some 4 := by decide +kernel
theorem hd_Y_deliver : y_Y_deliver.cls ≠ "java/lang/invoke/MethodHandle" ∧ y_Y_deliver.cls ≠ "java/lang/invoke/VarHandle" ∧ (parseMethodDescriptor y_Y_deliver.desc).map (fun d => d.parameters.length) = some 3 := by decide +kernel
theorem sw_0_21 {x : Int32} (h0 : ¬ x = 0) (h1 : ¬ x = 1) (h2 : ¬ x = 2) (h3 : ¬ x = 3) (h4 : ¬ x = 4) (h5 : ¬ x = 5) (h6 : ¬ x = 6) (h7 : ¬ x = 7) (h8 : ¬ x = 8) (h9 : ¬ x = 9) (h10 : ¬ x = 10) (h11 : ¬ x = 11) (h12 : ¬ x = 12) (h13 : ¬ x = 13) (h14 : ¬ x = 14) (h15 : ¬ x = 15) (h16 : ¬ x = 16) (h17 : ¬ x = 17) (h18 : ¬ x = 18) (h19 : ¬ x = 19) (h20 : ¬ x = 20) (h21 : ¬ x = 21) : x.toInt < 0 ∨ 21 < x.toInt := by
  have g0 := lv_neT (a := 0) h0 (by decide)
  have g1 := lv_neT (a := 1) h1 (by decide)
  have g2 := lv_neT (a := 2) h2 (by decide)
  have g3 := lv_neT (a := 3) h3 (by decide)
  have g4 := lv_neT (a := 4) h4 (by decide)
  have g5 := lv_neT (a := 5) h5 (by decide)
  have g6 := lv_neT (a := 6) h6 (by decide)
  have g7 := lv_neT (a := 7) h7 (by decide)
  have g8 := lv_neT (a := 8) h8 (by decide)
  have g9 := lv_neT (a := 9) h9 (by decide)
  have g10 := lv_neT (a := 10) h10 (by decide)
  have g11 := lv_neT (a := 11) h11 (by decide)
  have g12 := lv_neT (a := 12) h12 (by decide)
  have g13 := lv_neT (a := 13) h13 (by decide)
  have g14 := lv_neT (a := 14) h14 (by decide)
  have g15 := lv_neT (a := 15) h15 (by decide)
  have g16 := lv_neT (a := 16) h16 (by decide)
  have g17 := lv_neT (a := 17) h17 (by decide)
  have g18 := lv_neT (a := 18) h18 (by decide)
  have g19 := lv_neT (a := 19) h19 (by decide)
  have g20 := lv_neT (a := 20) h20 (by decide)
  have g21 := lv_neT (a := 21) h21 (by decide)
  omega
def Fj_Y_law_770 (LN : Nat) (xs : Nat → Int32) (K23 : XC → ZW → Int32 → Option (Int32)) (u : XC) (z : ZW) (x4 : Int32) (w0 : Int32) (w1 : Int32) : Option (Int32) := (bs_ (F_H_asked u w1 w0) fun r192 => (if 0 ≤ (x4 + 1) ∧ ((x4 + 1)).toNatClampNeg < LN then (if 0 ≤ (x4 + 2) ∧ ((x4 + 2)).toNatClampNeg < LN then (if (xs ((x4 + 2)).toNatClampNeg) = 0 then (bd_ (F_Z_asked z (xs ((x4 + 1)).toNatClampNeg) 0) fun r197 z199 => (if r192 = r197 then K23 u z199 (x4 + 5) else some 0)) else (bd_ (F_Z_asked z (xs ((x4 + 1)).toNatClampNeg) 1) fun r201 z203 => (if r192 = r201 then K23 u z203 (x4 + 5) else some 0))) else none) else none))
def Fl_Y_law_23 (LN : Nat) (xs : Nat → Int32)  : Nat → XC → ZW → Int32 → Option (Int32)
  | 0, _, _, _ => none
  | n + 1, u, z, x4 => (if ((Int32.ofNat LN) - 5) < x4 then some 1 else (if 0 ≤ x4 ∧ (x4).toNatClampNeg < LN then (if ((xs (x4).toNatClampNeg) &&& 31) = 0 then (if 0 ≤ (x4 + 1) ∧ ((x4 + 1)).toNatClampNeg < LN then (if 0 ≤ (x4 + 2) ∧ ((x4 + 2)).toNatClampNeg < LN then (bd_ (F_H_draft u (xs ((x4 + 1)).toNatClampNeg) (xs ((x4 + 2)).toNatClampNeg)) fun r6 u8 => (if 0 ≤ (x4 + 1) ∧ ((x4 + 1)).toNatClampNeg < LN then (if 0 ≤ (x4 + 2) ∧ ((x4 + 2)).toNatClampNeg < LN then (bd_ (F_Z_draft z (xs ((x4 + 1)).toNatClampNeg) (xs ((x4 + 2)).toNatClampNeg)) fun r11 z13 => (if r6 = r11 then (Fl_Y_law_23 LN xs n) u8 z13 (x4 + 5) else some 0)) else none) else none)) else none) else none) else (if ((xs (x4).toNatClampNeg) &&& 31) = 1 then (if 0 ≤ (x4 + 1) ∧ ((x4 + 1)).toNatClampNeg < LN then (if 0 ≤ (x4 + 2) ∧ ((x4 + 2)).toNatClampNeg < LN then (if 0 ≤ (x4 + 3) ∧ ((x4 + 3)).toNatClampNeg < LN then (bd_ (F_H_line u (xs ((x4 + 1)).toNatClampNeg) (xs ((x4 + 2)).toNatClampNeg) (xs ((x4 + 3)).toNatClampNeg)) fun r19 u21 => (if 0 ≤ (x4 + 1) ∧ ((x4 + 1)).toNatClampNeg < LN then (if 0 ≤ (x4 + 2) ∧ ((x4 + 2)).toNatClampNeg < LN then (if 0 ≤ (x4 + 3) ∧ ((x4 + 3)).toNatClampNeg < LN then (bd_ (F_Z_line z (xs ((x4 + 1)).toNatClampNeg) (xs ((x4 + 2)).toNatClampNeg) (xs ((x4 + 3)).toNatClampNeg)) fun r25 z27 => (if r19 = r25 then (Fl_Y_law_23 LN xs n) u21 z27 (x4 + 5) else some 0)) else none) else none) else none)) else none) else none) else none) else (if ((xs (x4).toNatClampNeg) &&& 31) = 2 then (if 0 ≤ (x4 + 1) ∧ ((x4 + 1)).toNatClampNeg < LN then (bt_ (F_Y_propose u z (xs ((x4 + 1)).toNatClampNeg)) fun r31 u33 z34 => (if 0 ≤ (x4 + 1) ∧ ((x4 + 1)).toNatClampNeg < LN then (bd_ (F_Z_propose z34 (xs ((x4 + 1)).toNatClampNeg)) fun r36 z38 => (bs_ (F_Z_thrown z38) fun r39 => (if r39 = r31 then (if r31 = 0 then (if (lg_cmp (z38.2 0) ((r36).toInt64)) = 0 then (Fl_Y_law_23 LN xs n) u33 z38 (x4 + 5) else some 0) else (Fl_Y_law_23 LN xs n) u33 z38 (x4 + 5)) else some 0))) else none)) else none) else (if ((xs (x4).toNatClampNeg) &&& 31) = 3 then (if 0 ≤ (x4 + 1) ∧ ((x4 + 1)).toNatClampNeg < LN then (if 0 ≤ (x4 + 2) ∧ ((x4 + 2)).toNatClampNeg < LN then (bt_ (F_Y_silent u z (xs ((x4 + 1)).toNatClampNeg) (xs ((x4 + 2)).toNatClampNeg)) fun r47 u49 z50 => (if 0 ≤ (x4 + 1) ∧ ((x4 + 1)).toNatClampNeg < LN then (if 0 ≤ (x4 + 2) ∧ ((x4 + 2)).toNatClampNeg < LN then (bd_ (F_Z_silent z50 (xs ((x4 + 1)).toNatClampNeg) (xs ((x4 + 2)).toNatClampNeg)) fun r53 z55 => (bs_ (F_Z_thrown z55) fun r56 => (if r56 = r47 then (if r47 = 0 then (if (lg_cmp (z55.2 0) ((r53).toInt64)) = 0 then (Fl_Y_law_23 LN xs n) u49 z55 (x4 + 5) else some 0) else (Fl_Y_law_23 LN xs n) u49 z55 (x4 + 5)) else some 0))) else none) else none)) else none) else none) else (if ((xs (x4).toNatClampNeg) &&& 31) = 4 then (if 0 ≤ (x4 + 1) ∧ ((x4 + 1)).toNatClampNeg < LN then (bt_ (F_Y_resend u z (xs ((x4 + 1)).toNatClampNeg)) fun r63 u65 z66 => (if 0 ≤ (x4 + 1) ∧ ((x4 + 1)).toNatClampNeg < LN then (bd_ (F_Z_resend z66 (xs ((x4 + 1)).toNatClampNeg)) fun r68 z70 => (bs_ (F_Z_thrown z70) fun r71 => (if r71 = r63 then (if r63 = 0 then (if (lg_cmp (z70.2 0) ((r68).toInt64)) = 0 then (Fl_Y_law_23 LN xs n) u65 z70 (x4 + 5) else some 0) else (Fl_Y_law_23 LN xs n) u65 z70 (x4 + 5)) else some 0))) else none)) else none) else (if ((xs (x4).toNatClampNeg) &&& 31) = 5 then (if 0 ≤ (x4 + 1) ∧ ((x4 + 1)).toNatClampNeg < LN then (bt_ (F_Y_spread u z (xs ((x4 + 1)).toNatClampNeg)) fun r78 u80 z81 => (if 0 ≤ (x4 + 1) ∧ ((x4 + 1)).toNatClampNeg < LN then (bd_ (F_Z_spread z81 (xs ((x4 + 1)).toNatClampNeg)) fun r83 z85 => (bs_ (F_Z_thrown z85) fun r86 => (if r86 = r78 then (if r78 = 0 then (if (lg_cmp (z85.2 0) ((r83).toInt64)) = 0 then (Fl_Y_law_23 LN xs n) u80 z85 (x4 + 5) else some 0) else (Fl_Y_law_23 LN xs n) u80 z85 (x4 + 5)) else some 0))) else none)) else none) else (if ((xs (x4).toNatClampNeg) &&& 31) = 6 then (bs_ (F_H_letters u) fun r92 => (bd_ (F_Z_letters z) fun r94 z96 => (if r92 = r94 then (Fl_Y_law_23 LN xs n) u z96 (x4 + 5) else some 0))) else (if ((xs (x4).toNatClampNeg) &&& 31) = 7 then (if 0 ≤ (x4 + 1) ∧ ((x4 + 1)).toNatClampNeg < LN then (if 0 ≤ (x4 + 2) ∧ ((x4 + 2)).toNatClampNeg < LN then (bt_ (F_Y_letter u z (xs ((x4 + 1)).toNatClampNeg) (xs ((x4 + 2)).toNatClampNeg)) fun r101 u103 z104 => (if 0 ≤ (x4 + 1) ∧ ((x4 + 1)).toNatClampNeg < LN then (if 0 ≤ (x4 + 2) ∧ ((x4 + 2)).toNatClampNeg < LN then (bd_ (F_Z_letter z104 (xs ((x4 + 1)).toNatClampNeg) (xs ((x4 + 2)).toNatClampNeg)) fun r107 z109 => (bs_ (F_Z_thrown z109) fun r110 => (if r110 = r101 then (if r101 = 0 then (if (lg_cmp (z109.2 0) ((r107).toInt64)) = 0 then (Fl_Y_law_23 LN xs n) u103 z109 (x4 + 5) else some 0) else (Fl_Y_law_23 LN xs n) u103 z109 (x4 + 5)) else some 0))) else none) else none)) else none) else none) else (if ((xs (x4).toNatClampNeg) &&& 31) = 8 then (if 0 ≤ (x4 + 1) ∧ ((x4 + 1)).toNatClampNeg < LN then (bt_ (F_Y_deliver u z (xs ((x4 + 1)).toNatClampNeg)) fun r117 u119 z120 => (if 0 ≤ (x4 + 1) ∧ ((x4 + 1)).toNatClampNeg < LN then (bd_ (F_Z_deliver z120 (xs ((x4 + 1)).toNatClampNeg)) fun r122 z124 => (bs_ (F_Z_thrown z124) fun r125 => (if r125 = r117 then (if r117 = 0 then (if (lg_cmp (z124.2 0) ((r122).toInt64)) = 0 then (Fl_Y_law_23 LN xs n) u119 z124 (x4 + 5) else some 0) else (Fl_Y_law_23 LN xs n) u119 z124 (x4 + 5)) else some 0))) else none)) else none) else (if ((xs (x4).toNatClampNeg) &&& 31) = 9 then (if 0 ≤ (x4 + 1) ∧ ((x4 + 1)).toNatClampNeg < LN then (bd_ (F_H_lose u (xs ((x4 + 1)).toNatClampNeg)) fun r132 u134 => (if 0 ≤ (x4 + 1) ∧ ((x4 + 1)).toNatClampNeg < LN then (bd_ (F_Z_lose z (xs ((x4 + 1)).toNatClampNeg)) fun r136 z138 => (if r132 = r136 then (Fl_Y_law_23 LN xs n) u134 z138 (x4 + 5) else some 0)) else none)) else none) else (if ((xs (x4).toNatClampNeg) &&& 31) = 10 then (if 0 ≤ (x4 + 1) ∧ ((x4 + 1)).toNatClampNeg < LN then (bd_ (F_H_twin u (xs ((x4 + 1)).toNatClampNeg)) fun r142 u144 => (if 0 ≤ (x4 + 1) ∧ ((x4 + 1)).toNatClampNeg < LN then (bd_ (F_Z_twin z (xs ((x4 + 1)).toNatClampNeg)) fun r146 z148 => (if r142 = r146 then (Fl_Y_law_23 LN xs n) u144 z148 (x4 + 5) else some 0)) else none)) else none) else (if ((xs (x4).toNatClampNeg) &&& 31) = 11 then (if 0 ≤ (x4 + 1) ∧ ((x4 + 1)).toNatClampNeg < LN then (bd_ (F_H_crash u (xs ((x4 + 1)).toNatClampNeg)) fun r152 u154 => (if 0 ≤ (x4 + 1) ∧ ((x4 + 1)).toNatClampNeg < LN then (bd_ (F_Z_crash z (xs ((x4 + 1)).toNatClampNeg)) fun r156 z158 => (if r152 = r156 then (Fl_Y_law_23 LN xs n) u154 z158 (x4 + 5) else some 0)) else none)) else none) else (if ((xs (x4).toNatClampNeg) &&& 31) = 12 then (if 0 ≤ (x4 + 1) ∧ ((x4 + 1)).toNatClampNeg < LN then (bd_ (F_H_restart u (xs ((x4 + 1)).toNatClampNeg)) fun r162 u164 => (if 0 ≤ (x4 + 1) ∧ ((x4 + 1)).toNatClampNeg < LN then (bd_ (F_Z_restart z (xs ((x4 + 1)).toNatClampNeg)) fun r166 z168 => (if r162 = r166 then (Fl_Y_law_23 LN xs n) u164 z168 (x4 + 5) else some 0)) else none)) else none) else (if ((xs (x4).toNatClampNeg) &&& 31) = 13 then (if 0 ≤ (x4 + 1) ∧ ((x4 + 1)).toNatClampNeg < LN then (bs_ (F_H_quorum u (xs ((x4 + 1)).toNatClampNeg)) fun r172 => (if 0 ≤ (x4 + 1) ∧ ((x4 + 1)).toNatClampNeg < LN then (bd_ (F_Z_quorum z (xs ((x4 + 1)).toNatClampNeg)) fun r175 z177 => (if r172 = r175 then (Fl_Y_law_23 LN xs n) u z177 (x4 + 5) else some 0)) else none)) else none) else (if ((xs (x4).toNatClampNeg) &&& 31) = 14 then (if 0 ≤ (x4 + 1) ∧ ((x4 + 1)).toNatClampNeg < LN then (bs_ (F_H_least u (xs ((x4 + 1)).toNatClampNeg)) fun r181 => (if 0 ≤ (x4 + 1) ∧ ((x4 + 1)).toNatClampNeg < LN then (bd_ (F_Z_least z (xs ((x4 + 1)).toNatClampNeg)) fun r184 z186 => (if r181 = r184 then (Fl_Y_law_23 LN xs n) u z186 (x4 + 5) else some 0)) else none)) else none) else (if ((xs (x4).toNatClampNeg) &&& 31) = 15 then (if 0 ≤ (x4 + 1) ∧ ((x4 + 1)).toNatClampNeg < LN then (if 0 ≤ (x4 + 2) ∧ ((x4 + 2)).toNatClampNeg < LN then (if (xs ((x4 + 2)).toNatClampNeg) = 0 then Fj_Y_law_770 LN xs (Fl_Y_law_23 LN xs n) u z x4 0 (xs ((x4 + 1)).toNatClampNeg) else Fj_Y_law_770 LN xs (Fl_Y_law_23 LN xs n) u z x4 1 (xs ((x4 + 1)).toNatClampNeg)) else none) else none) else (if ((xs (x4).toNatClampNeg) &&& 31) = 16 then (if 0 ≤ (x4 + 1) ∧ ((x4 + 1)).toNatClampNeg < LN then (if 0 ≤ (x4 + 2) ∧ ((x4 + 2)).toNatClampNeg < LN then (bs_ (F_H_run u (xs ((x4 + 1)).toNatClampNeg) (xs ((x4 + 2)).toNatClampNeg)) fun r208 => (if 0 ≤ (x4 + 1) ∧ ((x4 + 1)).toNatClampNeg < LN then (if 0 ≤ (x4 + 2) ∧ ((x4 + 2)).toNatClampNeg < LN then (bd_ (F_Z_run z (xs ((x4 + 1)).toNatClampNeg) (xs ((x4 + 2)).toNatClampNeg)) fun r212 z214 => (if r208 = r212 then (Fl_Y_law_23 LN xs n) u z214 (x4 + 5) else some 0)) else none) else none)) else none) else none) else (if ((xs (x4).toNatClampNeg) &&& 31) = 17 then (if 0 ≤ (x4 + 1) ∧ ((x4 + 1)).toNatClampNeg < LN then (bs_ (F_H_promised u (xs ((x4 + 1)).toNatClampNeg)) fun r218 => (if 0 ≤ (x4 + 1) ∧ ((x4 + 1)).toNatClampNeg < LN then (bd_ (F_Z_promised z (xs ((x4 + 1)).toNatClampNeg)) fun r221 z223 => (if r218 = r221 then (Fl_Y_law_23 LN xs n) u z223 (x4 + 5) else some 0)) else none)) else none) else (if ((xs (x4).toNatClampNeg) &&& 31) = 18 then (if 0 ≤ (x4 + 1) ∧ ((x4 + 1)).toNatClampNeg < LN then (if 0 ≤ (x4 + 2) ∧ ((x4 + 2)).toNatClampNeg < LN then (bs_ (F_H_accepted u (xs ((x4 + 1)).toNatClampNeg) (xs ((x4 + 2)).toNatClampNeg)) fun r228 => (if 0 ≤ (x4 + 1) ∧ ((x4 + 1)).toNatClampNeg < LN then (if 0 ≤ (x4 + 2) ∧ ((x4 + 2)).toNatClampNeg < LN then (bd_ (F_Z_accepted z (xs ((x4 + 1)).toNatClampNeg) (xs ((x4 + 2)).toNatClampNeg)) fun r232 z234 => (if r228 = r232 then (Fl_Y_law_23 LN xs n) u z234 (x4 + 5) else some 0)) else none) else none)) else none) else none) else (if ((xs (x4).toNatClampNeg) &&& 31) = 19 then (if 0 ≤ (x4 + 1) ∧ ((x4 + 1)).toNatClampNeg < LN then (if 0 ≤ (x4 + 2) ∧ ((x4 + 2)).toNatClampNeg < LN then (bs_ (F_H_decided u (xs ((x4 + 1)).toNatClampNeg) (xs ((x4 + 2)).toNatClampNeg)) fun r239 => (if 0 ≤ (x4 + 1) ∧ ((x4 + 1)).toNatClampNeg < LN then (if 0 ≤ (x4 + 2) ∧ ((x4 + 2)).toNatClampNeg < LN then (bd_ (F_Z_decided z (xs ((x4 + 1)).toNatClampNeg) (xs ((x4 + 2)).toNatClampNeg)) fun r243 z245 => (if r239 = r243 then (Fl_Y_law_23 LN xs n) u z245 (x4 + 5) else some 0)) else none) else none)) else none) else none) else (if ((xs (x4).toNatClampNeg) &&& 31) = 20 then (if 0 ≤ (x4 + 1) ∧ ((x4 + 1)).toNatClampNeg < LN then (bs_ (F_H_complete u (xs ((x4 + 1)).toNatClampNeg)) fun r249 => (if 0 ≤ (x4 + 1) ∧ ((x4 + 1)).toNatClampNeg < LN then (bd_ (F_Z_complete z (xs ((x4 + 1)).toNatClampNeg)) fun r252 z254 => (if r249 = r252 then (Fl_Y_law_23 LN xs n) u z254 (x4 + 5) else some 0)) else none)) else none) else (if ((xs (x4).toNatClampNeg) &&& 31) = 21 then (if 0 ≤ (x4 + 1) ∧ ((x4 + 1)).toNatClampNeg < LN then (if 0 ≤ (x4 + 2) ∧ ((x4 + 2)).toNatClampNeg < LN then (if 0 ≤ (x4 + 3) ∧ ((x4 + 3)).toNatClampNeg < LN then (if 0 ≤ (x4 + 4) ∧ ((x4 + 4)).toNatClampNeg < LN then (bs_ (F_H_rate u (xs ((x4 + 1)).toNatClampNeg) (xs ((x4 + 2)).toNatClampNeg) (xs ((x4 + 3)).toNatClampNeg) (xs ((x4 + 4)).toNatClampNeg)) fun r261 => (if 0 ≤ (x4 + 1) ∧ ((x4 + 1)).toNatClampNeg < LN then (if 0 ≤ (x4 + 2) ∧ ((x4 + 2)).toNatClampNeg < LN then (if 0 ≤ (x4 + 3) ∧ ((x4 + 3)).toNatClampNeg < LN then (if 0 ≤ (x4 + 4) ∧ ((x4 + 4)).toNatClampNeg < LN then (bd_ (F_Z_rate z (xs ((x4 + 1)).toNatClampNeg) (xs ((x4 + 2)).toNatClampNeg) (xs ((x4 + 3)).toNatClampNeg) (xs ((x4 + 4)).toNatClampNeg)) fun r267 z269 => (if r261 = r267 then (Fl_Y_law_23 LN xs n) u z269 (x4 + 5) else some 0)) else none) else none) else none) else none)) else none) else none) else none) else none) else (Fl_Y_law_23 LN xs n) u z (x4 + 5))))))))))))))))))))))) else none))
set_option maxHeartbeats 4000000 in
set_option maxRecDepth 100000 in
theorem jn_Y_law_770 {p : Program} {l : Launch} {e : Env} {R : Room} {s : State} {m : MethodId} {args : Array Value} {below : List Frame} {meth : Method} {c : Code} {D : va_G} {ad : Nat → Nat → Nat} {ca : Nat → ClassId} {A : Nat → Prop} {Q : State → Prop} {sb LN : Nat} {xs : Nat → Int32} {r0 : Int32} (htr : l.stackTraces = false) (hRf : 9 ≤ R.frames) (hRl : 197 ≤ R.locals) (hx : p.tables.exec = Jvm.exec) (hb : c.code = b_Y_law) (hr : meth.sig.returnType = (some .boolean)) (hts : ∀ w ∈ ALL, w.before args s = true) (hown : s.vm.findClass R_Y = some m.cls) (hlocks : meth.locks = false) (hml : c.maxLocals = 7) (hK : va_K D CLS (TYH ca) s) (hD0 : ∀ z u, va_D (AH ad) (wh ad ca z u)) (hAA : ∀ q, AH ad q → A q) (hTZ : TZ R_H MSGS FW A s) (hX : va_X sb LN xs s s.heap) (hbl : sb < s.heap.size) (hbA : ¬ A sb) (hend : ∀ (H : Heap) (locs : List Loc) (cells slots : Nat) (ls : Array Slot) (pc : Nat), va_S A s.heap H locs → cells ≤ R.cells → slots ≤ R.slots → decode b_Y_law pc = .ok (.ireturn, 1) → W p l e R s m args below meth c H locs cells slots Q (F0 m pc ls [.int r0])) {n : Nat} {K23 : XC → ZW → Int32 → Option (Int32)} (ihK23 : ∀ (u : XC) (z : ZW) (x4 : Int32) (cells slots : Nat), K23 u z x4 = some r0 → cells + n ≤ R.cells → slots + 6 * n ≤ R.slots → ∀ (H : Heap) (locs : List Loc) (ls : Array Slot), va_P D CLS (wh ad ca z u) H → va_S A s.heap H locs → lv_has ls 7 [(0, .ref sb), (1, .ref (ad 0 0)), (2, .ref (ad 14 0)), (3, .ref (ad 43 0)), (4, .int x4)] → W p l e R s m args below meth c H locs cells slots Q (F0 m 23 ls [])) : ∀ (u : XC) (z : ZW) (x4 : Int32) (w0 : Int32) (w1 : Int32) (cells slots : Nat), Fj_Y_law_770 LN xs K23 u z x4 w0 w1 = some r0 → cells + n + 1 ≤ R.cells → slots + 6 * n + 6 ≤ R.slots → ∀ (H : Heap) (locs : List Loc) (ls : Array Slot), va_P D CLS (wh ad ca z u) H → va_S A s.heap H locs → lv_has ls 7 [(0, .ref sb), (1, .ref (ad 0 0)), (2, .ref (ad 14 0)), (3, .ref (ad 43 0)), (4, .int x4)] → W p l e R s m args below meth c H locs cells slots Q (F0 m 770 ls [.int w0, .int w1, .ref (ad 0 0)]) := by
  intro u z x4 w0 w1 cells slots hF hc hs H locs ls hP hS hl
  unfold Fj_Y_law_770 at hF
  obtain ⟨r192, h193, hF⟩ := bs_u hF
  refine k_vp (ad 0 0) [.int w1, .int w0] [] ⟨hx, hb, hml, hown, hts⟩ (c_H_asked l D ad ca hD0 (z := z) (u := u)  h193) (w_H_asked hts a_304 ⟨Nat.le_trans (Nat.le_of_ble_eq_true rfl) hRf, Nat.le_trans (Nat.le_of_ble_eq_true rfl) hRl⟩) (rv_H hK hP (by decide)) hP hK rfl rfl hl.1 (Nat.le_of_ble_eq_true rfl) ⟨by omega, by omega⟩ d_Y_law_770 ?_
  refine lv_aload_n hx hb d_Y_law_773 rfl (lv_at hl 2 rfl) ?_
  refine lv_aload_n hx hb d_Y_law_774 rfl (lv_at hl 0 rfl) ?_
  refine lv_iload hx hb d_Y_law_775 (lv_at hl 4 rfl) ?_
  refine lv_iconst (v := 1) hx hb d_Y_law_777 (by decide) ?_
  refine lv_iadd hx hb d_Y_law_778 ?_
  obtain ⟨h194, hF⟩ := as_u hF
  refine va_sld hx hb hX hbl hbA hS (in_of h194) d_Y_law_779 ?_
  refine lv_aload_n hx hb d_Y_law_780 rfl (lv_at hl 0 rfl) ?_
  refine lv_iload hx hb d_Y_law_781 (lv_at hl 4 rfl) ?_
  refine lv_iconst (v := 2) hx hb d_Y_law_783 (by decide) ?_
  refine lv_iadd hx hb d_Y_law_784 ?_
  obtain ⟨h195, hF⟩ := as_u hF
  refine va_sld hx hb hX hbl hbA hS (in_of h195) d_Y_law_785 ?_
  refine lv_if_eq (tgt := 793) hx hb d_Y_law_786 (by decide) (fun h196 => ?_) (fun h196 => ?_)
  · have hF := it_t hF h196
    refine lv_iconst (v := 0) hx hb d_Y_law_793 (by decide) ?_
    obtain ⟨r197, z199, h198, hF⟩ := bd_u hF
    refine k_vi (ad 14 0) [.int (xs ((x4 + 1)).toNatClampNeg), .int 0] [.int r192] ⟨hx, hb, hml, hown, hts⟩ (c_Z_asked l D ad ca hD0 (z := z) (u := u)  h198) (w_Z_asked hts a_796 ⟨Nat.le_trans (Nat.le_of_ble_eq_true rfl) hRf, Nat.le_trans (Nat.le_of_ble_eq_true rfl) hRl⟩) (rv_Z hK hP (by decide)) hP hK hS hAA rfl rfl hl.1 (Nat.le_of_ble_eq_true rfl) ⟨by omega, by omega⟩ d_Y_law_794 (fun H locs hP hS => ?_)
    refine lv_icmp_eq (tgt := 1024) hx hb d_Y_law_797 (by decide) (fun h200 => ?_) (fun h200 => ?_)
    · have hF := it_t hF h200
      refine lv_iinc (k := 4) (v := (x4 + 5)) (lv' := [(4, .int (x4 + 5)), (0, .ref sb), (1, .ref (ad 0 0)), (2, .ref (ad 14 0)), (3, .ref (ad 43 0))]) hx hb d_Y_law_1024 hl rfl rfl (by decide) rfl (fun ls hl => ?_)
      refine lv_goto (tgt := 23) hx hb d_Y_law_1027 (by decide) ?_
      exact ihK23 u z199 (x4 + 5)  _ _ hF (by omega) (by omega) _ _ _ hP hS (lv_sub hl [1, 2, 3, 4, 0] rfl)
    · have hF := it_f hF h200
      refine lv_iconst (v := 0) hx hb d_Y_law_800 (by decide) ?_
      have hF := rt1 hF
      subst hF
      exact hend _ _ _ _ _ _ hS (by omega) (by omega) d_Y_law_801
  · have hF := it_f hF h196
    refine lv_iconst (v := 1) hx hb d_Y_law_789 (by decide) ?_
    refine lv_goto (tgt := 794) hx hb d_Y_law_790 (by decide) ?_
    obtain ⟨r201, z203, h202, hF⟩ := bd_u hF
    refine k_vi (ad 14 0) [.int (xs ((x4 + 1)).toNatClampNeg), .int 1] [.int r192] ⟨hx, hb, hml, hown, hts⟩ (c_Z_asked l D ad ca hD0 (z := z) (u := u)  h202) (w_Z_asked hts a_796 ⟨Nat.le_trans (Nat.le_of_ble_eq_true rfl) hRf, Nat.le_trans (Nat.le_of_ble_eq_true rfl) hRl⟩) (rv_Z hK hP (by decide)) hP hK hS hAA rfl rfl hl.1 (Nat.le_of_ble_eq_true rfl) ⟨by omega, by omega⟩ d_Y_law_794 (fun H locs hP hS => ?_)
    refine lv_icmp_eq (tgt := 1024) hx hb d_Y_law_797 (by decide) (fun h204 => ?_) (fun h204 => ?_)
    · have hF := it_t hF h204
      refine lv_iinc (k := 4) (v := (x4 + 5)) (lv' := [(4, .int (x4 + 5)), (0, .ref sb), (1, .ref (ad 0 0)), (2, .ref (ad 14 0)), (3, .ref (ad 43 0))]) hx hb d_Y_law_1024 hl rfl rfl (by decide) rfl (fun ls hl => ?_)
      refine lv_goto (tgt := 23) hx hb d_Y_law_1027 (by decide) ?_
      exact ihK23 u z203 (x4 + 5)  _ _ hF (by omega) (by omega) _ _ _ hP hS (lv_sub hl [1, 2, 3, 4, 0] rfl)
    · have hF := it_f hF h204
      refine lv_iconst (v := 0) hx hb d_Y_law_800 (by decide) ?_
      have hF := rt1 hF
      subst hF
      exact hend _ _ _ _ _ _ hS (by omega) (by omega) d_Y_law_801
set_option maxHeartbeats 4000000 in
set_option maxRecDepth 100000 in
theorem lp_Y_law_23 {p : Program} {l : Launch} {e : Env} {R : Room} {s : State} {m : MethodId} {args : Array Value} {below : List Frame} {meth : Method} {c : Code} {D : va_G} {ad : Nat → Nat → Nat} {ca : Nat → ClassId} {A : Nat → Prop} {Q : State → Prop} {sb LN : Nat} {xs : Nat → Int32} {r0 : Int32} (htr : l.stackTraces = false) (hRf : 9 ≤ R.frames) (hRl : 197 ≤ R.locals) (hx : p.tables.exec = Jvm.exec) (hb : c.code = b_Y_law) (hr : meth.sig.returnType = (some .boolean)) (hts : ∀ w ∈ ALL, w.before args s = true) (hown : s.vm.findClass R_Y = some m.cls) (hlocks : meth.locks = false) (hml : c.maxLocals = 7) (hK : va_K D CLS (TYH ca) s) (hD0 : ∀ z u, va_D (AH ad) (wh ad ca z u)) (hAA : ∀ q, AH ad q → A q) (hTZ : TZ R_H MSGS FW A s) (hX : va_X sb LN xs s s.heap) (hbl : sb < s.heap.size) (hbA : ¬ A sb) (hend : ∀ (H : Heap) (locs : List Loc) (cells slots : Nat) (ls : Array Slot) (pc : Nat), va_S A s.heap H locs → cells ≤ R.cells → slots ≤ R.slots → decode b_Y_law pc = .ok (.ireturn, 1) → W p l e R s m args below meth c H locs cells slots Q (F0 m pc ls [.int r0]))  : ∀ (n : Nat), ∀ (u : XC) (z : ZW) (x4 : Int32) (cells slots : Nat), Fl_Y_law_23 LN xs  n u z x4 = some r0 → cells + n ≤ R.cells → slots + 6 * n ≤ R.slots → ∀ (H : Heap) (locs : List Loc) (ls : Array Slot), va_P D CLS (wh ad ca z u) H → va_S A s.heap H locs → lv_has ls 7 [(0, .ref sb), (1, .ref (ad 0 0)), (2, .ref (ad 14 0)), (3, .ref (ad 43 0)), (4, .int x4)] → W p l e R s m args below meth c H locs cells slots Q (F0 m 23 ls []) := by
  intro n
  induction n with
  | zero => intro u z x4 cells slots hF; rw [Fl_Y_law_23] at hF; cases hF
  | succ n ih =>
    intro u z x4 cells slots hF hc hs H locs ls hP hS hl
    rw [Fl_Y_law_23] at hF
    refine lv_iload hx hb d_Y_law_23 (lv_at hl 4 rfl) ?_
    refine lv_aload_n hx hb d_Y_law_25 rfl (lv_at hl 0 rfl) ?_
    refine va_slen hx hb hX hbl hbA hS d_Y_law_26 ?_
    refine lv_iconst (v := 5) hx hb d_Y_law_27 (by decide) ?_
    refine lv_isub hx hb d_Y_law_28 ?_
    refine lv_icmp_gt (tgt := 1030) hx hb d_Y_law_29 (by decide) (fun h1 => ?_) (fun h1 => ?_)
    · have hF := it_t hF h1
      refine lv_iconst (v := 1) hx hb d_Y_law_1030 (by decide) ?_
      have hF := rt1 hF
      subst hF
      exact hend _ _ _ _ _ _ hS (by omega) (by omega) d_Y_law_1031
    · have hF := it_f hF h1
      refine lv_aload_n hx hb d_Y_law_32 rfl (lv_at hl 0 rfl) ?_
      refine lv_iload hx hb d_Y_law_33 (lv_at hl 4 rfl) ?_
      obtain ⟨h2, hF⟩ := as_u hF
      refine va_sld hx hb hX hbl hbA hS (in_of h2) d_Y_law_35 ?_
      refine lv_bipush (v := 31) hx hb d_Y_law_36 (by decide) ?_
      refine lv_iand hx hb d_Y_law_38 ?_
      by_cases h3 : ((xs (x4).toNatClampNeg) &&& 31) = 0
      · have hF := it_t hF h3
        refine lv_tableIn (tgt := 140) hx hb d_Y_law_39 (by rw [h3]; decide) (by rw [h3]; decide) (by rw [h3]; rfl) (by decide) ?_
        refine lv_aload_n hx hb d_Y_law_140 rfl (lv_at hl 1 rfl) ?_
        refine lv_aload_n hx hb d_Y_law_141 rfl (lv_at hl 0 rfl) ?_
        refine lv_iload hx hb d_Y_law_142 (lv_at hl 4 rfl) ?_
        refine lv_iconst (v := 1) hx hb d_Y_law_144 (by decide) ?_
        refine lv_iadd hx hb d_Y_law_145 ?_
        obtain ⟨h4, hF⟩ := as_u hF
        refine va_sld hx hb hX hbl hbA hS (in_of h4) d_Y_law_146 ?_
        refine lv_aload_n hx hb d_Y_law_147 rfl (lv_at hl 0 rfl) ?_
        refine lv_iload hx hb d_Y_law_148 (lv_at hl 4 rfl) ?_
        refine lv_iconst (v := 2) hx hb d_Y_law_150 (by decide) ?_
        refine lv_iadd hx hb d_Y_law_151 ?_
        obtain ⟨h5, hF⟩ := as_u hF
        refine va_sld hx hb hX hbl hbA hS (in_of h5) d_Y_law_152 ?_
        obtain ⟨r6, u8, h7, hF⟩ := bd_u hF
        refine k_vi (ad 0 0) [.int (xs ((x4 + 1)).toNatClampNeg), .int (xs ((x4 + 2)).toNatClampNeg)] [] ⟨hx, hb, hml, hown, hts⟩ (c_H_draft l D ad ca hD0 (z := z) (u := u)  h7) (w_H_draft hts a_218 ⟨Nat.le_trans (Nat.le_of_ble_eq_true rfl) hRf, Nat.le_trans (Nat.le_of_ble_eq_true rfl) hRl⟩) (rv_H hK hP (by decide)) hP hK hS hAA rfl rfl hl.1 (Nat.le_of_ble_eq_true rfl) ⟨by omega, by omega⟩ d_Y_law_153 (fun H locs hP hS => ?_)
        refine lv_aload_n hx hb d_Y_law_156 rfl (lv_at hl 2 rfl) ?_
        refine lv_aload_n hx hb d_Y_law_157 rfl (lv_at hl 0 rfl) ?_
        refine lv_iload hx hb d_Y_law_158 (lv_at hl 4 rfl) ?_
        refine lv_iconst (v := 1) hx hb d_Y_law_160 (by decide) ?_
        refine lv_iadd hx hb d_Y_law_161 ?_
        obtain ⟨h9, hF⟩ := as_u hF
        refine va_sld hx hb hX hbl hbA hS (in_of h9) d_Y_law_162 ?_
        refine lv_aload_n hx hb d_Y_law_163 rfl (lv_at hl 0 rfl) ?_
        refine lv_iload hx hb d_Y_law_164 (lv_at hl 4 rfl) ?_
        refine lv_iconst (v := 2) hx hb d_Y_law_166 (by decide) ?_
        refine lv_iadd hx hb d_Y_law_167 ?_
        obtain ⟨h10, hF⟩ := as_u hF
        refine va_sld hx hb hX hbl hbA hS (in_of h10) d_Y_law_168 ?_
        obtain ⟨r11, z13, h12, hF⟩ := bd_u hF
        refine k_vi (ad 14 0) [.int (xs ((x4 + 1)).toNatClampNeg), .int (xs ((x4 + 2)).toNatClampNeg)] [.int r6] ⟨hx, hb, hml, hown, hts⟩ (c_Z_draft l D ad ca hD0 (z := z) (u := u8)  h12) (w_Z_draft hts a_687 ⟨Nat.le_trans (Nat.le_of_ble_eq_true rfl) hRf, Nat.le_trans (Nat.le_of_ble_eq_true rfl) hRl⟩) (rv_Z hK hP (by decide)) hP hK hS hAA rfl rfl hl.1 (Nat.le_of_ble_eq_true rfl) ⟨by omega, by omega⟩ d_Y_law_169 (fun H locs hP hS => ?_)
        refine lv_icmp_eq (tgt := 1024) hx hb d_Y_law_172 (by decide) (fun h14 => ?_) (fun h14 => ?_)
        · have hF := it_t hF h14
          refine lv_iinc (k := 4) (v := (x4 + 5)) (lv' := [(4, .int (x4 + 5)), (0, .ref sb), (1, .ref (ad 0 0)), (2, .ref (ad 14 0)), (3, .ref (ad 43 0))]) hx hb d_Y_law_1024 hl rfl rfl (by decide) rfl (fun ls hl => ?_)
          refine lv_goto (tgt := 23) hx hb d_Y_law_1027 (by decide) ?_
          exact ih u8 z13 (x4 + 5)  _ _ hF (by omega) (by omega) _ _ _ hP hS (lv_sub hl [1, 2, 3, 4, 0] rfl)
        · have hF := it_f hF h14
          refine lv_iconst (v := 0) hx hb d_Y_law_175 (by decide) ?_
          have hF := rt1 hF
          subst hF
          exact hend _ _ _ _ _ _ hS (by omega) (by omega) d_Y_law_176
      have hF := it_f hF h3
      by_cases h15 : ((xs (x4).toNatClampNeg) &&& 31) = 1
      · have hF := it_t hF h15
        refine lv_tableIn (tgt := 177) hx hb d_Y_law_39 (by rw [h15]; decide) (by rw [h15]; decide) (by rw [h15]; rfl) (by decide) ?_
        refine lv_aload_n hx hb d_Y_law_177 rfl (lv_at hl 1 rfl) ?_
        refine lv_aload_n hx hb d_Y_law_178 rfl (lv_at hl 0 rfl) ?_
        refine lv_iload hx hb d_Y_law_179 (lv_at hl 4 rfl) ?_
        refine lv_iconst (v := 1) hx hb d_Y_law_181 (by decide) ?_
        refine lv_iadd hx hb d_Y_law_182 ?_
        obtain ⟨h16, hF⟩ := as_u hF
        refine va_sld hx hb hX hbl hbA hS (in_of h16) d_Y_law_183 ?_
        refine lv_aload_n hx hb d_Y_law_184 rfl (lv_at hl 0 rfl) ?_
        refine lv_iload hx hb d_Y_law_185 (lv_at hl 4 rfl) ?_
        refine lv_iconst (v := 2) hx hb d_Y_law_187 (by decide) ?_
        refine lv_iadd hx hb d_Y_law_188 ?_
        obtain ⟨h17, hF⟩ := as_u hF
        refine va_sld hx hb hX hbl hbA hS (in_of h17) d_Y_law_189 ?_
        refine lv_aload_n hx hb d_Y_law_190 rfl (lv_at hl 0 rfl) ?_
        refine lv_iload hx hb d_Y_law_191 (lv_at hl 4 rfl) ?_
        refine lv_iconst (v := 3) hx hb d_Y_law_193 (by decide) ?_
        refine lv_iadd hx hb d_Y_law_194 ?_
        obtain ⟨h18, hF⟩ := as_u hF
        refine va_sld hx hb hX hbl hbA hS (in_of h18) d_Y_law_195 ?_
        obtain ⟨r19, u21, h20, hF⟩ := bd_u hF
        refine k_vi (ad 0 0) [.int (xs ((x4 + 1)).toNatClampNeg), .int (xs ((x4 + 2)).toNatClampNeg), .int (xs ((x4 + 3)).toNatClampNeg)] [] ⟨hx, hb, hml, hown, hts⟩ (c_H_line l D ad ca hD0 (z := z) (u := u)  h20) (w_H_line hts a_228 ⟨Nat.le_trans (Nat.le_of_ble_eq_true rfl) hRf, Nat.le_trans (Nat.le_of_ble_eq_true rfl) hRl⟩) (rv_H hK hP (by decide)) hP hK hS hAA rfl rfl hl.1 (Nat.le_of_ble_eq_true rfl) ⟨by omega, by omega⟩ d_Y_law_196 (fun H locs hP hS => ?_)
        refine lv_aload_n hx hb d_Y_law_199 rfl (lv_at hl 2 rfl) ?_
        refine lv_aload_n hx hb d_Y_law_200 rfl (lv_at hl 0 rfl) ?_
        refine lv_iload hx hb d_Y_law_201 (lv_at hl 4 rfl) ?_
        refine lv_iconst (v := 1) hx hb d_Y_law_203 (by decide) ?_
        refine lv_iadd hx hb d_Y_law_204 ?_
        obtain ⟨h22, hF⟩ := as_u hF
        refine va_sld hx hb hX hbl hbA hS (in_of h22) d_Y_law_205 ?_
        refine lv_aload_n hx hb d_Y_law_206 rfl (lv_at hl 0 rfl) ?_
        refine lv_iload hx hb d_Y_law_207 (lv_at hl 4 rfl) ?_
        refine lv_iconst (v := 2) hx hb d_Y_law_209 (by decide) ?_
        refine lv_iadd hx hb d_Y_law_210 ?_
        obtain ⟨h23, hF⟩ := as_u hF
        refine va_sld hx hb hX hbl hbA hS (in_of h23) d_Y_law_211 ?_
        refine lv_aload_n hx hb d_Y_law_212 rfl (lv_at hl 0 rfl) ?_
        refine lv_iload hx hb d_Y_law_213 (lv_at hl 4 rfl) ?_
        refine lv_iconst (v := 3) hx hb d_Y_law_215 (by decide) ?_
        refine lv_iadd hx hb d_Y_law_216 ?_
        obtain ⟨h24, hF⟩ := as_u hF
        refine va_sld hx hb hX hbl hbA hS (in_of h24) d_Y_law_217 ?_
        obtain ⟨r25, z27, h26, hF⟩ := bd_u hF
        refine k_vi (ad 14 0) [.int (xs ((x4 + 1)).toNatClampNeg), .int (xs ((x4 + 2)).toNatClampNeg), .int (xs ((x4 + 3)).toNatClampNeg)] [.int r19] ⟨hx, hb, hml, hown, hts⟩ (c_Z_line l D ad ca hD0 (z := z) (u := u21)  h26) (w_Z_line hts a_694 ⟨Nat.le_trans (Nat.le_of_ble_eq_true rfl) hRf, Nat.le_trans (Nat.le_of_ble_eq_true rfl) hRl⟩) (rv_Z hK hP (by decide)) hP hK hS hAA rfl rfl hl.1 (Nat.le_of_ble_eq_true rfl) ⟨by omega, by omega⟩ d_Y_law_218 (fun H locs hP hS => ?_)
        refine lv_icmp_eq (tgt := 1024) hx hb d_Y_law_221 (by decide) (fun h28 => ?_) (fun h28 => ?_)
        · have hF := it_t hF h28
          refine lv_iinc (k := 4) (v := (x4 + 5)) (lv' := [(4, .int (x4 + 5)), (0, .ref sb), (1, .ref (ad 0 0)), (2, .ref (ad 14 0)), (3, .ref (ad 43 0))]) hx hb d_Y_law_1024 hl rfl rfl (by decide) rfl (fun ls hl => ?_)
          refine lv_goto (tgt := 23) hx hb d_Y_law_1027 (by decide) ?_
          exact ih u21 z27 (x4 + 5)  _ _ hF (by omega) (by omega) _ _ _ hP hS (lv_sub hl [1, 2, 3, 4, 0] rfl)
        · have hF := it_f hF h28
          refine lv_iconst (v := 0) hx hb d_Y_law_224 (by decide) ?_
          have hF := rt1 hF
          subst hF
          exact hend _ _ _ _ _ _ hS (by omega) (by omega) d_Y_law_225
      have hF := it_f hF h15
      by_cases h29 : ((xs (x4).toNatClampNeg) &&& 31) = 2
      · have hF := it_t hF h29
        refine lv_tableIn (tgt := 226) hx hb d_Y_law_39 (by rw [h29]; decide) (by rw [h29]; decide) (by rw [h29]; rfl) (by decide) ?_
        refine lv_aload_n hx hb d_Y_law_226 rfl (lv_at hl 1 rfl) ?_
        refine lv_aload_n hx hb d_Y_law_227 rfl (lv_at hl 0 rfl) ?_
        refine lv_iload hx hb d_Y_law_228 (lv_at hl 4 rfl) ?_
        refine lv_iconst (v := 1) hx hb d_Y_law_230 (by decide) ?_
        refine lv_iadd hx hb d_Y_law_231 ?_
        obtain ⟨h30, hF⟩ := as_u hF
        refine va_sld hx hb hX hbl hbA hS (in_of h30) d_Y_law_232 ?_
        refine lv_aload_n hx hb d_Y_law_233 rfl (lv_at hl 3 rfl) ?_
        obtain ⟨r31, u33, z34, h32, hF⟩ := bt_u hF
        refine k_sw [.ref (ad 0 0), .int (xs ((x4 + 1)).toNatClampNeg), .ref (ad 43 0)] [] ⟨hx, hb, hml, hown, hts⟩ (c_Y_propose l htr D ad ca hD0 (z := z) (u := u) h32) (good_c a_342) List.mem_cons_self ⟨rfl, rfl⟩ ⟨Nat.le_trans (Nat.le_of_ble_eq_true rfl) hRf, Nat.le_trans (Nat.le_of_ble_eq_true rfl) hRl⟩ hd_Y_propose (hts _ a_340) (hts _ a_341) (hts _ a_0) wt_blind (fun U hU hW => ⟨by rw [hU]; exact hP, va_K.moved hW.alike hK, (hTZ.at hS hU hW).narrow hAA⟩) hS hAA rfl hl.1 (Nat.le_of_ble_eq_true rfl) ⟨by omega, by omega⟩ d_Y_law_234 (fun H locs hP hS => ?_)
        refine lv_istore (lv' := [(5, .int r31), (0, .ref sb), (1, .ref (ad 0 0)), (2, .ref (ad 14 0)), (3, .ref (ad 43 0)), (4, .int x4)]) hx hb d_Y_law_237 hl (by decide) rfl (fun ls hl => ?_)
        refine lv_aload_n hx hb d_Y_law_239 rfl (lv_at hl 3 rfl) ?_
        refine lv_aload_n hx hb d_Y_law_240 rfl (lv_at hl 1 rfl) ?_
        refine lv_iload hx hb d_Y_law_241 (lv_at hl 5 rfl) ?_
        refine lv_iconst (v := 1) hx hb d_Y_law_243 (by decide) ?_
        refine lv_iadd hx hb d_Y_law_244 ?_
        obtain ⟨h35, hF⟩ := as_u hF
        refine va_sld hx hb hX hbl hbA hS (in_of h35) d_Y_law_245 ?_
        obtain ⟨r36, z38, h37, hF⟩ := bd_u hF
        refine k_vi (ad 14 0) [.int (xs ((x4 + 1)).toNatClampNeg)] [] ⟨hx, hb, hml, hown, hts⟩ (c_Z_propose l D ad ca hD0 (z := z34) (u := u33)  h37) (w_Z_propose hts a_726 ⟨Nat.le_trans (Nat.le_of_ble_eq_true rfl) hRf, Nat.le_trans (Nat.le_of_ble_eq_true rfl) hRl⟩) (rv_Z hK hP (by decide)) hP hK hS hAA rfl rfl hl.1 (Nat.le_of_ble_eq_true rfl) ⟨by omega, by omega⟩ d_Y_law_246 (fun H locs hP hS => ?_)
        refine lv_istore (lv' := [(6, .int r36), (5, .int r31), (0, .ref sb), (1, .ref (ad 0 0)), (2, .ref (ad 14 0)), (3, .ref (ad 43 0)), (4, .int x4)]) hx hb d_Y_law_249 hl (by decide) rfl (fun ls hl => ?_)
        refine lv_aload_n hx hb d_Y_law_251 rfl (lv_at hl 4 rfl) ?_
        obtain ⟨r39, h40, hF⟩ := bs_u hF
        refine k_vp (ad 14 0) [] [] ⟨hx, hb, hml, hown, hts⟩ (c_Z_thrown l D ad ca hD0 (z := z38) (u := u33)  h40) (w_Z_thrown hts a_656 ⟨Nat.le_trans (Nat.le_of_ble_eq_true rfl) hRf, Nat.le_trans (Nat.le_of_ble_eq_true rfl) hRl⟩) (rv_Z hK hP (by decide)) hP hK rfl rfl hl.1 (Nat.le_of_ble_eq_true rfl) ⟨by omega, by omega⟩ d_Y_law_252 ?_
        refine lv_iload hx hb d_Y_law_255 (lv_at hl 1 rfl) ?_
        refine lv_icmp_eq (tgt := 262) hx hb d_Y_law_257 (by decide) (fun h41 => ?_) (fun h41 => ?_)
        · have hF := it_t hF h41
          refine lv_iload hx hb d_Y_law_262 (lv_at hl 1 rfl) ?_
          refine lv_if_ne (tgt := 279) hx hb d_Y_law_264 (by decide) (fun h42 => ?_) (fun h42 => ?_)
          · have hF := it_f hF h42
            refine lv_goto (tgt := 1024) hx hb d_Y_law_279 (by decide) ?_
            refine lv_iinc (k := 6) (v := (x4 + 5)) (lv' := [(4, .int (x4 + 5)), (6, .int r36), (5, .int r31), (0, .ref sb), (1, .ref (ad 0 0)), (2, .ref (ad 14 0)), (3, .ref (ad 43 0))]) hx hb d_Y_law_1024 hl rfl rfl (by decide) rfl (fun ls hl => ?_)
            refine lv_goto (tgt := 23) hx hb d_Y_law_1027 (by decide) ?_
            exact ih u33 z38 (x4 + 5)  _ _ hF (by omega) (by omega) _ _ _ hP hS (lv_sub hl [3, 4, 5, 6, 0] rfl)
          · have hF := it_t hF h42
            refine lv_aload_n hx hb d_Y_law_267 rfl (lv_at hl 5 rfl) ?_
            refine lv_iconst (v := 0) hx hb d_Y_law_268 (by decide) ?_
            refine l_out hx hb hK hP d_Y_law_269 ?_
            refine lv_iload hx hb d_Y_law_270 (lv_at hl 0 rfl) ?_
            refine lv_i2l hx hb d_Y_law_272 rfl ?_
            refine W.lcmp hx hb d_Y_law_273 ?_
            refine lv_if_eq (tgt := 279) hx hb d_Y_law_274 (by decide) (fun h43 => ?_) (fun h43 => ?_)
            · have hF := it_t hF h43
              refine lv_goto (tgt := 1024) hx hb d_Y_law_279 (by decide) ?_
              refine lv_iinc (k := 6) (v := (x4 + 5)) (lv' := [(4, .int (x4 + 5)), (6, .int r36), (5, .int r31), (0, .ref sb), (1, .ref (ad 0 0)), (2, .ref (ad 14 0)), (3, .ref (ad 43 0))]) hx hb d_Y_law_1024 hl rfl rfl (by decide) rfl (fun ls hl => ?_)
              refine lv_goto (tgt := 23) hx hb d_Y_law_1027 (by decide) ?_
              exact ih u33 z38 (x4 + 5)  _ _ hF (by omega) (by omega) _ _ _ hP hS (lv_sub hl [3, 4, 5, 6, 0] rfl)
            · have hF := it_f hF h43
              refine lv_iconst (v := 0) hx hb d_Y_law_277 (by decide) ?_
              have hF := rt1 hF
              subst hF
              exact hend _ _ _ _ _ _ hS (by omega) (by omega) d_Y_law_278
        · have hF := it_f hF h41
          refine lv_iconst (v := 0) hx hb d_Y_law_260 (by decide) ?_
          have hF := rt1 hF
          subst hF
          exact hend _ _ _ _ _ _ hS (by omega) (by omega) d_Y_law_261
      have hF := it_f hF h29
      by_cases h44 : ((xs (x4).toNatClampNeg) &&& 31) = 3
      · have hF := it_t hF h44
        refine lv_tableIn (tgt := 282) hx hb d_Y_law_39 (by rw [h44]; decide) (by rw [h44]; decide) (by rw [h44]; rfl) (by decide) ?_
        refine lv_aload_n hx hb d_Y_law_282 rfl (lv_at hl 1 rfl) ?_
        refine lv_aload_n hx hb d_Y_law_283 rfl (lv_at hl 0 rfl) ?_
        refine lv_iload hx hb d_Y_law_284 (lv_at hl 4 rfl) ?_
        refine lv_iconst (v := 1) hx hb d_Y_law_286 (by decide) ?_
        refine lv_iadd hx hb d_Y_law_287 ?_
        obtain ⟨h45, hF⟩ := as_u hF
        refine va_sld hx hb hX hbl hbA hS (in_of h45) d_Y_law_288 ?_
        refine lv_aload_n hx hb d_Y_law_289 rfl (lv_at hl 0 rfl) ?_
        refine lv_iload hx hb d_Y_law_290 (lv_at hl 4 rfl) ?_
        refine lv_iconst (v := 2) hx hb d_Y_law_292 (by decide) ?_
        refine lv_iadd hx hb d_Y_law_293 ?_
        obtain ⟨h46, hF⟩ := as_u hF
        refine va_sld hx hb hX hbl hbA hS (in_of h46) d_Y_law_294 ?_
        refine lv_aload_n hx hb d_Y_law_295 rfl (lv_at hl 3 rfl) ?_
        obtain ⟨r47, u49, z50, h48, hF⟩ := bt_u hF
        refine k_sw [.ref (ad 0 0), .int (xs ((x4 + 1)).toNatClampNeg), .int (xs ((x4 + 2)).toNatClampNeg), .ref (ad 43 0)] [] ⟨hx, hb, hml, hown, hts⟩ (c_Y_silent l htr D ad ca hD0 (z := z) (u := u) h48) (good_c a_461) List.mem_cons_self ⟨rfl, rfl⟩ ⟨Nat.le_trans (Nat.le_of_ble_eq_true rfl) hRf, Nat.le_trans (Nat.le_of_ble_eq_true rfl) hRl⟩ hd_Y_silent (hts _ a_459) (hts _ a_460) (hts _ a_0) wt_blind (fun U hU hW => ⟨by rw [hU]; exact hP, va_K.moved hW.alike hK, (hTZ.at hS hU hW).narrow hAA⟩) hS hAA rfl hl.1 (Nat.le_of_ble_eq_true rfl) ⟨by omega, by omega⟩ d_Y_law_296 (fun H locs hP hS => ?_)
        refine lv_istore (lv' := [(5, .int r47), (0, .ref sb), (1, .ref (ad 0 0)), (2, .ref (ad 14 0)), (3, .ref (ad 43 0)), (4, .int x4)]) hx hb d_Y_law_299 hl (by decide) rfl (fun ls hl => ?_)
        refine lv_aload_n hx hb d_Y_law_301 rfl (lv_at hl 3 rfl) ?_
        refine lv_aload_n hx hb d_Y_law_302 rfl (lv_at hl 1 rfl) ?_
        refine lv_iload hx hb d_Y_law_303 (lv_at hl 5 rfl) ?_
        refine lv_iconst (v := 1) hx hb d_Y_law_305 (by decide) ?_
        refine lv_iadd hx hb d_Y_law_306 ?_
        obtain ⟨h51, hF⟩ := as_u hF
        refine va_sld hx hb hX hbl hbA hS (in_of h51) d_Y_law_307 ?_
        refine lv_aload_n hx hb d_Y_law_308 rfl (lv_at hl 1 rfl) ?_
        refine lv_iload hx hb d_Y_law_309 (lv_at hl 5 rfl) ?_
        refine lv_iconst (v := 2) hx hb d_Y_law_311 (by decide) ?_
        refine lv_iadd hx hb d_Y_law_312 ?_
        obtain ⟨h52, hF⟩ := as_u hF
        refine va_sld hx hb hX hbl hbA hS (in_of h52) d_Y_law_313 ?_
        obtain ⟨r53, z55, h54, hF⟩ := bd_u hF
        refine k_vi (ad 14 0) [.int (xs ((x4 + 1)).toNatClampNeg), .int (xs ((x4 + 2)).toNatClampNeg)] [] ⟨hx, hb, hml, hown, hts⟩ (c_Z_silent l D ad ca hD0 (z := z50) (u := u49)  h54) (w_Z_silent hts a_749 ⟨Nat.le_trans (Nat.le_of_ble_eq_true rfl) hRf, Nat.le_trans (Nat.le_of_ble_eq_true rfl) hRl⟩) (rv_Z hK hP (by decide)) hP hK hS hAA rfl rfl hl.1 (Nat.le_of_ble_eq_true rfl) ⟨by omega, by omega⟩ d_Y_law_314 (fun H locs hP hS => ?_)
        refine lv_istore (lv' := [(6, .int r53), (5, .int r47), (0, .ref sb), (1, .ref (ad 0 0)), (2, .ref (ad 14 0)), (3, .ref (ad 43 0)), (4, .int x4)]) hx hb d_Y_law_317 hl (by decide) rfl (fun ls hl => ?_)
        refine lv_aload_n hx hb d_Y_law_319 rfl (lv_at hl 4 rfl) ?_
        obtain ⟨r56, h57, hF⟩ := bs_u hF
        refine k_vp (ad 14 0) [] [] ⟨hx, hb, hml, hown, hts⟩ (c_Z_thrown l D ad ca hD0 (z := z55) (u := u49)  h57) (w_Z_thrown hts a_656 ⟨Nat.le_trans (Nat.le_of_ble_eq_true rfl) hRf, Nat.le_trans (Nat.le_of_ble_eq_true rfl) hRl⟩) (rv_Z hK hP (by decide)) hP hK rfl rfl hl.1 (Nat.le_of_ble_eq_true rfl) ⟨by omega, by omega⟩ d_Y_law_320 ?_
        refine lv_iload hx hb d_Y_law_323 (lv_at hl 1 rfl) ?_
        refine lv_icmp_eq (tgt := 330) hx hb d_Y_law_325 (by decide) (fun h58 => ?_) (fun h58 => ?_)
        · have hF := it_t hF h58
          refine lv_iload hx hb d_Y_law_330 (lv_at hl 1 rfl) ?_
          refine lv_if_ne (tgt := 347) hx hb d_Y_law_332 (by decide) (fun h59 => ?_) (fun h59 => ?_)
          · have hF := it_f hF h59
            refine lv_goto (tgt := 1024) hx hb d_Y_law_347 (by decide) ?_
            refine lv_iinc (k := 6) (v := (x4 + 5)) (lv' := [(4, .int (x4 + 5)), (6, .int r53), (5, .int r47), (0, .ref sb), (1, .ref (ad 0 0)), (2, .ref (ad 14 0)), (3, .ref (ad 43 0))]) hx hb d_Y_law_1024 hl rfl rfl (by decide) rfl (fun ls hl => ?_)
            refine lv_goto (tgt := 23) hx hb d_Y_law_1027 (by decide) ?_
            exact ih u49 z55 (x4 + 5)  _ _ hF (by omega) (by omega) _ _ _ hP hS (lv_sub hl [3, 4, 5, 6, 0] rfl)
          · have hF := it_t hF h59
            refine lv_aload_n hx hb d_Y_law_335 rfl (lv_at hl 5 rfl) ?_
            refine lv_iconst (v := 0) hx hb d_Y_law_336 (by decide) ?_
            refine l_out hx hb hK hP d_Y_law_337 ?_
            refine lv_iload hx hb d_Y_law_338 (lv_at hl 0 rfl) ?_
            refine lv_i2l hx hb d_Y_law_340 rfl ?_
            refine W.lcmp hx hb d_Y_law_341 ?_
            refine lv_if_eq (tgt := 347) hx hb d_Y_law_342 (by decide) (fun h60 => ?_) (fun h60 => ?_)
            · have hF := it_t hF h60
              refine lv_goto (tgt := 1024) hx hb d_Y_law_347 (by decide) ?_
              refine lv_iinc (k := 6) (v := (x4 + 5)) (lv' := [(4, .int (x4 + 5)), (6, .int r53), (5, .int r47), (0, .ref sb), (1, .ref (ad 0 0)), (2, .ref (ad 14 0)), (3, .ref (ad 43 0))]) hx hb d_Y_law_1024 hl rfl rfl (by decide) rfl (fun ls hl => ?_)
              refine lv_goto (tgt := 23) hx hb d_Y_law_1027 (by decide) ?_
              exact ih u49 z55 (x4 + 5)  _ _ hF (by omega) (by omega) _ _ _ hP hS (lv_sub hl [3, 4, 5, 6, 0] rfl)
            · have hF := it_f hF h60
              refine lv_iconst (v := 0) hx hb d_Y_law_345 (by decide) ?_
              have hF := rt1 hF
              subst hF
              exact hend _ _ _ _ _ _ hS (by omega) (by omega) d_Y_law_346
        · have hF := it_f hF h58
          refine lv_iconst (v := 0) hx hb d_Y_law_328 (by decide) ?_
          have hF := rt1 hF
          subst hF
          exact hend _ _ _ _ _ _ hS (by omega) (by omega) d_Y_law_329
      have hF := it_f hF h44
      by_cases h61 : ((xs (x4).toNatClampNeg) &&& 31) = 4
      · have hF := it_t hF h61
        refine lv_tableIn (tgt := 350) hx hb d_Y_law_39 (by rw [h61]; decide) (by rw [h61]; decide) (by rw [h61]; rfl) (by decide) ?_
        refine lv_aload_n hx hb d_Y_law_350 rfl (lv_at hl 1 rfl) ?_
        refine lv_aload_n hx hb d_Y_law_351 rfl (lv_at hl 0 rfl) ?_
        refine lv_iload hx hb d_Y_law_352 (lv_at hl 4 rfl) ?_
        refine lv_iconst (v := 1) hx hb d_Y_law_354 (by decide) ?_
        refine lv_iadd hx hb d_Y_law_355 ?_
        obtain ⟨h62, hF⟩ := as_u hF
        refine va_sld hx hb hX hbl hbA hS (in_of h62) d_Y_law_356 ?_
        refine lv_aload_n hx hb d_Y_law_357 rfl (lv_at hl 3 rfl) ?_
        obtain ⟨r63, u65, z66, h64, hF⟩ := bt_u hF
        refine k_sw [.ref (ad 0 0), .int (xs ((x4 + 1)).toNatClampNeg), .ref (ad 43 0)] [] ⟨hx, hb, hml, hown, hts⟩ (c_Y_resend l htr D ad ca hD0 (z := z) (u := u) h64) (good_c a_471) List.mem_cons_self ⟨rfl, rfl⟩ ⟨Nat.le_trans (Nat.le_of_ble_eq_true rfl) hRf, Nat.le_trans (Nat.le_of_ble_eq_true rfl) hRl⟩ hd_Y_resend (hts _ a_469) (hts _ a_470) (hts _ a_0) wt_blind (fun U hU hW => ⟨by rw [hU]; exact hP, va_K.moved hW.alike hK, (hTZ.at hS hU hW).narrow hAA⟩) hS hAA rfl hl.1 (Nat.le_of_ble_eq_true rfl) ⟨by omega, by omega⟩ d_Y_law_358 (fun H locs hP hS => ?_)
        refine lv_istore (lv' := [(5, .int r63), (0, .ref sb), (1, .ref (ad 0 0)), (2, .ref (ad 14 0)), (3, .ref (ad 43 0)), (4, .int x4)]) hx hb d_Y_law_361 hl (by decide) rfl (fun ls hl => ?_)
        refine lv_aload_n hx hb d_Y_law_363 rfl (lv_at hl 3 rfl) ?_
        refine lv_aload_n hx hb d_Y_law_364 rfl (lv_at hl 1 rfl) ?_
        refine lv_iload hx hb d_Y_law_365 (lv_at hl 5 rfl) ?_
        refine lv_iconst (v := 1) hx hb d_Y_law_367 (by decide) ?_
        refine lv_iadd hx hb d_Y_law_368 ?_
        obtain ⟨h67, hF⟩ := as_u hF
        refine va_sld hx hb hX hbl hbA hS (in_of h67) d_Y_law_369 ?_
        obtain ⟨r68, z70, h69, hF⟩ := bd_u hF
        refine k_vi (ad 14 0) [.int (xs ((x4 + 1)).toNatClampNeg)] [] ⟨hx, hb, hml, hown, hts⟩ (c_Z_resend l D ad ca hD0 (z := z66) (u := u65)  h69) (w_Z_resend hts a_753 ⟨Nat.le_trans (Nat.le_of_ble_eq_true rfl) hRf, Nat.le_trans (Nat.le_of_ble_eq_true rfl) hRl⟩) (rv_Z hK hP (by decide)) hP hK hS hAA rfl rfl hl.1 (Nat.le_of_ble_eq_true rfl) ⟨by omega, by omega⟩ d_Y_law_370 (fun H locs hP hS => ?_)
        refine lv_istore (lv' := [(6, .int r68), (5, .int r63), (0, .ref sb), (1, .ref (ad 0 0)), (2, .ref (ad 14 0)), (3, .ref (ad 43 0)), (4, .int x4)]) hx hb d_Y_law_373 hl (by decide) rfl (fun ls hl => ?_)
        refine lv_aload_n hx hb d_Y_law_375 rfl (lv_at hl 4 rfl) ?_
        obtain ⟨r71, h72, hF⟩ := bs_u hF
        refine k_vp (ad 14 0) [] [] ⟨hx, hb, hml, hown, hts⟩ (c_Z_thrown l D ad ca hD0 (z := z70) (u := u65)  h72) (w_Z_thrown hts a_656 ⟨Nat.le_trans (Nat.le_of_ble_eq_true rfl) hRf, Nat.le_trans (Nat.le_of_ble_eq_true rfl) hRl⟩) (rv_Z hK hP (by decide)) hP hK rfl rfl hl.1 (Nat.le_of_ble_eq_true rfl) ⟨by omega, by omega⟩ d_Y_law_376 ?_
        refine lv_iload hx hb d_Y_law_379 (lv_at hl 1 rfl) ?_
        refine lv_icmp_eq (tgt := 386) hx hb d_Y_law_381 (by decide) (fun h73 => ?_) (fun h73 => ?_)
        · have hF := it_t hF h73
          refine lv_iload hx hb d_Y_law_386 (lv_at hl 1 rfl) ?_
          refine lv_if_ne (tgt := 403) hx hb d_Y_law_388 (by decide) (fun h74 => ?_) (fun h74 => ?_)
          · have hF := it_f hF h74
            refine lv_goto (tgt := 1024) hx hb d_Y_law_403 (by decide) ?_
            refine lv_iinc (k := 6) (v := (x4 + 5)) (lv' := [(4, .int (x4 + 5)), (6, .int r68), (5, .int r63), (0, .ref sb), (1, .ref (ad 0 0)), (2, .ref (ad 14 0)), (3, .ref (ad 43 0))]) hx hb d_Y_law_1024 hl rfl rfl (by decide) rfl (fun ls hl => ?_)
            refine lv_goto (tgt := 23) hx hb d_Y_law_1027 (by decide) ?_
            exact ih u65 z70 (x4 + 5)  _ _ hF (by omega) (by omega) _ _ _ hP hS (lv_sub hl [3, 4, 5, 6, 0] rfl)
          · have hF := it_t hF h74
            refine lv_aload_n hx hb d_Y_law_391 rfl (lv_at hl 5 rfl) ?_
            refine lv_iconst (v := 0) hx hb d_Y_law_392 (by decide) ?_
            refine l_out hx hb hK hP d_Y_law_393 ?_
            refine lv_iload hx hb d_Y_law_394 (lv_at hl 0 rfl) ?_
            refine lv_i2l hx hb d_Y_law_396 rfl ?_
            refine W.lcmp hx hb d_Y_law_397 ?_
            refine lv_if_eq (tgt := 403) hx hb d_Y_law_398 (by decide) (fun h75 => ?_) (fun h75 => ?_)
            · have hF := it_t hF h75
              refine lv_goto (tgt := 1024) hx hb d_Y_law_403 (by decide) ?_
              refine lv_iinc (k := 6) (v := (x4 + 5)) (lv' := [(4, .int (x4 + 5)), (6, .int r68), (5, .int r63), (0, .ref sb), (1, .ref (ad 0 0)), (2, .ref (ad 14 0)), (3, .ref (ad 43 0))]) hx hb d_Y_law_1024 hl rfl rfl (by decide) rfl (fun ls hl => ?_)
              refine lv_goto (tgt := 23) hx hb d_Y_law_1027 (by decide) ?_
              exact ih u65 z70 (x4 + 5)  _ _ hF (by omega) (by omega) _ _ _ hP hS (lv_sub hl [3, 4, 5, 6, 0] rfl)
            · have hF := it_f hF h75
              refine lv_iconst (v := 0) hx hb d_Y_law_401 (by decide) ?_
              have hF := rt1 hF
              subst hF
              exact hend _ _ _ _ _ _ hS (by omega) (by omega) d_Y_law_402
        · have hF := it_f hF h73
          refine lv_iconst (v := 0) hx hb d_Y_law_384 (by decide) ?_
          have hF := rt1 hF
          subst hF
          exact hend _ _ _ _ _ _ hS (by omega) (by omega) d_Y_law_385
      have hF := it_f hF h61
      by_cases h76 : ((xs (x4).toNatClampNeg) &&& 31) = 5
      · have hF := it_t hF h76
        refine lv_tableIn (tgt := 406) hx hb d_Y_law_39 (by rw [h76]; decide) (by rw [h76]; decide) (by rw [h76]; rfl) (by decide) ?_
        refine lv_aload_n hx hb d_Y_law_406 rfl (lv_at hl 1 rfl) ?_
        refine lv_aload_n hx hb d_Y_law_407 rfl (lv_at hl 0 rfl) ?_
        refine lv_iload hx hb d_Y_law_408 (lv_at hl 4 rfl) ?_
        refine lv_iconst (v := 1) hx hb d_Y_law_410 (by decide) ?_
        refine lv_iadd hx hb d_Y_law_411 ?_
        obtain ⟨h77, hF⟩ := as_u hF
        refine va_sld hx hb hX hbl hbA hS (in_of h77) d_Y_law_412 ?_
        refine lv_aload_n hx hb d_Y_law_413 rfl (lv_at hl 3 rfl) ?_
        obtain ⟨r78, u80, z81, h79, hF⟩ := bt_u hF
        refine k_sw [.ref (ad 0 0), .int (xs ((x4 + 1)).toNatClampNeg), .ref (ad 43 0)] [] ⟨hx, hb, hml, hown, hts⟩ (c_Y_spread l htr D ad ca hD0 (z := z) (u := u) h79) (good_c a_479) List.mem_cons_self ⟨rfl, rfl⟩ ⟨Nat.le_trans (Nat.le_of_ble_eq_true rfl) hRf, Nat.le_trans (Nat.le_of_ble_eq_true rfl) hRl⟩ hd_Y_spread (hts _ a_477) (hts _ a_478) (hts _ a_0) wt_blind (fun U hU hW => ⟨by rw [hU]; exact hP, va_K.moved hW.alike hK, (hTZ.at hS hU hW).narrow hAA⟩) hS hAA rfl hl.1 (Nat.le_of_ble_eq_true rfl) ⟨by omega, by omega⟩ d_Y_law_414 (fun H locs hP hS => ?_)
        refine lv_istore (lv' := [(5, .int r78), (0, .ref sb), (1, .ref (ad 0 0)), (2, .ref (ad 14 0)), (3, .ref (ad 43 0)), (4, .int x4)]) hx hb d_Y_law_417 hl (by decide) rfl (fun ls hl => ?_)
        refine lv_aload_n hx hb d_Y_law_419 rfl (lv_at hl 3 rfl) ?_
        refine lv_aload_n hx hb d_Y_law_420 rfl (lv_at hl 1 rfl) ?_
        refine lv_iload hx hb d_Y_law_421 (lv_at hl 5 rfl) ?_
        refine lv_iconst (v := 1) hx hb d_Y_law_423 (by decide) ?_
        refine lv_iadd hx hb d_Y_law_424 ?_
        obtain ⟨h82, hF⟩ := as_u hF
        refine va_sld hx hb hX hbl hbA hS (in_of h82) d_Y_law_425 ?_
        obtain ⟨r83, z85, h84, hF⟩ := bd_u hF
        refine k_vi (ad 14 0) [.int (xs ((x4 + 1)).toNatClampNeg)] [] ⟨hx, hb, hml, hown, hts⟩ (c_Z_spread l D ad ca hD0 (z := z81) (u := u80)  h84) (w_Z_spread hts a_757 ⟨Nat.le_trans (Nat.le_of_ble_eq_true rfl) hRf, Nat.le_trans (Nat.le_of_ble_eq_true rfl) hRl⟩) (rv_Z hK hP (by decide)) hP hK hS hAA rfl rfl hl.1 (Nat.le_of_ble_eq_true rfl) ⟨by omega, by omega⟩ d_Y_law_426 (fun H locs hP hS => ?_)
        refine lv_istore (lv' := [(6, .int r83), (5, .int r78), (0, .ref sb), (1, .ref (ad 0 0)), (2, .ref (ad 14 0)), (3, .ref (ad 43 0)), (4, .int x4)]) hx hb d_Y_law_429 hl (by decide) rfl (fun ls hl => ?_)
        refine lv_aload_n hx hb d_Y_law_431 rfl (lv_at hl 4 rfl) ?_
        obtain ⟨r86, h87, hF⟩ := bs_u hF
        refine k_vp (ad 14 0) [] [] ⟨hx, hb, hml, hown, hts⟩ (c_Z_thrown l D ad ca hD0 (z := z85) (u := u80)  h87) (w_Z_thrown hts a_656 ⟨Nat.le_trans (Nat.le_of_ble_eq_true rfl) hRf, Nat.le_trans (Nat.le_of_ble_eq_true rfl) hRl⟩) (rv_Z hK hP (by decide)) hP hK rfl rfl hl.1 (Nat.le_of_ble_eq_true rfl) ⟨by omega, by omega⟩ d_Y_law_432 ?_
        refine lv_iload hx hb d_Y_law_435 (lv_at hl 1 rfl) ?_
        refine lv_icmp_eq (tgt := 442) hx hb d_Y_law_437 (by decide) (fun h88 => ?_) (fun h88 => ?_)
        · have hF := it_t hF h88
          refine lv_iload hx hb d_Y_law_442 (lv_at hl 1 rfl) ?_
          refine lv_if_ne (tgt := 459) hx hb d_Y_law_444 (by decide) (fun h89 => ?_) (fun h89 => ?_)
          · have hF := it_f hF h89
            refine lv_goto (tgt := 1024) hx hb d_Y_law_459 (by decide) ?_
            refine lv_iinc (k := 6) (v := (x4 + 5)) (lv' := [(4, .int (x4 + 5)), (6, .int r83), (5, .int r78), (0, .ref sb), (1, .ref (ad 0 0)), (2, .ref (ad 14 0)), (3, .ref (ad 43 0))]) hx hb d_Y_law_1024 hl rfl rfl (by decide) rfl (fun ls hl => ?_)
            refine lv_goto (tgt := 23) hx hb d_Y_law_1027 (by decide) ?_
            exact ih u80 z85 (x4 + 5)  _ _ hF (by omega) (by omega) _ _ _ hP hS (lv_sub hl [3, 4, 5, 6, 0] rfl)
          · have hF := it_t hF h89
            refine lv_aload_n hx hb d_Y_law_447 rfl (lv_at hl 5 rfl) ?_
            refine lv_iconst (v := 0) hx hb d_Y_law_448 (by decide) ?_
            refine l_out hx hb hK hP d_Y_law_449 ?_
            refine lv_iload hx hb d_Y_law_450 (lv_at hl 0 rfl) ?_
            refine lv_i2l hx hb d_Y_law_452 rfl ?_
            refine W.lcmp hx hb d_Y_law_453 ?_
            refine lv_if_eq (tgt := 459) hx hb d_Y_law_454 (by decide) (fun h90 => ?_) (fun h90 => ?_)
            · have hF := it_t hF h90
              refine lv_goto (tgt := 1024) hx hb d_Y_law_459 (by decide) ?_
              refine lv_iinc (k := 6) (v := (x4 + 5)) (lv' := [(4, .int (x4 + 5)), (6, .int r83), (5, .int r78), (0, .ref sb), (1, .ref (ad 0 0)), (2, .ref (ad 14 0)), (3, .ref (ad 43 0))]) hx hb d_Y_law_1024 hl rfl rfl (by decide) rfl (fun ls hl => ?_)
              refine lv_goto (tgt := 23) hx hb d_Y_law_1027 (by decide) ?_
              exact ih u80 z85 (x4 + 5)  _ _ hF (by omega) (by omega) _ _ _ hP hS (lv_sub hl [3, 4, 5, 6, 0] rfl)
            · have hF := it_f hF h90
              refine lv_iconst (v := 0) hx hb d_Y_law_457 (by decide) ?_
              have hF := rt1 hF
              subst hF
              exact hend _ _ _ _ _ _ hS (by omega) (by omega) d_Y_law_458
        · have hF := it_f hF h88
          refine lv_iconst (v := 0) hx hb d_Y_law_440 (by decide) ?_
          have hF := rt1 hF
          subst hF
          exact hend _ _ _ _ _ _ hS (by omega) (by omega) d_Y_law_441
      have hF := it_f hF h76
      by_cases h91 : ((xs (x4).toNatClampNeg) &&& 31) = 6
      · have hF := it_t hF h91
        refine lv_tableIn (tgt := 462) hx hb d_Y_law_39 (by rw [h91]; decide) (by rw [h91]; decide) (by rw [h91]; rfl) (by decide) ?_
        refine lv_aload_n hx hb d_Y_law_462 rfl (lv_at hl 1 rfl) ?_
        obtain ⟨r92, h93, hF⟩ := bs_u hF
        refine k_vp (ad 0 0) [] [] ⟨hx, hb, hml, hown, hts⟩ (c_H_letters l D ad ca hD0 (z := z) (u := u)  h93) (w_H_letters hts a_243 ⟨Nat.le_trans (Nat.le_of_ble_eq_true rfl) hRf, Nat.le_trans (Nat.le_of_ble_eq_true rfl) hRl⟩) (rv_H hK hP (by decide)) hP hK rfl rfl hl.1 (Nat.le_of_ble_eq_true rfl) ⟨by omega, by omega⟩ d_Y_law_463 ?_
        refine lv_aload_n hx hb d_Y_law_466 rfl (lv_at hl 2 rfl) ?_
        obtain ⟨r94, z96, h95, hF⟩ := bd_u hF
        refine k_vi (ad 14 0) [] [.int r92] ⟨hx, hb, hml, hown, hts⟩ (c_Z_letters l D ad ca hD0 (z := z) (u := u)  h95) (w_Z_letters hts a_698 ⟨Nat.le_trans (Nat.le_of_ble_eq_true rfl) hRf, Nat.le_trans (Nat.le_of_ble_eq_true rfl) hRl⟩) (rv_Z hK hP (by decide)) hP hK hS hAA rfl rfl hl.1 (Nat.le_of_ble_eq_true rfl) ⟨by omega, by omega⟩ d_Y_law_467 (fun H locs hP hS => ?_)
        refine lv_icmp_eq (tgt := 1024) hx hb d_Y_law_470 (by decide) (fun h97 => ?_) (fun h97 => ?_)
        · have hF := it_t hF h97
          refine lv_iinc (k := 4) (v := (x4 + 5)) (lv' := [(4, .int (x4 + 5)), (0, .ref sb), (1, .ref (ad 0 0)), (2, .ref (ad 14 0)), (3, .ref (ad 43 0))]) hx hb d_Y_law_1024 hl rfl rfl (by decide) rfl (fun ls hl => ?_)
          refine lv_goto (tgt := 23) hx hb d_Y_law_1027 (by decide) ?_
          exact ih u z96 (x4 + 5)  _ _ hF (by omega) (by omega) _ _ _ hP hS (lv_sub hl [1, 2, 3, 4, 0] rfl)
        · have hF := it_f hF h97
          refine lv_iconst (v := 0) hx hb d_Y_law_473 (by decide) ?_
          have hF := rt1 hF
          subst hF
          exact hend _ _ _ _ _ _ hS (by omega) (by omega) d_Y_law_474
      have hF := it_f hF h91
      by_cases h98 : ((xs (x4).toNatClampNeg) &&& 31) = 7
      · have hF := it_t hF h98
        refine lv_tableIn (tgt := 475) hx hb d_Y_law_39 (by rw [h98]; decide) (by rw [h98]; decide) (by rw [h98]; rfl) (by decide) ?_
        refine lv_aload_n hx hb d_Y_law_475 rfl (lv_at hl 1 rfl) ?_
        refine lv_aload_n hx hb d_Y_law_476 rfl (lv_at hl 0 rfl) ?_
        refine lv_iload hx hb d_Y_law_477 (lv_at hl 4 rfl) ?_
        refine lv_iconst (v := 1) hx hb d_Y_law_479 (by decide) ?_
        refine lv_iadd hx hb d_Y_law_480 ?_
        obtain ⟨h99, hF⟩ := as_u hF
        refine va_sld hx hb hX hbl hbA hS (in_of h99) d_Y_law_481 ?_
        refine lv_aload_n hx hb d_Y_law_482 rfl (lv_at hl 0 rfl) ?_
        refine lv_iload hx hb d_Y_law_483 (lv_at hl 4 rfl) ?_
        refine lv_iconst (v := 2) hx hb d_Y_law_485 (by decide) ?_
        refine lv_iadd hx hb d_Y_law_486 ?_
        obtain ⟨h100, hF⟩ := as_u hF
        refine va_sld hx hb hX hbl hbA hS (in_of h100) d_Y_law_487 ?_
        refine lv_aload_n hx hb d_Y_law_488 rfl (lv_at hl 3 rfl) ?_
        obtain ⟨r101, u103, z104, h102, hF⟩ := bt_u hF
        refine k_sw [.ref (ad 0 0), .int (xs ((x4 + 1)).toNatClampNeg), .int (xs ((x4 + 2)).toNatClampNeg), .ref (ad 43 0)] [] ⟨hx, hb, hml, hown, hts⟩ (c_Y_letter l htr D ad ca hD0 (z := z) (u := u) h102) (good_c a_494) List.mem_cons_self ⟨rfl, rfl⟩ ⟨Nat.le_trans (Nat.le_of_ble_eq_true rfl) hRf, Nat.le_trans (Nat.le_of_ble_eq_true rfl) hRl⟩ hd_Y_letter (hts _ a_492) (hts _ a_493) (hts _ a_0) wt_blind (fun U hU hW => ⟨by rw [hU]; exact hP, va_K.moved hW.alike hK, (hTZ.at hS hU hW).narrow hAA⟩) hS hAA rfl hl.1 (Nat.le_of_ble_eq_true rfl) ⟨by omega, by omega⟩ d_Y_law_489 (fun H locs hP hS => ?_)
        refine lv_istore (lv' := [(5, .int r101), (0, .ref sb), (1, .ref (ad 0 0)), (2, .ref (ad 14 0)), (3, .ref (ad 43 0)), (4, .int x4)]) hx hb d_Y_law_492 hl (by decide) rfl (fun ls hl => ?_)
        refine lv_aload_n hx hb d_Y_law_494 rfl (lv_at hl 3 rfl) ?_
        refine lv_aload_n hx hb d_Y_law_495 rfl (lv_at hl 1 rfl) ?_
        refine lv_iload hx hb d_Y_law_496 (lv_at hl 5 rfl) ?_
        refine lv_iconst (v := 1) hx hb d_Y_law_498 (by decide) ?_
        refine lv_iadd hx hb d_Y_law_499 ?_
        obtain ⟨h105, hF⟩ := as_u hF
        refine va_sld hx hb hX hbl hbA hS (in_of h105) d_Y_law_500 ?_
        refine lv_aload_n hx hb d_Y_law_501 rfl (lv_at hl 1 rfl) ?_
        refine lv_iload hx hb d_Y_law_502 (lv_at hl 5 rfl) ?_
        refine lv_iconst (v := 2) hx hb d_Y_law_504 (by decide) ?_
        refine lv_iadd hx hb d_Y_law_505 ?_
        obtain ⟨h106, hF⟩ := as_u hF
        refine va_sld hx hb hX hbl hbA hS (in_of h106) d_Y_law_506 ?_
        obtain ⟨r107, z109, h108, hF⟩ := bd_u hF
        refine k_vi (ad 14 0) [.int (xs ((x4 + 1)).toNatClampNeg), .int (xs ((x4 + 2)).toNatClampNeg)] [] ⟨hx, hb, hml, hown, hts⟩ (c_Z_letter l D ad ca hD0 (z := z104) (u := u103)  h108) (w_Z_letter hts a_702 ⟨Nat.le_trans (Nat.le_of_ble_eq_true rfl) hRf, Nat.le_trans (Nat.le_of_ble_eq_true rfl) hRl⟩) (rv_Z hK hP (by decide)) hP hK hS hAA rfl rfl hl.1 (Nat.le_of_ble_eq_true rfl) ⟨by omega, by omega⟩ d_Y_law_507 (fun H locs hP hS => ?_)
        refine lv_istore (lv' := [(6, .int r107), (5, .int r101), (0, .ref sb), (1, .ref (ad 0 0)), (2, .ref (ad 14 0)), (3, .ref (ad 43 0)), (4, .int x4)]) hx hb d_Y_law_510 hl (by decide) rfl (fun ls hl => ?_)
        refine lv_aload_n hx hb d_Y_law_512 rfl (lv_at hl 4 rfl) ?_
        obtain ⟨r110, h111, hF⟩ := bs_u hF
        refine k_vp (ad 14 0) [] [] ⟨hx, hb, hml, hown, hts⟩ (c_Z_thrown l D ad ca hD0 (z := z109) (u := u103)  h111) (w_Z_thrown hts a_656 ⟨Nat.le_trans (Nat.le_of_ble_eq_true rfl) hRf, Nat.le_trans (Nat.le_of_ble_eq_true rfl) hRl⟩) (rv_Z hK hP (by decide)) hP hK rfl rfl hl.1 (Nat.le_of_ble_eq_true rfl) ⟨by omega, by omega⟩ d_Y_law_513 ?_
        refine lv_iload hx hb d_Y_law_516 (lv_at hl 1 rfl) ?_
        refine lv_icmp_eq (tgt := 523) hx hb d_Y_law_518 (by decide) (fun h112 => ?_) (fun h112 => ?_)
        · have hF := it_t hF h112
          refine lv_iload hx hb d_Y_law_523 (lv_at hl 1 rfl) ?_
          refine lv_if_ne (tgt := 540) hx hb d_Y_law_525 (by decide) (fun h113 => ?_) (fun h113 => ?_)
          · have hF := it_f hF h113
            refine lv_goto (tgt := 1024) hx hb d_Y_law_540 (by decide) ?_
            refine lv_iinc (k := 6) (v := (x4 + 5)) (lv' := [(4, .int (x4 + 5)), (6, .int r107), (5, .int r101), (0, .ref sb), (1, .ref (ad 0 0)), (2, .ref (ad 14 0)), (3, .ref (ad 43 0))]) hx hb d_Y_law_1024 hl rfl rfl (by decide) rfl (fun ls hl => ?_)
            refine lv_goto (tgt := 23) hx hb d_Y_law_1027 (by decide) ?_
            exact ih u103 z109 (x4 + 5)  _ _ hF (by omega) (by omega) _ _ _ hP hS (lv_sub hl [3, 4, 5, 6, 0] rfl)
          · have hF := it_t hF h113
            refine lv_aload_n hx hb d_Y_law_528 rfl (lv_at hl 5 rfl) ?_
            refine lv_iconst (v := 0) hx hb d_Y_law_529 (by decide) ?_
            refine l_out hx hb hK hP d_Y_law_530 ?_
            refine lv_iload hx hb d_Y_law_531 (lv_at hl 0 rfl) ?_
            refine lv_i2l hx hb d_Y_law_533 rfl ?_
            refine W.lcmp hx hb d_Y_law_534 ?_
            refine lv_if_eq (tgt := 540) hx hb d_Y_law_535 (by decide) (fun h114 => ?_) (fun h114 => ?_)
            · have hF := it_t hF h114
              refine lv_goto (tgt := 1024) hx hb d_Y_law_540 (by decide) ?_
              refine lv_iinc (k := 6) (v := (x4 + 5)) (lv' := [(4, .int (x4 + 5)), (6, .int r107), (5, .int r101), (0, .ref sb), (1, .ref (ad 0 0)), (2, .ref (ad 14 0)), (3, .ref (ad 43 0))]) hx hb d_Y_law_1024 hl rfl rfl (by decide) rfl (fun ls hl => ?_)
              refine lv_goto (tgt := 23) hx hb d_Y_law_1027 (by decide) ?_
              exact ih u103 z109 (x4 + 5)  _ _ hF (by omega) (by omega) _ _ _ hP hS (lv_sub hl [3, 4, 5, 6, 0] rfl)
            · have hF := it_f hF h114
              refine lv_iconst (v := 0) hx hb d_Y_law_538 (by decide) ?_
              have hF := rt1 hF
              subst hF
              exact hend _ _ _ _ _ _ hS (by omega) (by omega) d_Y_law_539
        · have hF := it_f hF h112
          refine lv_iconst (v := 0) hx hb d_Y_law_521 (by decide) ?_
          have hF := rt1 hF
          subst hF
          exact hend _ _ _ _ _ _ hS (by omega) (by omega) d_Y_law_522
      have hF := it_f hF h98
      by_cases h115 : ((xs (x4).toNatClampNeg) &&& 31) = 8
      · have hF := it_t hF h115
        refine lv_tableIn (tgt := 543) hx hb d_Y_law_39 (by rw [h115]; decide) (by rw [h115]; decide) (by rw [h115]; rfl) (by decide) ?_
        refine lv_aload_n hx hb d_Y_law_543 rfl (lv_at hl 1 rfl) ?_
        refine lv_aload_n hx hb d_Y_law_544 rfl (lv_at hl 0 rfl) ?_
        refine lv_iload hx hb d_Y_law_545 (lv_at hl 4 rfl) ?_
        refine lv_iconst (v := 1) hx hb d_Y_law_547 (by decide) ?_
        refine lv_iadd hx hb d_Y_law_548 ?_
        obtain ⟨h116, hF⟩ := as_u hF
        refine va_sld hx hb hX hbl hbA hS (in_of h116) d_Y_law_549 ?_
        refine lv_aload_n hx hb d_Y_law_550 rfl (lv_at hl 3 rfl) ?_
        obtain ⟨r117, u119, z120, h118, hF⟩ := bt_u hF
        refine k_sw [.ref (ad 0 0), .int (xs ((x4 + 1)).toNatClampNeg), .ref (ad 43 0)] [] ⟨hx, hb, hml, hown, hts⟩ (c_Y_deliver l htr D ad ca hD0 (z := z) (u := u) h118) (good_c a_518) List.mem_cons_self ⟨rfl, rfl⟩ ⟨Nat.le_trans (Nat.le_of_ble_eq_true rfl) hRf, Nat.le_trans (Nat.le_of_ble_eq_true rfl) hRl⟩ hd_Y_deliver (hts _ a_516) (hts _ a_517) (hts _ a_0) wt_blind (fun U hU hW => ⟨by rw [hU]; exact hP, va_K.moved hW.alike hK, (hTZ.at hS hU hW).narrow hAA⟩) hS hAA rfl hl.1 (Nat.le_of_ble_eq_true rfl) ⟨by omega, by omega⟩ d_Y_law_551 (fun H locs hP hS => ?_)
        refine lv_istore (lv' := [(5, .int r117), (0, .ref sb), (1, .ref (ad 0 0)), (2, .ref (ad 14 0)), (3, .ref (ad 43 0)), (4, .int x4)]) hx hb d_Y_law_554 hl (by decide) rfl (fun ls hl => ?_)
        refine lv_aload_n hx hb d_Y_law_556 rfl (lv_at hl 3 rfl) ?_
        refine lv_aload_n hx hb d_Y_law_557 rfl (lv_at hl 1 rfl) ?_
        refine lv_iload hx hb d_Y_law_558 (lv_at hl 5 rfl) ?_
        refine lv_iconst (v := 1) hx hb d_Y_law_560 (by decide) ?_
        refine lv_iadd hx hb d_Y_law_561 ?_
        obtain ⟨h121, hF⟩ := as_u hF
        refine va_sld hx hb hX hbl hbA hS (in_of h121) d_Y_law_562 ?_
        obtain ⟨r122, z124, h123, hF⟩ := bd_u hF
        refine k_vi (ad 14 0) [.int (xs ((x4 + 1)).toNatClampNeg)] [] ⟨hx, hb, hml, hown, hts⟩ (c_Z_deliver l D ad ca hD0 (z := z120) (u := u119)  h123) (w_Z_deliver hts a_764 ⟨Nat.le_trans (Nat.le_of_ble_eq_true rfl) hRf, Nat.le_trans (Nat.le_of_ble_eq_true rfl) hRl⟩) (rv_Z hK hP (by decide)) hP hK hS hAA rfl rfl hl.1 (Nat.le_of_ble_eq_true rfl) ⟨by omega, by omega⟩ d_Y_law_563 (fun H locs hP hS => ?_)
        refine lv_istore (lv' := [(6, .int r122), (5, .int r117), (0, .ref sb), (1, .ref (ad 0 0)), (2, .ref (ad 14 0)), (3, .ref (ad 43 0)), (4, .int x4)]) hx hb d_Y_law_566 hl (by decide) rfl (fun ls hl => ?_)
        refine lv_aload_n hx hb d_Y_law_568 rfl (lv_at hl 4 rfl) ?_
        obtain ⟨r125, h126, hF⟩ := bs_u hF
        refine k_vp (ad 14 0) [] [] ⟨hx, hb, hml, hown, hts⟩ (c_Z_thrown l D ad ca hD0 (z := z124) (u := u119)  h126) (w_Z_thrown hts a_656 ⟨Nat.le_trans (Nat.le_of_ble_eq_true rfl) hRf, Nat.le_trans (Nat.le_of_ble_eq_true rfl) hRl⟩) (rv_Z hK hP (by decide)) hP hK rfl rfl hl.1 (Nat.le_of_ble_eq_true rfl) ⟨by omega, by omega⟩ d_Y_law_569 ?_
        refine lv_iload hx hb d_Y_law_572 (lv_at hl 1 rfl) ?_
        refine lv_icmp_eq (tgt := 579) hx hb d_Y_law_574 (by decide) (fun h127 => ?_) (fun h127 => ?_)
        · have hF := it_t hF h127
          refine lv_iload hx hb d_Y_law_579 (lv_at hl 1 rfl) ?_
          refine lv_if_ne (tgt := 596) hx hb d_Y_law_581 (by decide) (fun h128 => ?_) (fun h128 => ?_)
          · have hF := it_f hF h128
            refine lv_goto (tgt := 1024) hx hb d_Y_law_596 (by decide) ?_
            refine lv_iinc (k := 6) (v := (x4 + 5)) (lv' := [(4, .int (x4 + 5)), (6, .int r122), (5, .int r117), (0, .ref sb), (1, .ref (ad 0 0)), (2, .ref (ad 14 0)), (3, .ref (ad 43 0))]) hx hb d_Y_law_1024 hl rfl rfl (by decide) rfl (fun ls hl => ?_)
            refine lv_goto (tgt := 23) hx hb d_Y_law_1027 (by decide) ?_
            exact ih u119 z124 (x4 + 5)  _ _ hF (by omega) (by omega) _ _ _ hP hS (lv_sub hl [3, 4, 5, 6, 0] rfl)
          · have hF := it_t hF h128
            refine lv_aload_n hx hb d_Y_law_584 rfl (lv_at hl 5 rfl) ?_
            refine lv_iconst (v := 0) hx hb d_Y_law_585 (by decide) ?_
            refine l_out hx hb hK hP d_Y_law_586 ?_
            refine lv_iload hx hb d_Y_law_587 (lv_at hl 0 rfl) ?_
            refine lv_i2l hx hb d_Y_law_589 rfl ?_
            refine W.lcmp hx hb d_Y_law_590 ?_
            refine lv_if_eq (tgt := 596) hx hb d_Y_law_591 (by decide) (fun h129 => ?_) (fun h129 => ?_)
            · have hF := it_t hF h129
              refine lv_goto (tgt := 1024) hx hb d_Y_law_596 (by decide) ?_
              refine lv_iinc (k := 6) (v := (x4 + 5)) (lv' := [(4, .int (x4 + 5)), (6, .int r122), (5, .int r117), (0, .ref sb), (1, .ref (ad 0 0)), (2, .ref (ad 14 0)), (3, .ref (ad 43 0))]) hx hb d_Y_law_1024 hl rfl rfl (by decide) rfl (fun ls hl => ?_)
              refine lv_goto (tgt := 23) hx hb d_Y_law_1027 (by decide) ?_
              exact ih u119 z124 (x4 + 5)  _ _ hF (by omega) (by omega) _ _ _ hP hS (lv_sub hl [3, 4, 5, 6, 0] rfl)
            · have hF := it_f hF h129
              refine lv_iconst (v := 0) hx hb d_Y_law_594 (by decide) ?_
              have hF := rt1 hF
              subst hF
              exact hend _ _ _ _ _ _ hS (by omega) (by omega) d_Y_law_595
        · have hF := it_f hF h127
          refine lv_iconst (v := 0) hx hb d_Y_law_577 (by decide) ?_
          have hF := rt1 hF
          subst hF
          exact hend _ _ _ _ _ _ hS (by omega) (by omega) d_Y_law_578
      have hF := it_f hF h115
      by_cases h130 : ((xs (x4).toNatClampNeg) &&& 31) = 9
      · have hF := it_t hF h130
        refine lv_tableIn (tgt := 599) hx hb d_Y_law_39 (by rw [h130]; decide) (by rw [h130]; decide) (by rw [h130]; rfl) (by decide) ?_
        refine lv_aload_n hx hb d_Y_law_599 rfl (lv_at hl 1 rfl) ?_
        refine lv_aload_n hx hb d_Y_law_600 rfl (lv_at hl 0 rfl) ?_
        refine lv_iload hx hb d_Y_law_601 (lv_at hl 4 rfl) ?_
        refine lv_iconst (v := 1) hx hb d_Y_law_603 (by decide) ?_
        refine lv_iadd hx hb d_Y_law_604 ?_
        obtain ⟨h131, hF⟩ := as_u hF
        refine va_sld hx hb hX hbl hbA hS (in_of h131) d_Y_law_605 ?_
        obtain ⟨r132, u134, h133, hF⟩ := bd_u hF
        refine k_vi (ad 0 0) [.int (xs ((x4 + 1)).toNatClampNeg)] [] ⟨hx, hb, hml, hown, hts⟩ (c_H_lose l D ad ca hD0 (z := z) (u := u)  h133) (w_H_lose hts a_247 ⟨Nat.le_trans (Nat.le_of_ble_eq_true rfl) hRf, Nat.le_trans (Nat.le_of_ble_eq_true rfl) hRl⟩) (rv_H hK hP (by decide)) hP hK hS hAA rfl rfl hl.1 (Nat.le_of_ble_eq_true rfl) ⟨by omega, by omega⟩ d_Y_law_606 (fun H locs hP hS => ?_)
        refine lv_aload_n hx hb d_Y_law_609 rfl (lv_at hl 2 rfl) ?_
        refine lv_aload_n hx hb d_Y_law_610 rfl (lv_at hl 0 rfl) ?_
        refine lv_iload hx hb d_Y_law_611 (lv_at hl 4 rfl) ?_
        refine lv_iconst (v := 1) hx hb d_Y_law_613 (by decide) ?_
        refine lv_iadd hx hb d_Y_law_614 ?_
        obtain ⟨h135, hF⟩ := as_u hF
        refine va_sld hx hb hX hbl hbA hS (in_of h135) d_Y_law_615 ?_
        obtain ⟨r136, z138, h137, hF⟩ := bd_u hF
        refine k_vi (ad 14 0) [.int (xs ((x4 + 1)).toNatClampNeg)] [.int r132] ⟨hx, hb, hml, hown, hts⟩ (c_Z_lose l D ad ca hD0 (z := z) (u := u134)  h137) (w_Z_lose hts a_710 ⟨Nat.le_trans (Nat.le_of_ble_eq_true rfl) hRf, Nat.le_trans (Nat.le_of_ble_eq_true rfl) hRl⟩) (rv_Z hK hP (by decide)) hP hK hS hAA rfl rfl hl.1 (Nat.le_of_ble_eq_true rfl) ⟨by omega, by omega⟩ d_Y_law_616 (fun H locs hP hS => ?_)
        refine lv_icmp_eq (tgt := 1024) hx hb d_Y_law_619 (by decide) (fun h139 => ?_) (fun h139 => ?_)
        · have hF := it_t hF h139
          refine lv_iinc (k := 4) (v := (x4 + 5)) (lv' := [(4, .int (x4 + 5)), (0, .ref sb), (1, .ref (ad 0 0)), (2, .ref (ad 14 0)), (3, .ref (ad 43 0))]) hx hb d_Y_law_1024 hl rfl rfl (by decide) rfl (fun ls hl => ?_)
          refine lv_goto (tgt := 23) hx hb d_Y_law_1027 (by decide) ?_
          exact ih u134 z138 (x4 + 5)  _ _ hF (by omega) (by omega) _ _ _ hP hS (lv_sub hl [1, 2, 3, 4, 0] rfl)
        · have hF := it_f hF h139
          refine lv_iconst (v := 0) hx hb d_Y_law_622 (by decide) ?_
          have hF := rt1 hF
          subst hF
          exact hend _ _ _ _ _ _ hS (by omega) (by omega) d_Y_law_623
      have hF := it_f hF h130
      by_cases h140 : ((xs (x4).toNatClampNeg) &&& 31) = 10
      · have hF := it_t hF h140
        refine lv_tableIn (tgt := 624) hx hb d_Y_law_39 (by rw [h140]; decide) (by rw [h140]; decide) (by rw [h140]; rfl) (by decide) ?_
        refine lv_aload_n hx hb d_Y_law_624 rfl (lv_at hl 1 rfl) ?_
        refine lv_aload_n hx hb d_Y_law_625 rfl (lv_at hl 0 rfl) ?_
        refine lv_iload hx hb d_Y_law_626 (lv_at hl 4 rfl) ?_
        refine lv_iconst (v := 1) hx hb d_Y_law_628 (by decide) ?_
        refine lv_iadd hx hb d_Y_law_629 ?_
        obtain ⟨h141, hF⟩ := as_u hF
        refine va_sld hx hb hX hbl hbA hS (in_of h141) d_Y_law_630 ?_
        obtain ⟨r142, u144, h143, hF⟩ := bd_u hF
        refine k_vi (ad 0 0) [.int (xs ((x4 + 1)).toNatClampNeg)] [] ⟨hx, hb, hml, hown, hts⟩ (c_H_twin l D ad ca hD0 (z := z) (u := u)  h143) (w_H_twin hts a_259 ⟨Nat.le_trans (Nat.le_of_ble_eq_true rfl) hRf, Nat.le_trans (Nat.le_of_ble_eq_true rfl) hRl⟩) (rv_H hK hP (by decide)) hP hK hS hAA rfl rfl hl.1 (Nat.le_of_ble_eq_true rfl) ⟨by omega, by omega⟩ d_Y_law_631 (fun H locs hP hS => ?_)
        refine lv_aload_n hx hb d_Y_law_634 rfl (lv_at hl 2 rfl) ?_
        refine lv_aload_n hx hb d_Y_law_635 rfl (lv_at hl 0 rfl) ?_
        refine lv_iload hx hb d_Y_law_636 (lv_at hl 4 rfl) ?_
        refine lv_iconst (v := 1) hx hb d_Y_law_638 (by decide) ?_
        refine lv_iadd hx hb d_Y_law_639 ?_
        obtain ⟨h145, hF⟩ := as_u hF
        refine va_sld hx hb hX hbl hbA hS (in_of h145) d_Y_law_640 ?_
        obtain ⟨r146, z148, h147, hF⟩ := bd_u hF
        refine k_vi (ad 14 0) [.int (xs ((x4 + 1)).toNatClampNeg)] [.int r142] ⟨hx, hb, hml, hown, hts⟩ (c_Z_twin l D ad ca hD0 (z := z) (u := u144)  h147) (w_Z_twin hts a_722 ⟨Nat.le_trans (Nat.le_of_ble_eq_true rfl) hRf, Nat.le_trans (Nat.le_of_ble_eq_true rfl) hRl⟩) (rv_Z hK hP (by decide)) hP hK hS hAA rfl rfl hl.1 (Nat.le_of_ble_eq_true rfl) ⟨by omega, by omega⟩ d_Y_law_641 (fun H locs hP hS => ?_)
        refine lv_icmp_eq (tgt := 1024) hx hb d_Y_law_644 (by decide) (fun h149 => ?_) (fun h149 => ?_)
        · have hF := it_t hF h149
          refine lv_iinc (k := 4) (v := (x4 + 5)) (lv' := [(4, .int (x4 + 5)), (0, .ref sb), (1, .ref (ad 0 0)), (2, .ref (ad 14 0)), (3, .ref (ad 43 0))]) hx hb d_Y_law_1024 hl rfl rfl (by decide) rfl (fun ls hl => ?_)
          refine lv_goto (tgt := 23) hx hb d_Y_law_1027 (by decide) ?_
          exact ih u144 z148 (x4 + 5)  _ _ hF (by omega) (by omega) _ _ _ hP hS (lv_sub hl [1, 2, 3, 4, 0] rfl)
        · have hF := it_f hF h149
          refine lv_iconst (v := 0) hx hb d_Y_law_647 (by decide) ?_
          have hF := rt1 hF
          subst hF
          exact hend _ _ _ _ _ _ hS (by omega) (by omega) d_Y_law_648
      have hF := it_f hF h140
      by_cases h150 : ((xs (x4).toNatClampNeg) &&& 31) = 11
      · have hF := it_t hF h150
        refine lv_tableIn (tgt := 649) hx hb d_Y_law_39 (by rw [h150]; decide) (by rw [h150]; decide) (by rw [h150]; rfl) (by decide) ?_
        refine lv_aload_n hx hb d_Y_law_649 rfl (lv_at hl 1 rfl) ?_
        refine lv_aload_n hx hb d_Y_law_650 rfl (lv_at hl 0 rfl) ?_
        refine lv_iload hx hb d_Y_law_651 (lv_at hl 4 rfl) ?_
        refine lv_iconst (v := 1) hx hb d_Y_law_653 (by decide) ?_
        refine lv_iadd hx hb d_Y_law_654 ?_
        obtain ⟨h151, hF⟩ := as_u hF
        refine va_sld hx hb hX hbl hbA hS (in_of h151) d_Y_law_655 ?_
        obtain ⟨r152, u154, h153, hF⟩ := bd_u hF
        refine k_vi (ad 0 0) [.int (xs ((x4 + 1)).toNatClampNeg)] [] ⟨hx, hb, hml, hown, hts⟩ (c_H_crash l D ad ca hD0 (z := z) (u := u)  h153) (w_H_crash hts a_275 ⟨Nat.le_trans (Nat.le_of_ble_eq_true rfl) hRf, Nat.le_trans (Nat.le_of_ble_eq_true rfl) hRl⟩) (rv_H hK hP (by decide)) hP hK hS hAA rfl rfl hl.1 (Nat.le_of_ble_eq_true rfl) ⟨by omega, by omega⟩ d_Y_law_656 (fun H locs hP hS => ?_)
        refine lv_aload_n hx hb d_Y_law_659 rfl (lv_at hl 2 rfl) ?_
        refine lv_aload_n hx hb d_Y_law_660 rfl (lv_at hl 0 rfl) ?_
        refine lv_iload hx hb d_Y_law_661 (lv_at hl 4 rfl) ?_
        refine lv_iconst (v := 1) hx hb d_Y_law_663 (by decide) ?_
        refine lv_iadd hx hb d_Y_law_664 ?_
        obtain ⟨h155, hF⟩ := as_u hF
        refine va_sld hx hb hX hbl hbA hS (in_of h155) d_Y_law_665 ?_
        obtain ⟨r156, z158, h157, hF⟩ := bd_u hF
        refine k_vi (ad 14 0) [.int (xs ((x4 + 1)).toNatClampNeg)] [.int r152] ⟨hx, hb, hml, hown, hts⟩ (c_Z_crash l D ad ca hD0 (z := z) (u := u154)  h157) (w_Z_crash hts a_788 ⟨Nat.le_trans (Nat.le_of_ble_eq_true rfl) hRf, Nat.le_trans (Nat.le_of_ble_eq_true rfl) hRl⟩) (rv_Z hK hP (by decide)) hP hK hS hAA rfl rfl hl.1 (Nat.le_of_ble_eq_true rfl) ⟨by omega, by omega⟩ d_Y_law_666 (fun H locs hP hS => ?_)
        refine lv_icmp_eq (tgt := 1024) hx hb d_Y_law_669 (by decide) (fun h159 => ?_) (fun h159 => ?_)
        · have hF := it_t hF h159
          refine lv_iinc (k := 4) (v := (x4 + 5)) (lv' := [(4, .int (x4 + 5)), (0, .ref sb), (1, .ref (ad 0 0)), (2, .ref (ad 14 0)), (3, .ref (ad 43 0))]) hx hb d_Y_law_1024 hl rfl rfl (by decide) rfl (fun ls hl => ?_)
          refine lv_goto (tgt := 23) hx hb d_Y_law_1027 (by decide) ?_
          exact ih u154 z158 (x4 + 5)  _ _ hF (by omega) (by omega) _ _ _ hP hS (lv_sub hl [1, 2, 3, 4, 0] rfl)
        · have hF := it_f hF h159
          refine lv_iconst (v := 0) hx hb d_Y_law_672 (by decide) ?_
          have hF := rt1 hF
          subst hF
          exact hend _ _ _ _ _ _ hS (by omega) (by omega) d_Y_law_673
      have hF := it_f hF h150
      by_cases h160 : ((xs (x4).toNatClampNeg) &&& 31) = 12
      · have hF := it_t hF h160
        refine lv_tableIn (tgt := 674) hx hb d_Y_law_39 (by rw [h160]; decide) (by rw [h160]; decide) (by rw [h160]; rfl) (by decide) ?_
        refine lv_aload_n hx hb d_Y_law_674 rfl (lv_at hl 1 rfl) ?_
        refine lv_aload_n hx hb d_Y_law_675 rfl (lv_at hl 0 rfl) ?_
        refine lv_iload hx hb d_Y_law_676 (lv_at hl 4 rfl) ?_
        refine lv_iconst (v := 1) hx hb d_Y_law_678 (by decide) ?_
        refine lv_iadd hx hb d_Y_law_679 ?_
        obtain ⟨h161, hF⟩ := as_u hF
        refine va_sld hx hb hX hbl hbA hS (in_of h161) d_Y_law_680 ?_
        obtain ⟨r162, u164, h163, hF⟩ := bd_u hF
        refine k_vi (ad 0 0) [.int (xs ((x4 + 1)).toNatClampNeg)] [] ⟨hx, hb, hml, hown, hts⟩ (c_H_restart l D ad ca hD0 (z := z) (u := u)  h163) (w_H_restart hts a_279 ⟨Nat.le_trans (Nat.le_of_ble_eq_true rfl) hRf, Nat.le_trans (Nat.le_of_ble_eq_true rfl) hRl⟩) (rv_H hK hP (by decide)) hP hK hS hAA rfl rfl hl.1 (Nat.le_of_ble_eq_true rfl) ⟨by omega, by omega⟩ d_Y_law_681 (fun H locs hP hS => ?_)
        refine lv_aload_n hx hb d_Y_law_684 rfl (lv_at hl 2 rfl) ?_
        refine lv_aload_n hx hb d_Y_law_685 rfl (lv_at hl 0 rfl) ?_
        refine lv_iload hx hb d_Y_law_686 (lv_at hl 4 rfl) ?_
        refine lv_iconst (v := 1) hx hb d_Y_law_688 (by decide) ?_
        refine lv_iadd hx hb d_Y_law_689 ?_
        obtain ⟨h165, hF⟩ := as_u hF
        refine va_sld hx hb hX hbl hbA hS (in_of h165) d_Y_law_690 ?_
        obtain ⟨r166, z168, h167, hF⟩ := bd_u hF
        refine k_vi (ad 14 0) [.int (xs ((x4 + 1)).toNatClampNeg)] [.int r162] ⟨hx, hb, hml, hown, hts⟩ (c_Z_restart l D ad ca hD0 (z := z) (u := u164)  h167) (w_Z_restart hts a_792 ⟨Nat.le_trans (Nat.le_of_ble_eq_true rfl) hRf, Nat.le_trans (Nat.le_of_ble_eq_true rfl) hRl⟩) (rv_Z hK hP (by decide)) hP hK hS hAA rfl rfl hl.1 (Nat.le_of_ble_eq_true rfl) ⟨by omega, by omega⟩ d_Y_law_691 (fun H locs hP hS => ?_)
        refine lv_icmp_eq (tgt := 1024) hx hb d_Y_law_694 (by decide) (fun h169 => ?_) (fun h169 => ?_)
        · have hF := it_t hF h169
          refine lv_iinc (k := 4) (v := (x4 + 5)) (lv' := [(4, .int (x4 + 5)), (0, .ref sb), (1, .ref (ad 0 0)), (2, .ref (ad 14 0)), (3, .ref (ad 43 0))]) hx hb d_Y_law_1024 hl rfl rfl (by decide) rfl (fun ls hl => ?_)
          refine lv_goto (tgt := 23) hx hb d_Y_law_1027 (by decide) ?_
          exact ih u164 z168 (x4 + 5)  _ _ hF (by omega) (by omega) _ _ _ hP hS (lv_sub hl [1, 2, 3, 4, 0] rfl)
        · have hF := it_f hF h169
          refine lv_iconst (v := 0) hx hb d_Y_law_697 (by decide) ?_
          have hF := rt1 hF
          subst hF
          exact hend _ _ _ _ _ _ hS (by omega) (by omega) d_Y_law_698
      have hF := it_f hF h160
      by_cases h170 : ((xs (x4).toNatClampNeg) &&& 31) = 13
      · have hF := it_t hF h170
        refine lv_tableIn (tgt := 699) hx hb d_Y_law_39 (by rw [h170]; decide) (by rw [h170]; decide) (by rw [h170]; rfl) (by decide) ?_
        refine lv_aload_n hx hb d_Y_law_699 rfl (lv_at hl 1 rfl) ?_
        refine lv_aload_n hx hb d_Y_law_700 rfl (lv_at hl 0 rfl) ?_
        refine lv_iload hx hb d_Y_law_701 (lv_at hl 4 rfl) ?_
        refine lv_iconst (v := 1) hx hb d_Y_law_703 (by decide) ?_
        refine lv_iadd hx hb d_Y_law_704 ?_
        obtain ⟨h171, hF⟩ := as_u hF
        refine va_sld hx hb hX hbl hbA hS (in_of h171) d_Y_law_705 ?_
        obtain ⟨r172, h173, hF⟩ := bs_u hF
        refine k_vp (ad 0 0) [.int (xs ((x4 + 1)).toNatClampNeg)] [] ⟨hx, hb, hml, hown, hts⟩ (c_H_quorum l D ad ca hD0 (z := z) (u := u)  h173) (w_H_quorum hts a_283 ⟨Nat.le_trans (Nat.le_of_ble_eq_true rfl) hRf, Nat.le_trans (Nat.le_of_ble_eq_true rfl) hRl⟩) (rv_H hK hP (by decide)) hP hK rfl rfl hl.1 (Nat.le_of_ble_eq_true rfl) ⟨by omega, by omega⟩ d_Y_law_706 ?_
        refine lv_aload_n hx hb d_Y_law_709 rfl (lv_at hl 2 rfl) ?_
        refine lv_aload_n hx hb d_Y_law_710 rfl (lv_at hl 0 rfl) ?_
        refine lv_iload hx hb d_Y_law_711 (lv_at hl 4 rfl) ?_
        refine lv_iconst (v := 1) hx hb d_Y_law_713 (by decide) ?_
        refine lv_iadd hx hb d_Y_law_714 ?_
        obtain ⟨h174, hF⟩ := as_u hF
        refine va_sld hx hb hX hbl hbA hS (in_of h174) d_Y_law_715 ?_
        obtain ⟨r175, z177, h176, hF⟩ := bd_u hF
        refine k_vi (ad 14 0) [.int (xs ((x4 + 1)).toNatClampNeg)] [.int r172] ⟨hx, hb, hml, hown, hts⟩ (c_Z_quorum l D ad ca hD0 (z := z) (u := u)  h176) (w_Z_quorum hts a_660 ⟨Nat.le_trans (Nat.le_of_ble_eq_true rfl) hRf, Nat.le_trans (Nat.le_of_ble_eq_true rfl) hRl⟩) (rv_Z hK hP (by decide)) hP hK hS hAA rfl rfl hl.1 (Nat.le_of_ble_eq_true rfl) ⟨by omega, by omega⟩ d_Y_law_716 (fun H locs hP hS => ?_)
        refine lv_icmp_eq (tgt := 1024) hx hb d_Y_law_719 (by decide) (fun h178 => ?_) (fun h178 => ?_)
        · have hF := it_t hF h178
          refine lv_iinc (k := 4) (v := (x4 + 5)) (lv' := [(4, .int (x4 + 5)), (0, .ref sb), (1, .ref (ad 0 0)), (2, .ref (ad 14 0)), (3, .ref (ad 43 0))]) hx hb d_Y_law_1024 hl rfl rfl (by decide) rfl (fun ls hl => ?_)
          refine lv_goto (tgt := 23) hx hb d_Y_law_1027 (by decide) ?_
          exact ih u z177 (x4 + 5)  _ _ hF (by omega) (by omega) _ _ _ hP hS (lv_sub hl [1, 2, 3, 4, 0] rfl)
        · have hF := it_f hF h178
          refine lv_iconst (v := 0) hx hb d_Y_law_722 (by decide) ?_
          have hF := rt1 hF
          subst hF
          exact hend _ _ _ _ _ _ hS (by omega) (by omega) d_Y_law_723
      have hF := it_f hF h170
      by_cases h179 : ((xs (x4).toNatClampNeg) &&& 31) = 14
      · have hF := it_t hF h179
        refine lv_tableIn (tgt := 724) hx hb d_Y_law_39 (by rw [h179]; decide) (by rw [h179]; decide) (by rw [h179]; rfl) (by decide) ?_
        refine lv_aload_n hx hb d_Y_law_724 rfl (lv_at hl 1 rfl) ?_
        refine lv_aload_n hx hb d_Y_law_725 rfl (lv_at hl 0 rfl) ?_
        refine lv_iload hx hb d_Y_law_726 (lv_at hl 4 rfl) ?_
        refine lv_iconst (v := 1) hx hb d_Y_law_728 (by decide) ?_
        refine lv_iadd hx hb d_Y_law_729 ?_
        obtain ⟨h180, hF⟩ := as_u hF
        refine va_sld hx hb hX hbl hbA hS (in_of h180) d_Y_law_730 ?_
        obtain ⟨r181, h182, hF⟩ := bs_u hF
        refine k_vp (ad 0 0) [.int (xs ((x4 + 1)).toNatClampNeg)] [] ⟨hx, hb, hml, hown, hts⟩ (c_H_least l D ad ca hD0 (z := z) (u := u)  h182) (w_H_least hts a_299 ⟨Nat.le_trans (Nat.le_of_ble_eq_true rfl) hRf, Nat.le_trans (Nat.le_of_ble_eq_true rfl) hRl⟩) (rv_H hK hP (by decide)) hP hK rfl rfl hl.1 (Nat.le_of_ble_eq_true rfl) ⟨by omega, by omega⟩ d_Y_law_731 ?_
        refine lv_aload_n hx hb d_Y_law_734 rfl (lv_at hl 2 rfl) ?_
        refine lv_aload_n hx hb d_Y_law_735 rfl (lv_at hl 0 rfl) ?_
        refine lv_iload hx hb d_Y_law_736 (lv_at hl 4 rfl) ?_
        refine lv_iconst (v := 1) hx hb d_Y_law_738 (by decide) ?_
        refine lv_iadd hx hb d_Y_law_739 ?_
        obtain ⟨h183, hF⟩ := as_u hF
        refine va_sld hx hb hX hbl hbA hS (in_of h183) d_Y_law_740 ?_
        obtain ⟨r184, z186, h185, hF⟩ := bd_u hF
        refine k_vi (ad 14 0) [.int (xs ((x4 + 1)).toNatClampNeg)] [.int r181] ⟨hx, hb, hml, hown, hts⟩ (c_Z_least l D ad ca hD0 (z := z) (u := u)  h185) (w_Z_least hts a_674 ⟨Nat.le_trans (Nat.le_of_ble_eq_true rfl) hRf, Nat.le_trans (Nat.le_of_ble_eq_true rfl) hRl⟩) (rv_Z hK hP (by decide)) hP hK hS hAA rfl rfl hl.1 (Nat.le_of_ble_eq_true rfl) ⟨by omega, by omega⟩ d_Y_law_741 (fun H locs hP hS => ?_)
        refine lv_icmp_eq (tgt := 1024) hx hb d_Y_law_744 (by decide) (fun h187 => ?_) (fun h187 => ?_)
        · have hF := it_t hF h187
          refine lv_iinc (k := 4) (v := (x4 + 5)) (lv' := [(4, .int (x4 + 5)), (0, .ref sb), (1, .ref (ad 0 0)), (2, .ref (ad 14 0)), (3, .ref (ad 43 0))]) hx hb d_Y_law_1024 hl rfl rfl (by decide) rfl (fun ls hl => ?_)
          refine lv_goto (tgt := 23) hx hb d_Y_law_1027 (by decide) ?_
          exact ih u z186 (x4 + 5)  _ _ hF (by omega) (by omega) _ _ _ hP hS (lv_sub hl [1, 2, 3, 4, 0] rfl)
        · have hF := it_f hF h187
          refine lv_iconst (v := 0) hx hb d_Y_law_747 (by decide) ?_
          have hF := rt1 hF
          subst hF
          exact hend _ _ _ _ _ _ hS (by omega) (by omega) d_Y_law_748
      have hF := it_f hF h179
      by_cases h188 : ((xs (x4).toNatClampNeg) &&& 31) = 15
      · have hF := it_t hF h188
        refine lv_tableIn (tgt := 749) hx hb d_Y_law_39 (by rw [h188]; decide) (by rw [h188]; decide) (by rw [h188]; rfl) (by decide) ?_
        refine lv_aload_n hx hb d_Y_law_749 rfl (lv_at hl 1 rfl) ?_
        refine lv_aload_n hx hb d_Y_law_750 rfl (lv_at hl 0 rfl) ?_
        refine lv_iload hx hb d_Y_law_751 (lv_at hl 4 rfl) ?_
        refine lv_iconst (v := 1) hx hb d_Y_law_753 (by decide) ?_
        refine lv_iadd hx hb d_Y_law_754 ?_
        obtain ⟨h189, hF⟩ := as_u hF
        refine va_sld hx hb hX hbl hbA hS (in_of h189) d_Y_law_755 ?_
        refine lv_aload_n hx hb d_Y_law_756 rfl (lv_at hl 0 rfl) ?_
        refine lv_iload hx hb d_Y_law_757 (lv_at hl 4 rfl) ?_
        refine lv_iconst (v := 2) hx hb d_Y_law_759 (by decide) ?_
        refine lv_iadd hx hb d_Y_law_760 ?_
        obtain ⟨h190, hF⟩ := as_u hF
        refine va_sld hx hb hX hbl hbA hS (in_of h190) d_Y_law_761 ?_
        refine lv_if_eq (tgt := 769) hx hb d_Y_law_762 (by decide) (fun h191 => ?_) (fun h191 => ?_)
        · have hF := it_t hF h191
          refine lv_iconst (v := 0) hx hb d_Y_law_769 (by decide) ?_
          exact jn_Y_law_770 htr hRf hRl hx hb hr hts hown hlocks hml hK hD0 hAA hTZ hX hbl hbA hend ih u z x4 0 (xs ((x4 + 1)).toNatClampNeg)  _ _ hF (by omega) (by omega) _ _ _ hP hS (lv_sub hl [0, 1, 2, 3, 4] rfl)
        · have hF := it_f hF h191
          refine lv_iconst (v := 1) hx hb d_Y_law_765 (by decide) ?_
          refine lv_goto (tgt := 770) hx hb d_Y_law_766 (by decide) ?_
          exact jn_Y_law_770 htr hRf hRl hx hb hr hts hown hlocks hml hK hD0 hAA hTZ hX hbl hbA hend ih u z x4 1 (xs ((x4 + 1)).toNatClampNeg)  _ _ hF (by omega) (by omega) _ _ _ hP hS (lv_sub hl [0, 1, 2, 3, 4] rfl)
      have hF := it_f hF h188
      by_cases h205 : ((xs (x4).toNatClampNeg) &&& 31) = 16
      · have hF := it_t hF h205
        refine lv_tableIn (tgt := 802) hx hb d_Y_law_39 (by rw [h205]; decide) (by rw [h205]; decide) (by rw [h205]; rfl) (by decide) ?_
        refine lv_aload_n hx hb d_Y_law_802 rfl (lv_at hl 1 rfl) ?_
        refine lv_aload_n hx hb d_Y_law_803 rfl (lv_at hl 0 rfl) ?_
        refine lv_iload hx hb d_Y_law_804 (lv_at hl 4 rfl) ?_
        refine lv_iconst (v := 1) hx hb d_Y_law_806 (by decide) ?_
        refine lv_iadd hx hb d_Y_law_807 ?_
        obtain ⟨h206, hF⟩ := as_u hF
        refine va_sld hx hb hX hbl hbA hS (in_of h206) d_Y_law_808 ?_
        refine lv_aload_n hx hb d_Y_law_809 rfl (lv_at hl 0 rfl) ?_
        refine lv_iload hx hb d_Y_law_810 (lv_at hl 4 rfl) ?_
        refine lv_iconst (v := 2) hx hb d_Y_law_812 (by decide) ?_
        refine lv_iadd hx hb d_Y_law_813 ?_
        obtain ⟨h207, hF⟩ := as_u hF
        refine va_sld hx hb hX hbl hbA hS (in_of h207) d_Y_law_814 ?_
        obtain ⟨r208, h209, hF⟩ := bs_u hF
        refine k_vp (ad 0 0) [.int (xs ((x4 + 1)).toNatClampNeg), .int (xs ((x4 + 2)).toNatClampNeg)] [] ⟨hx, hb, hml, hown, hts⟩ (c_H_run l D ad ca hD0 (z := z) (u := u)  h209) (w_H_run hts a_308 ⟨Nat.le_trans (Nat.le_of_ble_eq_true rfl) hRf, Nat.le_trans (Nat.le_of_ble_eq_true rfl) hRl⟩) (rv_H hK hP (by decide)) hP hK rfl rfl hl.1 (Nat.le_of_ble_eq_true rfl) ⟨by omega, by omega⟩ d_Y_law_815 ?_
        refine lv_aload_n hx hb d_Y_law_818 rfl (lv_at hl 2 rfl) ?_
        refine lv_aload_n hx hb d_Y_law_819 rfl (lv_at hl 0 rfl) ?_
        refine lv_iload hx hb d_Y_law_820 (lv_at hl 4 rfl) ?_
        refine lv_iconst (v := 1) hx hb d_Y_law_822 (by decide) ?_
        refine lv_iadd hx hb d_Y_law_823 ?_
        obtain ⟨h210, hF⟩ := as_u hF
        refine va_sld hx hb hX hbl hbA hS (in_of h210) d_Y_law_824 ?_
        refine lv_aload_n hx hb d_Y_law_825 rfl (lv_at hl 0 rfl) ?_
        refine lv_iload hx hb d_Y_law_826 (lv_at hl 4 rfl) ?_
        refine lv_iconst (v := 2) hx hb d_Y_law_828 (by decide) ?_
        refine lv_iadd hx hb d_Y_law_829 ?_
        obtain ⟨h211, hF⟩ := as_u hF
        refine va_sld hx hb hX hbl hbA hS (in_of h211) d_Y_law_830 ?_
        obtain ⟨r212, z214, h213, hF⟩ := bd_u hF
        refine k_vi (ad 14 0) [.int (xs ((x4 + 1)).toNatClampNeg), .int (xs ((x4 + 2)).toNatClampNeg)] [.int r208] ⟨hx, hb, hml, hown, hts⟩ (c_Z_run l D ad ca hD0 (z := z) (u := u)  h213) (w_Z_run hts a_800 ⟨Nat.le_trans (Nat.le_of_ble_eq_true rfl) hRf, Nat.le_trans (Nat.le_of_ble_eq_true rfl) hRl⟩) (rv_Z hK hP (by decide)) hP hK hS hAA rfl rfl hl.1 (Nat.le_of_ble_eq_true rfl) ⟨by omega, by omega⟩ d_Y_law_831 (fun H locs hP hS => ?_)
        refine lv_icmp_eq (tgt := 1024) hx hb d_Y_law_834 (by decide) (fun h215 => ?_) (fun h215 => ?_)
        · have hF := it_t hF h215
          refine lv_iinc (k := 4) (v := (x4 + 5)) (lv' := [(4, .int (x4 + 5)), (0, .ref sb), (1, .ref (ad 0 0)), (2, .ref (ad 14 0)), (3, .ref (ad 43 0))]) hx hb d_Y_law_1024 hl rfl rfl (by decide) rfl (fun ls hl => ?_)
          refine lv_goto (tgt := 23) hx hb d_Y_law_1027 (by decide) ?_
          exact ih u z214 (x4 + 5)  _ _ hF (by omega) (by omega) _ _ _ hP hS (lv_sub hl [1, 2, 3, 4, 0] rfl)
        · have hF := it_f hF h215
          refine lv_iconst (v := 0) hx hb d_Y_law_837 (by decide) ?_
          have hF := rt1 hF
          subst hF
          exact hend _ _ _ _ _ _ hS (by omega) (by omega) d_Y_law_838
      have hF := it_f hF h205
      by_cases h216 : ((xs (x4).toNatClampNeg) &&& 31) = 17
      · have hF := it_t hF h216
        refine lv_tableIn (tgt := 839) hx hb d_Y_law_39 (by rw [h216]; decide) (by rw [h216]; decide) (by rw [h216]; rfl) (by decide) ?_
        refine lv_aload_n hx hb d_Y_law_839 rfl (lv_at hl 1 rfl) ?_
        refine lv_aload_n hx hb d_Y_law_840 rfl (lv_at hl 0 rfl) ?_
        refine lv_iload hx hb d_Y_law_841 (lv_at hl 4 rfl) ?_
        refine lv_iconst (v := 1) hx hb d_Y_law_843 (by decide) ?_
        refine lv_iadd hx hb d_Y_law_844 ?_
        obtain ⟨h217, hF⟩ := as_u hF
        refine va_sld hx hb hX hbl hbA hS (in_of h217) d_Y_law_845 ?_
        obtain ⟨r218, h219, hF⟩ := bs_u hF
        refine k_vp (ad 0 0) [.int (xs ((x4 + 1)).toNatClampNeg)] [] ⟨hx, hb, hml, hown, hts⟩ (c_H_promised l D ad ca hD0 (z := z) (u := u)  h219) (w_H_promised hts a_312 ⟨Nat.le_trans (Nat.le_of_ble_eq_true rfl) hRf, Nat.le_trans (Nat.le_of_ble_eq_true rfl) hRl⟩) (rv_H hK hP (by decide)) hP hK rfl rfl hl.1 (Nat.le_of_ble_eq_true rfl) ⟨by omega, by omega⟩ d_Y_law_846 ?_
        refine lv_aload_n hx hb d_Y_law_849 rfl (lv_at hl 2 rfl) ?_
        refine lv_aload_n hx hb d_Y_law_850 rfl (lv_at hl 0 rfl) ?_
        refine lv_iload hx hb d_Y_law_851 (lv_at hl 4 rfl) ?_
        refine lv_iconst (v := 1) hx hb d_Y_law_853 (by decide) ?_
        refine lv_iadd hx hb d_Y_law_854 ?_
        obtain ⟨h220, hF⟩ := as_u hF
        refine va_sld hx hb hX hbl hbA hS (in_of h220) d_Y_law_855 ?_
        obtain ⟨r221, z223, h222, hF⟩ := bd_u hF
        refine k_vi (ad 14 0) [.int (xs ((x4 + 1)).toNatClampNeg)] [.int r218] ⟨hx, hb, hml, hown, hts⟩ (c_Z_promised l D ad ca hD0 (z := z) (u := u)  h222) (w_Z_promised hts a_804 ⟨Nat.le_trans (Nat.le_of_ble_eq_true rfl) hRf, Nat.le_trans (Nat.le_of_ble_eq_true rfl) hRl⟩) (rv_Z hK hP (by decide)) hP hK hS hAA rfl rfl hl.1 (Nat.le_of_ble_eq_true rfl) ⟨by omega, by omega⟩ d_Y_law_856 (fun H locs hP hS => ?_)
        refine lv_icmp_eq (tgt := 1024) hx hb d_Y_law_859 (by decide) (fun h224 => ?_) (fun h224 => ?_)
        · have hF := it_t hF h224
          refine lv_iinc (k := 4) (v := (x4 + 5)) (lv' := [(4, .int (x4 + 5)), (0, .ref sb), (1, .ref (ad 0 0)), (2, .ref (ad 14 0)), (3, .ref (ad 43 0))]) hx hb d_Y_law_1024 hl rfl rfl (by decide) rfl (fun ls hl => ?_)
          refine lv_goto (tgt := 23) hx hb d_Y_law_1027 (by decide) ?_
          exact ih u z223 (x4 + 5)  _ _ hF (by omega) (by omega) _ _ _ hP hS (lv_sub hl [1, 2, 3, 4, 0] rfl)
        · have hF := it_f hF h224
          refine lv_iconst (v := 0) hx hb d_Y_law_862 (by decide) ?_
          have hF := rt1 hF
          subst hF
          exact hend _ _ _ _ _ _ hS (by omega) (by omega) d_Y_law_863
      have hF := it_f hF h216
      by_cases h225 : ((xs (x4).toNatClampNeg) &&& 31) = 18
      · have hF := it_t hF h225
        refine lv_tableIn (tgt := 864) hx hb d_Y_law_39 (by rw [h225]; decide) (by rw [h225]; decide) (by rw [h225]; rfl) (by decide) ?_
        refine lv_aload_n hx hb d_Y_law_864 rfl (lv_at hl 1 rfl) ?_
        refine lv_aload_n hx hb d_Y_law_865 rfl (lv_at hl 0 rfl) ?_
        refine lv_iload hx hb d_Y_law_866 (lv_at hl 4 rfl) ?_
        refine lv_iconst (v := 1) hx hb d_Y_law_868 (by decide) ?_
        refine lv_iadd hx hb d_Y_law_869 ?_
        obtain ⟨h226, hF⟩ := as_u hF
        refine va_sld hx hb hX hbl hbA hS (in_of h226) d_Y_law_870 ?_
        refine lv_aload_n hx hb d_Y_law_871 rfl (lv_at hl 0 rfl) ?_
        refine lv_iload hx hb d_Y_law_872 (lv_at hl 4 rfl) ?_
        refine lv_iconst (v := 2) hx hb d_Y_law_874 (by decide) ?_
        refine lv_iadd hx hb d_Y_law_875 ?_
        obtain ⟨h227, hF⟩ := as_u hF
        refine va_sld hx hb hX hbl hbA hS (in_of h227) d_Y_law_876 ?_
        obtain ⟨r228, h229, hF⟩ := bs_u hF
        refine k_vp (ad 0 0) [.int (xs ((x4 + 1)).toNatClampNeg), .int (xs ((x4 + 2)).toNatClampNeg)] [] ⟨hx, hb, hml, hown, hts⟩ (c_H_accepted l D ad ca hD0 (z := z) (u := u)  h229) (w_H_accepted hts a_316 ⟨Nat.le_trans (Nat.le_of_ble_eq_true rfl) hRf, Nat.le_trans (Nat.le_of_ble_eq_true rfl) hRl⟩) (rv_H hK hP (by decide)) hP hK rfl rfl hl.1 (Nat.le_of_ble_eq_true rfl) ⟨by omega, by omega⟩ d_Y_law_877 ?_
        refine lv_aload_n hx hb d_Y_law_880 rfl (lv_at hl 2 rfl) ?_
        refine lv_aload_n hx hb d_Y_law_881 rfl (lv_at hl 0 rfl) ?_
        refine lv_iload hx hb d_Y_law_882 (lv_at hl 4 rfl) ?_
        refine lv_iconst (v := 1) hx hb d_Y_law_884 (by decide) ?_
        refine lv_iadd hx hb d_Y_law_885 ?_
        obtain ⟨h230, hF⟩ := as_u hF
        refine va_sld hx hb hX hbl hbA hS (in_of h230) d_Y_law_886 ?_
        refine lv_aload_n hx hb d_Y_law_887 rfl (lv_at hl 0 rfl) ?_
        refine lv_iload hx hb d_Y_law_888 (lv_at hl 4 rfl) ?_
        refine lv_iconst (v := 2) hx hb d_Y_law_890 (by decide) ?_
        refine lv_iadd hx hb d_Y_law_891 ?_
        obtain ⟨h231, hF⟩ := as_u hF
        refine va_sld hx hb hX hbl hbA hS (in_of h231) d_Y_law_892 ?_
        obtain ⟨r232, z234, h233, hF⟩ := bd_u hF
        refine k_vi (ad 14 0) [.int (xs ((x4 + 1)).toNatClampNeg), .int (xs ((x4 + 2)).toNatClampNeg)] [.int r228] ⟨hx, hb, hml, hown, hts⟩ (c_Z_accepted l D ad ca hD0 (z := z) (u := u)  h233) (w_Z_accepted hts a_808 ⟨Nat.le_trans (Nat.le_of_ble_eq_true rfl) hRf, Nat.le_trans (Nat.le_of_ble_eq_true rfl) hRl⟩) (rv_Z hK hP (by decide)) hP hK hS hAA rfl rfl hl.1 (Nat.le_of_ble_eq_true rfl) ⟨by omega, by omega⟩ d_Y_law_893 (fun H locs hP hS => ?_)
        refine lv_icmp_eq (tgt := 1024) hx hb d_Y_law_896 (by decide) (fun h235 => ?_) (fun h235 => ?_)
        · have hF := it_t hF h235
          refine lv_iinc (k := 4) (v := (x4 + 5)) (lv' := [(4, .int (x4 + 5)), (0, .ref sb), (1, .ref (ad 0 0)), (2, .ref (ad 14 0)), (3, .ref (ad 43 0))]) hx hb d_Y_law_1024 hl rfl rfl (by decide) rfl (fun ls hl => ?_)
          refine lv_goto (tgt := 23) hx hb d_Y_law_1027 (by decide) ?_
          exact ih u z234 (x4 + 5)  _ _ hF (by omega) (by omega) _ _ _ hP hS (lv_sub hl [1, 2, 3, 4, 0] rfl)
        · have hF := it_f hF h235
          refine lv_iconst (v := 0) hx hb d_Y_law_899 (by decide) ?_
          have hF := rt1 hF
          subst hF
          exact hend _ _ _ _ _ _ hS (by omega) (by omega) d_Y_law_900
      have hF := it_f hF h225
      by_cases h236 : ((xs (x4).toNatClampNeg) &&& 31) = 19
      · have hF := it_t hF h236
        refine lv_tableIn (tgt := 901) hx hb d_Y_law_39 (by rw [h236]; decide) (by rw [h236]; decide) (by rw [h236]; rfl) (by decide) ?_
        refine lv_aload_n hx hb d_Y_law_901 rfl (lv_at hl 1 rfl) ?_
        refine lv_aload_n hx hb d_Y_law_902 rfl (lv_at hl 0 rfl) ?_
        refine lv_iload hx hb d_Y_law_903 (lv_at hl 4 rfl) ?_
        refine lv_iconst (v := 1) hx hb d_Y_law_905 (by decide) ?_
        refine lv_iadd hx hb d_Y_law_906 ?_
        obtain ⟨h237, hF⟩ := as_u hF
        refine va_sld hx hb hX hbl hbA hS (in_of h237) d_Y_law_907 ?_
        refine lv_aload_n hx hb d_Y_law_908 rfl (lv_at hl 0 rfl) ?_
        refine lv_iload hx hb d_Y_law_909 (lv_at hl 4 rfl) ?_
        refine lv_iconst (v := 2) hx hb d_Y_law_911 (by decide) ?_
        refine lv_iadd hx hb d_Y_law_912 ?_
        obtain ⟨h238, hF⟩ := as_u hF
        refine va_sld hx hb hX hbl hbA hS (in_of h238) d_Y_law_913 ?_
        obtain ⟨r239, h240, hF⟩ := bs_u hF
        refine k_vp (ad 0 0) [.int (xs ((x4 + 1)).toNatClampNeg), .int (xs ((x4 + 2)).toNatClampNeg)] [] ⟨hx, hb, hml, hown, hts⟩ (c_H_decided l D ad ca hD0 (z := z) (u := u)  h240) (w_H_decided hts a_323 ⟨Nat.le_trans (Nat.le_of_ble_eq_true rfl) hRf, Nat.le_trans (Nat.le_of_ble_eq_true rfl) hRl⟩) (rv_H hK hP (by decide)) hP hK rfl rfl hl.1 (Nat.le_of_ble_eq_true rfl) ⟨by omega, by omega⟩ d_Y_law_914 ?_
        refine lv_aload_n hx hb d_Y_law_917 rfl (lv_at hl 2 rfl) ?_
        refine lv_aload_n hx hb d_Y_law_918 rfl (lv_at hl 0 rfl) ?_
        refine lv_iload hx hb d_Y_law_919 (lv_at hl 4 rfl) ?_
        refine lv_iconst (v := 1) hx hb d_Y_law_921 (by decide) ?_
        refine lv_iadd hx hb d_Y_law_922 ?_
        obtain ⟨h241, hF⟩ := as_u hF
        refine va_sld hx hb hX hbl hbA hS (in_of h241) d_Y_law_923 ?_
        refine lv_aload_n hx hb d_Y_law_924 rfl (lv_at hl 0 rfl) ?_
        refine lv_iload hx hb d_Y_law_925 (lv_at hl 4 rfl) ?_
        refine lv_iconst (v := 2) hx hb d_Y_law_927 (by decide) ?_
        refine lv_iadd hx hb d_Y_law_928 ?_
        obtain ⟨h242, hF⟩ := as_u hF
        refine va_sld hx hb hX hbl hbA hS (in_of h242) d_Y_law_929 ?_
        obtain ⟨r243, z245, h244, hF⟩ := bd_u hF
        refine k_vi (ad 14 0) [.int (xs ((x4 + 1)).toNatClampNeg), .int (xs ((x4 + 2)).toNatClampNeg)] [.int r239] ⟨hx, hb, hml, hown, hts⟩ (c_Z_decided l D ad ca hD0 (z := z) (u := u)  h244) (w_Z_decided hts a_815 ⟨Nat.le_trans (Nat.le_of_ble_eq_true rfl) hRf, Nat.le_trans (Nat.le_of_ble_eq_true rfl) hRl⟩) (rv_Z hK hP (by decide)) hP hK hS hAA rfl rfl hl.1 (Nat.le_of_ble_eq_true rfl) ⟨by omega, by omega⟩ d_Y_law_930 (fun H locs hP hS => ?_)
        refine lv_icmp_eq (tgt := 1024) hx hb d_Y_law_933 (by decide) (fun h246 => ?_) (fun h246 => ?_)
        · have hF := it_t hF h246
          refine lv_iinc (k := 4) (v := (x4 + 5)) (lv' := [(4, .int (x4 + 5)), (0, .ref sb), (1, .ref (ad 0 0)), (2, .ref (ad 14 0)), (3, .ref (ad 43 0))]) hx hb d_Y_law_1024 hl rfl rfl (by decide) rfl (fun ls hl => ?_)
          refine lv_goto (tgt := 23) hx hb d_Y_law_1027 (by decide) ?_
          exact ih u z245 (x4 + 5)  _ _ hF (by omega) (by omega) _ _ _ hP hS (lv_sub hl [1, 2, 3, 4, 0] rfl)
        · have hF := it_f hF h246
          refine lv_iconst (v := 0) hx hb d_Y_law_936 (by decide) ?_
          have hF := rt1 hF
          subst hF
          exact hend _ _ _ _ _ _ hS (by omega) (by omega) d_Y_law_937
      have hF := it_f hF h236
      by_cases h247 : ((xs (x4).toNatClampNeg) &&& 31) = 20
      · have hF := it_t hF h247
        refine lv_tableIn (tgt := 938) hx hb d_Y_law_39 (by rw [h247]; decide) (by rw [h247]; decide) (by rw [h247]; rfl) (by decide) ?_
        refine lv_aload_n hx hb d_Y_law_938 rfl (lv_at hl 1 rfl) ?_
        refine lv_aload_n hx hb d_Y_law_939 rfl (lv_at hl 0 rfl) ?_
        refine lv_iload hx hb d_Y_law_940 (lv_at hl 4 rfl) ?_
        refine lv_iconst (v := 1) hx hb d_Y_law_942 (by decide) ?_
        refine lv_iadd hx hb d_Y_law_943 ?_
        obtain ⟨h248, hF⟩ := as_u hF
        refine va_sld hx hb hX hbl hbA hS (in_of h248) d_Y_law_944 ?_
        obtain ⟨r249, h250, hF⟩ := bs_u hF
        refine k_vp (ad 0 0) [.int (xs ((x4 + 1)).toNatClampNeg)] [] ⟨hx, hb, hml, hown, hts⟩ (c_H_complete l D ad ca hD0 (z := z) (u := u)  h250) (w_H_complete hts a_327 ⟨Nat.le_trans (Nat.le_of_ble_eq_true rfl) hRf, Nat.le_trans (Nat.le_of_ble_eq_true rfl) hRl⟩) (rv_H hK hP (by decide)) hP hK rfl rfl hl.1 (Nat.le_of_ble_eq_true rfl) ⟨by omega, by omega⟩ d_Y_law_945 ?_
        refine lv_aload_n hx hb d_Y_law_948 rfl (lv_at hl 2 rfl) ?_
        refine lv_aload_n hx hb d_Y_law_949 rfl (lv_at hl 0 rfl) ?_
        refine lv_iload hx hb d_Y_law_950 (lv_at hl 4 rfl) ?_
        refine lv_iconst (v := 1) hx hb d_Y_law_952 (by decide) ?_
        refine lv_iadd hx hb d_Y_law_953 ?_
        obtain ⟨h251, hF⟩ := as_u hF
        refine va_sld hx hb hX hbl hbA hS (in_of h251) d_Y_law_954 ?_
        obtain ⟨r252, z254, h253, hF⟩ := bd_u hF
        refine k_vi (ad 14 0) [.int (xs ((x4 + 1)).toNatClampNeg)] [.int r249] ⟨hx, hb, hml, hown, hts⟩ (c_Z_complete l D ad ca hD0 (z := z) (u := u)  h253) (w_Z_complete hts a_819 ⟨Nat.le_trans (Nat.le_of_ble_eq_true rfl) hRf, Nat.le_trans (Nat.le_of_ble_eq_true rfl) hRl⟩) (rv_Z hK hP (by decide)) hP hK hS hAA rfl rfl hl.1 (Nat.le_of_ble_eq_true rfl) ⟨by omega, by omega⟩ d_Y_law_955 (fun H locs hP hS => ?_)
        refine lv_icmp_eq (tgt := 1024) hx hb d_Y_law_958 (by decide) (fun h255 => ?_) (fun h255 => ?_)
        · have hF := it_t hF h255
          refine lv_iinc (k := 4) (v := (x4 + 5)) (lv' := [(4, .int (x4 + 5)), (0, .ref sb), (1, .ref (ad 0 0)), (2, .ref (ad 14 0)), (3, .ref (ad 43 0))]) hx hb d_Y_law_1024 hl rfl rfl (by decide) rfl (fun ls hl => ?_)
          refine lv_goto (tgt := 23) hx hb d_Y_law_1027 (by decide) ?_
          exact ih u z254 (x4 + 5)  _ _ hF (by omega) (by omega) _ _ _ hP hS (lv_sub hl [1, 2, 3, 4, 0] rfl)
        · have hF := it_f hF h255
          refine lv_iconst (v := 0) hx hb d_Y_law_961 (by decide) ?_
          have hF := rt1 hF
          subst hF
          exact hend _ _ _ _ _ _ hS (by omega) (by omega) d_Y_law_962
      have hF := it_f hF h247
      by_cases h256 : ((xs (x4).toNatClampNeg) &&& 31) = 21
      · have hF := it_t hF h256
        refine lv_tableIn (tgt := 963) hx hb d_Y_law_39 (by rw [h256]; decide) (by rw [h256]; decide) (by rw [h256]; rfl) (by decide) ?_
        refine lv_aload_n hx hb d_Y_law_963 rfl (lv_at hl 1 rfl) ?_
        refine lv_aload_n hx hb d_Y_law_964 rfl (lv_at hl 0 rfl) ?_
        refine lv_iload hx hb d_Y_law_965 (lv_at hl 4 rfl) ?_
        refine lv_iconst (v := 1) hx hb d_Y_law_967 (by decide) ?_
        refine lv_iadd hx hb d_Y_law_968 ?_
        obtain ⟨h257, hF⟩ := as_u hF
        refine va_sld hx hb hX hbl hbA hS (in_of h257) d_Y_law_969 ?_
        refine lv_aload_n hx hb d_Y_law_970 rfl (lv_at hl 0 rfl) ?_
        refine lv_iload hx hb d_Y_law_971 (lv_at hl 4 rfl) ?_
        refine lv_iconst (v := 2) hx hb d_Y_law_973 (by decide) ?_
        refine lv_iadd hx hb d_Y_law_974 ?_
        obtain ⟨h258, hF⟩ := as_u hF
        refine va_sld hx hb hX hbl hbA hS (in_of h258) d_Y_law_975 ?_
        refine lv_aload_n hx hb d_Y_law_976 rfl (lv_at hl 0 rfl) ?_
        refine lv_iload hx hb d_Y_law_977 (lv_at hl 4 rfl) ?_
        refine lv_iconst (v := 3) hx hb d_Y_law_979 (by decide) ?_
        refine lv_iadd hx hb d_Y_law_980 ?_
        obtain ⟨h259, hF⟩ := as_u hF
        refine va_sld hx hb hX hbl hbA hS (in_of h259) d_Y_law_981 ?_
        refine lv_aload_n hx hb d_Y_law_982 rfl (lv_at hl 0 rfl) ?_
        refine lv_iload hx hb d_Y_law_983 (lv_at hl 4 rfl) ?_
        refine lv_iconst (v := 4) hx hb d_Y_law_985 (by decide) ?_
        refine lv_iadd hx hb d_Y_law_986 ?_
        obtain ⟨h260, hF⟩ := as_u hF
        refine va_sld hx hb hX hbl hbA hS (in_of h260) d_Y_law_987 ?_
        obtain ⟨r261, h262, hF⟩ := bs_u hF
        refine k_vp (ad 0 0) [.int (xs ((x4 + 1)).toNatClampNeg), .int (xs ((x4 + 2)).toNatClampNeg), .int (xs ((x4 + 3)).toNatClampNeg), .int (xs ((x4 + 4)).toNatClampNeg)] [] ⟨hx, hb, hml, hown, hts⟩ (c_H_rate l D ad ca hD0 (z := z) (u := u)  h262) (w_H_rate hts a_335 ⟨Nat.le_trans (Nat.le_of_ble_eq_true rfl) hRf, Nat.le_trans (Nat.le_of_ble_eq_true rfl) hRl⟩) (rv_H hK hP (by decide)) hP hK rfl rfl hl.1 (Nat.le_of_ble_eq_true rfl) ⟨by omega, by omega⟩ d_Y_law_988 ?_
        refine lv_aload_n hx hb d_Y_law_991 rfl (lv_at hl 2 rfl) ?_
        refine lv_aload_n hx hb d_Y_law_992 rfl (lv_at hl 0 rfl) ?_
        refine lv_iload hx hb d_Y_law_993 (lv_at hl 4 rfl) ?_
        refine lv_iconst (v := 1) hx hb d_Y_law_995 (by decide) ?_
        refine lv_iadd hx hb d_Y_law_996 ?_
        obtain ⟨h263, hF⟩ := as_u hF
        refine va_sld hx hb hX hbl hbA hS (in_of h263) d_Y_law_997 ?_
        refine lv_aload_n hx hb d_Y_law_998 rfl (lv_at hl 0 rfl) ?_
        refine lv_iload hx hb d_Y_law_999 (lv_at hl 4 rfl) ?_
        refine lv_iconst (v := 2) hx hb d_Y_law_1001 (by decide) ?_
        refine lv_iadd hx hb d_Y_law_1002 ?_
        obtain ⟨h264, hF⟩ := as_u hF
        refine va_sld hx hb hX hbl hbA hS (in_of h264) d_Y_law_1003 ?_
        refine lv_aload_n hx hb d_Y_law_1004 rfl (lv_at hl 0 rfl) ?_
        refine lv_iload hx hb d_Y_law_1005 (lv_at hl 4 rfl) ?_
        refine lv_iconst (v := 3) hx hb d_Y_law_1007 (by decide) ?_
        refine lv_iadd hx hb d_Y_law_1008 ?_
        obtain ⟨h265, hF⟩ := as_u hF
        refine va_sld hx hb hX hbl hbA hS (in_of h265) d_Y_law_1009 ?_
        refine lv_aload_n hx hb d_Y_law_1010 rfl (lv_at hl 0 rfl) ?_
        refine lv_iload hx hb d_Y_law_1011 (lv_at hl 4 rfl) ?_
        refine lv_iconst (v := 4) hx hb d_Y_law_1013 (by decide) ?_
        refine lv_iadd hx hb d_Y_law_1014 ?_
        obtain ⟨h266, hF⟩ := as_u hF
        refine va_sld hx hb hX hbl hbA hS (in_of h266) d_Y_law_1015 ?_
        obtain ⟨r267, z269, h268, hF⟩ := bd_u hF
        refine k_vi (ad 14 0) [.int (xs ((x4 + 1)).toNatClampNeg), .int (xs ((x4 + 2)).toNatClampNeg), .int (xs ((x4 + 3)).toNatClampNeg), .int (xs ((x4 + 4)).toNatClampNeg)] [.int r261] ⟨hx, hb, hml, hown, hts⟩ (c_Z_rate l D ad ca hD0 (z := z) (u := u)  h268) (w_Z_rate hts a_823 ⟨Nat.le_trans (Nat.le_of_ble_eq_true rfl) hRf, Nat.le_trans (Nat.le_of_ble_eq_true rfl) hRl⟩) (rv_Z hK hP (by decide)) hP hK hS hAA rfl rfl hl.1 (Nat.le_of_ble_eq_true rfl) ⟨by omega, by omega⟩ d_Y_law_1016 (fun H locs hP hS => ?_)
        refine lv_icmp_eq (tgt := 1024) hx hb d_Y_law_1019 (by decide) (fun h270 => ?_) (fun h270 => ?_)
        · have hF := it_t hF h270
          refine lv_iinc (k := 4) (v := (x4 + 5)) (lv' := [(4, .int (x4 + 5)), (0, .ref sb), (1, .ref (ad 0 0)), (2, .ref (ad 14 0)), (3, .ref (ad 43 0))]) hx hb d_Y_law_1024 hl rfl rfl (by decide) rfl (fun ls hl => ?_)
          refine lv_goto (tgt := 23) hx hb d_Y_law_1027 (by decide) ?_
          exact ih u z269 (x4 + 5)  _ _ hF (by omega) (by omega) _ _ _ hP hS (lv_sub hl [1, 2, 3, 4, 0] rfl)
        · have hF := it_f hF h270
          refine lv_iconst (v := 0) hx hb d_Y_law_1022 (by decide) ?_
          have hF := rt1 hF
          subst hF
          exact hend _ _ _ _ _ _ hS (by omega) (by omega) d_Y_law_1023
      have hF := it_f hF h256
      refine lv_tableOut (tgt := 1024) hx hb d_Y_law_39 (sw_0_21 h3 h15 h29 h44 h61 h76 h91 h98 h115 h130 h140 h150 h160 h170 h179 h188 h205 h216 h225 h236 h247 h256) (by decide) ?_
      refine lv_iinc (k := 4) (v := (x4 + 5)) (lv' := [(4, .int (x4 + 5)), (0, .ref sb), (1, .ref (ad 0 0)), (2, .ref (ad 14 0)), (3, .ref (ad 43 0))]) hx hb d_Y_law_1024 hl rfl rfl (by decide) rfl (fun ls hl => ?_)
      refine lv_goto (tgt := 23) hx hb d_Y_law_1027 (by decide) ?_
      exact ih u z (x4 + 5)  _ _ hF (by omega) (by omega) _ _ _ hP hS (lv_sub hl [1, 2, 3, 4, 0] rfl)
