theorem d_L_law_0 : decode cL_law 0 = .ok (.new 8, 3) := by decide +kernel
theorem d_L_law_3 : decode cL_law 3 = .ok (.dup, 1) := by decide +kernel
theorem d_L_law_4 : decode cL_law 4 = .ok (.invokespecial 81, 3) := by decide +kernel
theorem d_L_law_7 : decode cL_law 7 = .ok (.astore_n 1, 1) := by decide +kernel
theorem d_L_law_8 : decode cL_law 8 = .ok (.new 82, 3) := by decide +kernel
theorem d_L_law_11 : decode cL_law 11 = .ok (.dup, 1) := by decide +kernel
theorem d_L_law_12 : decode cL_law 12 = .ok (.invokespecial 84, 3) := by decide +kernel
theorem d_L_law_15 : decode cL_law 15 = .ok (.astore_n 2, 1) := by decide +kernel
theorem d_L_law_16 : decode cL_law 16 = .ok (.iconst 1, 1) := by decide +kernel
theorem d_L_law_17 : decode cL_law 17 = .ok (.newarray .long, 2) := by decide +kernel
theorem d_L_law_19 : decode cL_law 19 = .ok (.astore_n 3, 1) := by decide +kernel
theorem d_L_law_20 : decode cL_law 20 = .ok (.iconst 0, 1) := by decide +kernel
theorem d_L_law_21 : decode cL_law 21 = .ok (.istore 4, 2) := by decide +kernel
theorem d_L_law_23 : decode cL_law 23 = .ok (.iload 4, 2) := by decide +kernel
theorem d_L_law_25 : decode cL_law 25 = .ok (.aload_n 0, 1) := by decide +kernel
theorem d_L_law_26 : decode cL_law 26 = .ok (.arraylength, 1) := by decide +kernel
theorem d_L_law_27 : decode cL_law 27 = .ok (.iconst 5, 1) := by decide +kernel
theorem d_L_law_28 : decode cL_law 28 = .ok (.isub, 1) := by decide +kernel
theorem d_L_law_29 : decode cL_law 29 = .ok (.if_icmp .gt 1633, 3) := by decide +kernel
theorem d_L_law_32 : decode cL_law 32 = .ok (.aload_n 0, 1) := by decide +kernel
theorem d_L_law_33 : decode cL_law 33 = .ok (.iload 4, 2) := by decide +kernel
theorem d_L_law_35 : decode cL_law 35 = .ok (.iaload, 1) := by decide +kernel
theorem d_L_law_36 : decode cL_law 36 = .ok (.bipush 31, 2) := by decide +kernel
theorem d_L_law_38 : decode cL_law 38 = .ok (.iand, 1) := by decide +kernel
theorem d_L_law_39 : decode cL_law 39 = .ok (.tableswitch 1617 0 20 #[97, 165, 233, 336, 427, 542, 610, 678, 691, 747, 760, 848, 963, 1019, 1087, 1155, 1247, 1315, 1418, 1481, 1561], 97) := by decide +kernel
theorem d_L_law_136 : decode cL_law 136 = .ok (.aload_n 1, 1) := by decide +kernel
theorem d_L_law_137 : decode cL_law 137 = .ok (.aload_n 0, 1) := by decide +kernel
theorem d_L_law_138 : decode cL_law 138 = .ok (.iload 4, 2) := by decide +kernel
theorem d_L_law_140 : decode cL_law 140 = .ok (.iconst 1, 1) := by decide +kernel
theorem d_L_law_141 : decode cL_law 141 = .ok (.iadd, 1) := by decide +kernel
theorem d_L_law_142 : decode cL_law 142 = .ok (.iaload, 1) := by decide +kernel
theorem d_L_law_143 : decode cL_law 143 = .ok (.aload_n 0, 1) := by decide +kernel
theorem d_L_law_144 : decode cL_law 144 = .ok (.iload 4, 2) := by decide +kernel
theorem d_L_law_146 : decode cL_law 146 = .ok (.iconst 2, 1) := by decide +kernel
theorem d_L_law_147 : decode cL_law 147 = .ok (.iadd, 1) := by decide +kernel
theorem d_L_law_148 : decode cL_law 148 = .ok (.iaload, 1) := by decide +kernel
theorem d_L_law_149 : decode cL_law 149 = .ok (.aload_n 3, 1) := by decide +kernel
theorem d_L_law_150 : decode cL_law 150 = .ok (.invokestatic 85, 3) := by decide +kernel
theorem d_L_law_153 : decode cL_law 153 = .ok (.istore 5, 2) := by decide +kernel
theorem d_L_law_155 : decode cL_law 155 = .ok (.aload_n 2, 1) := by decide +kernel
theorem d_L_law_156 : decode cL_law 156 = .ok (.aload_n 0, 1) := by decide +kernel
theorem d_L_law_157 : decode cL_law 157 = .ok (.iload 4, 2) := by decide +kernel
theorem d_L_law_159 : decode cL_law 159 = .ok (.iconst 1, 1) := by decide +kernel
theorem d_L_law_160 : decode cL_law 160 = .ok (.iadd, 1) := by decide +kernel
theorem d_L_law_161 : decode cL_law 161 = .ok (.iaload, 1) := by decide +kernel
theorem d_L_law_162 : decode cL_law 162 = .ok (.aload_n 0, 1) := by decide +kernel
theorem d_L_law_163 : decode cL_law 163 = .ok (.iload 4, 2) := by decide +kernel
theorem d_L_law_165 : decode cL_law 165 = .ok (.iconst 2, 1) := by decide +kernel
theorem d_L_law_166 : decode cL_law 166 = .ok (.iadd, 1) := by decide +kernel
theorem d_L_law_167 : decode cL_law 167 = .ok (.iaload, 1) := by decide +kernel
theorem d_L_law_168 : decode cL_law 168 = .ok (.invokevirtual 90, 3) := by decide +kernel
theorem d_L_law_171 : decode cL_law 171 = .ok (.istore 6, 2) := by decide +kernel
theorem d_L_law_173 : decode cL_law 173 = .ok (.aload_n 2, 1) := by decide +kernel
theorem d_L_law_174 : decode cL_law 174 = .ok (.invokevirtual 91, 3) := by decide +kernel
theorem d_L_law_177 : decode cL_law 177 = .ok (.iload 5, 2) := by decide +kernel
theorem d_L_law_179 : decode cL_law 179 = .ok (.if_icmp .eq 5, 3) := by decide +kernel
theorem d_L_law_182 : decode cL_law 182 = .ok (.iconst 0, 1) := by decide +kernel
theorem d_L_law_183 : decode cL_law 183 = .ok (.ireturn, 1) := by decide +kernel
theorem d_L_law_184 : decode cL_law 184 = .ok (.iload 5, 2) := by decide +kernel
theorem d_L_law_186 : decode cL_law 186 = .ok (.ifCond .ne 15, 3) := by decide +kernel
theorem d_L_law_189 : decode cL_law 189 = .ok (.aload_n 3, 1) := by decide +kernel
theorem d_L_law_190 : decode cL_law 190 = .ok (.iconst 0, 1) := by decide +kernel
theorem d_L_law_191 : decode cL_law 191 = .ok (.laload, 1) := by decide +kernel
theorem d_L_law_192 : decode cL_law 192 = .ok (.iload 6, 2) := by decide +kernel
theorem d_L_law_194 : decode cL_law 194 = .ok (.i2l, 1) := by decide +kernel
theorem d_L_law_195 : decode cL_law 195 = .ok (.lcmp, 1) := by decide +kernel
theorem d_L_law_196 : decode cL_law 196 = .ok (.ifCond .eq 5, 3) := by decide +kernel
theorem d_L_law_199 : decode cL_law 199 = .ok (.iconst 0, 1) := by decide +kernel
theorem d_L_law_200 : decode cL_law 200 = .ok (.ireturn, 1) := by decide +kernel
theorem d_L_law_201 : decode cL_law 201 = .ok (.goto 1455, 3) := by decide +kernel
theorem d_L_law_204 : decode cL_law 204 = .ok (.aload_n 1, 1) := by decide +kernel
theorem d_L_law_205 : decode cL_law 205 = .ok (.aload_n 0, 1) := by decide +kernel
theorem d_L_law_206 : decode cL_law 206 = .ok (.iload 4, 2) := by decide +kernel
theorem d_L_law_208 : decode cL_law 208 = .ok (.iconst 1, 1) := by decide +kernel
theorem d_L_law_209 : decode cL_law 209 = .ok (.iadd, 1) := by decide +kernel
theorem d_L_law_210 : decode cL_law 210 = .ok (.iaload, 1) := by decide +kernel
theorem d_L_law_211 : decode cL_law 211 = .ok (.aload_n 0, 1) := by decide +kernel
theorem d_L_law_212 : decode cL_law 212 = .ok (.iload 4, 2) := by decide +kernel
theorem d_L_law_214 : decode cL_law 214 = .ok (.iconst 2, 1) := by decide +kernel
theorem d_L_law_215 : decode cL_law 215 = .ok (.iadd, 1) := by decide +kernel
theorem d_L_law_216 : decode cL_law 216 = .ok (.iaload, 1) := by decide +kernel
theorem d_L_law_217 : decode cL_law 217 = .ok (.aload_n 3, 1) := by decide +kernel
theorem d_L_law_218 : decode cL_law 218 = .ok (.invokestatic 95, 3) := by decide +kernel
theorem d_L_law_221 : decode cL_law 221 = .ok (.istore 5, 2) := by decide +kernel
theorem d_L_law_223 : decode cL_law 223 = .ok (.aload_n 2, 1) := by decide +kernel
theorem d_L_law_224 : decode cL_law 224 = .ok (.aload_n 0, 1) := by decide +kernel
theorem d_L_law_225 : decode cL_law 225 = .ok (.iload 4, 2) := by decide +kernel
theorem d_L_law_227 : decode cL_law 227 = .ok (.iconst 1, 1) := by decide +kernel
theorem d_L_law_228 : decode cL_law 228 = .ok (.iadd, 1) := by decide +kernel
theorem d_L_law_229 : decode cL_law 229 = .ok (.iaload, 1) := by decide +kernel
theorem d_L_law_230 : decode cL_law 230 = .ok (.aload_n 0, 1) := by decide +kernel
theorem d_L_law_231 : decode cL_law 231 = .ok (.iload 4, 2) := by decide +kernel
theorem d_L_law_233 : decode cL_law 233 = .ok (.iconst 2, 1) := by decide +kernel
theorem d_L_law_234 : decode cL_law 234 = .ok (.iadd, 1) := by decide +kernel
theorem d_L_law_235 : decode cL_law 235 = .ok (.iaload, 1) := by decide +kernel
theorem d_L_law_236 : decode cL_law 236 = .ok (.invokevirtual 97, 3) := by decide +kernel
theorem d_L_law_239 : decode cL_law 239 = .ok (.istore 6, 2) := by decide +kernel
theorem d_L_law_241 : decode cL_law 241 = .ok (.aload_n 2, 1) := by decide +kernel
theorem d_L_law_242 : decode cL_law 242 = .ok (.invokevirtual 91, 3) := by decide +kernel
theorem d_L_law_245 : decode cL_law 245 = .ok (.iload 5, 2) := by decide +kernel
theorem d_L_law_247 : decode cL_law 247 = .ok (.if_icmp .eq 5, 3) := by decide +kernel
theorem d_L_law_250 : decode cL_law 250 = .ok (.iconst 0, 1) := by decide +kernel
theorem d_L_law_251 : decode cL_law 251 = .ok (.ireturn, 1) := by decide +kernel
theorem d_L_law_252 : decode cL_law 252 = .ok (.iload 5, 2) := by decide +kernel
theorem d_L_law_254 : decode cL_law 254 = .ok (.ifCond .ne 15, 3) := by decide +kernel
theorem d_L_law_257 : decode cL_law 257 = .ok (.aload_n 3, 1) := by decide +kernel
theorem d_L_law_258 : decode cL_law 258 = .ok (.iconst 0, 1) := by decide +kernel
theorem d_L_law_259 : decode cL_law 259 = .ok (.laload, 1) := by decide +kernel
theorem d_L_law_260 : decode cL_law 260 = .ok (.iload 6, 2) := by decide +kernel
theorem d_L_law_262 : decode cL_law 262 = .ok (.i2l, 1) := by decide +kernel
theorem d_L_law_263 : decode cL_law 263 = .ok (.lcmp, 1) := by decide +kernel
theorem d_L_law_264 : decode cL_law 264 = .ok (.ifCond .eq 5, 3) := by decide +kernel
theorem d_L_law_267 : decode cL_law 267 = .ok (.iconst 0, 1) := by decide +kernel
theorem d_L_law_268 : decode cL_law 268 = .ok (.ireturn, 1) := by decide +kernel
theorem d_L_law_269 : decode cL_law 269 = .ok (.goto 1387, 3) := by decide +kernel
theorem d_L_law_272 : decode cL_law 272 = .ok (.aload_n 1, 1) := by decide +kernel
theorem d_L_law_273 : decode cL_law 273 = .ok (.aload_n 0, 1) := by decide +kernel
theorem d_L_law_274 : decode cL_law 274 = .ok (.iload 4, 2) := by decide +kernel
theorem d_L_law_276 : decode cL_law 276 = .ok (.iconst 1, 1) := by decide +kernel
theorem d_L_law_277 : decode cL_law 277 = .ok (.iadd, 1) := by decide +kernel
theorem d_L_law_278 : decode cL_law 278 = .ok (.iaload, 1) := by decide +kernel
theorem d_L_law_279 : decode cL_law 279 = .ok (.aload_n 0, 1) := by decide +kernel
theorem d_L_law_280 : decode cL_law 280 = .ok (.iload 4, 2) := by decide +kernel
theorem d_L_law_282 : decode cL_law 282 = .ok (.iconst 2, 1) := by decide +kernel
theorem d_L_law_283 : decode cL_law 283 = .ok (.iadd, 1) := by decide +kernel
theorem d_L_law_284 : decode cL_law 284 = .ok (.iaload, 1) := by decide +kernel
theorem d_L_law_285 : decode cL_law 285 = .ok (.aload_n 0, 1) := by decide +kernel
theorem d_L_law_286 : decode cL_law 286 = .ok (.iload 4, 2) := by decide +kernel
theorem d_L_law_288 : decode cL_law 288 = .ok (.iconst 3, 1) := by decide +kernel
theorem d_L_law_289 : decode cL_law 289 = .ok (.iadd, 1) := by decide +kernel
theorem d_L_law_290 : decode cL_law 290 = .ok (.iaload, 1) := by decide +kernel
theorem d_L_law_291 : decode cL_law 291 = .ok (.ifCond .eq 7, 3) := by decide +kernel
theorem d_L_law_294 : decode cL_law 294 = .ok (.iconst 1, 1) := by decide +kernel
theorem d_L_law_295 : decode cL_law 295 = .ok (.goto 4, 3) := by decide +kernel
theorem d_L_law_298 : decode cL_law 298 = .ok (.iconst 0, 1) := by decide +kernel
theorem d_L_law_299 : decode cL_law 299 = .ok (.aload_n 3, 1) := by decide +kernel
theorem d_L_law_300 : decode cL_law 300 = .ok (.invokestatic 98, 3) := by decide +kernel
theorem d_L_law_303 : decode cL_law 303 = .ok (.istore 5, 2) := by decide +kernel
theorem d_L_law_305 : decode cL_law 305 = .ok (.aload_n 2, 1) := by decide +kernel
theorem d_L_law_306 : decode cL_law 306 = .ok (.aload_n 0, 1) := by decide +kernel
theorem d_L_law_307 : decode cL_law 307 = .ok (.iload 4, 2) := by decide +kernel
theorem d_L_law_309 : decode cL_law 309 = .ok (.iconst 1, 1) := by decide +kernel
theorem d_L_law_310 : decode cL_law 310 = .ok (.iadd, 1) := by decide +kernel
theorem d_L_law_311 : decode cL_law 311 = .ok (.iaload, 1) := by decide +kernel
theorem d_L_law_312 : decode cL_law 312 = .ok (.aload_n 0, 1) := by decide +kernel
theorem d_L_law_313 : decode cL_law 313 = .ok (.iload 4, 2) := by decide +kernel
theorem d_L_law_315 : decode cL_law 315 = .ok (.iconst 2, 1) := by decide +kernel
theorem d_L_law_316 : decode cL_law 316 = .ok (.iadd, 1) := by decide +kernel
theorem d_L_law_317 : decode cL_law 317 = .ok (.iaload, 1) := by decide +kernel
theorem d_L_law_318 : decode cL_law 318 = .ok (.aload_n 0, 1) := by decide +kernel
theorem d_L_law_319 : decode cL_law 319 = .ok (.iload 4, 2) := by decide +kernel
theorem d_L_law_321 : decode cL_law 321 = .ok (.iconst 3, 1) := by decide +kernel
theorem d_L_law_322 : decode cL_law 322 = .ok (.iadd, 1) := by decide +kernel
theorem d_L_law_323 : decode cL_law 323 = .ok (.iaload, 1) := by decide +kernel
theorem d_L_law_324 : decode cL_law 324 = .ok (.ifCond .eq 7, 3) := by decide +kernel
theorem d_L_law_327 : decode cL_law 327 = .ok (.iconst 1, 1) := by decide +kernel
theorem d_L_law_328 : decode cL_law 328 = .ok (.goto 4, 3) := by decide +kernel
theorem d_L_law_331 : decode cL_law 331 = .ok (.iconst 0, 1) := by decide +kernel
theorem d_L_law_332 : decode cL_law 332 = .ok (.invokevirtual 101, 3) := by decide +kernel
theorem d_L_law_335 : decode cL_law 335 = .ok (.istore 6, 2) := by decide +kernel
theorem d_L_law_337 : decode cL_law 337 = .ok (.aload_n 2, 1) := by decide +kernel
theorem d_L_law_338 : decode cL_law 338 = .ok (.invokevirtual 91, 3) := by decide +kernel
theorem d_L_law_341 : decode cL_law 341 = .ok (.iload 5, 2) := by decide +kernel
theorem d_L_law_343 : decode cL_law 343 = .ok (.if_icmp .eq 5, 3) := by decide +kernel
theorem d_L_law_346 : decode cL_law 346 = .ok (.iconst 0, 1) := by decide +kernel
theorem d_L_law_347 : decode cL_law 347 = .ok (.ireturn, 1) := by decide +kernel
theorem d_L_law_348 : decode cL_law 348 = .ok (.iload 5, 2) := by decide +kernel
theorem d_L_law_350 : decode cL_law 350 = .ok (.ifCond .ne 22, 3) := by decide +kernel
theorem d_L_law_353 : decode cL_law 353 = .ok (.aload_n 3, 1) := by decide +kernel
theorem d_L_law_354 : decode cL_law 354 = .ok (.iconst 0, 1) := by decide +kernel
theorem d_L_law_355 : decode cL_law 355 = .ok (.laload, 1) := by decide +kernel
theorem d_L_law_356 : decode cL_law 356 = .ok (.iload 6, 2) := by decide +kernel
theorem d_L_law_358 : decode cL_law 358 = .ok (.ifCond .eq 7, 3) := by decide +kernel
theorem d_L_law_361 : decode cL_law 361 = .ok (.lconst 1, 1) := by decide +kernel
theorem d_L_law_362 : decode cL_law 362 = .ok (.goto 4, 3) := by decide +kernel
theorem d_L_law_365 : decode cL_law 365 = .ok (.lconst 0, 1) := by decide +kernel
theorem d_L_law_366 : decode cL_law 366 = .ok (.lcmp, 1) := by decide +kernel
theorem d_L_law_367 : decode cL_law 367 = .ok (.ifCond .eq 5, 3) := by decide +kernel
theorem d_L_law_370 : decode cL_law 370 = .ok (.iconst 0, 1) := by decide +kernel
theorem d_L_law_371 : decode cL_law 371 = .ok (.ireturn, 1) := by decide +kernel
theorem d_L_law_372 : decode cL_law 372 = .ok (.goto 1284, 3) := by decide +kernel
theorem d_L_law_375 : decode cL_law 375 = .ok (.aload_n 1, 1) := by decide +kernel
theorem d_L_law_376 : decode cL_law 376 = .ok (.aload_n 0, 1) := by decide +kernel
theorem d_L_law_377 : decode cL_law 377 = .ok (.iload 4, 2) := by decide +kernel
theorem d_L_law_379 : decode cL_law 379 = .ok (.iconst 1, 1) := by decide +kernel
theorem d_L_law_380 : decode cL_law 380 = .ok (.iadd, 1) := by decide +kernel
theorem d_L_law_381 : decode cL_law 381 = .ok (.iaload, 1) := by decide +kernel
theorem d_L_law_382 : decode cL_law 382 = .ok (.aload_n 0, 1) := by decide +kernel
theorem d_L_law_383 : decode cL_law 383 = .ok (.iload 4, 2) := by decide +kernel
theorem d_L_law_385 : decode cL_law 385 = .ok (.iconst 2, 1) := by decide +kernel
theorem d_L_law_386 : decode cL_law 386 = .ok (.iadd, 1) := by decide +kernel
theorem d_L_law_387 : decode cL_law 387 = .ok (.iaload, 1) := by decide +kernel
theorem d_L_law_388 : decode cL_law 388 = .ok (.ifCond .eq 7, 3) := by decide +kernel
theorem d_L_law_391 : decode cL_law 391 = .ok (.iconst 1, 1) := by decide +kernel
theorem d_L_law_392 : decode cL_law 392 = .ok (.goto 4, 3) := by decide +kernel
theorem d_L_law_395 : decode cL_law 395 = .ok (.iconst 0, 1) := by decide +kernel
theorem d_L_law_396 : decode cL_law 396 = .ok (.aload_n 3, 1) := by decide +kernel
theorem d_L_law_397 : decode cL_law 397 = .ok (.invokestatic 102, 3) := by decide +kernel
theorem d_L_law_400 : decode cL_law 400 = .ok (.istore 5, 2) := by decide +kernel
theorem d_L_law_402 : decode cL_law 402 = .ok (.aload_n 2, 1) := by decide +kernel
theorem d_L_law_403 : decode cL_law 403 = .ok (.aload_n 0, 1) := by decide +kernel
theorem d_L_law_404 : decode cL_law 404 = .ok (.iload 4, 2) := by decide +kernel
theorem d_L_law_406 : decode cL_law 406 = .ok (.iconst 1, 1) := by decide +kernel
theorem d_L_law_407 : decode cL_law 407 = .ok (.iadd, 1) := by decide +kernel
theorem d_L_law_408 : decode cL_law 408 = .ok (.iaload, 1) := by decide +kernel
theorem d_L_law_409 : decode cL_law 409 = .ok (.aload_n 0, 1) := by decide +kernel
theorem d_L_law_410 : decode cL_law 410 = .ok (.iload 4, 2) := by decide +kernel
theorem d_L_law_412 : decode cL_law 412 = .ok (.iconst 2, 1) := by decide +kernel
theorem d_L_law_413 : decode cL_law 413 = .ok (.iadd, 1) := by decide +kernel
theorem d_L_law_414 : decode cL_law 414 = .ok (.iaload, 1) := by decide +kernel
theorem d_L_law_415 : decode cL_law 415 = .ok (.ifCond .eq 7, 3) := by decide +kernel
theorem d_L_law_418 : decode cL_law 418 = .ok (.iconst 1, 1) := by decide +kernel
theorem d_L_law_419 : decode cL_law 419 = .ok (.goto 4, 3) := by decide +kernel
theorem d_L_law_422 : decode cL_law 422 = .ok (.iconst 0, 1) := by decide +kernel
theorem d_L_law_423 : decode cL_law 423 = .ok (.invokevirtual 105, 3) := by decide +kernel
theorem d_L_law_426 : decode cL_law 426 = .ok (.istore 6, 2) := by decide +kernel
theorem d_L_law_428 : decode cL_law 428 = .ok (.aload_n 2, 1) := by decide +kernel
theorem d_L_law_429 : decode cL_law 429 = .ok (.invokevirtual 91, 3) := by decide +kernel
theorem d_L_law_432 : decode cL_law 432 = .ok (.iload 5, 2) := by decide +kernel
theorem d_L_law_434 : decode cL_law 434 = .ok (.if_icmp .eq 5, 3) := by decide +kernel
theorem d_L_law_437 : decode cL_law 437 = .ok (.iconst 0, 1) := by decide +kernel
theorem d_L_law_438 : decode cL_law 438 = .ok (.ireturn, 1) := by decide +kernel
theorem d_L_law_439 : decode cL_law 439 = .ok (.iload 5, 2) := by decide +kernel
theorem d_L_law_441 : decode cL_law 441 = .ok (.ifCond .ne 22, 3) := by decide +kernel
theorem d_L_law_444 : decode cL_law 444 = .ok (.aload_n 3, 1) := by decide +kernel
theorem d_L_law_445 : decode cL_law 445 = .ok (.iconst 0, 1) := by decide +kernel
theorem d_L_law_446 : decode cL_law 446 = .ok (.laload, 1) := by decide +kernel
theorem d_L_law_447 : decode cL_law 447 = .ok (.iload 6, 2) := by decide +kernel
theorem d_L_law_449 : decode cL_law 449 = .ok (.ifCond .eq 7, 3) := by decide +kernel
theorem d_L_law_452 : decode cL_law 452 = .ok (.lconst 1, 1) := by decide +kernel
theorem d_L_law_453 : decode cL_law 453 = .ok (.goto 4, 3) := by decide +kernel
theorem d_L_law_456 : decode cL_law 456 = .ok (.lconst 0, 1) := by decide +kernel
theorem d_L_law_457 : decode cL_law 457 = .ok (.lcmp, 1) := by decide +kernel
theorem d_L_law_458 : decode cL_law 458 = .ok (.ifCond .eq 5, 3) := by decide +kernel
theorem d_L_law_461 : decode cL_law 461 = .ok (.iconst 0, 1) := by decide +kernel
theorem d_L_law_462 : decode cL_law 462 = .ok (.ireturn, 1) := by decide +kernel
theorem d_L_law_463 : decode cL_law 463 = .ok (.goto 1193, 3) := by decide +kernel
theorem d_L_law_466 : decode cL_law 466 = .ok (.aload_n 1, 1) := by decide +kernel
theorem d_L_law_467 : decode cL_law 467 = .ok (.aload_n 0, 1) := by decide +kernel
theorem d_L_law_468 : decode cL_law 468 = .ok (.iload 4, 2) := by decide +kernel
theorem d_L_law_470 : decode cL_law 470 = .ok (.iconst 1, 1) := by decide +kernel
theorem d_L_law_471 : decode cL_law 471 = .ok (.iadd, 1) := by decide +kernel
theorem d_L_law_472 : decode cL_law 472 = .ok (.iaload, 1) := by decide +kernel
theorem d_L_law_473 : decode cL_law 473 = .ok (.aload_n 0, 1) := by decide +kernel
theorem d_L_law_474 : decode cL_law 474 = .ok (.iload 4, 2) := by decide +kernel
theorem d_L_law_476 : decode cL_law 476 = .ok (.iconst 2, 1) := by decide +kernel
theorem d_L_law_477 : decode cL_law 477 = .ok (.iadd, 1) := by decide +kernel
theorem d_L_law_478 : decode cL_law 478 = .ok (.iaload, 1) := by decide +kernel
theorem d_L_law_479 : decode cL_law 479 = .ok (.aload_n 0, 1) := by decide +kernel
theorem d_L_law_480 : decode cL_law 480 = .ok (.iload 4, 2) := by decide +kernel
theorem d_L_law_482 : decode cL_law 482 = .ok (.iconst 3, 1) := by decide +kernel
theorem d_L_law_483 : decode cL_law 483 = .ok (.iadd, 1) := by decide +kernel
theorem d_L_law_484 : decode cL_law 484 = .ok (.iaload, 1) := by decide +kernel
theorem d_L_law_485 : decode cL_law 485 = .ok (.aload_n 0, 1) := by decide +kernel
theorem d_L_law_486 : decode cL_law 486 = .ok (.iload 4, 2) := by decide +kernel
theorem d_L_law_488 : decode cL_law 488 = .ok (.iconst 4, 1) := by decide +kernel
theorem d_L_law_489 : decode cL_law 489 = .ok (.iadd, 1) := by decide +kernel
theorem d_L_law_490 : decode cL_law 490 = .ok (.iaload, 1) := by decide +kernel
theorem d_L_law_491 : decode cL_law 491 = .ok (.ifCond .eq 7, 3) := by decide +kernel
theorem d_L_law_494 : decode cL_law 494 = .ok (.iconst 1, 1) := by decide +kernel
theorem d_L_law_495 : decode cL_law 495 = .ok (.goto 4, 3) := by decide +kernel
theorem d_L_law_498 : decode cL_law 498 = .ok (.iconst 0, 1) := by decide +kernel
theorem d_L_law_499 : decode cL_law 499 = .ok (.aload_n 3, 1) := by decide +kernel
theorem d_L_law_500 : decode cL_law 500 = .ok (.invokestatic 106, 3) := by decide +kernel
theorem d_L_law_503 : decode cL_law 503 = .ok (.istore 5, 2) := by decide +kernel
theorem d_L_law_505 : decode cL_law 505 = .ok (.aload_n 2, 1) := by decide +kernel
theorem d_L_law_506 : decode cL_law 506 = .ok (.aload_n 0, 1) := by decide +kernel
theorem d_L_law_507 : decode cL_law 507 = .ok (.iload 4, 2) := by decide +kernel
theorem d_L_law_509 : decode cL_law 509 = .ok (.iconst 1, 1) := by decide +kernel
theorem d_L_law_510 : decode cL_law 510 = .ok (.iadd, 1) := by decide +kernel
theorem d_L_law_511 : decode cL_law 511 = .ok (.iaload, 1) := by decide +kernel
theorem d_L_law_512 : decode cL_law 512 = .ok (.aload_n 0, 1) := by decide +kernel
theorem d_L_law_513 : decode cL_law 513 = .ok (.iload 4, 2) := by decide +kernel
theorem d_L_law_515 : decode cL_law 515 = .ok (.iconst 2, 1) := by decide +kernel
theorem d_L_law_516 : decode cL_law 516 = .ok (.iadd, 1) := by decide +kernel
theorem d_L_law_517 : decode cL_law 517 = .ok (.iaload, 1) := by decide +kernel
theorem d_L_law_518 : decode cL_law 518 = .ok (.aload_n 0, 1) := by decide +kernel
theorem d_L_law_519 : decode cL_law 519 = .ok (.iload 4, 2) := by decide +kernel
theorem d_L_law_521 : decode cL_law 521 = .ok (.iconst 3, 1) := by decide +kernel
theorem d_L_law_522 : decode cL_law 522 = .ok (.iadd, 1) := by decide +kernel
theorem d_L_law_523 : decode cL_law 523 = .ok (.iaload, 1) := by decide +kernel
theorem d_L_law_524 : decode cL_law 524 = .ok (.aload_n 0, 1) := by decide +kernel
theorem d_L_law_525 : decode cL_law 525 = .ok (.iload 4, 2) := by decide +kernel
theorem d_L_law_527 : decode cL_law 527 = .ok (.iconst 4, 1) := by decide +kernel
theorem d_L_law_528 : decode cL_law 528 = .ok (.iadd, 1) := by decide +kernel
theorem d_L_law_529 : decode cL_law 529 = .ok (.iaload, 1) := by decide +kernel
theorem d_L_law_530 : decode cL_law 530 = .ok (.ifCond .eq 7, 3) := by decide +kernel
theorem d_L_law_533 : decode cL_law 533 = .ok (.iconst 1, 1) := by decide +kernel
theorem d_L_law_534 : decode cL_law 534 = .ok (.goto 4, 3) := by decide +kernel
theorem d_L_law_537 : decode cL_law 537 = .ok (.iconst 0, 1) := by decide +kernel
theorem d_L_law_538 : decode cL_law 538 = .ok (.invokevirtual 109, 3) := by decide +kernel
theorem d_L_law_541 : decode cL_law 541 = .ok (.istore 6, 2) := by decide +kernel
theorem d_L_law_543 : decode cL_law 543 = .ok (.aload_n 2, 1) := by decide +kernel
theorem d_L_law_544 : decode cL_law 544 = .ok (.invokevirtual 91, 3) := by decide +kernel
theorem d_L_law_547 : decode cL_law 547 = .ok (.iload 5, 2) := by decide +kernel
theorem d_L_law_549 : decode cL_law 549 = .ok (.if_icmp .eq 5, 3) := by decide +kernel
theorem d_L_law_552 : decode cL_law 552 = .ok (.iconst 0, 1) := by decide +kernel
theorem d_L_law_553 : decode cL_law 553 = .ok (.ireturn, 1) := by decide +kernel
theorem d_L_law_554 : decode cL_law 554 = .ok (.iload 5, 2) := by decide +kernel
theorem d_L_law_556 : decode cL_law 556 = .ok (.ifCond .ne 22, 3) := by decide +kernel
theorem d_L_law_559 : decode cL_law 559 = .ok (.aload_n 3, 1) := by decide +kernel
theorem d_L_law_560 : decode cL_law 560 = .ok (.iconst 0, 1) := by decide +kernel
theorem d_L_law_561 : decode cL_law 561 = .ok (.laload, 1) := by decide +kernel
theorem d_L_law_562 : decode cL_law 562 = .ok (.iload 6, 2) := by decide +kernel
theorem d_L_law_564 : decode cL_law 564 = .ok (.ifCond .eq 7, 3) := by decide +kernel
theorem d_L_law_567 : decode cL_law 567 = .ok (.lconst 1, 1) := by decide +kernel
theorem d_L_law_568 : decode cL_law 568 = .ok (.goto 4, 3) := by decide +kernel
theorem d_L_law_571 : decode cL_law 571 = .ok (.lconst 0, 1) := by decide +kernel
theorem d_L_law_572 : decode cL_law 572 = .ok (.lcmp, 1) := by decide +kernel
theorem d_L_law_573 : decode cL_law 573 = .ok (.ifCond .eq 5, 3) := by decide +kernel
theorem d_L_law_576 : decode cL_law 576 = .ok (.iconst 0, 1) := by decide +kernel
theorem d_L_law_577 : decode cL_law 577 = .ok (.ireturn, 1) := by decide +kernel
theorem d_L_law_578 : decode cL_law 578 = .ok (.goto 1078, 3) := by decide +kernel
theorem d_L_law_581 : decode cL_law 581 = .ok (.aload_n 1, 1) := by decide +kernel
theorem d_L_law_582 : decode cL_law 582 = .ok (.aload_n 0, 1) := by decide +kernel
theorem d_L_law_583 : decode cL_law 583 = .ok (.iload 4, 2) := by decide +kernel
theorem d_L_law_585 : decode cL_law 585 = .ok (.iconst 1, 1) := by decide +kernel
theorem d_L_law_586 : decode cL_law 586 = .ok (.iadd, 1) := by decide +kernel
theorem d_L_law_587 : decode cL_law 587 = .ok (.iaload, 1) := by decide +kernel
theorem d_L_law_588 : decode cL_law 588 = .ok (.aload_n 0, 1) := by decide +kernel
theorem d_L_law_589 : decode cL_law 589 = .ok (.iload 4, 2) := by decide +kernel
theorem d_L_law_591 : decode cL_law 591 = .ok (.iconst 2, 1) := by decide +kernel
theorem d_L_law_592 : decode cL_law 592 = .ok (.iadd, 1) := by decide +kernel
theorem d_L_law_593 : decode cL_law 593 = .ok (.iaload, 1) := by decide +kernel
theorem d_L_law_594 : decode cL_law 594 = .ok (.aload_n 3, 1) := by decide +kernel
theorem d_L_law_595 : decode cL_law 595 = .ok (.invokestatic 110, 3) := by decide +kernel
theorem d_L_law_598 : decode cL_law 598 = .ok (.istore 5, 2) := by decide +kernel
theorem d_L_law_600 : decode cL_law 600 = .ok (.aload_n 2, 1) := by decide +kernel
theorem d_L_law_601 : decode cL_law 601 = .ok (.aload_n 0, 1) := by decide +kernel
theorem d_L_law_602 : decode cL_law 602 = .ok (.iload 4, 2) := by decide +kernel
theorem d_L_law_604 : decode cL_law 604 = .ok (.iconst 1, 1) := by decide +kernel
theorem d_L_law_605 : decode cL_law 605 = .ok (.iadd, 1) := by decide +kernel
theorem d_L_law_606 : decode cL_law 606 = .ok (.iaload, 1) := by decide +kernel
theorem d_L_law_607 : decode cL_law 607 = .ok (.aload_n 0, 1) := by decide +kernel
theorem d_L_law_608 : decode cL_law 608 = .ok (.iload 4, 2) := by decide +kernel
theorem d_L_law_610 : decode cL_law 610 = .ok (.iconst 2, 1) := by decide +kernel
theorem d_L_law_611 : decode cL_law 611 = .ok (.iadd, 1) := by decide +kernel
theorem d_L_law_612 : decode cL_law 612 = .ok (.iaload, 1) := by decide +kernel
theorem d_L_law_613 : decode cL_law 613 = .ok (.invokevirtual 112, 3) := by decide +kernel
theorem d_L_law_616 : decode cL_law 616 = .ok (.istore 6, 2) := by decide +kernel
