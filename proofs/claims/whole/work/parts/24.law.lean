/-! THE LAW: its rows, its loop as a formula. -/
abbrev M_law : zMI := (x, code, 4, ret)
theorem dL_law_0 : decode code 0 = .ok (.new 7, 3) := by decide +kernel
theorem dL_law_3 : decode code 3 = .ok (.dup, 1) := by decide +kernel
theorem dL_law_4 : decode code 4 = .ok (.invokespecial 9, 3) := by decide +kernel
theorem dL_law_7 : decode code 7 = .ok (.astore_n 1, 1) := by decide +kernel
theorem dL_law_8 : decode code 8 = .ok (.new 10, 3) := by decide +kernel
theorem dL_law_11 : decode code 11 = .ok (.dup, 1) := by decide +kernel
theorem dL_law_12 : decode code 12 = .ok (.invokespecial 12, 3) := by decide +kernel
theorem dL_law_15 : decode code 15 = .ok (.astore_n 2, 1) := by decide +kernel
theorem dL_law_16 : decode code 16 = .ok (.iconst 0, 1) := by decide +kernel
theorem dL_law_17 : decode code 17 = .ok (.istore_n 3, 1) := by decide +kernel
theorem dL_law_18 : decode code 18 = .ok (.iload_n 3, 1) := by decide +kernel
theorem dL_law_19 : decode code 19 = .ok (.aload_n 0, 1) := by decide +kernel
theorem dL_law_20 : decode code 20 = .ok (.arraylength, 1) := by decide +kernel
theorem dL_law_21 : decode code 21 = .ok (.iconst 3, 1) := by decide +kernel
theorem dL_law_22 : decode code 22 = .ok (.isub, 1) := by decide +kernel
theorem dL_law_23 : decode code 23 = .ok (.if_icmp .gt 843, 3) := by decide +kernel
theorem dL_law_26 : decode code 26 = .ok (.aload_n 0, 1) := by decide +kernel
theorem dL_law_27 : decode code 27 = .ok (.iload_n 3, 1) := by decide +kernel
theorem dL_law_28 : decode code 28 = .ok (.iaload, 1) := by decide +kernel
theorem dL_law_29 : decode code 29 = .ok (.bipush 31, 2) := by decide +kernel
theorem dL_law_31 : decode code 31 = .ok (.iand, 1) := by decide +kernel
theorem dL_law_32 : decode code 32 = .ok (.tableswitch 828 0 27 #[128, 151, 164, 177, 200, 233, 266, 289, 312, 335, 358, 381, 394, 427, 450, 463, 496, 529, 552, 585, 618, 651, 700, 733, 746, 759, 782, 805], 128) := by decide +kernel
theorem dL_law_160 : decode code 160 = .ok (.aload_n 1, 1) := by decide +kernel
theorem dL_law_161 : decode code 161 = .ok (.aload_n 0, 1) := by decide +kernel
theorem dL_law_162 : decode code 162 = .ok (.iload_n 3, 1) := by decide +kernel
theorem dL_law_163 : decode code 163 = .ok (.iconst 1, 1) := by decide +kernel
theorem dL_law_164 : decode code 164 = .ok (.iadd, 1) := by decide +kernel
theorem dL_law_165 : decode code 165 = .ok (.iaload, 1) := by decide +kernel
theorem dL_law_166 : decode code 166 = .ok (.invokevirtual 13, 3) := by decide +kernel
theorem dL_law_169 : decode code 169 = .ok (.aload_n 2, 1) := by decide +kernel
theorem dL_law_170 : decode code 170 = .ok (.aload_n 0, 1) := by decide +kernel
theorem dL_law_171 : decode code 171 = .ok (.iload_n 3, 1) := by decide +kernel
theorem dL_law_172 : decode code 172 = .ok (.iconst 1, 1) := by decide +kernel
theorem dL_law_173 : decode code 173 = .ok (.iadd, 1) := by decide +kernel
theorem dL_law_174 : decode code 174 = .ok (.iaload, 1) := by decide +kernel
theorem dL_law_175 : decode code 175 = .ok (.invokevirtual 17, 3) := by decide +kernel
theorem dL_law_178 : decode code 178 = .ok (.if_icmp .eq 682, 3) := by decide +kernel
theorem dL_law_181 : decode code 181 = .ok (.iconst 0, 1) := by decide +kernel
theorem dL_law_182 : decode code 182 = .ok (.ireturn, 1) := by decide +kernel
theorem dL_law_183 : decode code 183 = .ok (.aload_n 1, 1) := by decide +kernel
theorem dL_law_184 : decode code 184 = .ok (.invokevirtual 18, 3) := by decide +kernel
theorem dL_law_187 : decode code 187 = .ok (.aload_n 2, 1) := by decide +kernel
theorem dL_law_188 : decode code 188 = .ok (.invokevirtual 22, 3) := by decide +kernel
theorem dL_law_191 : decode code 191 = .ok (.if_icmp .eq 669, 3) := by decide +kernel
theorem dL_law_194 : decode code 194 = .ok (.iconst 0, 1) := by decide +kernel
theorem dL_law_195 : decode code 195 = .ok (.ireturn, 1) := by decide +kernel
theorem dL_law_196 : decode code 196 = .ok (.aload_n 1, 1) := by decide +kernel
theorem dL_law_197 : decode code 197 = .ok (.invokevirtual 23, 3) := by decide +kernel
theorem dL_law_200 : decode code 200 = .ok (.aload_n 2, 1) := by decide +kernel
theorem dL_law_201 : decode code 201 = .ok (.invokevirtual 26, 3) := by decide +kernel
theorem dL_law_204 : decode code 204 = .ok (.if_icmp .eq 656, 3) := by decide +kernel
theorem dL_law_207 : decode code 207 = .ok (.iconst 0, 1) := by decide +kernel
theorem dL_law_208 : decode code 208 = .ok (.ireturn, 1) := by decide +kernel
theorem dL_law_209 : decode code 209 = .ok (.aload_n 1, 1) := by decide +kernel
theorem dL_law_210 : decode code 210 = .ok (.aload_n 0, 1) := by decide +kernel
theorem dL_law_211 : decode code 211 = .ok (.iload_n 3, 1) := by decide +kernel
theorem dL_law_212 : decode code 212 = .ok (.iconst 1, 1) := by decide +kernel
theorem dL_law_213 : decode code 213 = .ok (.iadd, 1) := by decide +kernel
theorem dL_law_214 : decode code 214 = .ok (.iaload, 1) := by decide +kernel
theorem dL_law_215 : decode code 215 = .ok (.invokevirtual 27, 3) := by decide +kernel
theorem dL_law_218 : decode code 218 = .ok (.aload_n 2, 1) := by decide +kernel
theorem dL_law_219 : decode code 219 = .ok (.aload_n 0, 1) := by decide +kernel
theorem dL_law_220 : decode code 220 = .ok (.iload_n 3, 1) := by decide +kernel
theorem dL_law_221 : decode code 221 = .ok (.iconst 1, 1) := by decide +kernel
theorem dL_law_222 : decode code 222 = .ok (.iadd, 1) := by decide +kernel
theorem dL_law_223 : decode code 223 = .ok (.iaload, 1) := by decide +kernel
theorem dL_law_224 : decode code 224 = .ok (.invokevirtual 30, 3) := by decide +kernel
theorem dL_law_227 : decode code 227 = .ok (.if_icmp .eq 633, 3) := by decide +kernel
theorem dL_law_230 : decode code 230 = .ok (.iconst 0, 1) := by decide +kernel
theorem dL_law_231 : decode code 231 = .ok (.ireturn, 1) := by decide +kernel
theorem dL_law_232 : decode code 232 = .ok (.aload_n 1, 1) := by decide +kernel
theorem dL_law_233 : decode code 233 = .ok (.aload_n 0, 1) := by decide +kernel
theorem dL_law_234 : decode code 234 = .ok (.iload_n 3, 1) := by decide +kernel
theorem dL_law_235 : decode code 235 = .ok (.iconst 1, 1) := by decide +kernel
theorem dL_law_236 : decode code 236 = .ok (.iadd, 1) := by decide +kernel
theorem dL_law_237 : decode code 237 = .ok (.iaload, 1) := by decide +kernel
theorem dL_law_238 : decode code 238 = .ok (.aload_n 0, 1) := by decide +kernel
theorem dL_law_239 : decode code 239 = .ok (.iload_n 3, 1) := by decide +kernel
theorem dL_law_240 : decode code 240 = .ok (.iconst 2, 1) := by decide +kernel
theorem dL_law_241 : decode code 241 = .ok (.iadd, 1) := by decide +kernel
theorem dL_law_242 : decode code 242 = .ok (.iaload, 1) := by decide +kernel
theorem dL_law_243 : decode code 243 = .ok (.invokevirtual 31, 3) := by decide +kernel
theorem dL_law_246 : decode code 246 = .ok (.aload_n 2, 1) := by decide +kernel
theorem dL_law_247 : decode code 247 = .ok (.aload_n 0, 1) := by decide +kernel
theorem dL_law_248 : decode code 248 = .ok (.iload_n 3, 1) := by decide +kernel
theorem dL_law_249 : decode code 249 = .ok (.iconst 1, 1) := by decide +kernel
theorem dL_law_250 : decode code 250 = .ok (.iadd, 1) := by decide +kernel
theorem dL_law_251 : decode code 251 = .ok (.iaload, 1) := by decide +kernel
theorem dL_law_252 : decode code 252 = .ok (.aload_n 0, 1) := by decide +kernel
theorem dL_law_253 : decode code 253 = .ok (.iload_n 3, 1) := by decide +kernel
theorem dL_law_254 : decode code 254 = .ok (.iconst 2, 1) := by decide +kernel
theorem dL_law_255 : decode code 255 = .ok (.iadd, 1) := by decide +kernel
theorem dL_law_256 : decode code 256 = .ok (.iaload, 1) := by decide +kernel
theorem dL_law_257 : decode code 257 = .ok (.invokevirtual 35, 3) := by decide +kernel
theorem dL_law_260 : decode code 260 = .ok (.if_icmp .eq 600, 3) := by decide +kernel
theorem dL_law_263 : decode code 263 = .ok (.iconst 0, 1) := by decide +kernel
theorem dL_law_264 : decode code 264 = .ok (.ireturn, 1) := by decide +kernel
theorem dL_law_265 : decode code 265 = .ok (.aload_n 1, 1) := by decide +kernel
theorem dL_law_266 : decode code 266 = .ok (.aload_n 0, 1) := by decide +kernel
theorem dL_law_267 : decode code 267 = .ok (.iload_n 3, 1) := by decide +kernel
theorem dL_law_268 : decode code 268 = .ok (.iconst 1, 1) := by decide +kernel
theorem dL_law_269 : decode code 269 = .ok (.iadd, 1) := by decide +kernel
theorem dL_law_270 : decode code 270 = .ok (.iaload, 1) := by decide +kernel
theorem dL_law_271 : decode code 271 = .ok (.aload_n 0, 1) := by decide +kernel
theorem dL_law_272 : decode code 272 = .ok (.iload_n 3, 1) := by decide +kernel
theorem dL_law_273 : decode code 273 = .ok (.iconst 2, 1) := by decide +kernel
theorem dL_law_274 : decode code 274 = .ok (.iadd, 1) := by decide +kernel
theorem dL_law_275 : decode code 275 = .ok (.iaload, 1) := by decide +kernel
theorem dL_law_276 : decode code 276 = .ok (.invokevirtual 36, 3) := by decide +kernel
theorem dL_law_279 : decode code 279 = .ok (.aload_n 2, 1) := by decide +kernel
theorem dL_law_280 : decode code 280 = .ok (.aload_n 0, 1) := by decide +kernel
theorem dL_law_281 : decode code 281 = .ok (.iload_n 3, 1) := by decide +kernel
theorem dL_law_282 : decode code 282 = .ok (.iconst 1, 1) := by decide +kernel
theorem dL_law_283 : decode code 283 = .ok (.iadd, 1) := by decide +kernel
theorem dL_law_284 : decode code 284 = .ok (.iaload, 1) := by decide +kernel
theorem dL_law_285 : decode code 285 = .ok (.aload_n 0, 1) := by decide +kernel
theorem dL_law_286 : decode code 286 = .ok (.iload_n 3, 1) := by decide +kernel
theorem dL_law_287 : decode code 287 = .ok (.iconst 2, 1) := by decide +kernel
theorem dL_law_288 : decode code 288 = .ok (.iadd, 1) := by decide +kernel
theorem dL_law_289 : decode code 289 = .ok (.iaload, 1) := by decide +kernel
theorem dL_law_290 : decode code 290 = .ok (.invokevirtual 39, 3) := by decide +kernel
theorem dL_law_293 : decode code 293 = .ok (.if_icmp .eq 567, 3) := by decide +kernel
theorem dL_law_296 : decode code 296 = .ok (.iconst 0, 1) := by decide +kernel
theorem dL_law_297 : decode code 297 = .ok (.ireturn, 1) := by decide +kernel
theorem dL_law_298 : decode code 298 = .ok (.aload_n 1, 1) := by decide +kernel
theorem dL_law_299 : decode code 299 = .ok (.aload_n 0, 1) := by decide +kernel
theorem dL_law_300 : decode code 300 = .ok (.iload_n 3, 1) := by decide +kernel
theorem dL_law_301 : decode code 301 = .ok (.iconst 1, 1) := by decide +kernel
theorem dL_law_302 : decode code 302 = .ok (.iadd, 1) := by decide +kernel
theorem dL_law_303 : decode code 303 = .ok (.iaload, 1) := by decide +kernel
theorem dL_law_304 : decode code 304 = .ok (.invokevirtual 40, 3) := by decide +kernel
theorem dL_law_307 : decode code 307 = .ok (.aload_n 2, 1) := by decide +kernel
theorem dL_law_308 : decode code 308 = .ok (.aload_n 0, 1) := by decide +kernel
theorem dL_law_309 : decode code 309 = .ok (.iload_n 3, 1) := by decide +kernel
theorem dL_law_310 : decode code 310 = .ok (.iconst 1, 1) := by decide +kernel
theorem dL_law_311 : decode code 311 = .ok (.iadd, 1) := by decide +kernel
theorem dL_law_312 : decode code 312 = .ok (.iaload, 1) := by decide +kernel
theorem dL_law_313 : decode code 313 = .ok (.invokevirtual 43, 3) := by decide +kernel
theorem dL_law_316 : decode code 316 = .ok (.if_icmp .eq 544, 3) := by decide +kernel
theorem dL_law_319 : decode code 319 = .ok (.iconst 0, 1) := by decide +kernel
theorem dL_law_320 : decode code 320 = .ok (.ireturn, 1) := by decide +kernel
theorem dL_law_321 : decode code 321 = .ok (.aload_n 1, 1) := by decide +kernel
theorem dL_law_322 : decode code 322 = .ok (.aload_n 0, 1) := by decide +kernel
theorem dL_law_323 : decode code 323 = .ok (.iload_n 3, 1) := by decide +kernel
theorem dL_law_324 : decode code 324 = .ok (.iconst 1, 1) := by decide +kernel
theorem dL_law_325 : decode code 325 = .ok (.iadd, 1) := by decide +kernel
theorem dL_law_326 : decode code 326 = .ok (.iaload, 1) := by decide +kernel
theorem dL_law_327 : decode code 327 = .ok (.invokevirtual 44, 3) := by decide +kernel
theorem dL_law_330 : decode code 330 = .ok (.aload_n 2, 1) := by decide +kernel
theorem dL_law_331 : decode code 331 = .ok (.aload_n 0, 1) := by decide +kernel
theorem dL_law_332 : decode code 332 = .ok (.iload_n 3, 1) := by decide +kernel
theorem dL_law_333 : decode code 333 = .ok (.iconst 1, 1) := by decide +kernel
theorem dL_law_334 : decode code 334 = .ok (.iadd, 1) := by decide +kernel
theorem dL_law_335 : decode code 335 = .ok (.iaload, 1) := by decide +kernel
theorem dL_law_336 : decode code 336 = .ok (.invokevirtual 47, 3) := by decide +kernel
theorem dL_law_339 : decode code 339 = .ok (.if_icmp .eq 521, 3) := by decide +kernel
theorem dL_law_342 : decode code 342 = .ok (.iconst 0, 1) := by decide +kernel
theorem dL_law_343 : decode code 343 = .ok (.ireturn, 1) := by decide +kernel
theorem dL_law_344 : decode code 344 = .ok (.aload_n 1, 1) := by decide +kernel
theorem dL_law_345 : decode code 345 = .ok (.aload_n 0, 1) := by decide +kernel
theorem dL_law_346 : decode code 346 = .ok (.iload_n 3, 1) := by decide +kernel
theorem dL_law_347 : decode code 347 = .ok (.iconst 1, 1) := by decide +kernel
theorem dL_law_348 : decode code 348 = .ok (.iadd, 1) := by decide +kernel
theorem dL_law_349 : decode code 349 = .ok (.iaload, 1) := by decide +kernel
theorem dL_law_350 : decode code 350 = .ok (.invokevirtual 48, 3) := by decide +kernel
theorem dL_law_353 : decode code 353 = .ok (.aload_n 2, 1) := by decide +kernel
theorem dL_law_354 : decode code 354 = .ok (.aload_n 0, 1) := by decide +kernel
theorem dL_law_355 : decode code 355 = .ok (.iload_n 3, 1) := by decide +kernel
theorem dL_law_356 : decode code 356 = .ok (.iconst 1, 1) := by decide +kernel
theorem dL_law_357 : decode code 357 = .ok (.iadd, 1) := by decide +kernel
theorem dL_law_358 : decode code 358 = .ok (.iaload, 1) := by decide +kernel
theorem dL_law_359 : decode code 359 = .ok (.invokevirtual 51, 3) := by decide +kernel
theorem dL_law_362 : decode code 362 = .ok (.if_icmp .eq 498, 3) := by decide +kernel
theorem dL_law_365 : decode code 365 = .ok (.iconst 0, 1) := by decide +kernel
theorem dL_law_366 : decode code 366 = .ok (.ireturn, 1) := by decide +kernel
theorem dL_law_367 : decode code 367 = .ok (.aload_n 1, 1) := by decide +kernel
theorem dL_law_368 : decode code 368 = .ok (.aload_n 0, 1) := by decide +kernel
theorem dL_law_369 : decode code 369 = .ok (.iload_n 3, 1) := by decide +kernel
theorem dL_law_370 : decode code 370 = .ok (.iconst 1, 1) := by decide +kernel
theorem dL_law_371 : decode code 371 = .ok (.iadd, 1) := by decide +kernel
theorem dL_law_372 : decode code 372 = .ok (.iaload, 1) := by decide +kernel
theorem dL_law_373 : decode code 373 = .ok (.invokevirtual 52, 3) := by decide +kernel
theorem dL_law_376 : decode code 376 = .ok (.aload_n 2, 1) := by decide +kernel
theorem dL_law_377 : decode code 377 = .ok (.aload_n 0, 1) := by decide +kernel
theorem dL_law_378 : decode code 378 = .ok (.iload_n 3, 1) := by decide +kernel
theorem dL_law_379 : decode code 379 = .ok (.iconst 1, 1) := by decide +kernel
theorem dL_law_380 : decode code 380 = .ok (.iadd, 1) := by decide +kernel
theorem dL_law_381 : decode code 381 = .ok (.iaload, 1) := by decide +kernel
theorem dL_law_382 : decode code 382 = .ok (.invokevirtual 55, 3) := by decide +kernel
theorem dL_law_385 : decode code 385 = .ok (.if_icmp .eq 475, 3) := by decide +kernel
theorem dL_law_388 : decode code 388 = .ok (.iconst 0, 1) := by decide +kernel
theorem dL_law_389 : decode code 389 = .ok (.ireturn, 1) := by decide +kernel
theorem dL_law_390 : decode code 390 = .ok (.aload_n 1, 1) := by decide +kernel
theorem dL_law_391 : decode code 391 = .ok (.aload_n 0, 1) := by decide +kernel
theorem dL_law_392 : decode code 392 = .ok (.iload_n 3, 1) := by decide +kernel
theorem dL_law_393 : decode code 393 = .ok (.iconst 1, 1) := by decide +kernel
theorem dL_law_394 : decode code 394 = .ok (.iadd, 1) := by decide +kernel
theorem dL_law_395 : decode code 395 = .ok (.iaload, 1) := by decide +kernel
theorem dL_law_396 : decode code 396 = .ok (.invokevirtual 56, 3) := by decide +kernel
theorem dL_law_399 : decode code 399 = .ok (.aload_n 2, 1) := by decide +kernel
theorem dL_law_400 : decode code 400 = .ok (.aload_n 0, 1) := by decide +kernel
theorem dL_law_401 : decode code 401 = .ok (.iload_n 3, 1) := by decide +kernel
theorem dL_law_402 : decode code 402 = .ok (.iconst 1, 1) := by decide +kernel
theorem dL_law_403 : decode code 403 = .ok (.iadd, 1) := by decide +kernel
theorem dL_law_404 : decode code 404 = .ok (.iaload, 1) := by decide +kernel
theorem dL_law_405 : decode code 405 = .ok (.invokevirtual 59, 3) := by decide +kernel
theorem dL_law_408 : decode code 408 = .ok (.if_icmp .eq 452, 3) := by decide +kernel
theorem dL_law_411 : decode code 411 = .ok (.iconst 0, 1) := by decide +kernel
theorem dL_law_412 : decode code 412 = .ok (.ireturn, 1) := by decide +kernel
theorem dL_law_413 : decode code 413 = .ok (.aload_n 1, 1) := by decide +kernel
theorem dL_law_414 : decode code 414 = .ok (.invokevirtual 60, 3) := by decide +kernel
theorem dL_law_417 : decode code 417 = .ok (.aload_n 2, 1) := by decide +kernel
theorem dL_law_418 : decode code 418 = .ok (.invokevirtual 63, 3) := by decide +kernel
theorem dL_law_421 : decode code 421 = .ok (.if_icmp .eq 439, 3) := by decide +kernel
theorem dL_law_424 : decode code 424 = .ok (.iconst 0, 1) := by decide +kernel
theorem dL_law_425 : decode code 425 = .ok (.ireturn, 1) := by decide +kernel
theorem dL_law_426 : decode code 426 = .ok (.aload_n 1, 1) := by decide +kernel
theorem dL_law_427 : decode code 427 = .ok (.aload_n 0, 1) := by decide +kernel
theorem dL_law_428 : decode code 428 = .ok (.iload_n 3, 1) := by decide +kernel
theorem dL_law_429 : decode code 429 = .ok (.iconst 1, 1) := by decide +kernel
theorem dL_law_430 : decode code 430 = .ok (.iadd, 1) := by decide +kernel
theorem dL_law_431 : decode code 431 = .ok (.iaload, 1) := by decide +kernel
theorem dL_law_432 : decode code 432 = .ok (.aload_n 0, 1) := by decide +kernel
theorem dL_law_433 : decode code 433 = .ok (.iload_n 3, 1) := by decide +kernel
theorem dL_law_434 : decode code 434 = .ok (.iconst 2, 1) := by decide +kernel
theorem dL_law_435 : decode code 435 = .ok (.iadd, 1) := by decide +kernel
theorem dL_law_436 : decode code 436 = .ok (.iaload, 1) := by decide +kernel
theorem dL_law_437 : decode code 437 = .ok (.invokevirtual 64, 3) := by decide +kernel
theorem dL_law_440 : decode code 440 = .ok (.aload_n 2, 1) := by decide +kernel
theorem dL_law_441 : decode code 441 = .ok (.aload_n 0, 1) := by decide +kernel
theorem dL_law_442 : decode code 442 = .ok (.iload_n 3, 1) := by decide +kernel
theorem dL_law_443 : decode code 443 = .ok (.iconst 1, 1) := by decide +kernel
theorem dL_law_444 : decode code 444 = .ok (.iadd, 1) := by decide +kernel
theorem dL_law_445 : decode code 445 = .ok (.iaload, 1) := by decide +kernel
theorem dL_law_446 : decode code 446 = .ok (.aload_n 0, 1) := by decide +kernel
theorem dL_law_447 : decode code 447 = .ok (.iload_n 3, 1) := by decide +kernel
theorem dL_law_448 : decode code 448 = .ok (.iconst 2, 1) := by decide +kernel
theorem dL_law_449 : decode code 449 = .ok (.iadd, 1) := by decide +kernel
theorem dL_law_450 : decode code 450 = .ok (.iaload, 1) := by decide +kernel
theorem dL_law_451 : decode code 451 = .ok (.invokevirtual 67, 3) := by decide +kernel
theorem dL_law_454 : decode code 454 = .ok (.if_icmp .eq 406, 3) := by decide +kernel
theorem dL_law_457 : decode code 457 = .ok (.iconst 0, 1) := by decide +kernel
theorem dL_law_458 : decode code 458 = .ok (.ireturn, 1) := by decide +kernel
theorem dL_law_459 : decode code 459 = .ok (.aload_n 1, 1) := by decide +kernel
theorem dL_law_460 : decode code 460 = .ok (.aload_n 0, 1) := by decide +kernel
theorem dL_law_461 : decode code 461 = .ok (.iload_n 3, 1) := by decide +kernel
theorem dL_law_462 : decode code 462 = .ok (.iconst 1, 1) := by decide +kernel
theorem dL_law_463 : decode code 463 = .ok (.iadd, 1) := by decide +kernel
theorem dL_law_464 : decode code 464 = .ok (.iaload, 1) := by decide +kernel
theorem dL_law_465 : decode code 465 = .ok (.invokevirtual 68, 3) := by decide +kernel
theorem dL_law_468 : decode code 468 = .ok (.aload_n 2, 1) := by decide +kernel
theorem dL_law_469 : decode code 469 = .ok (.aload_n 0, 1) := by decide +kernel
theorem dL_law_470 : decode code 470 = .ok (.iload_n 3, 1) := by decide +kernel
theorem dL_law_471 : decode code 471 = .ok (.iconst 1, 1) := by decide +kernel
theorem dL_law_472 : decode code 472 = .ok (.iadd, 1) := by decide +kernel
theorem dL_law_473 : decode code 473 = .ok (.iaload, 1) := by decide +kernel
theorem dL_law_474 : decode code 474 = .ok (.invokevirtual 71, 3) := by decide +kernel
theorem dL_law_477 : decode code 477 = .ok (.if_icmp .eq 383, 3) := by decide +kernel
theorem dL_law_480 : decode code 480 = .ok (.iconst 0, 1) := by decide +kernel
theorem dL_law_481 : decode code 481 = .ok (.ireturn, 1) := by decide +kernel
theorem dL_law_482 : decode code 482 = .ok (.aload_n 1, 1) := by decide +kernel
theorem dL_law_483 : decode code 483 = .ok (.invokevirtual 72, 3) := by decide +kernel
theorem dL_law_486 : decode code 486 = .ok (.aload_n 2, 1) := by decide +kernel
theorem dL_law_487 : decode code 487 = .ok (.invokevirtual 75, 3) := by decide +kernel
theorem dL_law_490 : decode code 490 = .ok (.if_icmp .eq 370, 3) := by decide +kernel
theorem dL_law_493 : decode code 493 = .ok (.iconst 0, 1) := by decide +kernel
theorem dL_law_494 : decode code 494 = .ok (.ireturn, 1) := by decide +kernel
theorem dL_law_495 : decode code 495 = .ok (.aload_n 1, 1) := by decide +kernel
theorem dL_law_496 : decode code 496 = .ok (.aload_n 0, 1) := by decide +kernel
theorem dL_law_497 : decode code 497 = .ok (.iload_n 3, 1) := by decide +kernel
theorem dL_law_498 : decode code 498 = .ok (.iconst 1, 1) := by decide +kernel
theorem dL_law_499 : decode code 499 = .ok (.iadd, 1) := by decide +kernel
theorem dL_law_500 : decode code 500 = .ok (.iaload, 1) := by decide +kernel
theorem dL_law_501 : decode code 501 = .ok (.aload_n 0, 1) := by decide +kernel
theorem dL_law_502 : decode code 502 = .ok (.iload_n 3, 1) := by decide +kernel
theorem dL_law_503 : decode code 503 = .ok (.iconst 2, 1) := by decide +kernel
theorem dL_law_504 : decode code 504 = .ok (.iadd, 1) := by decide +kernel
theorem dL_law_505 : decode code 505 = .ok (.iaload, 1) := by decide +kernel
theorem dL_law_506 : decode code 506 = .ok (.invokevirtual 76, 3) := by decide +kernel
theorem dL_law_509 : decode code 509 = .ok (.aload_n 2, 1) := by decide +kernel
theorem dL_law_510 : decode code 510 = .ok (.aload_n 0, 1) := by decide +kernel
theorem dL_law_511 : decode code 511 = .ok (.iload_n 3, 1) := by decide +kernel
theorem dL_law_512 : decode code 512 = .ok (.iconst 1, 1) := by decide +kernel
theorem dL_law_513 : decode code 513 = .ok (.iadd, 1) := by decide +kernel
theorem dL_law_514 : decode code 514 = .ok (.iaload, 1) := by decide +kernel
theorem dL_law_515 : decode code 515 = .ok (.aload_n 0, 1) := by decide +kernel
theorem dL_law_516 : decode code 516 = .ok (.iload_n 3, 1) := by decide +kernel
theorem dL_law_517 : decode code 517 = .ok (.iconst 2, 1) := by decide +kernel
theorem dL_law_518 : decode code 518 = .ok (.iadd, 1) := by decide +kernel
theorem dL_law_519 : decode code 519 = .ok (.iaload, 1) := by decide +kernel
theorem dL_law_520 : decode code 520 = .ok (.invokevirtual 79, 3) := by decide +kernel
theorem dL_law_523 : decode code 523 = .ok (.if_icmp .eq 337, 3) := by decide +kernel
theorem dL_law_526 : decode code 526 = .ok (.iconst 0, 1) := by decide +kernel
theorem dL_law_527 : decode code 527 = .ok (.ireturn, 1) := by decide +kernel
theorem dL_law_528 : decode code 528 = .ok (.aload_n 1, 1) := by decide +kernel
theorem dL_law_529 : decode code 529 = .ok (.aload_n 0, 1) := by decide +kernel
theorem dL_law_530 : decode code 530 = .ok (.iload_n 3, 1) := by decide +kernel
theorem dL_law_531 : decode code 531 = .ok (.iconst 1, 1) := by decide +kernel
theorem dL_law_532 : decode code 532 = .ok (.iadd, 1) := by decide +kernel
theorem dL_law_533 : decode code 533 = .ok (.iaload, 1) := by decide +kernel
theorem dL_law_534 : decode code 534 = .ok (.aload_n 0, 1) := by decide +kernel
theorem dL_law_535 : decode code 535 = .ok (.iload_n 3, 1) := by decide +kernel
theorem dL_law_536 : decode code 536 = .ok (.iconst 2, 1) := by decide +kernel
theorem dL_law_537 : decode code 537 = .ok (.iadd, 1) := by decide +kernel
theorem dL_law_538 : decode code 538 = .ok (.iaload, 1) := by decide +kernel
theorem dL_law_539 : decode code 539 = .ok (.invokevirtual 80, 3) := by decide +kernel
theorem dL_law_542 : decode code 542 = .ok (.aload_n 2, 1) := by decide +kernel
theorem dL_law_543 : decode code 543 = .ok (.aload_n 0, 1) := by decide +kernel
theorem dL_law_544 : decode code 544 = .ok (.iload_n 3, 1) := by decide +kernel
theorem dL_law_545 : decode code 545 = .ok (.iconst 1, 1) := by decide +kernel
theorem dL_law_546 : decode code 546 = .ok (.iadd, 1) := by decide +kernel
theorem dL_law_547 : decode code 547 = .ok (.iaload, 1) := by decide +kernel
theorem dL_law_548 : decode code 548 = .ok (.aload_n 0, 1) := by decide +kernel
theorem dL_law_549 : decode code 549 = .ok (.iload_n 3, 1) := by decide +kernel
theorem dL_law_550 : decode code 550 = .ok (.iconst 2, 1) := by decide +kernel
theorem dL_law_551 : decode code 551 = .ok (.iadd, 1) := by decide +kernel
theorem dL_law_552 : decode code 552 = .ok (.iaload, 1) := by decide +kernel
theorem dL_law_553 : decode code 553 = .ok (.invokevirtual 83, 3) := by decide +kernel
theorem dL_law_556 : decode code 556 = .ok (.if_icmp .eq 304, 3) := by decide +kernel
theorem dL_law_559 : decode code 559 = .ok (.iconst 0, 1) := by decide +kernel
theorem dL_law_560 : decode code 560 = .ok (.ireturn, 1) := by decide +kernel
theorem dL_law_561 : decode code 561 = .ok (.aload_n 1, 1) := by decide +kernel
theorem dL_law_562 : decode code 562 = .ok (.aload_n 0, 1) := by decide +kernel
theorem dL_law_563 : decode code 563 = .ok (.iload_n 3, 1) := by decide +kernel
theorem dL_law_564 : decode code 564 = .ok (.iconst 1, 1) := by decide +kernel
theorem dL_law_565 : decode code 565 = .ok (.iadd, 1) := by decide +kernel
theorem dL_law_566 : decode code 566 = .ok (.iaload, 1) := by decide +kernel
theorem dL_law_567 : decode code 567 = .ok (.invokevirtual 84, 3) := by decide +kernel
theorem dL_law_570 : decode code 570 = .ok (.aload_n 2, 1) := by decide +kernel
theorem dL_law_571 : decode code 571 = .ok (.aload_n 0, 1) := by decide +kernel
theorem dL_law_572 : decode code 572 = .ok (.iload_n 3, 1) := by decide +kernel
theorem dL_law_573 : decode code 573 = .ok (.iconst 1, 1) := by decide +kernel
theorem dL_law_574 : decode code 574 = .ok (.iadd, 1) := by decide +kernel
theorem dL_law_575 : decode code 575 = .ok (.iaload, 1) := by decide +kernel
theorem dL_law_576 : decode code 576 = .ok (.invokevirtual 87, 3) := by decide +kernel
theorem dL_law_579 : decode code 579 = .ok (.if_icmp .eq 281, 3) := by decide +kernel
theorem dL_law_582 : decode code 582 = .ok (.iconst 0, 1) := by decide +kernel
theorem dL_law_583 : decode code 583 = .ok (.ireturn, 1) := by decide +kernel
theorem dL_law_584 : decode code 584 = .ok (.aload_n 1, 1) := by decide +kernel
theorem dL_law_585 : decode code 585 = .ok (.aload_n 0, 1) := by decide +kernel
theorem dL_law_586 : decode code 586 = .ok (.iload_n 3, 1) := by decide +kernel
theorem dL_law_587 : decode code 587 = .ok (.iconst 1, 1) := by decide +kernel
theorem dL_law_588 : decode code 588 = .ok (.iadd, 1) := by decide +kernel
theorem dL_law_589 : decode code 589 = .ok (.iaload, 1) := by decide +kernel
theorem dL_law_590 : decode code 590 = .ok (.aload_n 0, 1) := by decide +kernel
theorem dL_law_591 : decode code 591 = .ok (.iload_n 3, 1) := by decide +kernel
theorem dL_law_592 : decode code 592 = .ok (.iconst 2, 1) := by decide +kernel
theorem dL_law_593 : decode code 593 = .ok (.iadd, 1) := by decide +kernel
theorem dL_law_594 : decode code 594 = .ok (.iaload, 1) := by decide +kernel
theorem dL_law_595 : decode code 595 = .ok (.invokevirtual 88, 3) := by decide +kernel
theorem dL_law_598 : decode code 598 = .ok (.aload_n 2, 1) := by decide +kernel
theorem dL_law_599 : decode code 599 = .ok (.aload_n 0, 1) := by decide +kernel
theorem dL_law_600 : decode code 600 = .ok (.iload_n 3, 1) := by decide +kernel
theorem dL_law_601 : decode code 601 = .ok (.iconst 1, 1) := by decide +kernel
theorem dL_law_602 : decode code 602 = .ok (.iadd, 1) := by decide +kernel
theorem dL_law_603 : decode code 603 = .ok (.iaload, 1) := by decide +kernel
theorem dL_law_604 : decode code 604 = .ok (.aload_n 0, 1) := by decide +kernel
theorem dL_law_605 : decode code 605 = .ok (.iload_n 3, 1) := by decide +kernel
theorem dL_law_606 : decode code 606 = .ok (.iconst 2, 1) := by decide +kernel
theorem dL_law_607 : decode code 607 = .ok (.iadd, 1) := by decide +kernel
theorem dL_law_608 : decode code 608 = .ok (.iaload, 1) := by decide +kernel
theorem dL_law_609 : decode code 609 = .ok (.invokevirtual 91, 3) := by decide +kernel
theorem dL_law_612 : decode code 612 = .ok (.if_icmp .eq 248, 3) := by decide +kernel
theorem dL_law_615 : decode code 615 = .ok (.iconst 0, 1) := by decide +kernel
theorem dL_law_616 : decode code 616 = .ok (.ireturn, 1) := by decide +kernel
theorem dL_law_617 : decode code 617 = .ok (.aload_n 1, 1) := by decide +kernel
theorem dL_law_618 : decode code 618 = .ok (.aload_n 0, 1) := by decide +kernel
theorem dL_law_619 : decode code 619 = .ok (.iload_n 3, 1) := by decide +kernel
theorem dL_law_620 : decode code 620 = .ok (.iconst 1, 1) := by decide +kernel
theorem dL_law_621 : decode code 621 = .ok (.iadd, 1) := by decide +kernel
theorem dL_law_622 : decode code 622 = .ok (.iaload, 1) := by decide +kernel
theorem dL_law_623 : decode code 623 = .ok (.aload_n 0, 1) := by decide +kernel
theorem dL_law_624 : decode code 624 = .ok (.iload_n 3, 1) := by decide +kernel
theorem dL_law_625 : decode code 625 = .ok (.iconst 2, 1) := by decide +kernel
theorem dL_law_626 : decode code 626 = .ok (.iadd, 1) := by decide +kernel
theorem dL_law_627 : decode code 627 = .ok (.iaload, 1) := by decide +kernel
theorem dL_law_628 : decode code 628 = .ok (.invokevirtual 92, 3) := by decide +kernel
theorem dL_law_631 : decode code 631 = .ok (.aload_n 2, 1) := by decide +kernel
theorem dL_law_632 : decode code 632 = .ok (.aload_n 0, 1) := by decide +kernel
theorem dL_law_633 : decode code 633 = .ok (.iload_n 3, 1) := by decide +kernel
theorem dL_law_634 : decode code 634 = .ok (.iconst 1, 1) := by decide +kernel
theorem dL_law_635 : decode code 635 = .ok (.iadd, 1) := by decide +kernel
theorem dL_law_636 : decode code 636 = .ok (.iaload, 1) := by decide +kernel
theorem dL_law_637 : decode code 637 = .ok (.aload_n 0, 1) := by decide +kernel
theorem dL_law_638 : decode code 638 = .ok (.iload_n 3, 1) := by decide +kernel
theorem dL_law_639 : decode code 639 = .ok (.iconst 2, 1) := by decide +kernel
theorem dL_law_640 : decode code 640 = .ok (.iadd, 1) := by decide +kernel
theorem dL_law_641 : decode code 641 = .ok (.iaload, 1) := by decide +kernel
theorem dL_law_642 : decode code 642 = .ok (.invokevirtual 95, 3) := by decide +kernel
theorem dL_law_645 : decode code 645 = .ok (.if_icmp .eq 215, 3) := by decide +kernel
theorem dL_law_648 : decode code 648 = .ok (.iconst 0, 1) := by decide +kernel
theorem dL_law_649 : decode code 649 = .ok (.ireturn, 1) := by decide +kernel
theorem dL_law_650 : decode code 650 = .ok (.aload_n 1, 1) := by decide +kernel
theorem dL_law_651 : decode code 651 = .ok (.aload_n 0, 1) := by decide +kernel
theorem dL_law_652 : decode code 652 = .ok (.iload_n 3, 1) := by decide +kernel
theorem dL_law_653 : decode code 653 = .ok (.iconst 1, 1) := by decide +kernel
theorem dL_law_654 : decode code 654 = .ok (.iadd, 1) := by decide +kernel
theorem dL_law_655 : decode code 655 = .ok (.iaload, 1) := by decide +kernel
theorem dL_law_656 : decode code 656 = .ok (.aload_n 0, 1) := by decide +kernel
theorem dL_law_657 : decode code 657 = .ok (.iload_n 3, 1) := by decide +kernel
theorem dL_law_658 : decode code 658 = .ok (.iconst 2, 1) := by decide +kernel
theorem dL_law_659 : decode code 659 = .ok (.iadd, 1) := by decide +kernel
theorem dL_law_660 : decode code 660 = .ok (.iaload, 1) := by decide +kernel
theorem dL_law_661 : decode code 661 = .ok (.invokevirtual 96, 3) := by decide +kernel
theorem dL_law_664 : decode code 664 = .ok (.aload_n 2, 1) := by decide +kernel
theorem dL_law_665 : decode code 665 = .ok (.aload_n 0, 1) := by decide +kernel
theorem dL_law_666 : decode code 666 = .ok (.iload_n 3, 1) := by decide +kernel
theorem dL_law_667 : decode code 667 = .ok (.iconst 1, 1) := by decide +kernel
theorem dL_law_668 : decode code 668 = .ok (.iadd, 1) := by decide +kernel
theorem dL_law_669 : decode code 669 = .ok (.iaload, 1) := by decide +kernel
theorem dL_law_670 : decode code 670 = .ok (.aload_n 0, 1) := by decide +kernel
theorem dL_law_671 : decode code 671 = .ok (.iload_n 3, 1) := by decide +kernel
theorem dL_law_672 : decode code 672 = .ok (.iconst 2, 1) := by decide +kernel
theorem dL_law_673 : decode code 673 = .ok (.iadd, 1) := by decide +kernel
theorem dL_law_674 : decode code 674 = .ok (.iaload, 1) := by decide +kernel
theorem dL_law_675 : decode code 675 = .ok (.invokevirtual 99, 3) := by decide +kernel
theorem dL_law_678 : decode code 678 = .ok (.if_icmp .eq 182, 3) := by decide +kernel
theorem dL_law_681 : decode code 681 = .ok (.iconst 0, 1) := by decide +kernel
theorem dL_law_682 : decode code 682 = .ok (.ireturn, 1) := by decide +kernel
theorem dL_law_683 : decode code 683 = .ok (.aload_n 1, 1) := by decide +kernel
theorem dL_law_684 : decode code 684 = .ok (.aload_n 0, 1) := by decide +kernel
theorem dL_law_685 : decode code 685 = .ok (.iload_n 3, 1) := by decide +kernel
theorem dL_law_686 : decode code 686 = .ok (.iconst 1, 1) := by decide +kernel
theorem dL_law_687 : decode code 687 = .ok (.iadd, 1) := by decide +kernel
theorem dL_law_688 : decode code 688 = .ok (.iaload, 1) := by decide +kernel
theorem dL_law_689 : decode code 689 = .ok (.aload_n 0, 1) := by decide +kernel
theorem dL_law_690 : decode code 690 = .ok (.iload_n 3, 1) := by decide +kernel
theorem dL_law_691 : decode code 691 = .ok (.iconst 2, 1) := by decide +kernel
theorem dL_law_692 : decode code 692 = .ok (.iadd, 1) := by decide +kernel
theorem dL_law_693 : decode code 693 = .ok (.iaload, 1) := by decide +kernel
theorem dL_law_694 : decode code 694 = .ok (.ifCond .eq 7, 3) := by decide +kernel
theorem dL_law_697 : decode code 697 = .ok (.iconst 1, 1) := by decide +kernel
theorem dL_law_698 : decode code 698 = .ok (.goto 4, 3) := by decide +kernel
theorem dL_law_701 : decode code 701 = .ok (.iconst 0, 1) := by decide +kernel
theorem dL_law_702 : decode code 702 = .ok (.invokevirtual 100, 3) := by decide +kernel
theorem dL_law_705 : decode code 705 = .ok (.aload_n 2, 1) := by decide +kernel
theorem dL_law_706 : decode code 706 = .ok (.aload_n 0, 1) := by decide +kernel
theorem dL_law_707 : decode code 707 = .ok (.iload_n 3, 1) := by decide +kernel
theorem dL_law_708 : decode code 708 = .ok (.iconst 1, 1) := by decide +kernel
theorem dL_law_709 : decode code 709 = .ok (.iadd, 1) := by decide +kernel
theorem dL_law_710 : decode code 710 = .ok (.iaload, 1) := by decide +kernel
theorem dL_law_711 : decode code 711 = .ok (.aload_n 0, 1) := by decide +kernel
theorem dL_law_712 : decode code 712 = .ok (.iload_n 3, 1) := by decide +kernel
theorem dL_law_713 : decode code 713 = .ok (.iconst 2, 1) := by decide +kernel
theorem dL_law_714 : decode code 714 = .ok (.iadd, 1) := by decide +kernel
theorem dL_law_715 : decode code 715 = .ok (.iaload, 1) := by decide +kernel
theorem dL_law_716 : decode code 716 = .ok (.ifCond .eq 7, 3) := by decide +kernel
theorem dL_law_719 : decode code 719 = .ok (.iconst 1, 1) := by decide +kernel
theorem dL_law_720 : decode code 720 = .ok (.goto 4, 3) := by decide +kernel
theorem dL_law_723 : decode code 723 = .ok (.iconst 0, 1) := by decide +kernel
theorem dL_law_724 : decode code 724 = .ok (.invokevirtual 104, 3) := by decide +kernel
theorem dL_law_727 : decode code 727 = .ok (.if_icmp .eq 133, 3) := by decide +kernel
theorem dL_law_730 : decode code 730 = .ok (.iconst 0, 1) := by decide +kernel
theorem dL_law_731 : decode code 731 = .ok (.ireturn, 1) := by decide +kernel
theorem dL_law_732 : decode code 732 = .ok (.aload_n 1, 1) := by decide +kernel
theorem dL_law_733 : decode code 733 = .ok (.aload_n 0, 1) := by decide +kernel
theorem dL_law_734 : decode code 734 = .ok (.iload_n 3, 1) := by decide +kernel
theorem dL_law_735 : decode code 735 = .ok (.iconst 1, 1) := by decide +kernel
theorem dL_law_736 : decode code 736 = .ok (.iadd, 1) := by decide +kernel
theorem dL_law_737 : decode code 737 = .ok (.iaload, 1) := by decide +kernel
theorem dL_law_738 : decode code 738 = .ok (.aload_n 0, 1) := by decide +kernel
theorem dL_law_739 : decode code 739 = .ok (.iload_n 3, 1) := by decide +kernel
theorem dL_law_740 : decode code 740 = .ok (.iconst 2, 1) := by decide +kernel
theorem dL_law_741 : decode code 741 = .ok (.iadd, 1) := by decide +kernel
theorem dL_law_742 : decode code 742 = .ok (.iaload, 1) := by decide +kernel
theorem dL_law_743 : decode code 743 = .ok (.invokevirtual 105, 3) := by decide +kernel
theorem dL_law_746 : decode code 746 = .ok (.aload_n 2, 1) := by decide +kernel
theorem dL_law_747 : decode code 747 = .ok (.aload_n 0, 1) := by decide +kernel
theorem dL_law_748 : decode code 748 = .ok (.iload_n 3, 1) := by decide +kernel
theorem dL_law_749 : decode code 749 = .ok (.iconst 1, 1) := by decide +kernel
theorem dL_law_750 : decode code 750 = .ok (.iadd, 1) := by decide +kernel
theorem dL_law_751 : decode code 751 = .ok (.iaload, 1) := by decide +kernel
theorem dL_law_752 : decode code 752 = .ok (.aload_n 0, 1) := by decide +kernel
theorem dL_law_753 : decode code 753 = .ok (.iload_n 3, 1) := by decide +kernel
theorem dL_law_754 : decode code 754 = .ok (.iconst 2, 1) := by decide +kernel
theorem dL_law_755 : decode code 755 = .ok (.iadd, 1) := by decide +kernel
theorem dL_law_756 : decode code 756 = .ok (.iaload, 1) := by decide +kernel
theorem dL_law_757 : decode code 757 = .ok (.invokevirtual 108, 3) := by decide +kernel
theorem dL_law_760 : decode code 760 = .ok (.if_icmp .eq 100, 3) := by decide +kernel
theorem dL_law_763 : decode code 763 = .ok (.iconst 0, 1) := by decide +kernel
theorem dL_law_764 : decode code 764 = .ok (.ireturn, 1) := by decide +kernel
theorem dL_law_765 : decode code 765 = .ok (.aload_n 1, 1) := by decide +kernel
theorem dL_law_766 : decode code 766 = .ok (.invokevirtual 109, 3) := by decide +kernel
theorem dL_law_769 : decode code 769 = .ok (.aload_n 2, 1) := by decide +kernel
theorem dL_law_770 : decode code 770 = .ok (.invokevirtual 112, 3) := by decide +kernel
theorem dL_law_773 : decode code 773 = .ok (.if_icmp .eq 87, 3) := by decide +kernel
theorem dL_law_776 : decode code 776 = .ok (.iconst 0, 1) := by decide +kernel
theorem dL_law_777 : decode code 777 = .ok (.ireturn, 1) := by decide +kernel
theorem dL_law_778 : decode code 778 = .ok (.aload_n 1, 1) := by decide +kernel
theorem dL_law_779 : decode code 779 = .ok (.invokevirtual 113, 3) := by decide +kernel
theorem dL_law_782 : decode code 782 = .ok (.aload_n 2, 1) := by decide +kernel
theorem dL_law_783 : decode code 783 = .ok (.invokevirtual 116, 3) := by decide +kernel
theorem dL_law_786 : decode code 786 = .ok (.if_icmp .eq 74, 3) := by decide +kernel
theorem dL_law_789 : decode code 789 = .ok (.iconst 0, 1) := by decide +kernel
theorem dL_law_790 : decode code 790 = .ok (.ireturn, 1) := by decide +kernel
theorem dL_law_791 : decode code 791 = .ok (.aload_n 1, 1) := by decide +kernel
theorem dL_law_792 : decode code 792 = .ok (.aload_n 0, 1) := by decide +kernel
theorem dL_law_793 : decode code 793 = .ok (.iload_n 3, 1) := by decide +kernel
theorem dL_law_794 : decode code 794 = .ok (.iconst 1, 1) := by decide +kernel
theorem dL_law_795 : decode code 795 = .ok (.iadd, 1) := by decide +kernel
theorem dL_law_796 : decode code 796 = .ok (.iaload, 1) := by decide +kernel
theorem dL_law_797 : decode code 797 = .ok (.invokevirtual 117, 3) := by decide +kernel
theorem dL_law_800 : decode code 800 = .ok (.aload_n 2, 1) := by decide +kernel
theorem dL_law_801 : decode code 801 = .ok (.aload_n 0, 1) := by decide +kernel
theorem dL_law_802 : decode code 802 = .ok (.iload_n 3, 1) := by decide +kernel
theorem dL_law_803 : decode code 803 = .ok (.iconst 1, 1) := by decide +kernel
theorem dL_law_804 : decode code 804 = .ok (.iadd, 1) := by decide +kernel
theorem dL_law_805 : decode code 805 = .ok (.iaload, 1) := by decide +kernel
theorem dL_law_806 : decode code 806 = .ok (.invokevirtual 120, 3) := by decide +kernel
theorem dL_law_809 : decode code 809 = .ok (.if_icmp .eq 51, 3) := by decide +kernel
theorem dL_law_812 : decode code 812 = .ok (.iconst 0, 1) := by decide +kernel
theorem dL_law_813 : decode code 813 = .ok (.ireturn, 1) := by decide +kernel
theorem dL_law_814 : decode code 814 = .ok (.aload_n 1, 1) := by decide +kernel
theorem dL_law_815 : decode code 815 = .ok (.aload_n 0, 1) := by decide +kernel
theorem dL_law_816 : decode code 816 = .ok (.iload_n 3, 1) := by decide +kernel
theorem dL_law_817 : decode code 817 = .ok (.iconst 1, 1) := by decide +kernel
theorem dL_law_818 : decode code 818 = .ok (.iadd, 1) := by decide +kernel
theorem dL_law_819 : decode code 819 = .ok (.iaload, 1) := by decide +kernel
theorem dL_law_820 : decode code 820 = .ok (.invokevirtual 121, 3) := by decide +kernel
theorem dL_law_823 : decode code 823 = .ok (.aload_n 2, 1) := by decide +kernel
theorem dL_law_824 : decode code 824 = .ok (.aload_n 0, 1) := by decide +kernel
theorem dL_law_825 : decode code 825 = .ok (.iload_n 3, 1) := by decide +kernel
theorem dL_law_826 : decode code 826 = .ok (.iconst 1, 1) := by decide +kernel
theorem dL_law_827 : decode code 827 = .ok (.iadd, 1) := by decide +kernel
theorem dL_law_828 : decode code 828 = .ok (.iaload, 1) := by decide +kernel
theorem dL_law_829 : decode code 829 = .ok (.invokevirtual 124, 3) := by decide +kernel
theorem dL_law_832 : decode code 832 = .ok (.if_icmp .eq 28, 3) := by decide +kernel
theorem dL_law_835 : decode code 835 = .ok (.iconst 0, 1) := by decide +kernel
theorem dL_law_836 : decode code 836 = .ok (.ireturn, 1) := by decide +kernel
theorem dL_law_837 : decode code 837 = .ok (.aload_n 1, 1) := by decide +kernel
theorem dL_law_838 : decode code 838 = .ok (.aload_n 0, 1) := by decide +kernel
theorem dL_law_839 : decode code 839 = .ok (.iload_n 3, 1) := by decide +kernel
theorem dL_law_840 : decode code 840 = .ok (.iconst 1, 1) := by decide +kernel
theorem dL_law_841 : decode code 841 = .ok (.iadd, 1) := by decide +kernel
theorem dL_law_842 : decode code 842 = .ok (.iaload, 1) := by decide +kernel
theorem dL_law_843 : decode code 843 = .ok (.invokevirtual 125, 3) := by decide +kernel
theorem dL_law_846 : decode code 846 = .ok (.aload_n 2, 1) := by decide +kernel
theorem dL_law_847 : decode code 847 = .ok (.aload_n 0, 1) := by decide +kernel
theorem dL_law_848 : decode code 848 = .ok (.iload_n 3, 1) := by decide +kernel
theorem dL_law_849 : decode code 849 = .ok (.iconst 1, 1) := by decide +kernel
theorem dL_law_850 : decode code 850 = .ok (.iadd, 1) := by decide +kernel
theorem dL_law_851 : decode code 851 = .ok (.iaload, 1) := by decide +kernel
theorem dL_law_852 : decode code 852 = .ok (.invokevirtual 128, 3) := by decide +kernel
theorem dL_law_855 : decode code 855 = .ok (.if_icmp .eq 5, 3) := by decide +kernel
theorem dL_law_858 : decode code 858 = .ok (.iconst 0, 1) := by decide +kernel
theorem dL_law_859 : decode code 859 = .ok (.ireturn, 1) := by decide +kernel
theorem dL_law_860 : decode code 860 = .ok (.iinc 3 3, 3) := by decide +kernel
theorem dL_law_863 : decode code 863 = .ok (.goto (-845), 3) := by decide +kernel
theorem dL_law_866 : decode code 866 = .ok (.iconst 1, 1) := by decide +kernel
theorem dL_law_867 : decode code 867 = .ok (.ireturn, 1) := by decide +kernel
def R_law : String := "SuetTroublesLaw"
def lw_P (b : Addr) (xs : List Int32) (args : Array Value) (s : State) : Prop := args = #[.ref b] ∧ s.IntsAt b xs ∧ xs.length ≤ 192 ∧ (Jvm.Cond.and given_1 narrow_1).before args s = true
def lw_Q (_ : Array Value) (s : State) (o : Outcome) (t : State) : Prop := o = .returned (some (.int 1)) ∧ Framed s o t [] 600000 7302250
def lw_Z (below : List Frame) (a : Array Value) (s : State) : State → Prop := fun t => ∃ o, t.status = .running ∧ Ended t below o ∧ lw_Q a s o t
/-- the law's own end, with 1 on the stack, nothing written that was there before, its room as the claim has it -/
theorem lw_ret {p : Program} {l : Launch} {e : Env} {s : State} {m : MethodId} {below : List Frame} {meth : Method} {c : Code} {b : Nat} (hx : p.tables.exec = Jvm.exec) (hb : c.code = code) (hr : meth.sig.returnType = ret) (hlocks : meth.locks = false) {pc : Nat} {H : Heap} {ls : Array Slot} (hdg : decode code pc = .ok (.ireturn, 1)) : W p l e room_1 s m #[Value.ref b] below meth c H [] 600000 7302250 (lw_Z below #[Value.ref b] s) (F0 m pc ls [.int 1]) := by
  intro T hT X
  obtain ⟨fs, hret, hrun, hended, hW, hframe⟩ := X.leave (v := some (.int 1)) (hlocks := hlocks) (fun h => by rw [hr] at h; cases h)
  have hmeth' : T.vm.method? m = some meth := X.method'
  refine ⟨T.setFrames fs, ?_, .returned (some (.int 1)), hrun, hended, rfl, ⟨_, rfl⟩, hW, hframe⟩
  jvm_step X.here [X.here.top, hx, hb, hdg, hmeth', hr, ret, narrow_b1]
  (try refine ⟨rfl, ?_⟩); (try refine ⟨rfl, ?_⟩)
  first | (intro acts; rw [hret _ acts rfl rfl rfl]) | rw [hret _ _ rfl rfl rfl]
  exact Steps.refl _
/-- what holds at the law's entry: the machine, the code, the tables' words (any of lw_tbl by 'hts w (by decide +kernel)'), the script of L ints xs at the cell b, what the Statement gives of the start (any of its parts by flat_of_before) -/
def lw_At (p : Program) (s : State) (m : MethodId) (meth : Method) (c : Code) (b L : Nat) (xs : Nat → Int32) : Prop :=
  p.tables.exec = Jvm.exec ∧ c.code = code ∧ meth.sig.returnType = ret ∧ c.maxLocals = 4 ∧ s.vm.findClass R_law = some m.cls ∧ (∀ w ∈ lw_tbl, w.before #[Value.ref b] s = true) ∧ va_X b L xs s s.heap ∧ b < s.heap.size ∧ meth.locks = false ∧ (Jvm.Cond.and given_1 narrow_1).before #[Value.ref b] s = true
def XS (b bs L : Nat) (xs : Nat → Int32) (args : Array Value) (s : State) : Prop := b = s.heap.size ∧ args = #[Value.ref bs] ∧ va_X bs L xs s s.heap ∧ bs < s.heap.size
def ZL (b bs L : Nat) (xs : Nat → Int32) : zZZ := fun args s below t => XS b bs L xs args s → lw_Z below args s t
abbrev LA (l : Launch) (D : zDD) (b bs L : Nat) (xs : Nat → Int32) (pc : Nat) (lv : List (Nat × Value)) (stk : List Value) (σ : zSg) (τ : zLm) : Prop := zA l D b M_law 60 0 600000 7302250 (ZL b bs L xs) pc lv stk 144 1931 N0 K0 G0 σ τ
section LAWROWS
variable {l : Launch} {D : zDD} {b bs L : Nat} {xs : Nat → Int32} {h fz kc ks : Nat} {pc : Nat} {lv : List (Nat × Value)} {stk st0 : List Value} {k n N : Nat} {kd : zKd} {γ : zGm} {σ : zSg} {τ : zLm}
theorem zL_have (a : ∀ (p : Program) (e : Env) (R : Room) (s : State) (m : MethodId) (args : Array Value) (below : List Frame) (meth : Method) (c : Code), XS b bs L xs args s → zCx b M_law h kc ks p R s m args meth c → ∀ (H : Heap) (locs : List Loc) (ls : Array Slot), lv_has ls 4 lv → zWd D b fz N kd γ σ τ s H → va_S (fun q => b ≤ q) s.heap H locs → W p l e R s m args below meth c H locs k n (ZL b bs L xs args s below) (F0 m pc ls stk)) : zA l D b M_law h fz kc ks (ZL b bs L xs) pc lv stk k n N kd γ σ τ := by
  intro p e R s m args below meth c C H locs ls hl hW hS
  by_cases hX : XS b bs L xs args s
  · exact a p e R s m args below meth c hX C H locs ls hl hW hS
  · intro T hT X
    exact ⟨_, Steps.refl _, fun q => absurd q hX⟩
theorem r_slen (hd : decode code pc = .ok (.arraylength, 1)) (a : zA l D b M_law h fz kc ks (ZL b bs L xs) (pc + 1) lv (.int (Int32.ofNat L) :: stk) k n N kd γ σ τ) : zA l D b M_law h fz kc ks (ZL b bs L xs) pc lv (.ref bs :: stk) k n N kd γ σ τ := by
  refine zL_have (fun p e R s m args below meth c hX C H locs ls hl hW hS => ?_)
  obtain ⟨e1, e2, e3, e4⟩ := id hX
  exact va_slen C.1 C.2.1 e3 e4 (by show ¬ b ≤ bs; omega) hS hd (a p e R s m args below meth c C H locs ls hl hW hS)
theorem r_sld {i : Int32} (hd : decode code pc = .ok (.iaload, 1)) (hin : vp_in i L) (a : zA l D b M_law h fz kc ks (ZL b bs L xs) (pc + 1) lv (.int (xs i.toNatClampNeg) :: stk) k n N kd γ σ τ) : zA l D b M_law h fz kc ks (ZL b bs L xs) pc lv (.int i :: .ref bs :: stk) k n N kd γ σ τ := by
  refine zL_have (fun p e R s m args below meth c hX C H locs ls hl hW hS => ?_)
  obtain ⟨e1, e2, e3, e4⟩ := id hX
  exact va_sld C.1 C.2.1 e3 e4 (by show ¬ b ≤ bs; omega) hS hin hd (a p e R s m args below meth c C H locs ls hl hW hS)
theorem lw_retR {p : Program} {l : Launch} {e : Env} {R : Room} {s : State} {m : MethodId} {below : List Frame} {meth : Method} {c : Code} {b : Nat} (hx : p.tables.exec = Jvm.exec) (hb : c.code = code) (hr : meth.sig.returnType = ret) (hlocks : meth.locks = false) {pc : Nat} {H : Heap} {ls : Array Slot} (hdg : decode code pc = .ok (.ireturn, 1)) : W p l e R s m #[Value.ref b] below meth c H [] 600000 7302250 (lw_Z below #[Value.ref b] s) (F0 m pc ls [.int 1]) := by
  intro T hT X
  obtain ⟨fs, hret, hrun, hended, hW, hframe⟩ := X.leave (v := some (.int 1)) (hlocks := hlocks) (fun h => by rw [hr] at h; cases h)
  have hmeth' : T.vm.method? m = some meth := X.method'
  refine ⟨T.setFrames fs, ?_, .returned (some (.int 1)), hrun, hended, rfl, ⟨_, rfl⟩, hW, hframe⟩
  jvm_step X.here [X.here.top, hx, hb, hdg, hmeth', hr, ret, narrow_b1]
  (try refine ⟨rfl, ?_⟩); (try refine ⟨rfl, ?_⟩)
  first | (intro acts; rw [hret _ acts rfl rfl rfl]) | rw [hret _ _ rfl rfl rfl]
  exact Steps.refl _
theorem r_lawret (hd : decode code pc = .ok (.ireturn, 1)) (hk : k ≤ 600000) (hn : n ≤ 7302250) : zA l D b M_law h fz kc ks (ZL b bs L xs) pc lv [.int 1] k n N kd γ σ τ := by
  refine zL_have (fun p e R s m args below meth c hX C H locs ls hl hW hS => ?_)
  obtain ⟨e1, e2, e3, e4⟩ := id hX
  subst e2
  refine va_forget (fun q hq => by have := hS.2.2 q hq; simp only at this; omega) ?_
  refine W.widen hk hn ?_
  intro T hT X
  obtain ⟨t, h1, h2⟩ := lw_retR C.1 C.2.1 C.2.2.1 C.2.2.2.2.2.2.1 hd T hT X
  exact ⟨t, h1, fun _ => h2⟩
variable {K : zMI} {h' ci c0 index np : Nat} {F : Int32 → zSg → zLm → Prop} {Z : zZZ} {M : zMI}
theorem rcL_VI (As : List Value) (hok : okV K np ci) (hN : c0 < N0) (hk : (K0 c0).1 = ci + 4) (hw : Cond.methodLink M.1.cls index K.1 ∈ lw_tbl) (hn : As.length = np) (hst : st0 = As.reverse ++ .ref (b + c0) :: stk) (hroom : (stk.map fun v => v.category).sum ≤ 8) (hd : decode M.2.1 pc = .ok (.invokevirtual index, 3)) (hh : h' < h) (hkc : k ≤ kc) (hks : n ≤ ks)
    (sp : SI l D b K h' γ (.ref (b + c0) :: As) σ τ F) (kk : ∀ x σ' τ', F x σ' τ' → zA l D b M h 0 kc ks Z (pc + 3) lv (.int x :: stk) k n N0 K0 γ σ' τ') : zA l D b M h 0 kc ks Z pc lv st0 k n N0 K0 γ σ τ := by
  obtain ⟨C, T, nf, hok1, hC, hin, hse, hci⟩ := hok
  refine r_callV (mc' := 0) (ms' := 0) As hok1 hC hin hse hci hN hk hw hn hst hroom hd hh hkc hks (zS.mono sp ?_)
  rintro r N kd γ' σ' τ' ⟨rfl, rfl, rfl, x, rfl, hF⟩
  exact kk x σ' τ' hF
end LAWROWS
theorem w_law_724 {l : Launch} {D : zDD} {b bs L : Nat} {xs : Nat → Int32} (x3 y0 y2 y3 : Int32) (σ : zSg) (τ : zLm) (h : SI l D b M_X12_bump 1 G0 [.ref (b + 125), .int y2, .int y3] σ τ (fun r1 σ1 τ1 => (y0 = r1 → LA l D b bs L xs 18 [(0, .ref bs), (1, .ref (b + 0)), (2, .ref (b + 125)), (3, .int (x3 + 3))] [] σ1 τ1) ∧ (¬ y0 = r1 → False))) : LA l D b bs L xs 724 [(0, .ref bs), (1, .ref (b + 0)), (2, .ref (b + 125)), (3, .int x3)] [.int y3, .int y2, .ref (b + 125), .int y0] σ τ := by
  refine rcL_VI (h' := 1) [.int y2, .int y3] okv_X12_bump (by decide) (congrArg Prod.fst k0_125) tw_1230 rfl rfl (Nat.le_of_ble_eq_true rfl) dL_law_724 (by decide) (by decide) (by decide) h (fun r1 σ1 τ1 h => ?_)
  refine r_icmp_eq (tgt := 860) dL_law_727 (by decide) (fun c2 => ?_) (fun c2 => ?_)
  · replace h := h.1 c2
    refine r_inc 3 dL_law_860 rfl ci_3 (by decide) rfl ?_
    refine r_goto (tgt := 18) dL_law_863 (by decide) ?_
    refine r_lv [1, 2, 3, 0] rfl ?_
    exact h
  · replace h := h.2 c2
    refine r_iconst dL_law_730 ci_0 ?_
    exact False.elim h

theorem w_law_702 {l : Launch} {D : zDD} {b bs L : Nat} {xs : Nat → Int32} (x3 y1 y2 : Int32) (σ : zSg) (τ : zLm) (h : SI l D b M_X11_bump 1 G0 [.ref (b + 0), .int y1, .int y2] σ τ (fun r1 σ1 τ1 => vp_in (x3 + 1) L ∧ (vp_in (x3 + 2) L ∧ (((xs (x3 + 2).toNatClampNeg) = 0 → LA l D b bs L xs 724 [(0, .ref bs), (1, .ref (b + 0)), (2, .ref (b + 125)), (3, .int x3)] [.int 0, .int (xs (x3 + 1).toNatClampNeg), .ref (b + 125), .int r1] σ1 τ1) ∧ (¬ (xs (x3 + 2).toNatClampNeg) = 0 → LA l D b bs L xs 724 [(0, .ref bs), (1, .ref (b + 0)), (2, .ref (b + 125)), (3, .int x3)] [.int 1, .int (xs (x3 + 1).toNatClampNeg), .ref (b + 125), .int r1] σ1 τ1))))) : LA l D b bs L xs 702 [(0, .ref bs), (1, .ref (b + 0)), (2, .ref (b + 125)), (3, .int x3)] [.int y2, .int y1, .ref (b + 0)] σ τ := by
  refine rcL_VI (h' := 1) [.int y1, .int y2] okv_X11_bump (by decide) (congrArg Prod.fst k0_0) tw_756 rfl rfl (Nat.le_of_ble_eq_true rfl) dL_law_702 (by decide) (by decide) (by decide) h (fun r1 σ1 τ1 h => ?_)
  refine r_aload_n 2 dL_law_705 rfl rfl ?_
  refine r_aload_n 0 dL_law_706 rfl rfl ?_
  refine r_iload_n 3 dL_law_707 rfl rfl ?_
  refine r_iconst dL_law_708 ci_1 ?_
  refine r_iadd dL_law_709 ?_
  refine r_sld dL_law_710 h.1 ?_
  replace h := h.2
  refine r_aload_n 0 dL_law_711 rfl rfl ?_
  refine r_iload_n 3 dL_law_712 rfl rfl ?_
  refine r_iconst dL_law_713 ci_2 ?_
  refine r_iadd dL_law_714 ?_
  refine r_sld dL_law_715 h.1 ?_
  replace h := h.2
  refine r_if_eq (tgt := 723) dL_law_716 (by decide) (fun c2 => ?_) (fun c2 => ?_)
  · replace h := h.1 c2
    refine r_iconst dL_law_723 ci_0 ?_
    exact h
  · replace h := h.2 c2
    refine r_iconst dL_law_719 ci_1 ?_
    refine r_goto (tgt := 724) dL_law_720 (by decide) ?_
    exact h

theorem w_law_18 {l : Launch} {D : zDD} {b bs L : Nat} {xs : Nat → Int32} (x3 : Int32) (σ : zSg) (τ : zLm) (h : (((Int32.ofNat L) - 3) < x3 → True) ∧ (¬ ((Int32.ofNat L) - 3) < x3 → (vp_in x3 L ∧ (((((xs x3.toNatClampNeg) &&& 31).toInt < 0 ∨ (27 : Int) < ((xs x3.toNatClampNeg) &&& 31).toInt) → LA l D b bs L xs 18 [(0, .ref bs), (1, .ref (b + 0)), (2, .ref (b + 125)), (3, .int (x3 + 3))] [] σ τ) ∧ (((xs x3.toNatClampNeg) &&& 31) = 0 → (vp_in (x3 + 1) L ∧ (SI l D b M_X11_feed 1 G0 [.ref (b + 0), .int (xs (x3 + 1).toNatClampNeg)] σ τ (fun r2 σ2 τ2 => vp_in (x3 + 1) L ∧ (SI l D b M_X12_feed 1 G0 [.ref (b + 125), .int (xs (x3 + 1).toNatClampNeg)] σ2 τ2 (fun r3 σ3 τ3 => (r2 = r3 → LA l D b bs L xs 18 [(0, .ref bs), (1, .ref (b + 0)), (2, .ref (b + 125)), (3, .int (x3 + 3))] [] σ3 τ3) ∧ (¬ r2 = r3 → False))))))) ∧ (((xs x3.toNatClampNeg) &&& 31) = 1 → (SI l D b M_X11_kitchen 6 G0 [.ref (b + 0)] σ τ (fun r5 σ5 τ5 => SI l D b M_X12_kitchen 6 G0 [.ref (b + 125)] σ5 τ5 (fun r6 σ6 τ6 => (r5 = r6 → LA l D b bs L xs 18 [(0, .ref bs), (1, .ref (b + 0)), (2, .ref (b + 125)), (3, .int (x3 + 3))] [] σ6 τ6) ∧ (¬ r5 = r6 → False))))) ∧ (((xs x3.toNatClampNeg) &&& 31) = 2 → (SI l D b M_X11_fault 0 G0 [.ref (b + 0)] σ τ (fun r8 σ8 τ8 => SI l D b M_X12_fault 0 G0 [.ref (b + 125)] σ8 τ8 (fun r9 σ9 τ9 => (r8 = r9 → LA l D b bs L xs 18 [(0, .ref bs), (1, .ref (b + 0)), (2, .ref (b + 125)), (3, .int (x3 + 3))] [] σ9 τ9) ∧ (¬ r8 = r9 → False))))) ∧ (((xs x3.toNatClampNeg) &&& 31) = 3 → (vp_in (x3 + 1) L ∧ (SI l D b M_X11_told 6 G0 [.ref (b + 0), .int (xs (x3 + 1).toNatClampNeg)] σ τ (fun r11 σ11 τ11 => vp_in (x3 + 1) L ∧ (SI l D b M_X12_told 4 G0 [.ref (b + 125), .int (xs (x3 + 1).toNatClampNeg)] σ11 τ11 (fun r12 σ12 τ12 => (r11 = r12 → LA l D b bs L xs 18 [(0, .ref bs), (1, .ref (b + 0)), (2, .ref (b + 125)), (3, .int (x3 + 3))] [] σ12 τ12) ∧ (¬ r11 = r12 → False))))))) ∧ (((xs x3.toNatClampNeg) &&& 31) = 4 → (vp_in (x3 + 1) L ∧ (vp_in (x3 + 2) L ∧ (SI l D b M_X11_trouble 3 G0 [.ref (b + 0), .int (xs (x3 + 1).toNatClampNeg), .int (xs (x3 + 2).toNatClampNeg)] σ τ (fun r14 σ14 τ14 => vp_in (x3 + 1) L ∧ (vp_in (x3 + 2) L ∧ (SI l D b M_X12_trouble 3 G0 [.ref (b + 125), .int (xs (x3 + 1).toNatClampNeg), .int (xs (x3 + 2).toNatClampNeg)] σ14 τ14 (fun r15 σ15 τ15 => (r14 = r15 → LA l D b bs L xs 18 [(0, .ref bs), (1, .ref (b + 0)), (2, .ref (b + 125)), (3, .int (x3 + 3))] [] σ15 τ15) ∧ (¬ r14 = r15 → False))))))))) ∧ (((xs x3.toNatClampNeg) &&& 31) = 5 → (vp_in (x3 + 1) L ∧ (vp_in (x3 + 2) L ∧ (SI l D b M_X11_eater 1 G0 [.ref (b + 0), .int (xs (x3 + 1).toNatClampNeg), .int (xs (x3 + 2).toNatClampNeg)] σ τ (fun r17 σ17 τ17 => vp_in (x3 + 1) L ∧ (vp_in (x3 + 2) L ∧ (SI l D b M_X12_eater 2 G0 [.ref (b + 125), .int (xs (x3 + 1).toNatClampNeg), .int (xs (x3 + 2).toNatClampNeg)] σ17 τ17 (fun r18 σ18 τ18 => (r17 = r18 → LA l D b bs L xs 18 [(0, .ref bs), (1, .ref (b + 0)), (2, .ref (b + 125)), (3, .int (x3 + 3))] [] σ18 τ18) ∧ (¬ r17 = r18 → False))))))))) ∧ (((xs x3.toNatClampNeg) &&& 31) = 6 → (vp_in (x3 + 1) L ∧ (SI l D b M_X11_wrap 4 G0 [.ref (b + 0), .int (xs (x3 + 1).toNatClampNeg)] σ τ (fun r20 σ20 τ20 => vp_in (x3 + 1) L ∧ (SI l D b M_X12_wrap 4 G0 [.ref (b + 125), .int (xs (x3 + 1).toNatClampNeg)] σ20 τ20 (fun r21 σ21 τ21 => (r20 = r21 → LA l D b bs L xs 18 [(0, .ref bs), (1, .ref (b + 0)), (2, .ref (b + 125)), (3, .int (x3 + 3))] [] σ21 τ21) ∧ (¬ r20 = r21 → False))))))) ∧ (((xs x3.toNatClampNeg) &&& 31) = 7 → (vp_in (x3 + 1) L ∧ (SI l D b M_X11_putOn 3 G0 [.ref (b + 0), .int (xs (x3 + 1).toNatClampNeg)] σ τ (fun r23 σ23 τ23 => vp_in (x3 + 1) L ∧ (SI l D b M_X12_putOn 2 G0 [.ref (b + 125), .int (xs (x3 + 1).toNatClampNeg)] σ23 τ23 (fun r24 σ24 τ24 => (r23 = r24 → LA l D b bs L xs 18 [(0, .ref bs), (1, .ref (b + 0)), (2, .ref (b + 125)), (3, .int (x3 + 3))] [] σ24 τ24) ∧ (¬ r23 = r24 → False))))))) ∧ (((xs x3.toNatClampNeg) &&& 31) = 8 → (vp_in (x3 + 1) L ∧ (SI l D b M_X11_takeOff 3 G0 [.ref (b + 0), .int (xs (x3 + 1).toNatClampNeg)] σ τ (fun r26 σ26 τ26 => vp_in (x3 + 1) L ∧ (SI l D b M_X12_takeOff 2 G0 [.ref (b + 125), .int (xs (x3 + 1).toNatClampNeg)] σ26 τ26 (fun r27 σ27 τ27 => (r26 = r27 → LA l D b bs L xs 18 [(0, .ref bs), (1, .ref (b + 0)), (2, .ref (b + 125)), (3, .int (x3 + 3))] [] σ27 τ27) ∧ (¬ r26 = r27 → False))))))) ∧ (((xs x3.toNatClampNeg) &&& 31) = 9 → (vp_in (x3 + 1) L ∧ (SI l D b M_X11_hour 4 G0 [.ref (b + 0), .int (xs (x3 + 1).toNatClampNeg)] σ τ (fun r29 σ29 τ29 => vp_in (x3 + 1) L ∧ (SI l D b M_X12_hour 3 G0 [.ref (b + 125), .int (xs (x3 + 1).toNatClampNeg)] σ29 τ29 (fun r30 σ30 τ30 => (r29 = r30 → LA l D b bs L xs 18 [(0, .ref bs), (1, .ref (b + 0)), (2, .ref (b + 125)), (3, .int (x3 + 3))] [] σ30 τ30) ∧ (¬ r29 = r30 → False))))))) ∧ (((xs x3.toNatClampNeg) &&& 31) = 10 → (vp_in (x3 + 1) L ∧ (SI l D b M_X11_bear 4 G0 [.ref (b + 0), .int (xs (x3 + 1).toNatClampNeg)] σ τ (fun r32 σ32 τ32 => vp_in (x3 + 1) L ∧ (SI l D b M_X12_bear 4 G0 [.ref (b + 125), .int (xs (x3 + 1).toNatClampNeg)] σ32 τ32 (fun r33 σ33 τ33 => (r32 = r33 → LA l D b bs L xs 18 [(0, .ref bs), (1, .ref (b + 0)), (2, .ref (b + 125)), (3, .int (x3 + 3))] [] σ33 τ33) ∧ (¬ r32 = r33 → False))))))) ∧ (((xs x3.toNatClampNeg) &&& 31) = 11 → (SI l D b M_X11_rest 3 G0 [.ref (b + 0)] σ τ (fun r35 σ35 τ35 => SI l D b M_X12_rest 1 G0 [.ref (b + 125)] σ35 τ35 (fun r36 σ36 τ36 => (r35 = r36 → LA l D b bs L xs 18 [(0, .ref bs), (1, .ref (b + 0)), (2, .ref (b + 125)), (3, .int (x3 + 3))] [] σ36 τ36) ∧ (¬ r35 = r36 → False))))) ∧ (((xs x3.toNatClampNeg) &&& 31) = 12 → (vp_in (x3 + 1) L ∧ (vp_in (x3 + 2) L ∧ (SI l D b M_X11_cut 3 G0 [.ref (b + 0), .int (xs (x3 + 1).toNatClampNeg), .int (xs (x3 + 2).toNatClampNeg)] σ τ (fun r38 σ38 τ38 => vp_in (x3 + 1) L ∧ (vp_in (x3 + 2) L ∧ (SI l D b M_X12_cut 2 G0 [.ref (b + 125), .int (xs (x3 + 1).toNatClampNeg), .int (xs (x3 + 2).toNatClampNeg)] σ38 τ38 (fun r39 σ39 τ39 => (r38 = r39 → LA l D b bs L xs 18 [(0, .ref bs), (1, .ref (b + 0)), (2, .ref (b + 125)), (3, .int (x3 + 3))] [] σ39 τ39) ∧ (¬ r38 = r39 → False))))))))) ∧ (((xs x3.toNatClampNeg) &&& 31) = 13 → (vp_in (x3 + 1) L ∧ (SI l D b M_X11_drift 5 G0 [.ref (b + 0), .int (xs (x3 + 1).toNatClampNeg)] σ τ (fun r41 σ41 τ41 => vp_in (x3 + 1) L ∧ (SI l D b M_X12_drift 5 G0 [.ref (b + 125), .int (xs (x3 + 1).toNatClampNeg)] σ41 τ41 (fun r42 σ42 τ42 => (r41 = r42 → LA l D b bs L xs 18 [(0, .ref bs), (1, .ref (b + 0)), (2, .ref (b + 125)), (3, .int (x3 + 3))] [] σ42 τ42) ∧ (¬ r41 = r42 → False))))))) ∧ (((xs x3.toNatClampNeg) &&& 31) = 14 → (SI l D b M_X11_undo 3 G0 [.ref (b + 0)] σ τ (fun r44 σ44 τ44 => SI l D b M_X12_undo 0 G0 [.ref (b + 125)] σ44 τ44 (fun r45 σ45 τ45 => (r44 = r45 → LA l D b bs L xs 18 [(0, .ref bs), (1, .ref (b + 0)), (2, .ref (b + 125)), (3, .int (x3 + 3))] [] σ45 τ45) ∧ (¬ r44 = r45 → False))))) ∧ (((xs x3.toNatClampNeg) &&& 31) = 15 → (vp_in (x3 + 1) L ∧ (vp_in (x3 + 2) L ∧ (SI l D b M_X11_toWrap 4 G0 [.ref (b + 0), .int (xs (x3 + 1).toNatClampNeg), .int (xs (x3 + 2).toNatClampNeg)] σ τ (fun r47 σ47 τ47 => vp_in (x3 + 1) L ∧ (vp_in (x3 + 2) L ∧ (SI l D b M_X12_toWrap 3 G0 [.ref (b + 125), .int (xs (x3 + 1).toNatClampNeg), .int (xs (x3 + 2).toNatClampNeg)] σ47 τ47 (fun r48 σ48 τ48 => (r47 = r48 → LA l D b bs L xs 18 [(0, .ref bs), (1, .ref (b + 0)), (2, .ref (b + 125)), (3, .int (x3 + 3))] [] σ48 τ48) ∧ (¬ r47 = r48 → False))))))))) ∧ (((xs x3.toNatClampNeg) &&& 31) = 16 → (vp_in (x3 + 1) L ∧ (vp_in (x3 + 2) L ∧ (SI l D b M_X11_soft 3 G0 [.ref (b + 0), .int (xs (x3 + 1).toNatClampNeg), .int (xs (x3 + 2).toNatClampNeg)] σ τ (fun r50 σ50 τ50 => vp_in (x3 + 1) L ∧ (vp_in (x3 + 2) L ∧ (SI l D b M_X12_soft 3 G0 [.ref (b + 125), .int (xs (x3 + 1).toNatClampNeg), .int (xs (x3 + 2).toNatClampNeg)] σ50 τ50 (fun r51 σ51 τ51 => (r50 = r51 → LA l D b bs L xs 18 [(0, .ref bs), (1, .ref (b + 0)), (2, .ref (b + 125)), (3, .int (x3 + 3))] [] σ51 τ51) ∧ (¬ r50 = r51 → False))))))))) ∧ (((xs x3.toNatClampNeg) &&& 31) = 17 → (vp_in (x3 + 1) L ∧ (SI l D b M_X11_when 3 G0 [.ref (b + 0), .int (xs (x3 + 1).toNatClampNeg)] σ τ (fun r53 σ53 τ53 => vp_in (x3 + 1) L ∧ (SI l D b M_X12_when 3 G0 [.ref (b + 125), .int (xs (x3 + 1).toNatClampNeg)] σ53 τ53 (fun r54 σ54 τ54 => (r53 = r54 → LA l D b bs L xs 18 [(0, .ref bs), (1, .ref (b + 0)), (2, .ref (b + 125)), (3, .int (x3 + 3))] [] σ54 τ54) ∧ (¬ r53 = r54 → False))))))) ∧ (((xs x3.toNatClampNeg) &&& 31) = 18 → (vp_in (x3 + 1) L ∧ (vp_in (x3 + 2) L ∧ (SI l D b M_X11_order 11 G0 [.ref (b + 0), .int (xs (x3 + 1).toNatClampNeg), .int (xs (x3 + 2).toNatClampNeg)] σ τ (fun r56 σ56 τ56 => vp_in (x3 + 1) L ∧ (vp_in (x3 + 2) L ∧ (SI l D b M_X12_order 4 G0 [.ref (b + 125), .int (xs (x3 + 1).toNatClampNeg), .int (xs (x3 + 2).toNatClampNeg)] σ56 τ56 (fun r57 σ57 τ57 => (r56 = r57 → LA l D b bs L xs 18 [(0, .ref bs), (1, .ref (b + 0)), (2, .ref (b + 125)), (3, .int (x3 + 3))] [] σ57 τ57) ∧ (¬ r56 = r57 → False))))))))) ∧ (((xs x3.toNatClampNeg) &&& 31) = 19 → (vp_in (x3 + 1) L ∧ (vp_in (x3 + 2) L ∧ (SI l D b M_X11_halves 3 G0 [.ref (b + 0), .int (xs (x3 + 1).toNatClampNeg), .int (xs (x3 + 2).toNatClampNeg)] σ τ (fun r59 σ59 τ59 => vp_in (x3 + 1) L ∧ (vp_in (x3 + 2) L ∧ (SI l D b M_X12_halves 2 G0 [.ref (b + 125), .int (xs (x3 + 1).toNatClampNeg), .int (xs (x3 + 2).toNatClampNeg)] σ59 τ59 (fun r60 σ60 τ60 => (r59 = r60 → LA l D b bs L xs 18 [(0, .ref bs), (1, .ref (b + 0)), (2, .ref (b + 125)), (3, .int (x3 + 3))] [] σ60 τ60) ∧ (¬ r59 = r60 → False))))))))) ∧ (((xs x3.toNatClampNeg) &&& 31) = 20 → (vp_in (x3 + 1) L ∧ (vp_in (x3 + 2) L ∧ (SI l D b M_X11_mild 0 G0 [.ref (b + 0), .int (xs (x3 + 1).toNatClampNeg), .int (xs (x3 + 2).toNatClampNeg)] σ τ (fun r62 σ62 τ62 => vp_in (x3 + 1) L ∧ (vp_in (x3 + 2) L ∧ (SI l D b M_X12_mild 1 G0 [.ref (b + 125), .int (xs (x3 + 1).toNatClampNeg), .int (xs (x3 + 2).toNatClampNeg)] σ62 τ62 (fun r63 σ63 τ63 => (r62 = r63 → LA l D b bs L xs 18 [(0, .ref bs), (1, .ref (b + 0)), (2, .ref (b + 125)), (3, .int (x3 + 3))] [] σ63 τ63) ∧ (¬ r62 = r63 → False))))))))) ∧ (((xs x3.toNatClampNeg) &&& 31) = 21 → (vp_in (x3 + 1) L ∧ (vp_in (x3 + 2) L ∧ (((xs (x3 + 2).toNatClampNeg) = 0 → LA l D b bs L xs 702 [(0, .ref bs), (1, .ref (b + 0)), (2, .ref (b + 125)), (3, .int x3)] [.int 0, .int (xs (x3 + 1).toNatClampNeg), .ref (b + 0)] σ τ) ∧ (¬ (xs (x3 + 2).toNatClampNeg) = 0 → LA l D b bs L xs 702 [(0, .ref bs), (1, .ref (b + 0)), (2, .ref (b + 125)), (3, .int x3)] [.int 1, .int (xs (x3 + 1).toNatClampNeg), .ref (b + 0)] σ τ))))) ∧ (((xs x3.toNatClampNeg) &&& 31) = 22 → (vp_in (x3 + 1) L ∧ (vp_in (x3 + 2) L ∧ (SI l D b M_X11_write 1 G0 [.ref (b + 0), .int (xs (x3 + 1).toNatClampNeg), .int (xs (x3 + 2).toNatClampNeg)] σ τ (fun r66 σ66 τ66 => vp_in (x3 + 1) L ∧ (vp_in (x3 + 2) L ∧ (SI l D b M_X12_write 2 G0 [.ref (b + 125), .int (xs (x3 + 1).toNatClampNeg), .int (xs (x3 + 2).toNatClampNeg)] σ66 τ66 (fun r67 σ67 τ67 => (r66 = r67 → LA l D b bs L xs 18 [(0, .ref bs), (1, .ref (b + 0)), (2, .ref (b + 125)), (3, .int (x3 + 3))] [] σ67 τ67) ∧ (¬ r66 = r67 → False))))))))) ∧ (((xs x3.toNatClampNeg) &&& 31) = 23 → (SI l D b M_X11_tear 1 G0 [.ref (b + 0)] σ τ (fun r69 σ69 τ69 => SI l D b M_X12_tear 0 G0 [.ref (b + 125)] σ69 τ69 (fun r70 σ70 τ70 => (r69 = r70 → LA l D b bs L xs 18 [(0, .ref bs), (1, .ref (b + 0)), (2, .ref (b + 125)), (3, .int (x3 + 3))] [] σ70 τ70) ∧ (¬ r69 = r70 → False))))) ∧ (((xs x3.toNatClampNeg) &&& 31) = 24 → (SI l D b M_X11_judge 1 G0 [.ref (b + 0)] σ τ (fun r72 σ72 τ72 => SI l D b M_X12_judge 0 G0 [.ref (b + 125)] σ72 τ72 (fun r73 σ73 τ73 => (r72 = r73 → LA l D b bs L xs 18 [(0, .ref bs), (1, .ref (b + 0)), (2, .ref (b + 125)), (3, .int (x3 + 3))] [] σ73 τ73) ∧ (¬ r72 = r73 → False))))) ∧ (((xs x3.toNatClampNeg) &&& 31) = 25 → (vp_in (x3 + 1) L ∧ (SI l D b M_X11_seed 0 G0 [.ref (b + 0), .int (xs (x3 + 1).toNatClampNeg)] σ τ (fun r75 σ75 τ75 => vp_in (x3 + 1) L ∧ (SI l D b M_X12_seed 0 G0 [.ref (b + 125), .int (xs (x3 + 1).toNatClampNeg)] σ75 τ75 (fun r76 σ76 τ76 => (r75 = r76 → LA l D b bs L xs 18 [(0, .ref bs), (1, .ref (b + 0)), (2, .ref (b + 125)), (3, .int (x3 + 3))] [] σ76 τ76) ∧ (¬ r75 = r76 → False))))))) ∧ (((xs x3.toNatClampNeg) &&& 31) = 26 → (vp_in (x3 + 1) L ∧ (SI l D b M_X11_keep 3 G0 [.ref (b + 0), .int (xs (x3 + 1).toNatClampNeg)] σ τ (fun r78 σ78 τ78 => vp_in (x3 + 1) L ∧ (SI l D b M_X12_keep 1 G0 [.ref (b + 125), .int (xs (x3 + 1).toNatClampNeg)] σ78 τ78 (fun r79 σ79 τ79 => (r78 = r79 → LA l D b bs L xs 18 [(0, .ref bs), (1, .ref (b + 0)), (2, .ref (b + 125)), (3, .int (x3 + 3))] [] σ79 τ79) ∧ (¬ r78 = r79 → False))))))) ∧ (((xs x3.toNatClampNeg) &&& 31) = 27 → (vp_in (x3 + 1) L ∧ (SI l D b M_X11_goBack 3 G0 [.ref (b + 0), .int (xs (x3 + 1).toNatClampNeg)] σ τ (fun r81 σ81 τ81 => vp_in (x3 + 1) L ∧ (SI l D b M_X12_goBack 1 G0 [.ref (b + 125), .int (xs (x3 + 1).toNatClampNeg)] σ81 τ81 (fun r82 σ82 τ82 => (r81 = r82 → LA l D b bs L xs 18 [(0, .ref bs), (1, .ref (b + 0)), (2, .ref (b + 125)), (3, .int (x3 + 3))] [] σ82 τ82) ∧ (¬ r81 = r82 → False))))))))))) : LA l D b bs L xs 18 [(0, .ref bs), (1, .ref (b + 0)), (2, .ref (b + 125)), (3, .int x3)] [] σ τ := by
  refine r_iload_n 3 dL_law_18 rfl rfl ?_
  refine r_aload_n 0 dL_law_19 rfl rfl ?_
  refine r_slen dL_law_20 ?_
  refine r_iconst dL_law_21 ci_3 ?_
  refine r_isub dL_law_22 ?_
  refine r_icmp_gt (tgt := 866) dL_law_23 (by decide) (fun c1 => ?_) (fun c1 => ?_)
  · replace h := h.1 c1
    refine r_iconst dL_law_866 ci_1 ?_
    exact r_lawret dL_law_867 (by decide) (by decide)
  · replace h := h.2 c1
    refine r_aload_n 0 dL_law_26 rfl rfl ?_
    refine r_iload_n 3 dL_law_27 rfl rfl ?_
    refine r_sld dL_law_28 h.1 ?_
    replace h := h.2
    refine r_bipush dL_law_29 cb_31 ?_
    refine r_iand dL_law_31 ?_
    by_cases ho : ((xs x3.toNatClampNeg) &&& 31).toInt < 0 ∨ (27 : Int) < ((xs x3.toNatClampNeg) &&& 31).toInt
    · replace h := h.1 ho
      refine r_tableOut (tgt := 860) dL_law_32 ho (by decide) ?_
      refine r_inc 3 dL_law_860 rfl ci_3 (by decide) rfl ?_
      refine r_goto (tgt := 18) dL_law_863 (by decide) ?_
      refine r_lv [1, 2, 3, 0] rfl ?_
      exact h
    · replace h := h.2
      rcases sw_27 ho with e9 | e9 | e9 | e9 | e9 | e9 | e9 | e9 | e9 | e9 | e9 | e9 | e9 | e9 | e9 | e9 | e9 | e9 | e9 | e9 | e9 | e9 | e9 | e9 | e9 | e9 | e9 | e9
      · replace h := h.1 e9
        refine r_tableIn (tgt := 160) (off := 128) dL_law_32 (by rw [e9]; decide) (by rw [e9]; decide) (by rw [e9]; rfl) (by decide) ?_
        refine r_aload_n 1 dL_law_160 rfl rfl ?_
        refine r_aload_n 0 dL_law_161 rfl rfl ?_
        refine r_iload_n 3 dL_law_162 rfl rfl ?_
        refine r_iconst dL_law_163 ci_1 ?_
        refine r_iadd dL_law_164 ?_
        refine r_sld dL_law_165 h.1 ?_
        replace h := h.2
        refine rcL_VI (h' := 1) [.int (xs (x3 + 1).toNatClampNeg)] okv_X11_feed (by decide) (congrArg Prod.fst k0_0) tw_321 rfl rfl (Nat.le_of_ble_eq_true rfl) dL_law_166 (by decide) (by decide) (by decide) h (fun r2 σ2 τ2 h => ?_)
        refine r_aload_n 2 dL_law_169 rfl rfl ?_
        refine r_aload_n 0 dL_law_170 rfl rfl ?_
        refine r_iload_n 3 dL_law_171 rfl rfl ?_
        refine r_iconst dL_law_172 ci_1 ?_
        refine r_iadd dL_law_173 ?_
        refine r_sld dL_law_174 h.1 ?_
        replace h := h.2
        refine rcL_VI (h' := 1) [.int (xs (x3 + 1).toNatClampNeg)] okv_X12_feed (by decide) (congrArg Prod.fst k0_125) tw_920 rfl rfl (Nat.le_of_ble_eq_true rfl) dL_law_175 (by decide) (by decide) (by decide) h (fun r3 σ3 τ3 h => ?_)
        refine r_icmp_eq (tgt := 860) dL_law_178 (by decide) (fun c4 => ?_) (fun c4 => ?_)
        · replace h := h.1 c4
          refine r_inc 3 dL_law_860 rfl ci_3 (by decide) rfl ?_
          refine r_goto (tgt := 18) dL_law_863 (by decide) ?_
          refine r_lv [1, 2, 3, 0] rfl ?_
          exact h
        · replace h := h.2 c4
          refine r_iconst dL_law_181 ci_0 ?_
          exact False.elim h
      · replace h := h.2.1 e9
        refine r_tableIn (tgt := 183) (off := 151) dL_law_32 (by rw [e9]; decide) (by rw [e9]; decide) (by rw [e9]; rfl) (by decide) ?_
        refine r_aload_n 1 dL_law_183 rfl rfl ?_
        refine rcL_VI (h' := 6) [] okv_X11_kitchen (by decide) (congrArg Prod.fst k0_0) tw_331 rfl rfl (Nat.le_of_ble_eq_true rfl) dL_law_184 (by decide) (by decide) (by decide) h (fun r5 σ5 τ5 h => ?_)
        refine r_aload_n 2 dL_law_187 rfl rfl ?_
        refine rcL_VI (h' := 6) [] okv_X12_kitchen (by decide) (congrArg Prod.fst k0_125) tw_929 rfl rfl (Nat.le_of_ble_eq_true rfl) dL_law_188 (by decide) (by decide) (by decide) h (fun r6 σ6 τ6 h => ?_)
        refine r_icmp_eq (tgt := 860) dL_law_191 (by decide) (fun c7 => ?_) (fun c7 => ?_)
        · replace h := h.1 c7
          refine r_inc 3 dL_law_860 rfl ci_3 (by decide) rfl ?_
          refine r_goto (tgt := 18) dL_law_863 (by decide) ?_
          refine r_lv [1, 2, 3, 0] rfl ?_
          exact h
        · replace h := h.2 c7
          refine r_iconst dL_law_194 ci_0 ?_
          exact False.elim h
      · replace h := h.2.2.1 e9
        refine r_tableIn (tgt := 196) (off := 164) dL_law_32 (by rw [e9]; decide) (by rw [e9]; decide) (by rw [e9]; rfl) (by decide) ?_
        refine r_aload_n 1 dL_law_196 rfl rfl ?_
        refine rcL_VI (h' := 0) [] okv_X11_fault (by decide) (congrArg Prod.fst k0_0) tw_425 rfl rfl (Nat.le_of_ble_eq_true rfl) dL_law_197 (by decide) (by decide) (by decide) h (fun r8 σ8 τ8 h => ?_)
        refine r_aload_n 2 dL_law_200 rfl rfl ?_
        refine rcL_VI (h' := 0) [] okv_X12_fault (by decide) (congrArg Prod.fst k0_125) tw_973 rfl rfl (Nat.le_of_ble_eq_true rfl) dL_law_201 (by decide) (by decide) (by decide) h (fun r9 σ9 τ9 h => ?_)
        refine r_icmp_eq (tgt := 860) dL_law_204 (by decide) (fun c10 => ?_) (fun c10 => ?_)
        · replace h := h.1 c10
          refine r_inc 3 dL_law_860 rfl ci_3 (by decide) rfl ?_
          refine r_goto (tgt := 18) dL_law_863 (by decide) ?_
          refine r_lv [1, 2, 3, 0] rfl ?_
          exact h
        · replace h := h.2 c10
          refine r_iconst dL_law_207 ci_0 ?_
          exact False.elim h
      · replace h := h.2.2.2.1 e9
        refine r_tableIn (tgt := 209) (off := 177) dL_law_32 (by rw [e9]; decide) (by rw [e9]; decide) (by rw [e9]; rfl) (by decide) ?_
        refine r_aload_n 1 dL_law_209 rfl rfl ?_
        refine r_aload_n 0 dL_law_210 rfl rfl ?_
        refine r_iload_n 3 dL_law_211 rfl rfl ?_
        refine r_iconst dL_law_212 ci_1 ?_
        refine r_iadd dL_law_213 ?_
        refine r_sld dL_law_214 h.1 ?_
        replace h := h.2
        refine rcL_VI (h' := 6) [.int (xs (x3 + 1).toNatClampNeg)] okv_X11_told (by decide) (congrArg Prod.fst k0_0) tw_429 rfl rfl (Nat.le_of_ble_eq_true rfl) dL_law_215 (by decide) (by decide) (by decide) h (fun r11 σ11 τ11 h => ?_)
        refine r_aload_n 2 dL_law_218 rfl rfl ?_
        refine r_aload_n 0 dL_law_219 rfl rfl ?_
        refine r_iload_n 3 dL_law_220 rfl rfl ?_
        refine r_iconst dL_law_221 ci_1 ?_
        refine r_iadd dL_law_222 ?_
        refine r_sld dL_law_223 h.1 ?_
        replace h := h.2
        refine rcL_VI (h' := 4) [.int (xs (x3 + 1).toNatClampNeg)] okv_X12_told (by decide) (congrArg Prod.fst k0_125) tw_977 rfl rfl (Nat.le_of_ble_eq_true rfl) dL_law_224 (by decide) (by decide) (by decide) h (fun r12 σ12 τ12 h => ?_)
        refine r_icmp_eq (tgt := 860) dL_law_227 (by decide) (fun c13 => ?_) (fun c13 => ?_)
        · replace h := h.1 c13
          refine r_inc 3 dL_law_860 rfl ci_3 (by decide) rfl ?_
          refine r_goto (tgt := 18) dL_law_863 (by decide) ?_
          refine r_lv [1, 2, 3, 0] rfl ?_
          exact h
        · replace h := h.2 c13
          refine r_iconst dL_law_230 ci_0 ?_
          exact False.elim h
      · replace h := h.2.2.2.2.1 e9
        refine r_tableIn (tgt := 232) (off := 200) dL_law_32 (by rw [e9]; decide) (by rw [e9]; decide) (by rw [e9]; rfl) (by decide) ?_
        refine r_aload_n 1 dL_law_232 rfl rfl ?_
        refine r_aload_n 0 dL_law_233 rfl rfl ?_
        refine r_iload_n 3 dL_law_234 rfl rfl ?_
        refine r_iconst dL_law_235 ci_1 ?_
        refine r_iadd dL_law_236 ?_
        refine r_sld dL_law_237 h.1 ?_
        replace h := h.2
        refine r_aload_n 0 dL_law_238 rfl rfl ?_
        refine r_iload_n 3 dL_law_239 rfl rfl ?_
        refine r_iconst dL_law_240 ci_2 ?_
        refine r_iadd dL_law_241 ?_
        refine r_sld dL_law_242 h.1 ?_
        replace h := h.2
        refine rcL_VI (h' := 3) [.int (xs (x3 + 1).toNatClampNeg), .int (xs (x3 + 2).toNatClampNeg)] okv_X11_trouble (by decide) (congrArg Prod.fst k0_0) tw_505 rfl rfl (Nat.le_of_ble_eq_true rfl) dL_law_243 (by decide) (by decide) (by decide) h (fun r14 σ14 τ14 h => ?_)
        refine r_aload_n 2 dL_law_246 rfl rfl ?_
        refine r_aload_n 0 dL_law_247 rfl rfl ?_
        refine r_iload_n 3 dL_law_248 rfl rfl ?_
        refine r_iconst dL_law_249 ci_1 ?_
        refine r_iadd dL_law_250 ?_
        refine r_sld dL_law_251 h.1 ?_
        replace h := h.2
        refine r_aload_n 0 dL_law_252 rfl rfl ?_
        refine r_iload_n 3 dL_law_253 rfl rfl ?_
        refine r_iconst dL_law_254 ci_2 ?_
        refine r_iadd dL_law_255 ?_
        refine r_sld dL_law_256 h.1 ?_
        replace h := h.2
        refine rcL_VI (h' := 3) [.int (xs (x3 + 1).toNatClampNeg), .int (xs (x3 + 2).toNatClampNeg)] okv_X12_trouble (by decide) (congrArg Prod.fst k0_125) tw_1027 rfl rfl (Nat.le_of_ble_eq_true rfl) dL_law_257 (by decide) (by decide) (by decide) h (fun r15 σ15 τ15 h => ?_)
        refine r_icmp_eq (tgt := 860) dL_law_260 (by decide) (fun c16 => ?_) (fun c16 => ?_)
        · replace h := h.1 c16
          refine r_inc 3 dL_law_860 rfl ci_3 (by decide) rfl ?_
          refine r_goto (tgt := 18) dL_law_863 (by decide) ?_
          refine r_lv [1, 2, 3, 0] rfl ?_
          exact h
        · replace h := h.2 c16
          refine r_iconst dL_law_263 ci_0 ?_
          exact False.elim h
      · replace h := h.2.2.2.2.2.1 e9
        refine r_tableIn (tgt := 265) (off := 233) dL_law_32 (by rw [e9]; decide) (by rw [e9]; decide) (by rw [e9]; rfl) (by decide) ?_
        refine r_aload_n 1 dL_law_265 rfl rfl ?_
        refine r_aload_n 0 dL_law_266 rfl rfl ?_
        refine r_iload_n 3 dL_law_267 rfl rfl ?_
        refine r_iconst dL_law_268 ci_1 ?_
        refine r_iadd dL_law_269 ?_
        refine r_sld dL_law_270 h.1 ?_
        replace h := h.2
        refine r_aload_n 0 dL_law_271 rfl rfl ?_
        refine r_iload_n 3 dL_law_272 rfl rfl ?_
        refine r_iconst dL_law_273 ci_2 ?_
        refine r_iadd dL_law_274 ?_
        refine r_sld dL_law_275 h.1 ?_
        replace h := h.2
        refine rcL_VI (h' := 1) [.int (xs (x3 + 1).toNatClampNeg), .int (xs (x3 + 2).toNatClampNeg)] okv_X11_eater (by decide) (congrArg Prod.fst k0_0) tw_556 rfl rfl (Nat.le_of_ble_eq_true rfl) dL_law_276 (by decide) (by decide) (by decide) h (fun r17 σ17 τ17 h => ?_)
        refine r_aload_n 2 dL_law_279 rfl rfl ?_
        refine r_aload_n 0 dL_law_280 rfl rfl ?_
        refine r_iload_n 3 dL_law_281 rfl rfl ?_
        refine r_iconst dL_law_282 ci_1 ?_
        refine r_iadd dL_law_283 ?_
        refine r_sld dL_law_284 h.1 ?_
        replace h := h.2
        refine r_aload_n 0 dL_law_285 rfl rfl ?_
        refine r_iload_n 3 dL_law_286 rfl rfl ?_
        refine r_iconst dL_law_287 ci_2 ?_
        refine r_iadd dL_law_288 ?_
        refine r_sld dL_law_289 h.1 ?_
        replace h := h.2
        refine rcL_VI (h' := 2) [.int (xs (x3 + 1).toNatClampNeg), .int (xs (x3 + 2).toNatClampNeg)] okv_X12_eater (by decide) (congrArg Prod.fst k0_125) tw_1066 rfl rfl (Nat.le_of_ble_eq_true rfl) dL_law_290 (by decide) (by decide) (by decide) h (fun r18 σ18 τ18 h => ?_)
        refine r_icmp_eq (tgt := 860) dL_law_293 (by decide) (fun c19 => ?_) (fun c19 => ?_)
        · replace h := h.1 c19
          refine r_inc 3 dL_law_860 rfl ci_3 (by decide) rfl ?_
          refine r_goto (tgt := 18) dL_law_863 (by decide) ?_
          refine r_lv [1, 2, 3, 0] rfl ?_
          exact h
        · replace h := h.2 c19
          refine r_iconst dL_law_296 ci_0 ?_
          exact False.elim h
      · replace h := h.2.2.2.2.2.2.1 e9
        refine r_tableIn (tgt := 298) (off := 266) dL_law_32 (by rw [e9]; decide) (by rw [e9]; decide) (by rw [e9]; rfl) (by decide) ?_
        refine r_aload_n 1 dL_law_298 rfl rfl ?_
        refine r_aload_n 0 dL_law_299 rfl rfl ?_
        refine r_iload_n 3 dL_law_300 rfl rfl ?_
        refine r_iconst dL_law_301 ci_1 ?_
        refine r_iadd dL_law_302 ?_
        refine r_sld dL_law_303 h.1 ?_
        replace h := h.2
        refine rcL_VI (h' := 4) [.int (xs (x3 + 1).toNatClampNeg)] okv_X11_wrap (by decide) (congrArg Prod.fst k0_0) tw_564 rfl rfl (Nat.le_of_ble_eq_true rfl) dL_law_304 (by decide) (by decide) (by decide) h (fun r20 σ20 τ20 h => ?_)
        refine r_aload_n 2 dL_law_307 rfl rfl ?_
        refine r_aload_n 0 dL_law_308 rfl rfl ?_
        refine r_iload_n 3 dL_law_309 rfl rfl ?_
        refine r_iconst dL_law_310 ci_1 ?_
        refine r_iadd dL_law_311 ?_
        refine r_sld dL_law_312 h.1 ?_
        replace h := h.2
        refine rcL_VI (h' := 4) [.int (xs (x3 + 1).toNatClampNeg)] okv_X12_wrap (by decide) (congrArg Prod.fst k0_125) tw_1074 rfl rfl (Nat.le_of_ble_eq_true rfl) dL_law_313 (by decide) (by decide) (by decide) h (fun r21 σ21 τ21 h => ?_)
        refine r_icmp_eq (tgt := 860) dL_law_316 (by decide) (fun c22 => ?_) (fun c22 => ?_)
        · replace h := h.1 c22
          refine r_inc 3 dL_law_860 rfl ci_3 (by decide) rfl ?_
          refine r_goto (tgt := 18) dL_law_863 (by decide) ?_
          refine r_lv [1, 2, 3, 0] rfl ?_
          exact h
        · replace h := h.2 c22
          refine r_iconst dL_law_319 ci_0 ?_
          exact False.elim h
      · replace h := h.2.2.2.2.2.2.2.1 e9
        refine r_tableIn (tgt := 321) (off := 289) dL_law_32 (by rw [e9]; decide) (by rw [e9]; decide) (by rw [e9]; rfl) (by decide) ?_
        refine r_aload_n 1 dL_law_321 rfl rfl ?_
        refine r_aload_n 0 dL_law_322 rfl rfl ?_
        refine r_iload_n 3 dL_law_323 rfl rfl ?_
        refine r_iconst dL_law_324 ci_1 ?_
        refine r_iadd dL_law_325 ?_
        refine r_sld dL_law_326 h.1 ?_
        replace h := h.2
        refine rcL_VI (h' := 3) [.int (xs (x3 + 1).toNatClampNeg)] okv_X11_putOn (by decide) (congrArg Prod.fst k0_0) tw_601 rfl rfl (Nat.le_of_ble_eq_true rfl) dL_law_327 (by decide) (by decide) (by decide) h (fun r23 σ23 τ23 h => ?_)
        refine r_aload_n 2 dL_law_330 rfl rfl ?_
        refine r_aload_n 0 dL_law_331 rfl rfl ?_
        refine r_iload_n 3 dL_law_332 rfl rfl ?_
        refine r_iconst dL_law_333 ci_1 ?_
        refine r_iadd dL_law_334 ?_
        refine r_sld dL_law_335 h.1 ?_
        replace h := h.2
        refine rcL_VI (h' := 2) [.int (xs (x3 + 1).toNatClampNeg)] okv_X12_putOn (by decide) (congrArg Prod.fst k0_125) tw_1100 rfl rfl (Nat.le_of_ble_eq_true rfl) dL_law_336 (by decide) (by decide) (by decide) h (fun r24 σ24 τ24 h => ?_)
        refine r_icmp_eq (tgt := 860) dL_law_339 (by decide) (fun c25 => ?_) (fun c25 => ?_)
        · replace h := h.1 c25
          refine r_inc 3 dL_law_860 rfl ci_3 (by decide) rfl ?_
          refine r_goto (tgt := 18) dL_law_863 (by decide) ?_
          refine r_lv [1, 2, 3, 0] rfl ?_
          exact h
        · replace h := h.2 c25
          refine r_iconst dL_law_342 ci_0 ?_
          exact False.elim h
      · replace h := h.2.2.2.2.2.2.2.2.1 e9
        refine r_tableIn (tgt := 344) (off := 312) dL_law_32 (by rw [e9]; decide) (by rw [e9]; decide) (by rw [e9]; rfl) (by decide) ?_
        refine r_aload_n 1 dL_law_344 rfl rfl ?_
        refine r_aload_n 0 dL_law_345 rfl rfl ?_
        refine r_iload_n 3 dL_law_346 rfl rfl ?_
        refine r_iconst dL_law_347 ci_1 ?_
        refine r_iadd dL_law_348 ?_
        refine r_sld dL_law_349 h.1 ?_
        replace h := h.2
        refine rcL_VI (h' := 3) [.int (xs (x3 + 1).toNatClampNeg)] okv_X11_takeOff (by decide) (congrArg Prod.fst k0_0) tw_610 rfl rfl (Nat.le_of_ble_eq_true rfl) dL_law_350 (by decide) (by decide) (by decide) h (fun r26 σ26 τ26 h => ?_)
        refine r_aload_n 2 dL_law_353 rfl rfl ?_
        refine r_aload_n 0 dL_law_354 rfl rfl ?_
        refine r_iload_n 3 dL_law_355 rfl rfl ?_
        refine r_iconst dL_law_356 ci_1 ?_
        refine r_iadd dL_law_357 ?_
        refine r_sld dL_law_358 h.1 ?_
        replace h := h.2
        refine rcL_VI (h' := 2) [.int (xs (x3 + 1).toNatClampNeg)] okv_X12_takeOff (by decide) (congrArg Prod.fst k0_125) tw_1108 rfl rfl (Nat.le_of_ble_eq_true rfl) dL_law_359 (by decide) (by decide) (by decide) h (fun r27 σ27 τ27 h => ?_)
        refine r_icmp_eq (tgt := 860) dL_law_362 (by decide) (fun c28 => ?_) (fun c28 => ?_)
        · replace h := h.1 c28
          refine r_inc 3 dL_law_860 rfl ci_3 (by decide) rfl ?_
          refine r_goto (tgt := 18) dL_law_863 (by decide) ?_
          refine r_lv [1, 2, 3, 0] rfl ?_
          exact h
        · replace h := h.2 c28
          refine r_iconst dL_law_365 ci_0 ?_
          exact False.elim h
      · replace h := h.2.2.2.2.2.2.2.2.2.1 e9
        refine r_tableIn (tgt := 367) (off := 335) dL_law_32 (by rw [e9]; decide) (by rw [e9]; decide) (by rw [e9]; rfl) (by decide) ?_
        refine r_aload_n 1 dL_law_367 rfl rfl ?_
        refine r_aload_n 0 dL_law_368 rfl rfl ?_
        refine r_iload_n 3 dL_law_369 rfl rfl ?_
        refine r_iconst dL_law_370 ci_1 ?_
        refine r_iadd dL_law_371 ?_
        refine r_sld dL_law_372 h.1 ?_
        replace h := h.2
        refine rcL_VI (h' := 4) [.int (xs (x3 + 1).toNatClampNeg)] okv_X11_hour (by decide) (congrArg Prod.fst k0_0) tw_614 rfl rfl (Nat.le_of_ble_eq_true rfl) dL_law_373 (by decide) (by decide) (by decide) h (fun r29 σ29 τ29 h => ?_)
        refine r_aload_n 2 dL_law_376 rfl rfl ?_
        refine r_aload_n 0 dL_law_377 rfl rfl ?_
        refine r_iload_n 3 dL_law_378 rfl rfl ?_
        refine r_iconst dL_law_379 ci_1 ?_
        refine r_iadd dL_law_380 ?_
        refine r_sld dL_law_381 h.1 ?_
        replace h := h.2
        refine rcL_VI (h' := 3) [.int (xs (x3 + 1).toNatClampNeg)] okv_X12_hour (by decide) (congrArg Prod.fst k0_125) tw_1112 rfl rfl (Nat.le_of_ble_eq_true rfl) dL_law_382 (by decide) (by decide) (by decide) h (fun r30 σ30 τ30 h => ?_)
        refine r_icmp_eq (tgt := 860) dL_law_385 (by decide) (fun c31 => ?_) (fun c31 => ?_)
        · replace h := h.1 c31
          refine r_inc 3 dL_law_860 rfl ci_3 (by decide) rfl ?_
          refine r_goto (tgt := 18) dL_law_863 (by decide) ?_
          refine r_lv [1, 2, 3, 0] rfl ?_
          exact h
        · replace h := h.2 c31
          refine r_iconst dL_law_388 ci_0 ?_
          exact False.elim h
      · replace h := h.2.2.2.2.2.2.2.2.2.2.1 e9
        refine r_tableIn (tgt := 390) (off := 358) dL_law_32 (by rw [e9]; decide) (by rw [e9]; decide) (by rw [e9]; rfl) (by decide) ?_
        refine r_aload_n 1 dL_law_390 rfl rfl ?_
        refine r_aload_n 0 dL_law_391 rfl rfl ?_
        refine r_iload_n 3 dL_law_392 rfl rfl ?_
        refine r_iconst dL_law_393 ci_1 ?_
        refine r_iadd dL_law_394 ?_
        refine r_sld dL_law_395 h.1 ?_
        replace h := h.2
        refine rcL_VI (h' := 4) [.int (xs (x3 + 1).toNatClampNeg)] okv_X11_bear (by decide) (congrArg Prod.fst k0_0) tw_635 rfl rfl (Nat.le_of_ble_eq_true rfl) dL_law_396 (by decide) (by decide) (by decide) h (fun r32 σ32 τ32 h => ?_)
        refine r_aload_n 2 dL_law_399 rfl rfl ?_
        refine r_aload_n 0 dL_law_400 rfl rfl ?_
        refine r_iload_n 3 dL_law_401 rfl rfl ?_
        refine r_iconst dL_law_402 ci_1 ?_
        refine r_iadd dL_law_403 ?_
        refine r_sld dL_law_404 h.1 ?_
        replace h := h.2
        refine rcL_VI (h' := 4) [.int (xs (x3 + 1).toNatClampNeg)] okv_X12_bear (by decide) (congrArg Prod.fst k0_125) tw_1135 rfl rfl (Nat.le_of_ble_eq_true rfl) dL_law_405 (by decide) (by decide) (by decide) h (fun r33 σ33 τ33 h => ?_)
        refine r_icmp_eq (tgt := 860) dL_law_408 (by decide) (fun c34 => ?_) (fun c34 => ?_)
        · replace h := h.1 c34
          refine r_inc 3 dL_law_860 rfl ci_3 (by decide) rfl ?_
          refine r_goto (tgt := 18) dL_law_863 (by decide) ?_
          refine r_lv [1, 2, 3, 0] rfl ?_
          exact h
        · replace h := h.2 c34
          refine r_iconst dL_law_411 ci_0 ?_
          exact False.elim h
      · replace h := h.2.2.2.2.2.2.2.2.2.2.2.1 e9
        refine r_tableIn (tgt := 413) (off := 381) dL_law_32 (by rw [e9]; decide) (by rw [e9]; decide) (by rw [e9]; rfl) (by decide) ?_
        refine r_aload_n 1 dL_law_413 rfl rfl ?_
        refine rcL_VI (h' := 3) [] okv_X11_rest (by decide) (congrArg Prod.fst k0_0) tw_649 rfl rfl (Nat.le_of_ble_eq_true rfl) dL_law_414 (by decide) (by decide) (by decide) h (fun r35 σ35 τ35 h => ?_)
        refine r_aload_n 2 dL_law_417 rfl rfl ?_
        refine rcL_VI (h' := 1) [] okv_X12_rest (by decide) (congrArg Prod.fst k0_125) tw_1147 rfl rfl (Nat.le_of_ble_eq_true rfl) dL_law_418 (by decide) (by decide) (by decide) h (fun r36 σ36 τ36 h => ?_)
        refine r_icmp_eq (tgt := 860) dL_law_421 (by decide) (fun c37 => ?_) (fun c37 => ?_)
        · replace h := h.1 c37
          refine r_inc 3 dL_law_860 rfl ci_3 (by decide) rfl ?_
          refine r_goto (tgt := 18) dL_law_863 (by decide) ?_
          refine r_lv [1, 2, 3, 0] rfl ?_
          exact h
        · replace h := h.2 c37
          refine r_iconst dL_law_424 ci_0 ?_
          exact False.elim h
      · replace h := h.2.2.2.2.2.2.2.2.2.2.2.2.1 e9
        refine r_tableIn (tgt := 426) (off := 394) dL_law_32 (by rw [e9]; decide) (by rw [e9]; decide) (by rw [e9]; rfl) (by decide) ?_
        refine r_aload_n 1 dL_law_426 rfl rfl ?_
        refine r_aload_n 0 dL_law_427 rfl rfl ?_
        refine r_iload_n 3 dL_law_428 rfl rfl ?_
        refine r_iconst dL_law_429 ci_1 ?_
        refine r_iadd dL_law_430 ?_
        refine r_sld dL_law_431 h.1 ?_
        replace h := h.2
        refine r_aload_n 0 dL_law_432 rfl rfl ?_
        refine r_iload_n 3 dL_law_433 rfl rfl ?_
        refine r_iconst dL_law_434 ci_2 ?_
        refine r_iadd dL_law_435 ?_
        refine r_sld dL_law_436 h.1 ?_
        replace h := h.2
        refine rcL_VI (h' := 3) [.int (xs (x3 + 1).toNatClampNeg), .int (xs (x3 + 2).toNatClampNeg)] okv_X11_cut (by decide) (congrArg Prod.fst k0_0) tw_657 rfl rfl (Nat.le_of_ble_eq_true rfl) dL_law_437 (by decide) (by decide) (by decide) h (fun r38 σ38 τ38 h => ?_)
        refine r_aload_n 2 dL_law_440 rfl rfl ?_
        refine r_aload_n 0 dL_law_441 rfl rfl ?_
        refine r_iload_n 3 dL_law_442 rfl rfl ?_
        refine r_iconst dL_law_443 ci_1 ?_
        refine r_iadd dL_law_444 ?_
        refine r_sld dL_law_445 h.1 ?_
        replace h := h.2
        refine r_aload_n 0 dL_law_446 rfl rfl ?_
        refine r_iload_n 3 dL_law_447 rfl rfl ?_
        refine r_iconst dL_law_448 ci_2 ?_
        refine r_iadd dL_law_449 ?_
        refine r_sld dL_law_450 h.1 ?_
        replace h := h.2
        refine rcL_VI (h' := 2) [.int (xs (x3 + 1).toNatClampNeg), .int (xs (x3 + 2).toNatClampNeg)] okv_X12_cut (by decide) (congrArg Prod.fst k0_125) tw_1155 rfl rfl (Nat.le_of_ble_eq_true rfl) dL_law_451 (by decide) (by decide) (by decide) h (fun r39 σ39 τ39 h => ?_)
        refine r_icmp_eq (tgt := 860) dL_law_454 (by decide) (fun c40 => ?_) (fun c40 => ?_)
        · replace h := h.1 c40
          refine r_inc 3 dL_law_860 rfl ci_3 (by decide) rfl ?_
          refine r_goto (tgt := 18) dL_law_863 (by decide) ?_
          refine r_lv [1, 2, 3, 0] rfl ?_
          exact h
        · replace h := h.2 c40
          refine r_iconst dL_law_457 ci_0 ?_
          exact False.elim h
      · replace h := h.2.2.2.2.2.2.2.2.2.2.2.2.2.1 e9
        refine r_tableIn (tgt := 459) (off := 427) dL_law_32 (by rw [e9]; decide) (by rw [e9]; decide) (by rw [e9]; rfl) (by decide) ?_
        refine r_aload_n 1 dL_law_459 rfl rfl ?_
        refine r_aload_n 0 dL_law_460 rfl rfl ?_
        refine r_iload_n 3 dL_law_461 rfl rfl ?_
        refine r_iconst dL_law_462 ci_1 ?_
        refine r_iadd dL_law_463 ?_
        refine r_sld dL_law_464 h.1 ?_
        replace h := h.2
        refine rcL_VI (h' := 5) [.int (xs (x3 + 1).toNatClampNeg)] okv_X11_drift (by decide) (congrArg Prod.fst k0_0) tw_663 rfl rfl (Nat.le_of_ble_eq_true rfl) dL_law_465 (by decide) (by decide) (by decide) h (fun r41 σ41 τ41 h => ?_)
        refine r_aload_n 2 dL_law_468 rfl rfl ?_
        refine r_aload_n 0 dL_law_469 rfl rfl ?_
        refine r_iload_n 3 dL_law_470 rfl rfl ?_
        refine r_iconst dL_law_471 ci_1 ?_
        refine r_iadd dL_law_472 ?_
        refine r_sld dL_law_473 h.1 ?_
        replace h := h.2
        refine rcL_VI (h' := 5) [.int (xs (x3 + 1).toNatClampNeg)] okv_X12_drift (by decide) (congrArg Prod.fst k0_125) tw_1159 rfl rfl (Nat.le_of_ble_eq_true rfl) dL_law_474 (by decide) (by decide) (by decide) h (fun r42 σ42 τ42 h => ?_)
        refine r_icmp_eq (tgt := 860) dL_law_477 (by decide) (fun c43 => ?_) (fun c43 => ?_)
        · replace h := h.1 c43
          refine r_inc 3 dL_law_860 rfl ci_3 (by decide) rfl ?_
          refine r_goto (tgt := 18) dL_law_863 (by decide) ?_
          refine r_lv [1, 2, 3, 0] rfl ?_
          exact h
        · replace h := h.2 c43
          refine r_iconst dL_law_480 ci_0 ?_
          exact False.elim h
      · replace h := h.2.2.2.2.2.2.2.2.2.2.2.2.2.2.1 e9
        refine r_tableIn (tgt := 482) (off := 450) dL_law_32 (by rw [e9]; decide) (by rw [e9]; decide) (by rw [e9]; rfl) (by decide) ?_
        refine r_aload_n 1 dL_law_482 rfl rfl ?_
        refine rcL_VI (h' := 3) [] okv_X11_undo (by decide) (congrArg Prod.fst k0_0) tw_684 rfl rfl (Nat.le_of_ble_eq_true rfl) dL_law_483 (by decide) (by decide) (by decide) h (fun r44 σ44 τ44 h => ?_)
        refine r_aload_n 2 dL_law_486 rfl rfl ?_
        refine rcL_VI (h' := 0) [] okv_X12_undo (by decide) (congrArg Prod.fst k0_125) tw_1175 rfl rfl (Nat.le_of_ble_eq_true rfl) dL_law_487 (by decide) (by decide) (by decide) h (fun r45 σ45 τ45 h => ?_)
        refine r_icmp_eq (tgt := 860) dL_law_490 (by decide) (fun c46 => ?_) (fun c46 => ?_)
        · replace h := h.1 c46
          refine r_inc 3 dL_law_860 rfl ci_3 (by decide) rfl ?_
          refine r_goto (tgt := 18) dL_law_863 (by decide) ?_
          refine r_lv [1, 2, 3, 0] rfl ?_
          exact h
        · replace h := h.2 c46
          refine r_iconst dL_law_493 ci_0 ?_
          exact False.elim h
      · replace h := h.2.2.2.2.2.2.2.2.2.2.2.2.2.2.2.1 e9
        refine r_tableIn (tgt := 495) (off := 463) dL_law_32 (by rw [e9]; decide) (by rw [e9]; decide) (by rw [e9]; rfl) (by decide) ?_
        refine r_aload_n 1 dL_law_495 rfl rfl ?_
        refine r_aload_n 0 dL_law_496 rfl rfl ?_
        refine r_iload_n 3 dL_law_497 rfl rfl ?_
        refine r_iconst dL_law_498 ci_1 ?_
        refine r_iadd dL_law_499 ?_
        refine r_sld dL_law_500 h.1 ?_
        replace h := h.2
        refine r_aload_n 0 dL_law_501 rfl rfl ?_
        refine r_iload_n 3 dL_law_502 rfl rfl ?_
        refine r_iconst dL_law_503 ci_2 ?_
        refine r_iadd dL_law_504 ?_
        refine r_sld dL_law_505 h.1 ?_
        replace h := h.2
        refine rcL_VI (h' := 4) [.int (xs (x3 + 1).toNatClampNeg), .int (xs (x3 + 2).toNatClampNeg)] okv_X11_toWrap (by decide) (congrArg Prod.fst k0_0) tw_692 rfl rfl (Nat.le_of_ble_eq_true rfl) dL_law_506 (by decide) (by decide) (by decide) h (fun r47 σ47 τ47 h => ?_)
        refine r_aload_n 2 dL_law_509 rfl rfl ?_
        refine r_aload_n 0 dL_law_510 rfl rfl ?_
        refine r_iload_n 3 dL_law_511 rfl rfl ?_
        refine r_iconst dL_law_512 ci_1 ?_
        refine r_iadd dL_law_513 ?_
        refine r_sld dL_law_514 h.1 ?_
        replace h := h.2
        refine r_aload_n 0 dL_law_515 rfl rfl ?_
        refine r_iload_n 3 dL_law_516 rfl rfl ?_
        refine r_iconst dL_law_517 ci_2 ?_
        refine r_iadd dL_law_518 ?_
        refine r_sld dL_law_519 h.1 ?_
        replace h := h.2
        refine rcL_VI (h' := 3) [.int (xs (x3 + 1).toNatClampNeg), .int (xs (x3 + 2).toNatClampNeg)] okv_X12_toWrap (by decide) (congrArg Prod.fst k0_125) tw_1179 rfl rfl (Nat.le_of_ble_eq_true rfl) dL_law_520 (by decide) (by decide) (by decide) h (fun r48 σ48 τ48 h => ?_)
        refine r_icmp_eq (tgt := 860) dL_law_523 (by decide) (fun c49 => ?_) (fun c49 => ?_)
        · replace h := h.1 c49
          refine r_inc 3 dL_law_860 rfl ci_3 (by decide) rfl ?_
          refine r_goto (tgt := 18) dL_law_863 (by decide) ?_
          refine r_lv [1, 2, 3, 0] rfl ?_
          exact h
        · replace h := h.2 c49
          refine r_iconst dL_law_526 ci_0 ?_
          exact False.elim h
      · replace h := h.2.2.2.2.2.2.2.2.2.2.2.2.2.2.2.2.1 e9
        refine r_tableIn (tgt := 528) (off := 496) dL_law_32 (by rw [e9]; decide) (by rw [e9]; decide) (by rw [e9]; rfl) (by decide) ?_
        refine r_aload_n 1 dL_law_528 rfl rfl ?_
        refine r_aload_n 0 dL_law_529 rfl rfl ?_
        refine r_iload_n 3 dL_law_530 rfl rfl ?_
        refine r_iconst dL_law_531 ci_1 ?_
        refine r_iadd dL_law_532 ?_
        refine r_sld dL_law_533 h.1 ?_
        replace h := h.2
        refine r_aload_n 0 dL_law_534 rfl rfl ?_
        refine r_iload_n 3 dL_law_535 rfl rfl ?_
        refine r_iconst dL_law_536 ci_2 ?_
        refine r_iadd dL_law_537 ?_
        refine r_sld dL_law_538 h.1 ?_
        replace h := h.2
        refine rcL_VI (h' := 3) [.int (xs (x3 + 1).toNatClampNeg), .int (xs (x3 + 2).toNatClampNeg)] okv_X11_soft (by decide) (congrArg Prod.fst k0_0) tw_708 rfl rfl (Nat.le_of_ble_eq_true rfl) dL_law_539 (by decide) (by decide) (by decide) h (fun r50 σ50 τ50 h => ?_)
        refine r_aload_n 2 dL_law_542 rfl rfl ?_
        refine r_aload_n 0 dL_law_543 rfl rfl ?_
        refine r_iload_n 3 dL_law_544 rfl rfl ?_
        refine r_iconst dL_law_545 ci_1 ?_
        refine r_iadd dL_law_546 ?_
        refine r_sld dL_law_547 h.1 ?_
        replace h := h.2
        refine r_aload_n 0 dL_law_548 rfl rfl ?_
        refine r_iload_n 3 dL_law_549 rfl rfl ?_
        refine r_iconst dL_law_550 ci_2 ?_
        refine r_iadd dL_law_551 ?_
        refine r_sld dL_law_552 h.1 ?_
        replace h := h.2
        refine rcL_VI (h' := 3) [.int (xs (x3 + 1).toNatClampNeg), .int (xs (x3 + 2).toNatClampNeg)] okv_X12_soft (by decide) (congrArg Prod.fst k0_125) tw_1189 rfl rfl (Nat.le_of_ble_eq_true rfl) dL_law_553 (by decide) (by decide) (by decide) h (fun r51 σ51 τ51 h => ?_)
        refine r_icmp_eq (tgt := 860) dL_law_556 (by decide) (fun c52 => ?_) (fun c52 => ?_)
        · replace h := h.1 c52
          refine r_inc 3 dL_law_860 rfl ci_3 (by decide) rfl ?_
          refine r_goto (tgt := 18) dL_law_863 (by decide) ?_
          refine r_lv [1, 2, 3, 0] rfl ?_
          exact h
        · replace h := h.2 c52
          refine r_iconst dL_law_559 ci_0 ?_
          exact False.elim h
      · replace h := h.2.2.2.2.2.2.2.2.2.2.2.2.2.2.2.2.2.1 e9
        refine r_tableIn (tgt := 561) (off := 529) dL_law_32 (by rw [e9]; decide) (by rw [e9]; decide) (by rw [e9]; rfl) (by decide) ?_
        refine r_aload_n 1 dL_law_561 rfl rfl ?_
        refine r_aload_n 0 dL_law_562 rfl rfl ?_
        refine r_iload_n 3 dL_law_563 rfl rfl ?_
        refine r_iconst dL_law_564 ci_1 ?_
        refine r_iadd dL_law_565 ?_
        refine r_sld dL_law_566 h.1 ?_
        replace h := h.2
        refine rcL_VI (h' := 3) [.int (xs (x3 + 1).toNatClampNeg)] okv_X11_when (by decide) (congrArg Prod.fst k0_0) tw_713 rfl rfl (Nat.le_of_ble_eq_true rfl) dL_law_567 (by decide) (by decide) (by decide) h (fun r53 σ53 τ53 h => ?_)
        refine r_aload_n 2 dL_law_570 rfl rfl ?_
        refine r_aload_n 0 dL_law_571 rfl rfl ?_
        refine r_iload_n 3 dL_law_572 rfl rfl ?_
        refine r_iconst dL_law_573 ci_1 ?_
        refine r_iadd dL_law_574 ?_
        refine r_sld dL_law_575 h.1 ?_
        replace h := h.2
        refine rcL_VI (h' := 3) [.int (xs (x3 + 1).toNatClampNeg)] okv_X12_when (by decide) (congrArg Prod.fst k0_125) tw_1197 rfl rfl (Nat.le_of_ble_eq_true rfl) dL_law_576 (by decide) (by decide) (by decide) h (fun r54 σ54 τ54 h => ?_)
        refine r_icmp_eq (tgt := 860) dL_law_579 (by decide) (fun c55 => ?_) (fun c55 => ?_)
        · replace h := h.1 c55
          refine r_inc 3 dL_law_860 rfl ci_3 (by decide) rfl ?_
          refine r_goto (tgt := 18) dL_law_863 (by decide) ?_
          refine r_lv [1, 2, 3, 0] rfl ?_
          exact h
        · replace h := h.2 c55
          refine r_iconst dL_law_582 ci_0 ?_
          exact False.elim h
      · replace h := h.2.2.2.2.2.2.2.2.2.2.2.2.2.2.2.2.2.2.1 e9
        refine r_tableIn (tgt := 584) (off := 552) dL_law_32 (by rw [e9]; decide) (by rw [e9]; decide) (by rw [e9]; rfl) (by decide) ?_
        refine r_aload_n 1 dL_law_584 rfl rfl ?_
        refine r_aload_n 0 dL_law_585 rfl rfl ?_
        refine r_iload_n 3 dL_law_586 rfl rfl ?_
        refine r_iconst dL_law_587 ci_1 ?_
        refine r_iadd dL_law_588 ?_
        refine r_sld dL_law_589 h.1 ?_
        replace h := h.2
        refine r_aload_n 0 dL_law_590 rfl rfl ?_
        refine r_iload_n 3 dL_law_591 rfl rfl ?_
        refine r_iconst dL_law_592 ci_2 ?_
        refine r_iadd dL_law_593 ?_
        refine r_sld dL_law_594 h.1 ?_
        replace h := h.2
        refine rcL_VI (h' := 11) [.int (xs (x3 + 1).toNatClampNeg), .int (xs (x3 + 2).toNatClampNeg)] okv_X11_order (by decide) (congrArg Prod.fst k0_0) tw_721 rfl rfl (Nat.le_of_ble_eq_true rfl) dL_law_595 (by decide) (by decide) (by decide) h (fun r56 σ56 τ56 h => ?_)
        refine r_aload_n 2 dL_law_598 rfl rfl ?_
        refine r_aload_n 0 dL_law_599 rfl rfl ?_
        refine r_iload_n 3 dL_law_600 rfl rfl ?_
        refine r_iconst dL_law_601 ci_1 ?_
        refine r_iadd dL_law_602 ?_
        refine r_sld dL_law_603 h.1 ?_
        replace h := h.2
        refine r_aload_n 0 dL_law_604 rfl rfl ?_
        refine r_iload_n 3 dL_law_605 rfl rfl ?_
        refine r_iconst dL_law_606 ci_2 ?_
        refine r_iadd dL_law_607 ?_
        refine r_sld dL_law_608 h.1 ?_
        replace h := h.2
        refine rcL_VI (h' := 4) [.int (xs (x3 + 1).toNatClampNeg), .int (xs (x3 + 2).toNatClampNeg)] okv_X12_order (by decide) (congrArg Prod.fst k0_125) tw_1205 rfl rfl (Nat.le_of_ble_eq_true rfl) dL_law_609 (by decide) (by decide) (by decide) h (fun r57 σ57 τ57 h => ?_)
        refine r_icmp_eq (tgt := 860) dL_law_612 (by decide) (fun c58 => ?_) (fun c58 => ?_)
        · replace h := h.1 c58
          refine r_inc 3 dL_law_860 rfl ci_3 (by decide) rfl ?_
          refine r_goto (tgt := 18) dL_law_863 (by decide) ?_
          refine r_lv [1, 2, 3, 0] rfl ?_
          exact h
        · replace h := h.2 c58
          refine r_iconst dL_law_615 ci_0 ?_
          exact False.elim h
      · replace h := h.2.2.2.2.2.2.2.2.2.2.2.2.2.2.2.2.2.2.2.1 e9
        refine r_tableIn (tgt := 617) (off := 585) dL_law_32 (by rw [e9]; decide) (by rw [e9]; decide) (by rw [e9]; rfl) (by decide) ?_
        refine r_aload_n 1 dL_law_617 rfl rfl ?_
        refine r_aload_n 0 dL_law_618 rfl rfl ?_
        refine r_iload_n 3 dL_law_619 rfl rfl ?_
        refine r_iconst dL_law_620 ci_1 ?_
        refine r_iadd dL_law_621 ?_
        refine r_sld dL_law_622 h.1 ?_
        replace h := h.2
        refine r_aload_n 0 dL_law_623 rfl rfl ?_
        refine r_iload_n 3 dL_law_624 rfl rfl ?_
        refine r_iconst dL_law_625 ci_2 ?_
        refine r_iadd dL_law_626 ?_
        refine r_sld dL_law_627 h.1 ?_
        replace h := h.2
        refine rcL_VI (h' := 3) [.int (xs (x3 + 1).toNatClampNeg), .int (xs (x3 + 2).toNatClampNeg)] okv_X11_halves (by decide) (congrArg Prod.fst k0_0) tw_738 rfl rfl (Nat.le_of_ble_eq_true rfl) dL_law_628 (by decide) (by decide) (by decide) h (fun r59 σ59 τ59 h => ?_)
        refine r_aload_n 2 dL_law_631 rfl rfl ?_
        refine r_aload_n 0 dL_law_632 rfl rfl ?_
        refine r_iload_n 3 dL_law_633 rfl rfl ?_
        refine r_iconst dL_law_634 ci_1 ?_
        refine r_iadd dL_law_635 ?_
        refine r_sld dL_law_636 h.1 ?_
        replace h := h.2
        refine r_aload_n 0 dL_law_637 rfl rfl ?_
        refine r_iload_n 3 dL_law_638 rfl rfl ?_
        refine r_iconst dL_law_639 ci_2 ?_
        refine r_iadd dL_law_640 ?_
        refine r_sld dL_law_641 h.1 ?_
        replace h := h.2
        refine rcL_VI (h' := 2) [.int (xs (x3 + 1).toNatClampNeg), .int (xs (x3 + 2).toNatClampNeg)] okv_X12_halves (by decide) (congrArg Prod.fst k0_125) tw_1217 rfl rfl (Nat.le_of_ble_eq_true rfl) dL_law_642 (by decide) (by decide) (by decide) h (fun r60 σ60 τ60 h => ?_)
        refine r_icmp_eq (tgt := 860) dL_law_645 (by decide) (fun c61 => ?_) (fun c61 => ?_)
        · replace h := h.1 c61
          refine r_inc 3 dL_law_860 rfl ci_3 (by decide) rfl ?_
          refine r_goto (tgt := 18) dL_law_863 (by decide) ?_
          refine r_lv [1, 2, 3, 0] rfl ?_
          exact h
        · replace h := h.2 c61
          refine r_iconst dL_law_648 ci_0 ?_
          exact False.elim h
      · replace h := h.2.2.2.2.2.2.2.2.2.2.2.2.2.2.2.2.2.2.2.2.1 e9
        refine r_tableIn (tgt := 650) (off := 618) dL_law_32 (by rw [e9]; decide) (by rw [e9]; decide) (by rw [e9]; rfl) (by decide) ?_
        refine r_aload_n 1 dL_law_650 rfl rfl ?_
        refine r_aload_n 0 dL_law_651 rfl rfl ?_
        refine r_iload_n 3 dL_law_652 rfl rfl ?_
        refine r_iconst dL_law_653 ci_1 ?_
        refine r_iadd dL_law_654 ?_
        refine r_sld dL_law_655 h.1 ?_
        replace h := h.2
        refine r_aload_n 0 dL_law_656 rfl rfl ?_
        refine r_iload_n 3 dL_law_657 rfl rfl ?_
        refine r_iconst dL_law_658 ci_2 ?_
        refine r_iadd dL_law_659 ?_
        refine r_sld dL_law_660 h.1 ?_
        replace h := h.2
        refine rcL_VI (h' := 0) [.int (xs (x3 + 1).toNatClampNeg), .int (xs (x3 + 2).toNatClampNeg)] okv_X11_mild (by decide) (congrArg Prod.fst k0_0) tw_750 rfl rfl (Nat.le_of_ble_eq_true rfl) dL_law_661 (by decide) (by decide) (by decide) h (fun r62 σ62 τ62 h => ?_)
        refine r_aload_n 2 dL_law_664 rfl rfl ?_
        refine r_aload_n 0 dL_law_665 rfl rfl ?_
        refine r_iload_n 3 dL_law_666 rfl rfl ?_
        refine r_iconst dL_law_667 ci_1 ?_
        refine r_iadd dL_law_668 ?_
        refine r_sld dL_law_669 h.1 ?_
        replace h := h.2
        refine r_aload_n 0 dL_law_670 rfl rfl ?_
        refine r_iload_n 3 dL_law_671 rfl rfl ?_
        refine r_iconst dL_law_672 ci_2 ?_
        refine r_iadd dL_law_673 ?_
        refine r_sld dL_law_674 h.1 ?_
        replace h := h.2
        refine rcL_VI (h' := 1) [.int (xs (x3 + 1).toNatClampNeg), .int (xs (x3 + 2).toNatClampNeg)] okv_X12_mild (by decide) (congrArg Prod.fst k0_125) tw_1224 rfl rfl (Nat.le_of_ble_eq_true rfl) dL_law_675 (by decide) (by decide) (by decide) h (fun r63 σ63 τ63 h => ?_)
        refine r_icmp_eq (tgt := 860) dL_law_678 (by decide) (fun c64 => ?_) (fun c64 => ?_)
        · replace h := h.1 c64
          refine r_inc 3 dL_law_860 rfl ci_3 (by decide) rfl ?_
          refine r_goto (tgt := 18) dL_law_863 (by decide) ?_
          refine r_lv [1, 2, 3, 0] rfl ?_
          exact h
        · replace h := h.2 c64
          refine r_iconst dL_law_681 ci_0 ?_
          exact False.elim h
      · replace h := h.2.2.2.2.2.2.2.2.2.2.2.2.2.2.2.2.2.2.2.2.2.1 e9
        refine r_tableIn (tgt := 683) (off := 651) dL_law_32 (by rw [e9]; decide) (by rw [e9]; decide) (by rw [e9]; rfl) (by decide) ?_
        refine r_aload_n 1 dL_law_683 rfl rfl ?_
        refine r_aload_n 0 dL_law_684 rfl rfl ?_
        refine r_iload_n 3 dL_law_685 rfl rfl ?_
        refine r_iconst dL_law_686 ci_1 ?_
        refine r_iadd dL_law_687 ?_
        refine r_sld dL_law_688 h.1 ?_
        replace h := h.2
        refine r_aload_n 0 dL_law_689 rfl rfl ?_
        refine r_iload_n 3 dL_law_690 rfl rfl ?_
        refine r_iconst dL_law_691 ci_2 ?_
        refine r_iadd dL_law_692 ?_
        refine r_sld dL_law_693 h.1 ?_
        replace h := h.2
        refine r_if_eq (tgt := 701) dL_law_694 (by decide) (fun c65 => ?_) (fun c65 => ?_)
        · replace h := h.1 c65
          refine r_iconst dL_law_701 ci_0 ?_
          exact h
        · replace h := h.2 c65
          refine r_iconst dL_law_697 ci_1 ?_
          refine r_goto (tgt := 702) dL_law_698 (by decide) ?_
          exact h
      · replace h := h.2.2.2.2.2.2.2.2.2.2.2.2.2.2.2.2.2.2.2.2.2.2.1 e9
        refine r_tableIn (tgt := 732) (off := 700) dL_law_32 (by rw [e9]; decide) (by rw [e9]; decide) (by rw [e9]; rfl) (by decide) ?_
        refine r_aload_n 1 dL_law_732 rfl rfl ?_
        refine r_aload_n 0 dL_law_733 rfl rfl ?_
        refine r_iload_n 3 dL_law_734 rfl rfl ?_
        refine r_iconst dL_law_735 ci_1 ?_
        refine r_iadd dL_law_736 ?_
        refine r_sld dL_law_737 h.1 ?_
        replace h := h.2
        refine r_aload_n 0 dL_law_738 rfl rfl ?_
        refine r_iload_n 3 dL_law_739 rfl rfl ?_
        refine r_iconst dL_law_740 ci_2 ?_
        refine r_iadd dL_law_741 ?_
        refine r_sld dL_law_742 h.1 ?_
        replace h := h.2
        refine rcL_VI (h' := 1) [.int (xs (x3 + 1).toNatClampNeg), .int (xs (x3 + 2).toNatClampNeg)] okv_X11_write (by decide) (congrArg Prod.fst k0_0) tw_764 rfl rfl (Nat.le_of_ble_eq_true rfl) dL_law_743 (by decide) (by decide) (by decide) h (fun r66 σ66 τ66 h => ?_)
        refine r_aload_n 2 dL_law_746 rfl rfl ?_
        refine r_aload_n 0 dL_law_747 rfl rfl ?_
        refine r_iload_n 3 dL_law_748 rfl rfl ?_
        refine r_iconst dL_law_749 ci_1 ?_
        refine r_iadd dL_law_750 ?_
        refine r_sld dL_law_751 h.1 ?_
        replace h := h.2
        refine r_aload_n 0 dL_law_752 rfl rfl ?_
        refine r_iload_n 3 dL_law_753 rfl rfl ?_
        refine r_iconst dL_law_754 ci_2 ?_
        refine r_iadd dL_law_755 ?_
        refine r_sld dL_law_756 h.1 ?_
        replace h := h.2
        refine rcL_VI (h' := 2) [.int (xs (x3 + 1).toNatClampNeg), .int (xs (x3 + 2).toNatClampNeg)] okv_X12_write (by decide) (congrArg Prod.fst k0_125) tw_1234 rfl rfl (Nat.le_of_ble_eq_true rfl) dL_law_757 (by decide) (by decide) (by decide) h (fun r67 σ67 τ67 h => ?_)
        refine r_icmp_eq (tgt := 860) dL_law_760 (by decide) (fun c68 => ?_) (fun c68 => ?_)
        · replace h := h.1 c68
          refine r_inc 3 dL_law_860 rfl ci_3 (by decide) rfl ?_
          refine r_goto (tgt := 18) dL_law_863 (by decide) ?_
          refine r_lv [1, 2, 3, 0] rfl ?_
          exact h
        · replace h := h.2 c68
          refine r_iconst dL_law_763 ci_0 ?_
          exact False.elim h
      · replace h := h.2.2.2.2.2.2.2.2.2.2.2.2.2.2.2.2.2.2.2.2.2.2.2.1 e9
        refine r_tableIn (tgt := 765) (off := 733) dL_law_32 (by rw [e9]; decide) (by rw [e9]; decide) (by rw [e9]; rfl) (by decide) ?_
        refine r_aload_n 1 dL_law_765 rfl rfl ?_
        refine rcL_VI (h' := 1) [] okv_X11_tear (by decide) (congrArg Prod.fst k0_0) tw_772 rfl rfl (Nat.le_of_ble_eq_true rfl) dL_law_766 (by decide) (by decide) (by decide) h (fun r69 σ69 τ69 h => ?_)
        refine r_aload_n 2 dL_law_769 rfl rfl ?_
        refine rcL_VI (h' := 0) [] okv_X12_tear (by decide) (congrArg Prod.fst k0_125) tw_1238 rfl rfl (Nat.le_of_ble_eq_true rfl) dL_law_770 (by decide) (by decide) (by decide) h (fun r70 σ70 τ70 h => ?_)
        refine r_icmp_eq (tgt := 860) dL_law_773 (by decide) (fun c71 => ?_) (fun c71 => ?_)
        · replace h := h.1 c71
          refine r_inc 3 dL_law_860 rfl ci_3 (by decide) rfl ?_
          refine r_goto (tgt := 18) dL_law_863 (by decide) ?_
          refine r_lv [1, 2, 3, 0] rfl ?_
          exact h
        · replace h := h.2 c71
          refine r_iconst dL_law_776 ci_0 ?_
          exact False.elim h
      · replace h := h.2.2.2.2.2.2.2.2.2.2.2.2.2.2.2.2.2.2.2.2.2.2.2.2.1 e9
        refine r_tableIn (tgt := 778) (off := 746) dL_law_32 (by rw [e9]; decide) (by rw [e9]; decide) (by rw [e9]; rfl) (by decide) ?_
        refine r_aload_n 1 dL_law_778 rfl rfl ?_
        refine rcL_VI (h' := 1) [] okv_X11_judge (by decide) (congrArg Prod.fst k0_0) tw_776 rfl rfl (Nat.le_of_ble_eq_true rfl) dL_law_779 (by decide) (by decide) (by decide) h (fun r72 σ72 τ72 h => ?_)
        refine r_aload_n 2 dL_law_782 rfl rfl ?_
        refine rcL_VI (h' := 0) [] okv_X12_judge (by decide) (congrArg Prod.fst k0_125) tw_1242 rfl rfl (Nat.le_of_ble_eq_true rfl) dL_law_783 (by decide) (by decide) (by decide) h (fun r73 σ73 τ73 h => ?_)
        refine r_icmp_eq (tgt := 860) dL_law_786 (by decide) (fun c74 => ?_) (fun c74 => ?_)
        · replace h := h.1 c74
          refine r_inc 3 dL_law_860 rfl ci_3 (by decide) rfl ?_
          refine r_goto (tgt := 18) dL_law_863 (by decide) ?_
          refine r_lv [1, 2, 3, 0] rfl ?_
          exact h
        · replace h := h.2 c74
          refine r_iconst dL_law_789 ci_0 ?_
          exact False.elim h
      · replace h := h.2.2.2.2.2.2.2.2.2.2.2.2.2.2.2.2.2.2.2.2.2.2.2.2.2.1 e9
        refine r_tableIn (tgt := 791) (off := 759) dL_law_32 (by rw [e9]; decide) (by rw [e9]; decide) (by rw [e9]; rfl) (by decide) ?_
        refine r_aload_n 1 dL_law_791 rfl rfl ?_
        refine r_aload_n 0 dL_law_792 rfl rfl ?_
        refine r_iload_n 3 dL_law_793 rfl rfl ?_
        refine r_iconst dL_law_794 ci_1 ?_
        refine r_iadd dL_law_795 ?_
        refine r_sld dL_law_796 h.1 ?_
        replace h := h.2
        refine rcL_VI (h' := 0) [.int (xs (x3 + 1).toNatClampNeg)] okv_X11_seed (by decide) (congrArg Prod.fst k0_0) tw_784 rfl rfl (Nat.le_of_ble_eq_true rfl) dL_law_797 (by decide) (by decide) (by decide) h (fun r75 σ75 τ75 h => ?_)
        refine r_aload_n 2 dL_law_800 rfl rfl ?_
        refine r_aload_n 0 dL_law_801 rfl rfl ?_
        refine r_iload_n 3 dL_law_802 rfl rfl ?_
        refine r_iconst dL_law_803 ci_1 ?_
        refine r_iadd dL_law_804 ?_
        refine r_sld dL_law_805 h.1 ?_
        replace h := h.2
        refine rcL_VI (h' := 0) [.int (xs (x3 + 1).toNatClampNeg)] okv_X12_seed (by decide) (congrArg Prod.fst k0_125) tw_1246 rfl rfl (Nat.le_of_ble_eq_true rfl) dL_law_806 (by decide) (by decide) (by decide) h (fun r76 σ76 τ76 h => ?_)
        refine r_icmp_eq (tgt := 860) dL_law_809 (by decide) (fun c77 => ?_) (fun c77 => ?_)
        · replace h := h.1 c77
          refine r_inc 3 dL_law_860 rfl ci_3 (by decide) rfl ?_
          refine r_goto (tgt := 18) dL_law_863 (by decide) ?_
          refine r_lv [1, 2, 3, 0] rfl ?_
          exact h
        · replace h := h.2 c77
          refine r_iconst dL_law_812 ci_0 ?_
          exact False.elim h
      · replace h := h.2.2.2.2.2.2.2.2.2.2.2.2.2.2.2.2.2.2.2.2.2.2.2.2.2.2.1 e9
        refine r_tableIn (tgt := 814) (off := 782) dL_law_32 (by rw [e9]; decide) (by rw [e9]; decide) (by rw [e9]; rfl) (by decide) ?_
        refine r_aload_n 1 dL_law_814 rfl rfl ?_
        refine r_aload_n 0 dL_law_815 rfl rfl ?_
        refine r_iload_n 3 dL_law_816 rfl rfl ?_
        refine r_iconst dL_law_817 ci_1 ?_
        refine r_iadd dL_law_818 ?_
        refine r_sld dL_law_819 h.1 ?_
        replace h := h.2
        refine rcL_VI (h' := 3) [.int (xs (x3 + 1).toNatClampNeg)] okv_X11_keep (by decide) (congrArg Prod.fst k0_0) tw_788 rfl rfl (Nat.le_of_ble_eq_true rfl) dL_law_820 (by decide) (by decide) (by decide) h (fun r78 σ78 τ78 h => ?_)
        refine r_aload_n 2 dL_law_823 rfl rfl ?_
        refine r_aload_n 0 dL_law_824 rfl rfl ?_
        refine r_iload_n 3 dL_law_825 rfl rfl ?_
        refine r_iconst dL_law_826 ci_1 ?_
        refine r_iadd dL_law_827 ?_
        refine r_sld dL_law_828 h.1 ?_
        replace h := h.2
        refine rcL_VI (h' := 1) [.int (xs (x3 + 1).toNatClampNeg)] okv_X12_keep (by decide) (congrArg Prod.fst k0_125) tw_1250 rfl rfl (Nat.le_of_ble_eq_true rfl) dL_law_829 (by decide) (by decide) (by decide) h (fun r79 σ79 τ79 h => ?_)
        refine r_icmp_eq (tgt := 860) dL_law_832 (by decide) (fun c80 => ?_) (fun c80 => ?_)
        · replace h := h.1 c80
          refine r_inc 3 dL_law_860 rfl ci_3 (by decide) rfl ?_
          refine r_goto (tgt := 18) dL_law_863 (by decide) ?_
          refine r_lv [1, 2, 3, 0] rfl ?_
          exact h
        · replace h := h.2 c80
          refine r_iconst dL_law_835 ci_0 ?_
          exact False.elim h
      · replace h := h.2.2.2.2.2.2.2.2.2.2.2.2.2.2.2.2.2.2.2.2.2.2.2.2.2.2.2 e9
        refine r_tableIn (tgt := 837) (off := 805) dL_law_32 (by rw [e9]; decide) (by rw [e9]; decide) (by rw [e9]; rfl) (by decide) ?_
        refine r_aload_n 1 dL_law_837 rfl rfl ?_
        refine r_aload_n 0 dL_law_838 rfl rfl ?_
        refine r_iload_n 3 dL_law_839 rfl rfl ?_
        refine r_iconst dL_law_840 ci_1 ?_
        refine r_iadd dL_law_841 ?_
        refine r_sld dL_law_842 h.1 ?_
        replace h := h.2
        refine rcL_VI (h' := 3) [.int (xs (x3 + 1).toNatClampNeg)] okv_X11_goBack (by decide) (congrArg Prod.fst k0_0) tw_796 rfl rfl (Nat.le_of_ble_eq_true rfl) dL_law_843 (by decide) (by decide) (by decide) h (fun r81 σ81 τ81 h => ?_)
        refine r_aload_n 2 dL_law_846 rfl rfl ?_
        refine r_aload_n 0 dL_law_847 rfl rfl ?_
        refine r_iload_n 3 dL_law_848 rfl rfl ?_
        refine r_iconst dL_law_849 ci_1 ?_
        refine r_iadd dL_law_850 ?_
        refine r_sld dL_law_851 h.1 ?_
        replace h := h.2
        refine rcL_VI (h' := 1) [.int (xs (x3 + 1).toNatClampNeg)] okv_X12_goBack (by decide) (congrArg Prod.fst k0_125) tw_1254 rfl rfl (Nat.le_of_ble_eq_true rfl) dL_law_852 (by decide) (by decide) (by decide) h (fun r82 σ82 τ82 h => ?_)
        refine r_icmp_eq (tgt := 860) dL_law_855 (by decide) (fun c83 => ?_) (fun c83 => ?_)
        · replace h := h.1 c83
          refine r_inc 3 dL_law_860 rfl ci_3 (by decide) rfl ?_
          refine r_goto (tgt := 18) dL_law_863 (by decide) ?_
          refine r_lv [1, 2, 3, 0] rfl ?_
          exact h
        · replace h := h.2 c83
          refine r_iconst dL_law_858 ci_0 ?_
          exact False.elim h

