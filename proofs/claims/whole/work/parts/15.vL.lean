theorem dL_law_0 : decode cL_law 0 = .ok (.new 7, 3) := by decide +kernel
theorem dL_law_3 : decode cL_law 3 = .ok (.dup, 1) := by decide +kernel
theorem dL_law_4 : decode cL_law 4 = .ok (.invokespecial 9, 3) := by decide +kernel
theorem dL_law_7 : decode cL_law 7 = .ok (.astore_n 1, 1) := by decide +kernel
theorem dL_law_8 : decode cL_law 8 = .ok (.new 10, 3) := by decide +kernel
theorem dL_law_11 : decode cL_law 11 = .ok (.dup, 1) := by decide +kernel
theorem dL_law_12 : decode cL_law 12 = .ok (.invokespecial 12, 3) := by decide +kernel
theorem dL_law_15 : decode cL_law 15 = .ok (.astore_n 2, 1) := by decide +kernel
theorem dL_law_16 : decode cL_law 16 = .ok (.iconst 0, 1) := by decide +kernel
theorem dL_law_17 : decode cL_law 17 = .ok (.istore_n 3, 1) := by decide +kernel
theorem dL_law_18 : decode cL_law 18 = .ok (.iload_n 3, 1) := by decide +kernel
theorem dL_law_19 : decode cL_law 19 = .ok (.aload_n 0, 1) := by decide +kernel
theorem dL_law_20 : decode cL_law 20 = .ok (.arraylength, 1) := by decide +kernel
theorem dL_law_21 : decode cL_law 21 = .ok (.bipush 6, 2) := by decide +kernel
theorem dL_law_23 : decode cL_law 23 = .ok (.isub, 1) := by decide +kernel
theorem dL_law_24 : decode cL_law 24 = .ok (.if_icmp .gt 1380, 3) := by decide +kernel
theorem dL_law_27 : decode cL_law 27 = .ok (.aload_n 0, 1) := by decide +kernel
theorem dL_law_28 : decode cL_law 28 = .ok (.iload_n 3, 1) := by decide +kernel
theorem dL_law_29 : decode cL_law 29 = .ok (.iaload, 1) := by decide +kernel
theorem dL_law_30 : decode cL_law 30 = .ok (.bipush 63, 2) := by decide +kernel
theorem dL_law_32 : decode cL_law 32 = .ok (.iand, 1) := by decide +kernel
theorem dL_law_33 : decode cL_law 33 = .ok (.tableswitch 1365 0 38 #[171, 234, 287, 320, 383, 427, 450, 484, 517, 551, 584, 627, 691, 734, 747, 770, 793, 816, 839, 852, 885, 908, 941, 954, 967, 1010, 1034, 1057, 1080, 1103, 1126, 1139, 1162, 1196, 1240, 1273, 1296, 1319, 1342], 171) := by decide +kernel
theorem dL_law_204 : decode cL_law 204 = .ok (.aload_n 1, 1) := by decide +kernel
theorem dL_law_205 : decode cL_law 205 = .ok (.aload_n 0, 1) := by decide +kernel
theorem dL_law_206 : decode cL_law 206 = .ok (.iload_n 3, 1) := by decide +kernel
theorem dL_law_207 : decode cL_law 207 = .ok (.iconst 1, 1) := by decide +kernel
theorem dL_law_208 : decode cL_law 208 = .ok (.iadd, 1) := by decide +kernel
theorem dL_law_209 : decode cL_law 209 = .ok (.iaload, 1) := by decide +kernel
theorem dL_law_210 : decode cL_law 210 = .ok (.aload_n 0, 1) := by decide +kernel
theorem dL_law_211 : decode cL_law 211 = .ok (.iload_n 3, 1) := by decide +kernel
theorem dL_law_212 : decode cL_law 212 = .ok (.iconst 2, 1) := by decide +kernel
theorem dL_law_213 : decode cL_law 213 = .ok (.iadd, 1) := by decide +kernel
theorem dL_law_214 : decode cL_law 214 = .ok (.iaload, 1) := by decide +kernel
theorem dL_law_215 : decode cL_law 215 = .ok (.aload_n 0, 1) := by decide +kernel
theorem dL_law_216 : decode cL_law 216 = .ok (.iload_n 3, 1) := by decide +kernel
theorem dL_law_217 : decode cL_law 217 = .ok (.iconst 3, 1) := by decide +kernel
theorem dL_law_218 : decode cL_law 218 = .ok (.iadd, 1) := by decide +kernel
theorem dL_law_219 : decode cL_law 219 = .ok (.iaload, 1) := by decide +kernel
theorem dL_law_220 : decode cL_law 220 = .ok (.aload_n 0, 1) := by decide +kernel
theorem dL_law_221 : decode cL_law 221 = .ok (.iload_n 3, 1) := by decide +kernel
theorem dL_law_222 : decode cL_law 222 = .ok (.iconst 4, 1) := by decide +kernel
theorem dL_law_223 : decode cL_law 223 = .ok (.iadd, 1) := by decide +kernel
theorem dL_law_224 : decode cL_law 224 = .ok (.iaload, 1) := by decide +kernel
theorem dL_law_225 : decode cL_law 225 = .ok (.aload_n 0, 1) := by decide +kernel
theorem dL_law_226 : decode cL_law 226 = .ok (.iload_n 3, 1) := by decide +kernel
theorem dL_law_227 : decode cL_law 227 = .ok (.iconst 5, 1) := by decide +kernel
theorem dL_law_228 : decode cL_law 228 = .ok (.iadd, 1) := by decide +kernel
theorem dL_law_229 : decode cL_law 229 = .ok (.iaload, 1) := by decide +kernel
theorem dL_law_230 : decode cL_law 230 = .ok (.invokevirtual 13, 3) := by decide +kernel
theorem dL_law_233 : decode cL_law 233 = .ok (.aload_n 2, 1) := by decide +kernel
theorem dL_law_234 : decode cL_law 234 = .ok (.aload_n 0, 1) := by decide +kernel
theorem dL_law_235 : decode cL_law 235 = .ok (.iload_n 3, 1) := by decide +kernel
theorem dL_law_236 : decode cL_law 236 = .ok (.iconst 1, 1) := by decide +kernel
theorem dL_law_237 : decode cL_law 237 = .ok (.iadd, 1) := by decide +kernel
theorem dL_law_238 : decode cL_law 238 = .ok (.iaload, 1) := by decide +kernel
theorem dL_law_239 : decode cL_law 239 = .ok (.aload_n 0, 1) := by decide +kernel
theorem dL_law_240 : decode cL_law 240 = .ok (.iload_n 3, 1) := by decide +kernel
theorem dL_law_241 : decode cL_law 241 = .ok (.iconst 2, 1) := by decide +kernel
theorem dL_law_242 : decode cL_law 242 = .ok (.iadd, 1) := by decide +kernel
theorem dL_law_243 : decode cL_law 243 = .ok (.iaload, 1) := by decide +kernel
theorem dL_law_244 : decode cL_law 244 = .ok (.aload_n 0, 1) := by decide +kernel
theorem dL_law_245 : decode cL_law 245 = .ok (.iload_n 3, 1) := by decide +kernel
theorem dL_law_246 : decode cL_law 246 = .ok (.iconst 3, 1) := by decide +kernel
theorem dL_law_247 : decode cL_law 247 = .ok (.iadd, 1) := by decide +kernel
theorem dL_law_248 : decode cL_law 248 = .ok (.iaload, 1) := by decide +kernel
theorem dL_law_249 : decode cL_law 249 = .ok (.aload_n 0, 1) := by decide +kernel
theorem dL_law_250 : decode cL_law 250 = .ok (.iload_n 3, 1) := by decide +kernel
theorem dL_law_251 : decode cL_law 251 = .ok (.iconst 4, 1) := by decide +kernel
theorem dL_law_252 : decode cL_law 252 = .ok (.iadd, 1) := by decide +kernel
theorem dL_law_253 : decode cL_law 253 = .ok (.iaload, 1) := by decide +kernel
theorem dL_law_254 : decode cL_law 254 = .ok (.aload_n 0, 1) := by decide +kernel
theorem dL_law_255 : decode cL_law 255 = .ok (.iload_n 3, 1) := by decide +kernel
theorem dL_law_256 : decode cL_law 256 = .ok (.iconst 5, 1) := by decide +kernel
theorem dL_law_257 : decode cL_law 257 = .ok (.iadd, 1) := by decide +kernel
theorem dL_law_258 : decode cL_law 258 = .ok (.iaload, 1) := by decide +kernel
theorem dL_law_259 : decode cL_law 259 = .ok (.invokevirtual 17, 3) := by decide +kernel
theorem dL_law_262 : decode cL_law 262 = .ok (.if_icmp .eq 1136, 3) := by decide +kernel
theorem dL_law_265 : decode cL_law 265 = .ok (.iconst 0, 1) := by decide +kernel
theorem dL_law_266 : decode cL_law 266 = .ok (.ireturn, 1) := by decide +kernel
theorem dL_law_267 : decode cL_law 267 = .ok (.aload_n 1, 1) := by decide +kernel
theorem dL_law_268 : decode cL_law 268 = .ok (.aload_n 0, 1) := by decide +kernel
theorem dL_law_269 : decode cL_law 269 = .ok (.iload_n 3, 1) := by decide +kernel
theorem dL_law_270 : decode cL_law 270 = .ok (.iconst 1, 1) := by decide +kernel
theorem dL_law_271 : decode cL_law 271 = .ok (.iadd, 1) := by decide +kernel
theorem dL_law_272 : decode cL_law 272 = .ok (.iaload, 1) := by decide +kernel
theorem dL_law_273 : decode cL_law 273 = .ok (.aload_n 0, 1) := by decide +kernel
theorem dL_law_274 : decode cL_law 274 = .ok (.iload_n 3, 1) := by decide +kernel
theorem dL_law_275 : decode cL_law 275 = .ok (.iconst 2, 1) := by decide +kernel
theorem dL_law_276 : decode cL_law 276 = .ok (.iadd, 1) := by decide +kernel
theorem dL_law_277 : decode cL_law 277 = .ok (.iaload, 1) := by decide +kernel
theorem dL_law_278 : decode cL_law 278 = .ok (.aload_n 0, 1) := by decide +kernel
theorem dL_law_279 : decode cL_law 279 = .ok (.iload_n 3, 1) := by decide +kernel
theorem dL_law_280 : decode cL_law 280 = .ok (.iconst 3, 1) := by decide +kernel
theorem dL_law_281 : decode cL_law 281 = .ok (.iadd, 1) := by decide +kernel
theorem dL_law_282 : decode cL_law 282 = .ok (.iaload, 1) := by decide +kernel
theorem dL_law_283 : decode cL_law 283 = .ok (.aload_n 0, 1) := by decide +kernel
theorem dL_law_284 : decode cL_law 284 = .ok (.iload_n 3, 1) := by decide +kernel
theorem dL_law_285 : decode cL_law 285 = .ok (.iconst 4, 1) := by decide +kernel
theorem dL_law_286 : decode cL_law 286 = .ok (.iadd, 1) := by decide +kernel
theorem dL_law_287 : decode cL_law 287 = .ok (.iaload, 1) := by decide +kernel
theorem dL_law_288 : decode cL_law 288 = .ok (.invokevirtual 18, 3) := by decide +kernel
theorem dL_law_291 : decode cL_law 291 = .ok (.aload_n 2, 1) := by decide +kernel
theorem dL_law_292 : decode cL_law 292 = .ok (.aload_n 0, 1) := by decide +kernel
theorem dL_law_293 : decode cL_law 293 = .ok (.iload_n 3, 1) := by decide +kernel
theorem dL_law_294 : decode cL_law 294 = .ok (.iconst 1, 1) := by decide +kernel
theorem dL_law_295 : decode cL_law 295 = .ok (.iadd, 1) := by decide +kernel
theorem dL_law_296 : decode cL_law 296 = .ok (.iaload, 1) := by decide +kernel
theorem dL_law_297 : decode cL_law 297 = .ok (.aload_n 0, 1) := by decide +kernel
theorem dL_law_298 : decode cL_law 298 = .ok (.iload_n 3, 1) := by decide +kernel
theorem dL_law_299 : decode cL_law 299 = .ok (.iconst 2, 1) := by decide +kernel
theorem dL_law_300 : decode cL_law 300 = .ok (.iadd, 1) := by decide +kernel
theorem dL_law_301 : decode cL_law 301 = .ok (.iaload, 1) := by decide +kernel
theorem dL_law_302 : decode cL_law 302 = .ok (.aload_n 0, 1) := by decide +kernel
theorem dL_law_303 : decode cL_law 303 = .ok (.iload_n 3, 1) := by decide +kernel
theorem dL_law_304 : decode cL_law 304 = .ok (.iconst 3, 1) := by decide +kernel
theorem dL_law_305 : decode cL_law 305 = .ok (.iadd, 1) := by decide +kernel
theorem dL_law_306 : decode cL_law 306 = .ok (.iaload, 1) := by decide +kernel
theorem dL_law_307 : decode cL_law 307 = .ok (.aload_n 0, 1) := by decide +kernel
theorem dL_law_308 : decode cL_law 308 = .ok (.iload_n 3, 1) := by decide +kernel
theorem dL_law_309 : decode cL_law 309 = .ok (.iconst 4, 1) := by decide +kernel
theorem dL_law_310 : decode cL_law 310 = .ok (.iadd, 1) := by decide +kernel
theorem dL_law_311 : decode cL_law 311 = .ok (.iaload, 1) := by decide +kernel
theorem dL_law_312 : decode cL_law 312 = .ok (.invokevirtual 22, 3) := by decide +kernel
theorem dL_law_315 : decode cL_law 315 = .ok (.if_icmp .eq 1083, 3) := by decide +kernel
theorem dL_law_318 : decode cL_law 318 = .ok (.iconst 0, 1) := by decide +kernel
theorem dL_law_319 : decode cL_law 319 = .ok (.ireturn, 1) := by decide +kernel
theorem dL_law_320 : decode cL_law 320 = .ok (.aload_n 1, 1) := by decide +kernel
theorem dL_law_321 : decode cL_law 321 = .ok (.aload_n 0, 1) := by decide +kernel
theorem dL_law_322 : decode cL_law 322 = .ok (.iload_n 3, 1) := by decide +kernel
theorem dL_law_323 : decode cL_law 323 = .ok (.iconst 1, 1) := by decide +kernel
theorem dL_law_324 : decode cL_law 324 = .ok (.iadd, 1) := by decide +kernel
theorem dL_law_325 : decode cL_law 325 = .ok (.iaload, 1) := by decide +kernel
theorem dL_law_326 : decode cL_law 326 = .ok (.aload_n 0, 1) := by decide +kernel
theorem dL_law_327 : decode cL_law 327 = .ok (.iload_n 3, 1) := by decide +kernel
theorem dL_law_328 : decode cL_law 328 = .ok (.iconst 2, 1) := by decide +kernel
theorem dL_law_329 : decode cL_law 329 = .ok (.iadd, 1) := by decide +kernel
theorem dL_law_330 : decode cL_law 330 = .ok (.iaload, 1) := by decide +kernel
theorem dL_law_331 : decode cL_law 331 = .ok (.invokevirtual 23, 3) := by decide +kernel
theorem dL_law_334 : decode cL_law 334 = .ok (.aload_n 2, 1) := by decide +kernel
theorem dL_law_335 : decode cL_law 335 = .ok (.aload_n 0, 1) := by decide +kernel
theorem dL_law_336 : decode cL_law 336 = .ok (.iload_n 3, 1) := by decide +kernel
theorem dL_law_337 : decode cL_law 337 = .ok (.iconst 1, 1) := by decide +kernel
theorem dL_law_338 : decode cL_law 338 = .ok (.iadd, 1) := by decide +kernel
theorem dL_law_339 : decode cL_law 339 = .ok (.iaload, 1) := by decide +kernel
theorem dL_law_340 : decode cL_law 340 = .ok (.aload_n 0, 1) := by decide +kernel
theorem dL_law_341 : decode cL_law 341 = .ok (.iload_n 3, 1) := by decide +kernel
theorem dL_law_342 : decode cL_law 342 = .ok (.iconst 2, 1) := by decide +kernel
theorem dL_law_343 : decode cL_law 343 = .ok (.iadd, 1) := by decide +kernel
theorem dL_law_344 : decode cL_law 344 = .ok (.iaload, 1) := by decide +kernel
theorem dL_law_345 : decode cL_law 345 = .ok (.invokevirtual 27, 3) := by decide +kernel
theorem dL_law_348 : decode cL_law 348 = .ok (.if_icmp .eq 1050, 3) := by decide +kernel
theorem dL_law_351 : decode cL_law 351 = .ok (.iconst 0, 1) := by decide +kernel
theorem dL_law_352 : decode cL_law 352 = .ok (.ireturn, 1) := by decide +kernel
theorem dL_law_353 : decode cL_law 353 = .ok (.aload_n 1, 1) := by decide +kernel
theorem dL_law_354 : decode cL_law 354 = .ok (.aload_n 0, 1) := by decide +kernel
theorem dL_law_355 : decode cL_law 355 = .ok (.iload_n 3, 1) := by decide +kernel
theorem dL_law_356 : decode cL_law 356 = .ok (.iconst 1, 1) := by decide +kernel
theorem dL_law_357 : decode cL_law 357 = .ok (.iadd, 1) := by decide +kernel
theorem dL_law_358 : decode cL_law 358 = .ok (.iaload, 1) := by decide +kernel
theorem dL_law_359 : decode cL_law 359 = .ok (.aload_n 0, 1) := by decide +kernel
theorem dL_law_360 : decode cL_law 360 = .ok (.iload_n 3, 1) := by decide +kernel
theorem dL_law_361 : decode cL_law 361 = .ok (.iconst 2, 1) := by decide +kernel
theorem dL_law_362 : decode cL_law 362 = .ok (.iadd, 1) := by decide +kernel
theorem dL_law_363 : decode cL_law 363 = .ok (.iaload, 1) := by decide +kernel
theorem dL_law_364 : decode cL_law 364 = .ok (.aload_n 0, 1) := by decide +kernel
theorem dL_law_365 : decode cL_law 365 = .ok (.iload_n 3, 1) := by decide +kernel
theorem dL_law_366 : decode cL_law 366 = .ok (.iconst 3, 1) := by decide +kernel
theorem dL_law_367 : decode cL_law 367 = .ok (.iadd, 1) := by decide +kernel
theorem dL_law_368 : decode cL_law 368 = .ok (.iaload, 1) := by decide +kernel
theorem dL_law_369 : decode cL_law 369 = .ok (.aload_n 0, 1) := by decide +kernel
theorem dL_law_370 : decode cL_law 370 = .ok (.iload_n 3, 1) := by decide +kernel
theorem dL_law_371 : decode cL_law 371 = .ok (.iconst 4, 1) := by decide +kernel
theorem dL_law_372 : decode cL_law 372 = .ok (.iadd, 1) := by decide +kernel
theorem dL_law_373 : decode cL_law 373 = .ok (.iaload, 1) := by decide +kernel
theorem dL_law_374 : decode cL_law 374 = .ok (.aload_n 0, 1) := by decide +kernel
theorem dL_law_375 : decode cL_law 375 = .ok (.iload_n 3, 1) := by decide +kernel
theorem dL_law_376 : decode cL_law 376 = .ok (.iconst 5, 1) := by decide +kernel
theorem dL_law_377 : decode cL_law 377 = .ok (.iadd, 1) := by decide +kernel
theorem dL_law_378 : decode cL_law 378 = .ok (.iaload, 1) := by decide +kernel
theorem dL_law_379 : decode cL_law 379 = .ok (.invokevirtual 28, 3) := by decide +kernel
theorem dL_law_382 : decode cL_law 382 = .ok (.aload_n 2, 1) := by decide +kernel
theorem dL_law_383 : decode cL_law 383 = .ok (.aload_n 0, 1) := by decide +kernel
theorem dL_law_384 : decode cL_law 384 = .ok (.iload_n 3, 1) := by decide +kernel
theorem dL_law_385 : decode cL_law 385 = .ok (.iconst 1, 1) := by decide +kernel
theorem dL_law_386 : decode cL_law 386 = .ok (.iadd, 1) := by decide +kernel
theorem dL_law_387 : decode cL_law 387 = .ok (.iaload, 1) := by decide +kernel
theorem dL_law_388 : decode cL_law 388 = .ok (.aload_n 0, 1) := by decide +kernel
theorem dL_law_389 : decode cL_law 389 = .ok (.iload_n 3, 1) := by decide +kernel
theorem dL_law_390 : decode cL_law 390 = .ok (.iconst 2, 1) := by decide +kernel
theorem dL_law_391 : decode cL_law 391 = .ok (.iadd, 1) := by decide +kernel
theorem dL_law_392 : decode cL_law 392 = .ok (.iaload, 1) := by decide +kernel
theorem dL_law_393 : decode cL_law 393 = .ok (.aload_n 0, 1) := by decide +kernel
theorem dL_law_394 : decode cL_law 394 = .ok (.iload_n 3, 1) := by decide +kernel
theorem dL_law_395 : decode cL_law 395 = .ok (.iconst 3, 1) := by decide +kernel
theorem dL_law_396 : decode cL_law 396 = .ok (.iadd, 1) := by decide +kernel
theorem dL_law_397 : decode cL_law 397 = .ok (.iaload, 1) := by decide +kernel
theorem dL_law_398 : decode cL_law 398 = .ok (.aload_n 0, 1) := by decide +kernel
theorem dL_law_399 : decode cL_law 399 = .ok (.iload_n 3, 1) := by decide +kernel
theorem dL_law_400 : decode cL_law 400 = .ok (.iconst 4, 1) := by decide +kernel
theorem dL_law_401 : decode cL_law 401 = .ok (.iadd, 1) := by decide +kernel
theorem dL_law_402 : decode cL_law 402 = .ok (.iaload, 1) := by decide +kernel
theorem dL_law_403 : decode cL_law 403 = .ok (.aload_n 0, 1) := by decide +kernel
theorem dL_law_404 : decode cL_law 404 = .ok (.iload_n 3, 1) := by decide +kernel
theorem dL_law_405 : decode cL_law 405 = .ok (.iconst 5, 1) := by decide +kernel
theorem dL_law_406 : decode cL_law 406 = .ok (.iadd, 1) := by decide +kernel
theorem dL_law_407 : decode cL_law 407 = .ok (.iaload, 1) := by decide +kernel
theorem dL_law_408 : decode cL_law 408 = .ok (.invokevirtual 31, 3) := by decide +kernel
theorem dL_law_411 : decode cL_law 411 = .ok (.if_icmp .eq 987, 3) := by decide +kernel
theorem dL_law_414 : decode cL_law 414 = .ok (.iconst 0, 1) := by decide +kernel
theorem dL_law_415 : decode cL_law 415 = .ok (.ireturn, 1) := by decide +kernel
theorem dL_law_416 : decode cL_law 416 = .ok (.aload_n 1, 1) := by decide +kernel
theorem dL_law_417 : decode cL_law 417 = .ok (.aload_n 0, 1) := by decide +kernel
theorem dL_law_418 : decode cL_law 418 = .ok (.iload_n 3, 1) := by decide +kernel
theorem dL_law_419 : decode cL_law 419 = .ok (.iconst 1, 1) := by decide +kernel
theorem dL_law_420 : decode cL_law 420 = .ok (.iadd, 1) := by decide +kernel
theorem dL_law_421 : decode cL_law 421 = .ok (.iaload, 1) := by decide +kernel
theorem dL_law_422 : decode cL_law 422 = .ok (.aload_n 0, 1) := by decide +kernel
theorem dL_law_423 : decode cL_law 423 = .ok (.iload_n 3, 1) := by decide +kernel
theorem dL_law_424 : decode cL_law 424 = .ok (.iconst 2, 1) := by decide +kernel
theorem dL_law_425 : decode cL_law 425 = .ok (.iadd, 1) := by decide +kernel
theorem dL_law_426 : decode cL_law 426 = .ok (.iaload, 1) := by decide +kernel
theorem dL_law_427 : decode cL_law 427 = .ok (.aload_n 0, 1) := by decide +kernel
theorem dL_law_428 : decode cL_law 428 = .ok (.iload_n 3, 1) := by decide +kernel
theorem dL_law_429 : decode cL_law 429 = .ok (.iconst 3, 1) := by decide +kernel
theorem dL_law_430 : decode cL_law 430 = .ok (.iadd, 1) := by decide +kernel
theorem dL_law_431 : decode cL_law 431 = .ok (.iaload, 1) := by decide +kernel
theorem dL_law_432 : decode cL_law 432 = .ok (.invokevirtual 32, 3) := by decide +kernel
theorem dL_law_435 : decode cL_law 435 = .ok (.aload_n 2, 1) := by decide +kernel
theorem dL_law_436 : decode cL_law 436 = .ok (.aload_n 0, 1) := by decide +kernel
theorem dL_law_437 : decode cL_law 437 = .ok (.iload_n 3, 1) := by decide +kernel
theorem dL_law_438 : decode cL_law 438 = .ok (.iconst 1, 1) := by decide +kernel
theorem dL_law_439 : decode cL_law 439 = .ok (.iadd, 1) := by decide +kernel
theorem dL_law_440 : decode cL_law 440 = .ok (.iaload, 1) := by decide +kernel
theorem dL_law_441 : decode cL_law 441 = .ok (.aload_n 0, 1) := by decide +kernel
theorem dL_law_442 : decode cL_law 442 = .ok (.iload_n 3, 1) := by decide +kernel
theorem dL_law_443 : decode cL_law 443 = .ok (.iconst 2, 1) := by decide +kernel
theorem dL_law_444 : decode cL_law 444 = .ok (.iadd, 1) := by decide +kernel
theorem dL_law_445 : decode cL_law 445 = .ok (.iaload, 1) := by decide +kernel
theorem dL_law_446 : decode cL_law 446 = .ok (.aload_n 0, 1) := by decide +kernel
theorem dL_law_447 : decode cL_law 447 = .ok (.iload_n 3, 1) := by decide +kernel
theorem dL_law_448 : decode cL_law 448 = .ok (.iconst 3, 1) := by decide +kernel
theorem dL_law_449 : decode cL_law 449 = .ok (.iadd, 1) := by decide +kernel
theorem dL_law_450 : decode cL_law 450 = .ok (.iaload, 1) := by decide +kernel
theorem dL_law_451 : decode cL_law 451 = .ok (.invokevirtual 36, 3) := by decide +kernel
theorem dL_law_454 : decode cL_law 454 = .ok (.lcmp, 1) := by decide +kernel
theorem dL_law_455 : decode cL_law 455 = .ok (.ifCond .eq 943, 3) := by decide +kernel
theorem dL_law_458 : decode cL_law 458 = .ok (.iconst 0, 1) := by decide +kernel
theorem dL_law_459 : decode cL_law 459 = .ok (.ireturn, 1) := by decide +kernel
theorem dL_law_460 : decode cL_law 460 = .ok (.aload_n 1, 1) := by decide +kernel
theorem dL_law_461 : decode cL_law 461 = .ok (.aload_n 0, 1) := by decide +kernel
theorem dL_law_462 : decode cL_law 462 = .ok (.iload_n 3, 1) := by decide +kernel
theorem dL_law_463 : decode cL_law 463 = .ok (.iconst 1, 1) := by decide +kernel
theorem dL_law_464 : decode cL_law 464 = .ok (.iadd, 1) := by decide +kernel
theorem dL_law_465 : decode cL_law 465 = .ok (.iaload, 1) := by decide +kernel
theorem dL_law_466 : decode cL_law 466 = .ok (.invokevirtual 37, 3) := by decide +kernel
theorem dL_law_469 : decode cL_law 469 = .ok (.aload_n 2, 1) := by decide +kernel
theorem dL_law_470 : decode cL_law 470 = .ok (.aload_n 0, 1) := by decide +kernel
theorem dL_law_471 : decode cL_law 471 = .ok (.iload_n 3, 1) := by decide +kernel
theorem dL_law_472 : decode cL_law 472 = .ok (.iconst 1, 1) := by decide +kernel
theorem dL_law_473 : decode cL_law 473 = .ok (.iadd, 1) := by decide +kernel
theorem dL_law_474 : decode cL_law 474 = .ok (.iaload, 1) := by decide +kernel
theorem dL_law_475 : decode cL_law 475 = .ok (.invokevirtual 41, 3) := by decide +kernel
theorem dL_law_478 : decode cL_law 478 = .ok (.if_icmp .eq 920, 3) := by decide +kernel
theorem dL_law_481 : decode cL_law 481 = .ok (.iconst 0, 1) := by decide +kernel
theorem dL_law_482 : decode cL_law 482 = .ok (.ireturn, 1) := by decide +kernel
theorem dL_law_483 : decode cL_law 483 = .ok (.aload_n 1, 1) := by decide +kernel
theorem dL_law_484 : decode cL_law 484 = .ok (.aload_n 0, 1) := by decide +kernel
theorem dL_law_485 : decode cL_law 485 = .ok (.iload_n 3, 1) := by decide +kernel
theorem dL_law_486 : decode cL_law 486 = .ok (.iconst 1, 1) := by decide +kernel
theorem dL_law_487 : decode cL_law 487 = .ok (.iadd, 1) := by decide +kernel
theorem dL_law_488 : decode cL_law 488 = .ok (.iaload, 1) := by decide +kernel
theorem dL_law_489 : decode cL_law 489 = .ok (.aload_n 0, 1) := by decide +kernel
theorem dL_law_490 : decode cL_law 490 = .ok (.iload_n 3, 1) := by decide +kernel
theorem dL_law_491 : decode cL_law 491 = .ok (.iconst 2, 1) := by decide +kernel
theorem dL_law_492 : decode cL_law 492 = .ok (.iadd, 1) := by decide +kernel
theorem dL_law_493 : decode cL_law 493 = .ok (.iaload, 1) := by decide +kernel
theorem dL_law_494 : decode cL_law 494 = .ok (.invokevirtual 42, 3) := by decide +kernel
theorem dL_law_497 : decode cL_law 497 = .ok (.aload_n 2, 1) := by decide +kernel
theorem dL_law_498 : decode cL_law 498 = .ok (.aload_n 0, 1) := by decide +kernel
theorem dL_law_499 : decode cL_law 499 = .ok (.iload_n 3, 1) := by decide +kernel
theorem dL_law_500 : decode cL_law 500 = .ok (.iconst 1, 1) := by decide +kernel
theorem dL_law_501 : decode cL_law 501 = .ok (.iadd, 1) := by decide +kernel
theorem dL_law_502 : decode cL_law 502 = .ok (.iaload, 1) := by decide +kernel
theorem dL_law_503 : decode cL_law 503 = .ok (.aload_n 0, 1) := by decide +kernel
theorem dL_law_504 : decode cL_law 504 = .ok (.iload_n 3, 1) := by decide +kernel
theorem dL_law_505 : decode cL_law 505 = .ok (.iconst 2, 1) := by decide +kernel
theorem dL_law_506 : decode cL_law 506 = .ok (.iadd, 1) := by decide +kernel
theorem dL_law_507 : decode cL_law 507 = .ok (.iaload, 1) := by decide +kernel
theorem dL_law_508 : decode cL_law 508 = .ok (.invokevirtual 46, 3) := by decide +kernel
theorem dL_law_511 : decode cL_law 511 = .ok (.lcmp, 1) := by decide +kernel
theorem dL_law_512 : decode cL_law 512 = .ok (.ifCond .eq 886, 3) := by decide +kernel
theorem dL_law_515 : decode cL_law 515 = .ok (.iconst 0, 1) := by decide +kernel
theorem dL_law_516 : decode cL_law 516 = .ok (.ireturn, 1) := by decide +kernel
theorem dL_law_517 : decode cL_law 517 = .ok (.aload_n 1, 1) := by decide +kernel
theorem dL_law_518 : decode cL_law 518 = .ok (.aload_n 0, 1) := by decide +kernel
theorem dL_law_519 : decode cL_law 519 = .ok (.iload_n 3, 1) := by decide +kernel
theorem dL_law_520 : decode cL_law 520 = .ok (.iconst 1, 1) := by decide +kernel
theorem dL_law_521 : decode cL_law 521 = .ok (.iadd, 1) := by decide +kernel
theorem dL_law_522 : decode cL_law 522 = .ok (.iaload, 1) := by decide +kernel
theorem dL_law_523 : decode cL_law 523 = .ok (.aload_n 0, 1) := by decide +kernel
theorem dL_law_524 : decode cL_law 524 = .ok (.iload_n 3, 1) := by decide +kernel
theorem dL_law_525 : decode cL_law 525 = .ok (.iconst 2, 1) := by decide +kernel
theorem dL_law_526 : decode cL_law 526 = .ok (.iadd, 1) := by decide +kernel
theorem dL_law_527 : decode cL_law 527 = .ok (.iaload, 1) := by decide +kernel
theorem dL_law_528 : decode cL_law 528 = .ok (.invokevirtual 47, 3) := by decide +kernel
theorem dL_law_531 : decode cL_law 531 = .ok (.aload_n 2, 1) := by decide +kernel
theorem dL_law_532 : decode cL_law 532 = .ok (.aload_n 0, 1) := by decide +kernel
theorem dL_law_533 : decode cL_law 533 = .ok (.iload_n 3, 1) := by decide +kernel
theorem dL_law_534 : decode cL_law 534 = .ok (.iconst 1, 1) := by decide +kernel
theorem dL_law_535 : decode cL_law 535 = .ok (.iadd, 1) := by decide +kernel
theorem dL_law_536 : decode cL_law 536 = .ok (.iaload, 1) := by decide +kernel
theorem dL_law_537 : decode cL_law 537 = .ok (.aload_n 0, 1) := by decide +kernel
theorem dL_law_538 : decode cL_law 538 = .ok (.iload_n 3, 1) := by decide +kernel
theorem dL_law_539 : decode cL_law 539 = .ok (.iconst 2, 1) := by decide +kernel
theorem dL_law_540 : decode cL_law 540 = .ok (.iadd, 1) := by decide +kernel
theorem dL_law_541 : decode cL_law 541 = .ok (.iaload, 1) := by decide +kernel
theorem dL_law_542 : decode cL_law 542 = .ok (.invokevirtual 50, 3) := by decide +kernel
theorem dL_law_545 : decode cL_law 545 = .ok (.if_icmp .eq 853, 3) := by decide +kernel
theorem dL_law_548 : decode cL_law 548 = .ok (.iconst 0, 1) := by decide +kernel
theorem dL_law_549 : decode cL_law 549 = .ok (.ireturn, 1) := by decide +kernel
theorem dL_law_550 : decode cL_law 550 = .ok (.aload_n 1, 1) := by decide +kernel
theorem dL_law_551 : decode cL_law 551 = .ok (.aload_n 0, 1) := by decide +kernel
theorem dL_law_552 : decode cL_law 552 = .ok (.iload_n 3, 1) := by decide +kernel
theorem dL_law_553 : decode cL_law 553 = .ok (.iconst 1, 1) := by decide +kernel
theorem dL_law_554 : decode cL_law 554 = .ok (.iadd, 1) := by decide +kernel
theorem dL_law_555 : decode cL_law 555 = .ok (.iaload, 1) := by decide +kernel
theorem dL_law_556 : decode cL_law 556 = .ok (.aload_n 0, 1) := by decide +kernel
theorem dL_law_557 : decode cL_law 557 = .ok (.iload_n 3, 1) := by decide +kernel
theorem dL_law_558 : decode cL_law 558 = .ok (.iconst 2, 1) := by decide +kernel
theorem dL_law_559 : decode cL_law 559 = .ok (.iadd, 1) := by decide +kernel
theorem dL_law_560 : decode cL_law 560 = .ok (.iaload, 1) := by decide +kernel
theorem dL_law_561 : decode cL_law 561 = .ok (.invokevirtual 51, 3) := by decide +kernel
theorem dL_law_564 : decode cL_law 564 = .ok (.aload_n 2, 1) := by decide +kernel
theorem dL_law_565 : decode cL_law 565 = .ok (.aload_n 0, 1) := by decide +kernel
theorem dL_law_566 : decode cL_law 566 = .ok (.iload_n 3, 1) := by decide +kernel
theorem dL_law_567 : decode cL_law 567 = .ok (.iconst 1, 1) := by decide +kernel
theorem dL_law_568 : decode cL_law 568 = .ok (.iadd, 1) := by decide +kernel
theorem dL_law_569 : decode cL_law 569 = .ok (.iaload, 1) := by decide +kernel
theorem dL_law_570 : decode cL_law 570 = .ok (.aload_n 0, 1) := by decide +kernel
theorem dL_law_571 : decode cL_law 571 = .ok (.iload_n 3, 1) := by decide +kernel
theorem dL_law_572 : decode cL_law 572 = .ok (.iconst 2, 1) := by decide +kernel
theorem dL_law_573 : decode cL_law 573 = .ok (.iadd, 1) := by decide +kernel
theorem dL_law_574 : decode cL_law 574 = .ok (.iaload, 1) := by decide +kernel
theorem dL_law_575 : decode cL_law 575 = .ok (.invokevirtual 54, 3) := by decide +kernel
theorem dL_law_578 : decode cL_law 578 = .ok (.lcmp, 1) := by decide +kernel
theorem dL_law_579 : decode cL_law 579 = .ok (.ifCond .eq 819, 3) := by decide +kernel
theorem dL_law_582 : decode cL_law 582 = .ok (.iconst 0, 1) := by decide +kernel
theorem dL_law_583 : decode cL_law 583 = .ok (.ireturn, 1) := by decide +kernel
theorem dL_law_584 : decode cL_law 584 = .ok (.aload_n 1, 1) := by decide +kernel
theorem dL_law_585 : decode cL_law 585 = .ok (.aload_n 0, 1) := by decide +kernel
theorem dL_law_586 : decode cL_law 586 = .ok (.iload_n 3, 1) := by decide +kernel
theorem dL_law_587 : decode cL_law 587 = .ok (.iconst 1, 1) := by decide +kernel
theorem dL_law_588 : decode cL_law 588 = .ok (.iadd, 1) := by decide +kernel
theorem dL_law_589 : decode cL_law 589 = .ok (.iaload, 1) := by decide +kernel
theorem dL_law_590 : decode cL_law 590 = .ok (.aload_n 0, 1) := by decide +kernel
theorem dL_law_591 : decode cL_law 591 = .ok (.iload_n 3, 1) := by decide +kernel
theorem dL_law_592 : decode cL_law 592 = .ok (.iconst 2, 1) := by decide +kernel
theorem dL_law_593 : decode cL_law 593 = .ok (.iadd, 1) := by decide +kernel
theorem dL_law_594 : decode cL_law 594 = .ok (.iaload, 1) := by decide +kernel
theorem dL_law_595 : decode cL_law 595 = .ok (.invokevirtual 55, 3) := by decide +kernel
theorem dL_law_598 : decode cL_law 598 = .ok (.aload_n 2, 1) := by decide +kernel
theorem dL_law_599 : decode cL_law 599 = .ok (.aload_n 0, 1) := by decide +kernel
theorem dL_law_600 : decode cL_law 600 = .ok (.iload_n 3, 1) := by decide +kernel
theorem dL_law_601 : decode cL_law 601 = .ok (.iconst 1, 1) := by decide +kernel
theorem dL_law_602 : decode cL_law 602 = .ok (.iadd, 1) := by decide +kernel
theorem dL_law_603 : decode cL_law 603 = .ok (.iaload, 1) := by decide +kernel
theorem dL_law_604 : decode cL_law 604 = .ok (.aload_n 0, 1) := by decide +kernel
theorem dL_law_605 : decode cL_law 605 = .ok (.iload_n 3, 1) := by decide +kernel
theorem dL_law_606 : decode cL_law 606 = .ok (.iconst 2, 1) := by decide +kernel
theorem dL_law_607 : decode cL_law 607 = .ok (.iadd, 1) := by decide +kernel
theorem dL_law_608 : decode cL_law 608 = .ok (.iaload, 1) := by decide +kernel
theorem dL_law_609 : decode cL_law 609 = .ok (.invokevirtual 58, 3) := by decide +kernel
theorem dL_law_612 : decode cL_law 612 = .ok (.if_icmp .eq 786, 3) := by decide +kernel
theorem dL_law_615 : decode cL_law 615 = .ok (.iconst 0, 1) := by decide +kernel
theorem dL_law_616 : decode cL_law 616 = .ok (.ireturn, 1) := by decide +kernel
theorem dL_law_617 : decode cL_law 617 = .ok (.aload_n 1, 1) := by decide +kernel
theorem dL_law_618 : decode cL_law 618 = .ok (.aload_n 0, 1) := by decide +kernel
theorem dL_law_619 : decode cL_law 619 = .ok (.iload_n 3, 1) := by decide +kernel
theorem dL_law_620 : decode cL_law 620 = .ok (.iconst 1, 1) := by decide +kernel
theorem dL_law_621 : decode cL_law 621 = .ok (.iadd, 1) := by decide +kernel
theorem dL_law_622 : decode cL_law 622 = .ok (.iaload, 1) := by decide +kernel
theorem dL_law_623 : decode cL_law 623 = .ok (.aload_n 0, 1) := by decide +kernel
theorem dL_law_624 : decode cL_law 624 = .ok (.iload_n 3, 1) := by decide +kernel
theorem dL_law_625 : decode cL_law 625 = .ok (.iconst 2, 1) := by decide +kernel
theorem dL_law_626 : decode cL_law 626 = .ok (.iadd, 1) := by decide +kernel
theorem dL_law_627 : decode cL_law 627 = .ok (.iaload, 1) := by decide +kernel
theorem dL_law_628 : decode cL_law 628 = .ok (.aload_n 0, 1) := by decide +kernel
theorem dL_law_629 : decode cL_law 629 = .ok (.iload_n 3, 1) := by decide +kernel
theorem dL_law_630 : decode cL_law 630 = .ok (.iconst 3, 1) := by decide +kernel
theorem dL_law_631 : decode cL_law 631 = .ok (.iadd, 1) := by decide +kernel
theorem dL_law_632 : decode cL_law 632 = .ok (.iaload, 1) := by decide +kernel
theorem dL_law_633 : decode cL_law 633 = .ok (.invokevirtual 59, 3) := by decide +kernel
theorem dL_law_636 : decode cL_law 636 = .ok (.aload_n 2, 1) := by decide +kernel
theorem dL_law_637 : decode cL_law 637 = .ok (.aload_n 0, 1) := by decide +kernel
theorem dL_law_638 : decode cL_law 638 = .ok (.iload_n 3, 1) := by decide +kernel
theorem dL_law_639 : decode cL_law 639 = .ok (.iconst 1, 1) := by decide +kernel
theorem dL_law_640 : decode cL_law 640 = .ok (.iadd, 1) := by decide +kernel
theorem dL_law_641 : decode cL_law 641 = .ok (.iaload, 1) := by decide +kernel
theorem dL_law_642 : decode cL_law 642 = .ok (.aload_n 0, 1) := by decide +kernel
theorem dL_law_643 : decode cL_law 643 = .ok (.iload_n 3, 1) := by decide +kernel
theorem dL_law_644 : decode cL_law 644 = .ok (.iconst 2, 1) := by decide +kernel
theorem dL_law_645 : decode cL_law 645 = .ok (.iadd, 1) := by decide +kernel
theorem dL_law_646 : decode cL_law 646 = .ok (.iaload, 1) := by decide +kernel
theorem dL_law_647 : decode cL_law 647 = .ok (.aload_n 0, 1) := by decide +kernel
theorem dL_law_648 : decode cL_law 648 = .ok (.iload_n 3, 1) := by decide +kernel
theorem dL_law_649 : decode cL_law 649 = .ok (.iconst 3, 1) := by decide +kernel
theorem dL_law_650 : decode cL_law 650 = .ok (.iadd, 1) := by decide +kernel
theorem dL_law_651 : decode cL_law 651 = .ok (.iaload, 1) := by decide +kernel
theorem dL_law_652 : decode cL_law 652 = .ok (.invokevirtual 63, 3) := by decide +kernel
theorem dL_law_655 : decode cL_law 655 = .ok (.if_icmp .eq 743, 3) := by decide +kernel
theorem dL_law_658 : decode cL_law 658 = .ok (.iconst 0, 1) := by decide +kernel
theorem dL_law_659 : decode cL_law 659 = .ok (.ireturn, 1) := by decide +kernel
theorem dL_law_660 : decode cL_law 660 = .ok (.aload_n 1, 1) := by decide +kernel
theorem dL_law_661 : decode cL_law 661 = .ok (.aload_n 0, 1) := by decide +kernel
theorem dL_law_662 : decode cL_law 662 = .ok (.iload_n 3, 1) := by decide +kernel
theorem dL_law_663 : decode cL_law 663 = .ok (.iconst 1, 1) := by decide +kernel
theorem dL_law_664 : decode cL_law 664 = .ok (.iadd, 1) := by decide +kernel
theorem dL_law_665 : decode cL_law 665 = .ok (.iaload, 1) := by decide +kernel
theorem dL_law_666 : decode cL_law 666 = .ok (.aload_n 0, 1) := by decide +kernel
theorem dL_law_667 : decode cL_law 667 = .ok (.iload_n 3, 1) := by decide +kernel
theorem dL_law_668 : decode cL_law 668 = .ok (.iconst 2, 1) := by decide +kernel
theorem dL_law_669 : decode cL_law 669 = .ok (.iadd, 1) := by decide +kernel
theorem dL_law_670 : decode cL_law 670 = .ok (.iaload, 1) := by decide +kernel
theorem dL_law_671 : decode cL_law 671 = .ok (.aload_n 0, 1) := by decide +kernel
theorem dL_law_672 : decode cL_law 672 = .ok (.iload_n 3, 1) := by decide +kernel
theorem dL_law_673 : decode cL_law 673 = .ok (.iconst 3, 1) := by decide +kernel
theorem dL_law_674 : decode cL_law 674 = .ok (.iadd, 1) := by decide +kernel
theorem dL_law_675 : decode cL_law 675 = .ok (.iaload, 1) := by decide +kernel
theorem dL_law_676 : decode cL_law 676 = .ok (.aload_n 0, 1) := by decide +kernel
theorem dL_law_677 : decode cL_law 677 = .ok (.iload_n 3, 1) := by decide +kernel
theorem dL_law_678 : decode cL_law 678 = .ok (.iconst 4, 1) := by decide +kernel
theorem dL_law_679 : decode cL_law 679 = .ok (.iadd, 1) := by decide +kernel
theorem dL_law_680 : decode cL_law 680 = .ok (.iaload, 1) := by decide +kernel
theorem dL_law_681 : decode cL_law 681 = .ok (.aload_n 0, 1) := by decide +kernel
theorem dL_law_682 : decode cL_law 682 = .ok (.iload_n 3, 1) := by decide +kernel
theorem dL_law_683 : decode cL_law 683 = .ok (.iconst 5, 1) := by decide +kernel
theorem dL_law_684 : decode cL_law 684 = .ok (.iadd, 1) := by decide +kernel
theorem dL_law_685 : decode cL_law 685 = .ok (.iaload, 1) := by decide +kernel
theorem dL_law_686 : decode cL_law 686 = .ok (.invokevirtual 64, 3) := by decide +kernel
theorem dL_law_689 : decode cL_law 689 = .ok (.aload_n 2, 1) := by decide +kernel
theorem dL_law_690 : decode cL_law 690 = .ok (.aload_n 0, 1) := by decide +kernel
theorem dL_law_691 : decode cL_law 691 = .ok (.iload_n 3, 1) := by decide +kernel
theorem dL_law_692 : decode cL_law 692 = .ok (.iconst 1, 1) := by decide +kernel
theorem dL_law_693 : decode cL_law 693 = .ok (.iadd, 1) := by decide +kernel
theorem dL_law_694 : decode cL_law 694 = .ok (.iaload, 1) := by decide +kernel
theorem dL_law_695 : decode cL_law 695 = .ok (.aload_n 0, 1) := by decide +kernel
theorem dL_law_696 : decode cL_law 696 = .ok (.iload_n 3, 1) := by decide +kernel
theorem dL_law_697 : decode cL_law 697 = .ok (.iconst 2, 1) := by decide +kernel
theorem dL_law_698 : decode cL_law 698 = .ok (.iadd, 1) := by decide +kernel
theorem dL_law_699 : decode cL_law 699 = .ok (.iaload, 1) := by decide +kernel
theorem dL_law_700 : decode cL_law 700 = .ok (.aload_n 0, 1) := by decide +kernel
theorem dL_law_701 : decode cL_law 701 = .ok (.iload_n 3, 1) := by decide +kernel
theorem dL_law_702 : decode cL_law 702 = .ok (.iconst 3, 1) := by decide +kernel
theorem dL_law_703 : decode cL_law 703 = .ok (.iadd, 1) := by decide +kernel
theorem dL_law_704 : decode cL_law 704 = .ok (.iaload, 1) := by decide +kernel
theorem dL_law_705 : decode cL_law 705 = .ok (.aload_n 0, 1) := by decide +kernel
theorem dL_law_706 : decode cL_law 706 = .ok (.iload_n 3, 1) := by decide +kernel
theorem dL_law_707 : decode cL_law 707 = .ok (.iconst 4, 1) := by decide +kernel
theorem dL_law_708 : decode cL_law 708 = .ok (.iadd, 1) := by decide +kernel
theorem dL_law_709 : decode cL_law 709 = .ok (.iaload, 1) := by decide +kernel
theorem dL_law_710 : decode cL_law 710 = .ok (.aload_n 0, 1) := by decide +kernel
theorem dL_law_711 : decode cL_law 711 = .ok (.iload_n 3, 1) := by decide +kernel
theorem dL_law_712 : decode cL_law 712 = .ok (.iconst 5, 1) := by decide +kernel
theorem dL_law_713 : decode cL_law 713 = .ok (.iadd, 1) := by decide +kernel
theorem dL_law_714 : decode cL_law 714 = .ok (.iaload, 1) := by decide +kernel
theorem dL_law_715 : decode cL_law 715 = .ok (.invokevirtual 68, 3) := by decide +kernel
theorem dL_law_718 : decode cL_law 718 = .ok (.lcmp, 1) := by decide +kernel
theorem dL_law_719 : decode cL_law 719 = .ok (.ifCond .eq 679, 3) := by decide +kernel
theorem dL_law_722 : decode cL_law 722 = .ok (.iconst 0, 1) := by decide +kernel
theorem dL_law_723 : decode cL_law 723 = .ok (.ireturn, 1) := by decide +kernel
theorem dL_law_724 : decode cL_law 724 = .ok (.aload_n 1, 1) := by decide +kernel
theorem dL_law_725 : decode cL_law 725 = .ok (.aload_n 0, 1) := by decide +kernel
theorem dL_law_726 : decode cL_law 726 = .ok (.iload_n 3, 1) := by decide +kernel
theorem dL_law_727 : decode cL_law 727 = .ok (.iconst 1, 1) := by decide +kernel
theorem dL_law_728 : decode cL_law 728 = .ok (.iadd, 1) := by decide +kernel
theorem dL_law_729 : decode cL_law 729 = .ok (.iaload, 1) := by decide +kernel
theorem dL_law_730 : decode cL_law 730 = .ok (.aload_n 0, 1) := by decide +kernel
theorem dL_law_731 : decode cL_law 731 = .ok (.iload_n 3, 1) := by decide +kernel
theorem dL_law_732 : decode cL_law 732 = .ok (.iconst 2, 1) := by decide +kernel
theorem dL_law_733 : decode cL_law 733 = .ok (.iadd, 1) := by decide +kernel
theorem dL_law_734 : decode cL_law 734 = .ok (.iaload, 1) := by decide +kernel
theorem dL_law_735 : decode cL_law 735 = .ok (.aload_n 0, 1) := by decide +kernel
theorem dL_law_736 : decode cL_law 736 = .ok (.iload_n 3, 1) := by decide +kernel
theorem dL_law_737 : decode cL_law 737 = .ok (.iconst 3, 1) := by decide +kernel
theorem dL_law_738 : decode cL_law 738 = .ok (.iadd, 1) := by decide +kernel
theorem dL_law_739 : decode cL_law 739 = .ok (.iaload, 1) := by decide +kernel
theorem dL_law_740 : decode cL_law 740 = .ok (.invokevirtual 69, 3) := by decide +kernel
theorem dL_law_743 : decode cL_law 743 = .ok (.aload_n 2, 1) := by decide +kernel
theorem dL_law_744 : decode cL_law 744 = .ok (.aload_n 0, 1) := by decide +kernel
theorem dL_law_745 : decode cL_law 745 = .ok (.iload_n 3, 1) := by decide +kernel
theorem dL_law_746 : decode cL_law 746 = .ok (.iconst 1, 1) := by decide +kernel
theorem dL_law_747 : decode cL_law 747 = .ok (.iadd, 1) := by decide +kernel
theorem dL_law_748 : decode cL_law 748 = .ok (.iaload, 1) := by decide +kernel
theorem dL_law_749 : decode cL_law 749 = .ok (.aload_n 0, 1) := by decide +kernel
theorem dL_law_750 : decode cL_law 750 = .ok (.iload_n 3, 1) := by decide +kernel
theorem dL_law_751 : decode cL_law 751 = .ok (.iconst 2, 1) := by decide +kernel
theorem dL_law_752 : decode cL_law 752 = .ok (.iadd, 1) := by decide +kernel
theorem dL_law_753 : decode cL_law 753 = .ok (.iaload, 1) := by decide +kernel
theorem dL_law_754 : decode cL_law 754 = .ok (.aload_n 0, 1) := by decide +kernel
theorem dL_law_755 : decode cL_law 755 = .ok (.iload_n 3, 1) := by decide +kernel
theorem dL_law_756 : decode cL_law 756 = .ok (.iconst 3, 1) := by decide +kernel
theorem dL_law_757 : decode cL_law 757 = .ok (.iadd, 1) := by decide +kernel
theorem dL_law_758 : decode cL_law 758 = .ok (.iaload, 1) := by decide +kernel
theorem dL_law_759 : decode cL_law 759 = .ok (.invokevirtual 72, 3) := by decide +kernel
theorem dL_law_762 : decode cL_law 762 = .ok (.if_icmp .eq 636, 3) := by decide +kernel
theorem dL_law_765 : decode cL_law 765 = .ok (.iconst 0, 1) := by decide +kernel
theorem dL_law_766 : decode cL_law 766 = .ok (.ireturn, 1) := by decide +kernel
theorem dL_law_767 : decode cL_law 767 = .ok (.aload_n 1, 1) := by decide +kernel
theorem dL_law_768 : decode cL_law 768 = .ok (.invokevirtual 73, 3) := by decide +kernel
theorem dL_law_771 : decode cL_law 771 = .ok (.aload_n 2, 1) := by decide +kernel
theorem dL_law_772 : decode cL_law 772 = .ok (.invokevirtual 77, 3) := by decide +kernel
theorem dL_law_775 : decode cL_law 775 = .ok (.if_icmp .eq 623, 3) := by decide +kernel
theorem dL_law_778 : decode cL_law 778 = .ok (.iconst 0, 1) := by decide +kernel
theorem dL_law_779 : decode cL_law 779 = .ok (.ireturn, 1) := by decide +kernel
theorem dL_law_780 : decode cL_law 780 = .ok (.aload_n 1, 1) := by decide +kernel
theorem dL_law_781 : decode cL_law 781 = .ok (.aload_n 0, 1) := by decide +kernel
theorem dL_law_782 : decode cL_law 782 = .ok (.iload_n 3, 1) := by decide +kernel
theorem dL_law_783 : decode cL_law 783 = .ok (.iconst 1, 1) := by decide +kernel
theorem dL_law_784 : decode cL_law 784 = .ok (.iadd, 1) := by decide +kernel
theorem dL_law_785 : decode cL_law 785 = .ok (.iaload, 1) := by decide +kernel
theorem dL_law_786 : decode cL_law 786 = .ok (.invokevirtual 78, 3) := by decide +kernel
theorem dL_law_789 : decode cL_law 789 = .ok (.aload_n 2, 1) := by decide +kernel
theorem dL_law_790 : decode cL_law 790 = .ok (.aload_n 0, 1) := by decide +kernel
theorem dL_law_791 : decode cL_law 791 = .ok (.iload_n 3, 1) := by decide +kernel
theorem dL_law_792 : decode cL_law 792 = .ok (.iconst 1, 1) := by decide +kernel
theorem dL_law_793 : decode cL_law 793 = .ok (.iadd, 1) := by decide +kernel
theorem dL_law_794 : decode cL_law 794 = .ok (.iaload, 1) := by decide +kernel
theorem dL_law_795 : decode cL_law 795 = .ok (.invokevirtual 81, 3) := by decide +kernel
theorem dL_law_798 : decode cL_law 798 = .ok (.if_icmp .eq 600, 3) := by decide +kernel
theorem dL_law_801 : decode cL_law 801 = .ok (.iconst 0, 1) := by decide +kernel
theorem dL_law_802 : decode cL_law 802 = .ok (.ireturn, 1) := by decide +kernel
theorem dL_law_803 : decode cL_law 803 = .ok (.aload_n 1, 1) := by decide +kernel
theorem dL_law_804 : decode cL_law 804 = .ok (.aload_n 0, 1) := by decide +kernel
theorem dL_law_805 : decode cL_law 805 = .ok (.iload_n 3, 1) := by decide +kernel
theorem dL_law_806 : decode cL_law 806 = .ok (.iconst 1, 1) := by decide +kernel
theorem dL_law_807 : decode cL_law 807 = .ok (.iadd, 1) := by decide +kernel
theorem dL_law_808 : decode cL_law 808 = .ok (.iaload, 1) := by decide +kernel
theorem dL_law_809 : decode cL_law 809 = .ok (.invokevirtual 82, 3) := by decide +kernel
theorem dL_law_812 : decode cL_law 812 = .ok (.aload_n 2, 1) := by decide +kernel
theorem dL_law_813 : decode cL_law 813 = .ok (.aload_n 0, 1) := by decide +kernel
theorem dL_law_814 : decode cL_law 814 = .ok (.iload_n 3, 1) := by decide +kernel
theorem dL_law_815 : decode cL_law 815 = .ok (.iconst 1, 1) := by decide +kernel
theorem dL_law_816 : decode cL_law 816 = .ok (.iadd, 1) := by decide +kernel
theorem dL_law_817 : decode cL_law 817 = .ok (.iaload, 1) := by decide +kernel
theorem dL_law_818 : decode cL_law 818 = .ok (.invokevirtual 85, 3) := by decide +kernel
theorem dL_law_821 : decode cL_law 821 = .ok (.if_icmp .eq 577, 3) := by decide +kernel
theorem dL_law_824 : decode cL_law 824 = .ok (.iconst 0, 1) := by decide +kernel
theorem dL_law_825 : decode cL_law 825 = .ok (.ireturn, 1) := by decide +kernel
theorem dL_law_826 : decode cL_law 826 = .ok (.aload_n 1, 1) := by decide +kernel
theorem dL_law_827 : decode cL_law 827 = .ok (.aload_n 0, 1) := by decide +kernel
theorem dL_law_828 : decode cL_law 828 = .ok (.iload_n 3, 1) := by decide +kernel
theorem dL_law_829 : decode cL_law 829 = .ok (.iconst 1, 1) := by decide +kernel
theorem dL_law_830 : decode cL_law 830 = .ok (.iadd, 1) := by decide +kernel
theorem dL_law_831 : decode cL_law 831 = .ok (.iaload, 1) := by decide +kernel
theorem dL_law_832 : decode cL_law 832 = .ok (.invokevirtual 86, 3) := by decide +kernel
theorem dL_law_835 : decode cL_law 835 = .ok (.aload_n 2, 1) := by decide +kernel
theorem dL_law_836 : decode cL_law 836 = .ok (.aload_n 0, 1) := by decide +kernel
theorem dL_law_837 : decode cL_law 837 = .ok (.iload_n 3, 1) := by decide +kernel
theorem dL_law_838 : decode cL_law 838 = .ok (.iconst 1, 1) := by decide +kernel
theorem dL_law_839 : decode cL_law 839 = .ok (.iadd, 1) := by decide +kernel
theorem dL_law_840 : decode cL_law 840 = .ok (.iaload, 1) := by decide +kernel
theorem dL_law_841 : decode cL_law 841 = .ok (.invokevirtual 89, 3) := by decide +kernel
theorem dL_law_844 : decode cL_law 844 = .ok (.if_icmp .eq 554, 3) := by decide +kernel
theorem dL_law_847 : decode cL_law 847 = .ok (.iconst 0, 1) := by decide +kernel
theorem dL_law_848 : decode cL_law 848 = .ok (.ireturn, 1) := by decide +kernel
theorem dL_law_849 : decode cL_law 849 = .ok (.aload_n 1, 1) := by decide +kernel
theorem dL_law_850 : decode cL_law 850 = .ok (.aload_n 0, 1) := by decide +kernel
theorem dL_law_851 : decode cL_law 851 = .ok (.iload_n 3, 1) := by decide +kernel
theorem dL_law_852 : decode cL_law 852 = .ok (.iconst 1, 1) := by decide +kernel
theorem dL_law_853 : decode cL_law 853 = .ok (.iadd, 1) := by decide +kernel
theorem dL_law_854 : decode cL_law 854 = .ok (.iaload, 1) := by decide +kernel
theorem dL_law_855 : decode cL_law 855 = .ok (.invokevirtual 90, 3) := by decide +kernel
theorem dL_law_858 : decode cL_law 858 = .ok (.aload_n 2, 1) := by decide +kernel
theorem dL_law_859 : decode cL_law 859 = .ok (.aload_n 0, 1) := by decide +kernel
theorem dL_law_860 : decode cL_law 860 = .ok (.iload_n 3, 1) := by decide +kernel
theorem dL_law_861 : decode cL_law 861 = .ok (.iconst 1, 1) := by decide +kernel
theorem dL_law_862 : decode cL_law 862 = .ok (.iadd, 1) := by decide +kernel
theorem dL_law_863 : decode cL_law 863 = .ok (.iaload, 1) := by decide +kernel
theorem dL_law_864 : decode cL_law 864 = .ok (.invokevirtual 93, 3) := by decide +kernel
theorem dL_law_867 : decode cL_law 867 = .ok (.if_icmp .eq 531, 3) := by decide +kernel
theorem dL_law_870 : decode cL_law 870 = .ok (.iconst 0, 1) := by decide +kernel
theorem dL_law_871 : decode cL_law 871 = .ok (.ireturn, 1) := by decide +kernel
theorem dL_law_872 : decode cL_law 872 = .ok (.aload_n 1, 1) := by decide +kernel
theorem dL_law_873 : decode cL_law 873 = .ok (.invokevirtual 94, 3) := by decide +kernel
theorem dL_law_876 : decode cL_law 876 = .ok (.aload_n 2, 1) := by decide +kernel
theorem dL_law_877 : decode cL_law 877 = .ok (.invokevirtual 97, 3) := by decide +kernel
theorem dL_law_880 : decode cL_law 880 = .ok (.if_icmp .eq 518, 3) := by decide +kernel
theorem dL_law_883 : decode cL_law 883 = .ok (.iconst 0, 1) := by decide +kernel
theorem dL_law_884 : decode cL_law 884 = .ok (.ireturn, 1) := by decide +kernel
theorem dL_law_885 : decode cL_law 885 = .ok (.aload_n 1, 1) := by decide +kernel
theorem dL_law_886 : decode cL_law 886 = .ok (.aload_n 0, 1) := by decide +kernel
theorem dL_law_887 : decode cL_law 887 = .ok (.iload_n 3, 1) := by decide +kernel
theorem dL_law_888 : decode cL_law 888 = .ok (.iconst 1, 1) := by decide +kernel
theorem dL_law_889 : decode cL_law 889 = .ok (.iadd, 1) := by decide +kernel
theorem dL_law_890 : decode cL_law 890 = .ok (.iaload, 1) := by decide +kernel
theorem dL_law_891 : decode cL_law 891 = .ok (.aload_n 0, 1) := by decide +kernel
theorem dL_law_892 : decode cL_law 892 = .ok (.iload_n 3, 1) := by decide +kernel
theorem dL_law_893 : decode cL_law 893 = .ok (.iconst 2, 1) := by decide +kernel
theorem dL_law_894 : decode cL_law 894 = .ok (.iadd, 1) := by decide +kernel
theorem dL_law_895 : decode cL_law 895 = .ok (.iaload, 1) := by decide +kernel
theorem dL_law_896 : decode cL_law 896 = .ok (.invokevirtual 98, 3) := by decide +kernel
theorem dL_law_899 : decode cL_law 899 = .ok (.aload_n 2, 1) := by decide +kernel
theorem dL_law_900 : decode cL_law 900 = .ok (.aload_n 0, 1) := by decide +kernel
theorem dL_law_901 : decode cL_law 901 = .ok (.iload_n 3, 1) := by decide +kernel
theorem dL_law_902 : decode cL_law 902 = .ok (.iconst 1, 1) := by decide +kernel
theorem dL_law_903 : decode cL_law 903 = .ok (.iadd, 1) := by decide +kernel
theorem dL_law_904 : decode cL_law 904 = .ok (.iaload, 1) := by decide +kernel
theorem dL_law_905 : decode cL_law 905 = .ok (.aload_n 0, 1) := by decide +kernel
theorem dL_law_906 : decode cL_law 906 = .ok (.iload_n 3, 1) := by decide +kernel
theorem dL_law_907 : decode cL_law 907 = .ok (.iconst 2, 1) := by decide +kernel
theorem dL_law_908 : decode cL_law 908 = .ok (.iadd, 1) := by decide +kernel
theorem dL_law_909 : decode cL_law 909 = .ok (.iaload, 1) := by decide +kernel
theorem dL_law_910 : decode cL_law 910 = .ok (.invokevirtual 101, 3) := by decide +kernel
theorem dL_law_913 : decode cL_law 913 = .ok (.if_icmp .eq 485, 3) := by decide +kernel
theorem dL_law_916 : decode cL_law 916 = .ok (.iconst 0, 1) := by decide +kernel
theorem dL_law_917 : decode cL_law 917 = .ok (.ireturn, 1) := by decide +kernel
theorem dL_law_918 : decode cL_law 918 = .ok (.aload_n 1, 1) := by decide +kernel
theorem dL_law_919 : decode cL_law 919 = .ok (.aload_n 0, 1) := by decide +kernel
theorem dL_law_920 : decode cL_law 920 = .ok (.iload_n 3, 1) := by decide +kernel
theorem dL_law_921 : decode cL_law 921 = .ok (.iconst 1, 1) := by decide +kernel
theorem dL_law_922 : decode cL_law 922 = .ok (.iadd, 1) := by decide +kernel
theorem dL_law_923 : decode cL_law 923 = .ok (.iaload, 1) := by decide +kernel
theorem dL_law_924 : decode cL_law 924 = .ok (.invokevirtual 102, 3) := by decide +kernel
theorem dL_law_927 : decode cL_law 927 = .ok (.aload_n 2, 1) := by decide +kernel
theorem dL_law_928 : decode cL_law 928 = .ok (.aload_n 0, 1) := by decide +kernel
theorem dL_law_929 : decode cL_law 929 = .ok (.iload_n 3, 1) := by decide +kernel
theorem dL_law_930 : decode cL_law 930 = .ok (.iconst 1, 1) := by decide +kernel
theorem dL_law_931 : decode cL_law 931 = .ok (.iadd, 1) := by decide +kernel
theorem dL_law_932 : decode cL_law 932 = .ok (.iaload, 1) := by decide +kernel
theorem dL_law_933 : decode cL_law 933 = .ok (.invokevirtual 105, 3) := by decide +kernel
theorem dL_law_936 : decode cL_law 936 = .ok (.if_icmp .eq 462, 3) := by decide +kernel
theorem dL_law_939 : decode cL_law 939 = .ok (.iconst 0, 1) := by decide +kernel
theorem dL_law_940 : decode cL_law 940 = .ok (.ireturn, 1) := by decide +kernel
theorem dL_law_941 : decode cL_law 941 = .ok (.aload_n 1, 1) := by decide +kernel
theorem dL_law_942 : decode cL_law 942 = .ok (.aload_n 0, 1) := by decide +kernel
theorem dL_law_943 : decode cL_law 943 = .ok (.iload_n 3, 1) := by decide +kernel
theorem dL_law_944 : decode cL_law 944 = .ok (.iconst 1, 1) := by decide +kernel
theorem dL_law_945 : decode cL_law 945 = .ok (.iadd, 1) := by decide +kernel
theorem dL_law_946 : decode cL_law 946 = .ok (.iaload, 1) := by decide +kernel
theorem dL_law_947 : decode cL_law 947 = .ok (.aload_n 0, 1) := by decide +kernel
theorem dL_law_948 : decode cL_law 948 = .ok (.iload_n 3, 1) := by decide +kernel
theorem dL_law_949 : decode cL_law 949 = .ok (.iconst 2, 1) := by decide +kernel
theorem dL_law_950 : decode cL_law 950 = .ok (.iadd, 1) := by decide +kernel
theorem dL_law_951 : decode cL_law 951 = .ok (.iaload, 1) := by decide +kernel
theorem dL_law_952 : decode cL_law 952 = .ok (.invokevirtual 106, 3) := by decide +kernel
theorem dL_law_955 : decode cL_law 955 = .ok (.aload_n 2, 1) := by decide +kernel
theorem dL_law_956 : decode cL_law 956 = .ok (.aload_n 0, 1) := by decide +kernel
theorem dL_law_957 : decode cL_law 957 = .ok (.iload_n 3, 1) := by decide +kernel
theorem dL_law_958 : decode cL_law 958 = .ok (.iconst 1, 1) := by decide +kernel
theorem dL_law_959 : decode cL_law 959 = .ok (.iadd, 1) := by decide +kernel
theorem dL_law_960 : decode cL_law 960 = .ok (.iaload, 1) := by decide +kernel
theorem dL_law_961 : decode cL_law 961 = .ok (.aload_n 0, 1) := by decide +kernel
theorem dL_law_962 : decode cL_law 962 = .ok (.iload_n 3, 1) := by decide +kernel
theorem dL_law_963 : decode cL_law 963 = .ok (.iconst 2, 1) := by decide +kernel
theorem dL_law_964 : decode cL_law 964 = .ok (.iadd, 1) := by decide +kernel
theorem dL_law_965 : decode cL_law 965 = .ok (.iaload, 1) := by decide +kernel
theorem dL_law_966 : decode cL_law 966 = .ok (.invokevirtual 109, 3) := by decide +kernel
theorem dL_law_969 : decode cL_law 969 = .ok (.if_icmp .eq 429, 3) := by decide +kernel
theorem dL_law_972 : decode cL_law 972 = .ok (.iconst 0, 1) := by decide +kernel
theorem dL_law_973 : decode cL_law 973 = .ok (.ireturn, 1) := by decide +kernel
theorem dL_law_974 : decode cL_law 974 = .ok (.aload_n 1, 1) := by decide +kernel
theorem dL_law_975 : decode cL_law 975 = .ok (.invokevirtual 110, 3) := by decide +kernel
theorem dL_law_978 : decode cL_law 978 = .ok (.aload_n 2, 1) := by decide +kernel
theorem dL_law_979 : decode cL_law 979 = .ok (.invokevirtual 113, 3) := by decide +kernel
theorem dL_law_982 : decode cL_law 982 = .ok (.if_icmp .eq 416, 3) := by decide +kernel
theorem dL_law_985 : decode cL_law 985 = .ok (.iconst 0, 1) := by decide +kernel
theorem dL_law_986 : decode cL_law 986 = .ok (.ireturn, 1) := by decide +kernel
theorem dL_law_987 : decode cL_law 987 = .ok (.aload_n 1, 1) := by decide +kernel
theorem dL_law_988 : decode cL_law 988 = .ok (.invokevirtual 114, 3) := by decide +kernel
theorem dL_law_991 : decode cL_law 991 = .ok (.aload_n 2, 1) := by decide +kernel
theorem dL_law_992 : decode cL_law 992 = .ok (.invokevirtual 117, 3) := by decide +kernel
theorem dL_law_995 : decode cL_law 995 = .ok (.if_icmp .eq 403, 3) := by decide +kernel
theorem dL_law_998 : decode cL_law 998 = .ok (.iconst 0, 1) := by decide +kernel
theorem dL_law_999 : decode cL_law 999 = .ok (.ireturn, 1) := by decide +kernel
theorem dL_law_1000 : decode cL_law 1000 = .ok (.aload_n 1, 1) := by decide +kernel
theorem dL_law_1001 : decode cL_law 1001 = .ok (.aload_n 0, 1) := by decide +kernel
theorem dL_law_1002 : decode cL_law 1002 = .ok (.iload_n 3, 1) := by decide +kernel
theorem dL_law_1003 : decode cL_law 1003 = .ok (.iconst 1, 1) := by decide +kernel
theorem dL_law_1004 : decode cL_law 1004 = .ok (.iadd, 1) := by decide +kernel
theorem dL_law_1005 : decode cL_law 1005 = .ok (.iaload, 1) := by decide +kernel
theorem dL_law_1006 : decode cL_law 1006 = .ok (.aload_n 0, 1) := by decide +kernel
theorem dL_law_1007 : decode cL_law 1007 = .ok (.iload_n 3, 1) := by decide +kernel
theorem dL_law_1008 : decode cL_law 1008 = .ok (.iconst 2, 1) := by decide +kernel
theorem dL_law_1009 : decode cL_law 1009 = .ok (.iadd, 1) := by decide +kernel
theorem dL_law_1010 : decode cL_law 1010 = .ok (.iaload, 1) := by decide +kernel
theorem dL_law_1011 : decode cL_law 1011 = .ok (.aload_n 0, 1) := by decide +kernel
theorem dL_law_1012 : decode cL_law 1012 = .ok (.iload_n 3, 1) := by decide +kernel
theorem dL_law_1013 : decode cL_law 1013 = .ok (.iconst 3, 1) := by decide +kernel
theorem dL_law_1014 : decode cL_law 1014 = .ok (.iadd, 1) := by decide +kernel
theorem dL_law_1015 : decode cL_law 1015 = .ok (.iaload, 1) := by decide +kernel
theorem dL_law_1016 : decode cL_law 1016 = .ok (.invokevirtual 118, 3) := by decide +kernel
theorem dL_law_1019 : decode cL_law 1019 = .ok (.aload_n 2, 1) := by decide +kernel
theorem dL_law_1020 : decode cL_law 1020 = .ok (.aload_n 0, 1) := by decide +kernel
theorem dL_law_1021 : decode cL_law 1021 = .ok (.iload_n 3, 1) := by decide +kernel
theorem dL_law_1022 : decode cL_law 1022 = .ok (.iconst 1, 1) := by decide +kernel
theorem dL_law_1023 : decode cL_law 1023 = .ok (.iadd, 1) := by decide +kernel
theorem dL_law_1024 : decode cL_law 1024 = .ok (.iaload, 1) := by decide +kernel
theorem dL_law_1025 : decode cL_law 1025 = .ok (.aload_n 0, 1) := by decide +kernel
theorem dL_law_1026 : decode cL_law 1026 = .ok (.iload_n 3, 1) := by decide +kernel
theorem dL_law_1027 : decode cL_law 1027 = .ok (.iconst 2, 1) := by decide +kernel
theorem dL_law_1028 : decode cL_law 1028 = .ok (.iadd, 1) := by decide +kernel
theorem dL_law_1029 : decode cL_law 1029 = .ok (.iaload, 1) := by decide +kernel
theorem dL_law_1030 : decode cL_law 1030 = .ok (.aload_n 0, 1) := by decide +kernel
theorem dL_law_1031 : decode cL_law 1031 = .ok (.iload_n 3, 1) := by decide +kernel
theorem dL_law_1032 : decode cL_law 1032 = .ok (.iconst 3, 1) := by decide +kernel
theorem dL_law_1033 : decode cL_law 1033 = .ok (.iadd, 1) := by decide +kernel
theorem dL_law_1034 : decode cL_law 1034 = .ok (.iaload, 1) := by decide +kernel
theorem dL_law_1035 : decode cL_law 1035 = .ok (.invokevirtual 121, 3) := by decide +kernel
theorem dL_law_1038 : decode cL_law 1038 = .ok (.if_icmp .eq 360, 3) := by decide +kernel
theorem dL_law_1041 : decode cL_law 1041 = .ok (.iconst 0, 1) := by decide +kernel
theorem dL_law_1042 : decode cL_law 1042 = .ok (.ireturn, 1) := by decide +kernel
theorem dL_law_1043 : decode cL_law 1043 = .ok (.aload_n 1, 1) := by decide +kernel
theorem dL_law_1044 : decode cL_law 1044 = .ok (.aload_n 0, 1) := by decide +kernel
theorem dL_law_1045 : decode cL_law 1045 = .ok (.iload_n 3, 1) := by decide +kernel
theorem dL_law_1046 : decode cL_law 1046 = .ok (.iconst 1, 1) := by decide +kernel
theorem dL_law_1047 : decode cL_law 1047 = .ok (.iadd, 1) := by decide +kernel
theorem dL_law_1048 : decode cL_law 1048 = .ok (.iaload, 1) := by decide +kernel
theorem dL_law_1049 : decode cL_law 1049 = .ok (.invokevirtual 122, 3) := by decide +kernel
theorem dL_law_1052 : decode cL_law 1052 = .ok (.aload_n 2, 1) := by decide +kernel
theorem dL_law_1053 : decode cL_law 1053 = .ok (.aload_n 0, 1) := by decide +kernel
theorem dL_law_1054 : decode cL_law 1054 = .ok (.iload_n 3, 1) := by decide +kernel
theorem dL_law_1055 : decode cL_law 1055 = .ok (.iconst 1, 1) := by decide +kernel
theorem dL_law_1056 : decode cL_law 1056 = .ok (.iadd, 1) := by decide +kernel
theorem dL_law_1057 : decode cL_law 1057 = .ok (.iaload, 1) := by decide +kernel
theorem dL_law_1058 : decode cL_law 1058 = .ok (.invokevirtual 126, 3) := by decide +kernel
theorem dL_law_1061 : decode cL_law 1061 = .ok (.lcmp, 1) := by decide +kernel
theorem dL_law_1062 : decode cL_law 1062 = .ok (.ifCond .eq 336, 3) := by decide +kernel
theorem dL_law_1065 : decode cL_law 1065 = .ok (.iconst 0, 1) := by decide +kernel
theorem dL_law_1066 : decode cL_law 1066 = .ok (.ireturn, 1) := by decide +kernel
theorem dL_law_1067 : decode cL_law 1067 = .ok (.aload_n 1, 1) := by decide +kernel
theorem dL_law_1068 : decode cL_law 1068 = .ok (.aload_n 0, 1) := by decide +kernel
theorem dL_law_1069 : decode cL_law 1069 = .ok (.iload_n 3, 1) := by decide +kernel
theorem dL_law_1070 : decode cL_law 1070 = .ok (.iconst 1, 1) := by decide +kernel
theorem dL_law_1071 : decode cL_law 1071 = .ok (.iadd, 1) := by decide +kernel
theorem dL_law_1072 : decode cL_law 1072 = .ok (.iaload, 1) := by decide +kernel
theorem dL_law_1073 : decode cL_law 1073 = .ok (.invokevirtual 127, 3) := by decide +kernel
theorem dL_law_1076 : decode cL_law 1076 = .ok (.aload_n 2, 1) := by decide +kernel
theorem dL_law_1077 : decode cL_law 1077 = .ok (.aload_n 0, 1) := by decide +kernel
theorem dL_law_1078 : decode cL_law 1078 = .ok (.iload_n 3, 1) := by decide +kernel
theorem dL_law_1079 : decode cL_law 1079 = .ok (.iconst 1, 1) := by decide +kernel
theorem dL_law_1080 : decode cL_law 1080 = .ok (.iadd, 1) := by decide +kernel
theorem dL_law_1081 : decode cL_law 1081 = .ok (.iaload, 1) := by decide +kernel
theorem dL_law_1082 : decode cL_law 1082 = .ok (.invokevirtual 130, 3) := by decide +kernel
theorem dL_law_1085 : decode cL_law 1085 = .ok (.if_icmp .eq 313, 3) := by decide +kernel
theorem dL_law_1088 : decode cL_law 1088 = .ok (.iconst 0, 1) := by decide +kernel
theorem dL_law_1089 : decode cL_law 1089 = .ok (.ireturn, 1) := by decide +kernel
theorem dL_law_1090 : decode cL_law 1090 = .ok (.aload_n 1, 1) := by decide +kernel
theorem dL_law_1091 : decode cL_law 1091 = .ok (.aload_n 0, 1) := by decide +kernel
theorem dL_law_1092 : decode cL_law 1092 = .ok (.iload_n 3, 1) := by decide +kernel
theorem dL_law_1093 : decode cL_law 1093 = .ok (.iconst 1, 1) := by decide +kernel
theorem dL_law_1094 : decode cL_law 1094 = .ok (.iadd, 1) := by decide +kernel
theorem dL_law_1095 : decode cL_law 1095 = .ok (.iaload, 1) := by decide +kernel
theorem dL_law_1096 : decode cL_law 1096 = .ok (.invokevirtual 131, 3) := by decide +kernel
theorem dL_law_1099 : decode cL_law 1099 = .ok (.aload_n 2, 1) := by decide +kernel
theorem dL_law_1100 : decode cL_law 1100 = .ok (.aload_n 0, 1) := by decide +kernel
theorem dL_law_1101 : decode cL_law 1101 = .ok (.iload_n 3, 1) := by decide +kernel
theorem dL_law_1102 : decode cL_law 1102 = .ok (.iconst 1, 1) := by decide +kernel
theorem dL_law_1103 : decode cL_law 1103 = .ok (.iadd, 1) := by decide +kernel
theorem dL_law_1104 : decode cL_law 1104 = .ok (.iaload, 1) := by decide +kernel
theorem dL_law_1105 : decode cL_law 1105 = .ok (.invokevirtual 134, 3) := by decide +kernel
theorem dL_law_1108 : decode cL_law 1108 = .ok (.if_icmp .eq 290, 3) := by decide +kernel
theorem dL_law_1111 : decode cL_law 1111 = .ok (.iconst 0, 1) := by decide +kernel
theorem dL_law_1112 : decode cL_law 1112 = .ok (.ireturn, 1) := by decide +kernel
theorem dL_law_1113 : decode cL_law 1113 = .ok (.aload_n 1, 1) := by decide +kernel
theorem dL_law_1114 : decode cL_law 1114 = .ok (.aload_n 0, 1) := by decide +kernel
theorem dL_law_1115 : decode cL_law 1115 = .ok (.iload_n 3, 1) := by decide +kernel
theorem dL_law_1116 : decode cL_law 1116 = .ok (.iconst 1, 1) := by decide +kernel
theorem dL_law_1117 : decode cL_law 1117 = .ok (.iadd, 1) := by decide +kernel
theorem dL_law_1118 : decode cL_law 1118 = .ok (.iaload, 1) := by decide +kernel
theorem dL_law_1119 : decode cL_law 1119 = .ok (.invokevirtual 135, 3) := by decide +kernel
theorem dL_law_1122 : decode cL_law 1122 = .ok (.aload_n 2, 1) := by decide +kernel
theorem dL_law_1123 : decode cL_law 1123 = .ok (.aload_n 0, 1) := by decide +kernel
theorem dL_law_1124 : decode cL_law 1124 = .ok (.iload_n 3, 1) := by decide +kernel
theorem dL_law_1125 : decode cL_law 1125 = .ok (.iconst 1, 1) := by decide +kernel
theorem dL_law_1126 : decode cL_law 1126 = .ok (.iadd, 1) := by decide +kernel
theorem dL_law_1127 : decode cL_law 1127 = .ok (.iaload, 1) := by decide +kernel
theorem dL_law_1128 : decode cL_law 1128 = .ok (.invokevirtual 138, 3) := by decide +kernel
theorem dL_law_1131 : decode cL_law 1131 = .ok (.if_icmp .eq 267, 3) := by decide +kernel
theorem dL_law_1134 : decode cL_law 1134 = .ok (.iconst 0, 1) := by decide +kernel
theorem dL_law_1135 : decode cL_law 1135 = .ok (.ireturn, 1) := by decide +kernel
theorem dL_law_1136 : decode cL_law 1136 = .ok (.aload_n 1, 1) := by decide +kernel
theorem dL_law_1137 : decode cL_law 1137 = .ok (.aload_n 0, 1) := by decide +kernel
theorem dL_law_1138 : decode cL_law 1138 = .ok (.iload_n 3, 1) := by decide +kernel
theorem dL_law_1139 : decode cL_law 1139 = .ok (.iconst 1, 1) := by decide +kernel
theorem dL_law_1140 : decode cL_law 1140 = .ok (.iadd, 1) := by decide +kernel
theorem dL_law_1141 : decode cL_law 1141 = .ok (.iaload, 1) := by decide +kernel
theorem dL_law_1142 : decode cL_law 1142 = .ok (.invokevirtual 139, 3) := by decide +kernel
theorem dL_law_1145 : decode cL_law 1145 = .ok (.aload_n 2, 1) := by decide +kernel
theorem dL_law_1146 : decode cL_law 1146 = .ok (.aload_n 0, 1) := by decide +kernel
theorem dL_law_1147 : decode cL_law 1147 = .ok (.iload_n 3, 1) := by decide +kernel
theorem dL_law_1148 : decode cL_law 1148 = .ok (.iconst 1, 1) := by decide +kernel
theorem dL_law_1149 : decode cL_law 1149 = .ok (.iadd, 1) := by decide +kernel
theorem dL_law_1150 : decode cL_law 1150 = .ok (.iaload, 1) := by decide +kernel
theorem dL_law_1151 : decode cL_law 1151 = .ok (.invokevirtual 142, 3) := by decide +kernel
theorem dL_law_1154 : decode cL_law 1154 = .ok (.if_icmp .eq 244, 3) := by decide +kernel
theorem dL_law_1157 : decode cL_law 1157 = .ok (.iconst 0, 1) := by decide +kernel
theorem dL_law_1158 : decode cL_law 1158 = .ok (.ireturn, 1) := by decide +kernel
theorem dL_law_1159 : decode cL_law 1159 = .ok (.aload_n 1, 1) := by decide +kernel
theorem dL_law_1160 : decode cL_law 1160 = .ok (.invokevirtual 143, 3) := by decide +kernel
theorem dL_law_1163 : decode cL_law 1163 = .ok (.aload_n 2, 1) := by decide +kernel
theorem dL_law_1164 : decode cL_law 1164 = .ok (.invokevirtual 147, 3) := by decide +kernel
theorem dL_law_1167 : decode cL_law 1167 = .ok (.if_icmp .eq 231, 3) := by decide +kernel
theorem dL_law_1170 : decode cL_law 1170 = .ok (.iconst 0, 1) := by decide +kernel
theorem dL_law_1171 : decode cL_law 1171 = .ok (.ireturn, 1) := by decide +kernel
theorem dL_law_1172 : decode cL_law 1172 = .ok (.aload_n 1, 1) := by decide +kernel
theorem dL_law_1173 : decode cL_law 1173 = .ok (.aload_n 0, 1) := by decide +kernel
theorem dL_law_1174 : decode cL_law 1174 = .ok (.iload_n 3, 1) := by decide +kernel
theorem dL_law_1175 : decode cL_law 1175 = .ok (.iconst 1, 1) := by decide +kernel
theorem dL_law_1176 : decode cL_law 1176 = .ok (.iadd, 1) := by decide +kernel
theorem dL_law_1177 : decode cL_law 1177 = .ok (.iaload, 1) := by decide +kernel
theorem dL_law_1178 : decode cL_law 1178 = .ok (.invokevirtual 148, 3) := by decide +kernel
theorem dL_law_1181 : decode cL_law 1181 = .ok (.aload_n 2, 1) := by decide +kernel
theorem dL_law_1182 : decode cL_law 1182 = .ok (.aload_n 0, 1) := by decide +kernel
theorem dL_law_1183 : decode cL_law 1183 = .ok (.iload_n 3, 1) := by decide +kernel
theorem dL_law_1184 : decode cL_law 1184 = .ok (.iconst 1, 1) := by decide +kernel
theorem dL_law_1185 : decode cL_law 1185 = .ok (.iadd, 1) := by decide +kernel
theorem dL_law_1186 : decode cL_law 1186 = .ok (.iaload, 1) := by decide +kernel
theorem dL_law_1187 : decode cL_law 1187 = .ok (.invokevirtual 151, 3) := by decide +kernel
theorem dL_law_1190 : decode cL_law 1190 = .ok (.if_icmp .eq 208, 3) := by decide +kernel
theorem dL_law_1193 : decode cL_law 1193 = .ok (.iconst 0, 1) := by decide +kernel
theorem dL_law_1194 : decode cL_law 1194 = .ok (.ireturn, 1) := by decide +kernel
theorem dL_law_1195 : decode cL_law 1195 = .ok (.aload_n 1, 1) := by decide +kernel
theorem dL_law_1196 : decode cL_law 1196 = .ok (.aload_n 0, 1) := by decide +kernel
theorem dL_law_1197 : decode cL_law 1197 = .ok (.iload_n 3, 1) := by decide +kernel
theorem dL_law_1198 : decode cL_law 1198 = .ok (.iconst 1, 1) := by decide +kernel
theorem dL_law_1199 : decode cL_law 1199 = .ok (.iadd, 1) := by decide +kernel
theorem dL_law_1200 : decode cL_law 1200 = .ok (.iaload, 1) := by decide +kernel
theorem dL_law_1201 : decode cL_law 1201 = .ok (.aload_n 0, 1) := by decide +kernel
theorem dL_law_1202 : decode cL_law 1202 = .ok (.iload_n 3, 1) := by decide +kernel
theorem dL_law_1203 : decode cL_law 1203 = .ok (.iconst 2, 1) := by decide +kernel
theorem dL_law_1204 : decode cL_law 1204 = .ok (.iadd, 1) := by decide +kernel
theorem dL_law_1205 : decode cL_law 1205 = .ok (.iaload, 1) := by decide +kernel
theorem dL_law_1206 : decode cL_law 1206 = .ok (.invokevirtual 152, 3) := by decide +kernel
theorem dL_law_1209 : decode cL_law 1209 = .ok (.aload_n 2, 1) := by decide +kernel
theorem dL_law_1210 : decode cL_law 1210 = .ok (.aload_n 0, 1) := by decide +kernel
theorem dL_law_1211 : decode cL_law 1211 = .ok (.iload_n 3, 1) := by decide +kernel
theorem dL_law_1212 : decode cL_law 1212 = .ok (.iconst 1, 1) := by decide +kernel
theorem dL_law_1213 : decode cL_law 1213 = .ok (.iadd, 1) := by decide +kernel
theorem dL_law_1214 : decode cL_law 1214 = .ok (.iaload, 1) := by decide +kernel
theorem dL_law_1215 : decode cL_law 1215 = .ok (.aload_n 0, 1) := by decide +kernel
theorem dL_law_1216 : decode cL_law 1216 = .ok (.iload_n 3, 1) := by decide +kernel
theorem dL_law_1217 : decode cL_law 1217 = .ok (.iconst 2, 1) := by decide +kernel
theorem dL_law_1218 : decode cL_law 1218 = .ok (.iadd, 1) := by decide +kernel
theorem dL_law_1219 : decode cL_law 1219 = .ok (.iaload, 1) := by decide +kernel
theorem dL_law_1220 : decode cL_law 1220 = .ok (.invokevirtual 155, 3) := by decide +kernel
theorem dL_law_1223 : decode cL_law 1223 = .ok (.lcmp, 1) := by decide +kernel
theorem dL_law_1224 : decode cL_law 1224 = .ok (.ifCond .eq 174, 3) := by decide +kernel
theorem dL_law_1227 : decode cL_law 1227 = .ok (.iconst 0, 1) := by decide +kernel
theorem dL_law_1228 : decode cL_law 1228 = .ok (.ireturn, 1) := by decide +kernel
theorem dL_law_1229 : decode cL_law 1229 = .ok (.aload_n 1, 1) := by decide +kernel
theorem dL_law_1230 : decode cL_law 1230 = .ok (.aload_n 0, 1) := by decide +kernel
theorem dL_law_1231 : decode cL_law 1231 = .ok (.iload_n 3, 1) := by decide +kernel
theorem dL_law_1232 : decode cL_law 1232 = .ok (.iconst 1, 1) := by decide +kernel
theorem dL_law_1233 : decode cL_law 1233 = .ok (.iadd, 1) := by decide +kernel
theorem dL_law_1234 : decode cL_law 1234 = .ok (.iaload, 1) := by decide +kernel
theorem dL_law_1235 : decode cL_law 1235 = .ok (.aload_n 0, 1) := by decide +kernel
theorem dL_law_1236 : decode cL_law 1236 = .ok (.iload_n 3, 1) := by decide +kernel
theorem dL_law_1237 : decode cL_law 1237 = .ok (.iconst 2, 1) := by decide +kernel
theorem dL_law_1238 : decode cL_law 1238 = .ok (.iadd, 1) := by decide +kernel
theorem dL_law_1239 : decode cL_law 1239 = .ok (.iaload, 1) := by decide +kernel
theorem dL_law_1240 : decode cL_law 1240 = .ok (.aload_n 0, 1) := by decide +kernel
theorem dL_law_1241 : decode cL_law 1241 = .ok (.iload_n 3, 1) := by decide +kernel
theorem dL_law_1242 : decode cL_law 1242 = .ok (.iconst 3, 1) := by decide +kernel
theorem dL_law_1243 : decode cL_law 1243 = .ok (.iadd, 1) := by decide +kernel
theorem dL_law_1244 : decode cL_law 1244 = .ok (.iaload, 1) := by decide +kernel
theorem dL_law_1245 : decode cL_law 1245 = .ok (.invokevirtual 156, 3) := by decide +kernel
theorem dL_law_1248 : decode cL_law 1248 = .ok (.aload_n 2, 1) := by decide +kernel
theorem dL_law_1249 : decode cL_law 1249 = .ok (.aload_n 0, 1) := by decide +kernel
theorem dL_law_1250 : decode cL_law 1250 = .ok (.iload_n 3, 1) := by decide +kernel
theorem dL_law_1251 : decode cL_law 1251 = .ok (.iconst 1, 1) := by decide +kernel
theorem dL_law_1252 : decode cL_law 1252 = .ok (.iadd, 1) := by decide +kernel
theorem dL_law_1253 : decode cL_law 1253 = .ok (.iaload, 1) := by decide +kernel
theorem dL_law_1254 : decode cL_law 1254 = .ok (.aload_n 0, 1) := by decide +kernel
theorem dL_law_1255 : decode cL_law 1255 = .ok (.iload_n 3, 1) := by decide +kernel
theorem dL_law_1256 : decode cL_law 1256 = .ok (.iconst 2, 1) := by decide +kernel
theorem dL_law_1257 : decode cL_law 1257 = .ok (.iadd, 1) := by decide +kernel
theorem dL_law_1258 : decode cL_law 1258 = .ok (.iaload, 1) := by decide +kernel
theorem dL_law_1259 : decode cL_law 1259 = .ok (.aload_n 0, 1) := by decide +kernel
theorem dL_law_1260 : decode cL_law 1260 = .ok (.iload_n 3, 1) := by decide +kernel
theorem dL_law_1261 : decode cL_law 1261 = .ok (.iconst 3, 1) := by decide +kernel
theorem dL_law_1262 : decode cL_law 1262 = .ok (.iadd, 1) := by decide +kernel
theorem dL_law_1263 : decode cL_law 1263 = .ok (.iaload, 1) := by decide +kernel
theorem dL_law_1264 : decode cL_law 1264 = .ok (.invokevirtual 159, 3) := by decide +kernel
theorem dL_law_1267 : decode cL_law 1267 = .ok (.lcmp, 1) := by decide +kernel
theorem dL_law_1268 : decode cL_law 1268 = .ok (.ifCond .eq 130, 3) := by decide +kernel
theorem dL_law_1271 : decode cL_law 1271 = .ok (.iconst 0, 1) := by decide +kernel
theorem dL_law_1272 : decode cL_law 1272 = .ok (.ireturn, 1) := by decide +kernel
theorem dL_law_1273 : decode cL_law 1273 = .ok (.aload_n 1, 1) := by decide +kernel
theorem dL_law_1274 : decode cL_law 1274 = .ok (.aload_n 0, 1) := by decide +kernel
theorem dL_law_1275 : decode cL_law 1275 = .ok (.iload_n 3, 1) := by decide +kernel
theorem dL_law_1276 : decode cL_law 1276 = .ok (.iconst 1, 1) := by decide +kernel
theorem dL_law_1277 : decode cL_law 1277 = .ok (.iadd, 1) := by decide +kernel
theorem dL_law_1278 : decode cL_law 1278 = .ok (.iaload, 1) := by decide +kernel
theorem dL_law_1279 : decode cL_law 1279 = .ok (.aload_n 0, 1) := by decide +kernel
theorem dL_law_1280 : decode cL_law 1280 = .ok (.iload_n 3, 1) := by decide +kernel
theorem dL_law_1281 : decode cL_law 1281 = .ok (.iconst 2, 1) := by decide +kernel
theorem dL_law_1282 : decode cL_law 1282 = .ok (.iadd, 1) := by decide +kernel
theorem dL_law_1283 : decode cL_law 1283 = .ok (.iaload, 1) := by decide +kernel
theorem dL_law_1284 : decode cL_law 1284 = .ok (.invokevirtual 160, 3) := by decide +kernel
theorem dL_law_1287 : decode cL_law 1287 = .ok (.aload_n 2, 1) := by decide +kernel
theorem dL_law_1288 : decode cL_law 1288 = .ok (.aload_n 0, 1) := by decide +kernel
theorem dL_law_1289 : decode cL_law 1289 = .ok (.iload_n 3, 1) := by decide +kernel
theorem dL_law_1290 : decode cL_law 1290 = .ok (.iconst 1, 1) := by decide +kernel
theorem dL_law_1291 : decode cL_law 1291 = .ok (.iadd, 1) := by decide +kernel
theorem dL_law_1292 : decode cL_law 1292 = .ok (.iaload, 1) := by decide +kernel
theorem dL_law_1293 : decode cL_law 1293 = .ok (.aload_n 0, 1) := by decide +kernel
theorem dL_law_1294 : decode cL_law 1294 = .ok (.iload_n 3, 1) := by decide +kernel
theorem dL_law_1295 : decode cL_law 1295 = .ok (.iconst 2, 1) := by decide +kernel
theorem dL_law_1296 : decode cL_law 1296 = .ok (.iadd, 1) := by decide +kernel
theorem dL_law_1297 : decode cL_law 1297 = .ok (.iaload, 1) := by decide +kernel
theorem dL_law_1298 : decode cL_law 1298 = .ok (.invokevirtual 163, 3) := by decide +kernel
theorem dL_law_1301 : decode cL_law 1301 = .ok (.if_icmp .eq 97, 3) := by decide +kernel
theorem dL_law_1304 : decode cL_law 1304 = .ok (.iconst 0, 1) := by decide +kernel
theorem dL_law_1305 : decode cL_law 1305 = .ok (.ireturn, 1) := by decide +kernel
theorem dL_law_1306 : decode cL_law 1306 = .ok (.aload_n 1, 1) := by decide +kernel
theorem dL_law_1307 : decode cL_law 1307 = .ok (.aload_n 0, 1) := by decide +kernel
theorem dL_law_1308 : decode cL_law 1308 = .ok (.iload_n 3, 1) := by decide +kernel
theorem dL_law_1309 : decode cL_law 1309 = .ok (.iconst 1, 1) := by decide +kernel
theorem dL_law_1310 : decode cL_law 1310 = .ok (.iadd, 1) := by decide +kernel
theorem dL_law_1311 : decode cL_law 1311 = .ok (.iaload, 1) := by decide +kernel
theorem dL_law_1312 : decode cL_law 1312 = .ok (.invokevirtual 164, 3) := by decide +kernel
theorem dL_law_1315 : decode cL_law 1315 = .ok (.aload_n 2, 1) := by decide +kernel
theorem dL_law_1316 : decode cL_law 1316 = .ok (.aload_n 0, 1) := by decide +kernel
theorem dL_law_1317 : decode cL_law 1317 = .ok (.iload_n 3, 1) := by decide +kernel
theorem dL_law_1318 : decode cL_law 1318 = .ok (.iconst 1, 1) := by decide +kernel
theorem dL_law_1319 : decode cL_law 1319 = .ok (.iadd, 1) := by decide +kernel
theorem dL_law_1320 : decode cL_law 1320 = .ok (.iaload, 1) := by decide +kernel
theorem dL_law_1321 : decode cL_law 1321 = .ok (.invokevirtual 167, 3) := by decide +kernel
theorem dL_law_1324 : decode cL_law 1324 = .ok (.if_icmp .eq 74, 3) := by decide +kernel
theorem dL_law_1327 : decode cL_law 1327 = .ok (.iconst 0, 1) := by decide +kernel
theorem dL_law_1328 : decode cL_law 1328 = .ok (.ireturn, 1) := by decide +kernel
theorem dL_law_1329 : decode cL_law 1329 = .ok (.aload_n 1, 1) := by decide +kernel
theorem dL_law_1330 : decode cL_law 1330 = .ok (.aload_n 0, 1) := by decide +kernel
theorem dL_law_1331 : decode cL_law 1331 = .ok (.iload_n 3, 1) := by decide +kernel
theorem dL_law_1332 : decode cL_law 1332 = .ok (.iconst 1, 1) := by decide +kernel
theorem dL_law_1333 : decode cL_law 1333 = .ok (.iadd, 1) := by decide +kernel
theorem dL_law_1334 : decode cL_law 1334 = .ok (.iaload, 1) := by decide +kernel
theorem dL_law_1335 : decode cL_law 1335 = .ok (.invokevirtual 168, 3) := by decide +kernel
theorem dL_law_1338 : decode cL_law 1338 = .ok (.aload_n 2, 1) := by decide +kernel
theorem dL_law_1339 : decode cL_law 1339 = .ok (.aload_n 0, 1) := by decide +kernel
theorem dL_law_1340 : decode cL_law 1340 = .ok (.iload_n 3, 1) := by decide +kernel
theorem dL_law_1341 : decode cL_law 1341 = .ok (.iconst 1, 1) := by decide +kernel
theorem dL_law_1342 : decode cL_law 1342 = .ok (.iadd, 1) := by decide +kernel
theorem dL_law_1343 : decode cL_law 1343 = .ok (.iaload, 1) := by decide +kernel
theorem dL_law_1344 : decode cL_law 1344 = .ok (.invokevirtual 171, 3) := by decide +kernel
theorem dL_law_1347 : decode cL_law 1347 = .ok (.if_icmp .eq 51, 3) := by decide +kernel
theorem dL_law_1350 : decode cL_law 1350 = .ok (.iconst 0, 1) := by decide +kernel
theorem dL_law_1351 : decode cL_law 1351 = .ok (.ireturn, 1) := by decide +kernel
theorem dL_law_1352 : decode cL_law 1352 = .ok (.aload_n 1, 1) := by decide +kernel
theorem dL_law_1353 : decode cL_law 1353 = .ok (.aload_n 0, 1) := by decide +kernel
theorem dL_law_1354 : decode cL_law 1354 = .ok (.iload_n 3, 1) := by decide +kernel
theorem dL_law_1355 : decode cL_law 1355 = .ok (.iconst 1, 1) := by decide +kernel
theorem dL_law_1356 : decode cL_law 1356 = .ok (.iadd, 1) := by decide +kernel
theorem dL_law_1357 : decode cL_law 1357 = .ok (.iaload, 1) := by decide +kernel
theorem dL_law_1358 : decode cL_law 1358 = .ok (.invokevirtual 172, 3) := by decide +kernel
theorem dL_law_1361 : decode cL_law 1361 = .ok (.aload_n 2, 1) := by decide +kernel
theorem dL_law_1362 : decode cL_law 1362 = .ok (.aload_n 0, 1) := by decide +kernel
theorem dL_law_1363 : decode cL_law 1363 = .ok (.iload_n 3, 1) := by decide +kernel
theorem dL_law_1364 : decode cL_law 1364 = .ok (.iconst 1, 1) := by decide +kernel
theorem dL_law_1365 : decode cL_law 1365 = .ok (.iadd, 1) := by decide +kernel
theorem dL_law_1366 : decode cL_law 1366 = .ok (.iaload, 1) := by decide +kernel
theorem dL_law_1367 : decode cL_law 1367 = .ok (.invokevirtual 175, 3) := by decide +kernel
theorem dL_law_1370 : decode cL_law 1370 = .ok (.if_icmp .eq 28, 3) := by decide +kernel
theorem dL_law_1373 : decode cL_law 1373 = .ok (.iconst 0, 1) := by decide +kernel
theorem dL_law_1374 : decode cL_law 1374 = .ok (.ireturn, 1) := by decide +kernel
theorem dL_law_1375 : decode cL_law 1375 = .ok (.aload_n 1, 1) := by decide +kernel
theorem dL_law_1376 : decode cL_law 1376 = .ok (.aload_n 0, 1) := by decide +kernel
theorem dL_law_1377 : decode cL_law 1377 = .ok (.iload_n 3, 1) := by decide +kernel
theorem dL_law_1378 : decode cL_law 1378 = .ok (.iconst 1, 1) := by decide +kernel
theorem dL_law_1379 : decode cL_law 1379 = .ok (.iadd, 1) := by decide +kernel
theorem dL_law_1380 : decode cL_law 1380 = .ok (.iaload, 1) := by decide +kernel
theorem dL_law_1381 : decode cL_law 1381 = .ok (.invokevirtual 176, 3) := by decide +kernel
theorem dL_law_1384 : decode cL_law 1384 = .ok (.aload_n 2, 1) := by decide +kernel
theorem dL_law_1385 : decode cL_law 1385 = .ok (.aload_n 0, 1) := by decide +kernel
theorem dL_law_1386 : decode cL_law 1386 = .ok (.iload_n 3, 1) := by decide +kernel
theorem dL_law_1387 : decode cL_law 1387 = .ok (.iconst 1, 1) := by decide +kernel
theorem dL_law_1388 : decode cL_law 1388 = .ok (.iadd, 1) := by decide +kernel
theorem dL_law_1389 : decode cL_law 1389 = .ok (.iaload, 1) := by decide +kernel
theorem dL_law_1390 : decode cL_law 1390 = .ok (.invokevirtual 179, 3) := by decide +kernel
theorem dL_law_1393 : decode cL_law 1393 = .ok (.if_icmp .eq 5, 3) := by decide +kernel
theorem dL_law_1396 : decode cL_law 1396 = .ok (.iconst 0, 1) := by decide +kernel
theorem dL_law_1397 : decode cL_law 1397 = .ok (.ireturn, 1) := by decide +kernel
theorem dL_law_1398 : decode cL_law 1398 = .ok (.iinc 3 6, 3) := by decide +kernel
theorem dL_law_1401 : decode cL_law 1401 = .ok (.goto (-1383), 3) := by decide +kernel
theorem dL_law_1404 : decode cL_law 1404 = .ok (.iconst 1, 1) := by decide +kernel
theorem dL_law_1405 : decode cL_law 1405 = .ok (.ireturn, 1) := by decide +kernel
theorem EL_law {bc bs : Nat} {h : jj_H} {Q : Value → jj_H → Prop} (H : ∀ d : jj_D, 1 ≤ bc ∧ 11 ≤ bs ∧ (∀ h1, h1 = wA h 10 0 → ((jZ h + 1) ≠ 0 ∧ (7000 ≤ (bc - 1) ∧ 80000 ≤ (bs - 11) ∧ (jj_C mX9_init 7000 80000 [.ref (jZ h + 1)] h1 (fun v3 h2 => 1 ≤ ((bc - 1) - 7000) ∧ 34 ≤ ((bs - 11) - 80000) ∧ (∀ h5, h5 = wA h2 11 0 → ((jZ h2 + 1) ≠ 0 ∧ (30 ≤ (((bc - 1) - 7000) - 1) ∧ 700000 ≤ (((bs - 11) - 80000) - 34) ∧ (jj_C mX10_init 30 700000 [.ref (jZ h2 + 1)] h5 (fun v7 h6 => jj_WP d mL_law ((((bc - 1) - 7000) - 1) - 30) ((((bs - 11) - 80000) - 34) - 700000) 18 [(0, .float 0), (1, .ref (jZ h + 1)), (2, .ref (jZ h2 + 1)), (3, .int 0)] [] h6 Q))))))))))) : jj_C mL_law bc bs [.float 0] h Q := j_enter (by decide +kernel) (Nat.le_of_ble_eq_true rfl) rfl fun d => have H := H d; jj_bud (cj := 1) (sj := 11) H.1 H.2.1 (j_new (bc := (bc - 1)) (bs := (bs - 11)) cls_X9 dv_X9 cl_L_7 in_X9 it_X9 dL_law_0 (j_dup dL_law_3 rfl (jj_bud (cj := 7000) (sj := 80000) (H.2.2 _ rfl).2.1 (H.2.2 _ rfl).2.2.1 (j_callI (cj := 7000) (sj := 80000) (bc := ((bc - 1) - 7000)) (bs := ((bs - 11) - 80000)) (as := []) cm_X9_init im_X9_init rfl rfl ml_L_9 ⟨by decide, by decide⟩ dL_law_4 rfl rfl (Nat.le_of_ble_eq_true rfl) (H.2.2 _ rfl).1 (jj_C.mono (H.2.2 _ rfl).2.2.2 (fun v3 h2 H4 => j_astore_n (L' := [(1, .ref (jZ h + 1)), (0, .float 0)]) dL_law_7 rfl (by decide) rfl (jj_bud (cj := 1) (sj := 34) H4.1 H4.2.1 (j_new (bc := (((bc - 1) - 7000) - 1)) (bs := (((bs - 11) - 80000) - 34)) cls_X10 dv_X10 cl_L_10 in_X10 it_X10 dL_law_8 (j_dup dL_law_11 rfl (jj_bud (cj := 30) (sj := 700000) (H4.2.2 _ rfl).2.1 (H4.2.2 _ rfl).2.2.1 (j_callI (cj := 30) (sj := 700000) (bc := ((((bc - 1) - 7000) - 1) - 30)) (bs := ((((bs - 11) - 80000) - 34) - 700000)) (as := []) cm_X10_init im_X10_init rfl rfl ml_L_12 ⟨by decide, by decide⟩ dL_law_12 rfl rfl (Nat.le_of_ble_eq_true rfl) (H4.2.2 _ rfl).1 (jj_C.mono (H4.2.2 _ rfl).2.2.2 (fun v7 h6 H8 => j_astore_n (L' := [(2, .ref (jZ h2 + 1)), (1, .ref (jZ h + 1)), (0, .float 0)]) dL_law_15 rfl (by decide) rfl (j_iconst (v := 0) dL_law_16 rfl (j_istore_n (L' := [(3, .int 0), (2, .ref (jZ h2 + 1)), (1, .ref (jZ h + 1)), (0, .float 0)]) dL_law_17 rfl (by decide) rfl (j_sub [3, 2, 1, 0] rfl (H8)))))))))))))))))
theorem VL_law_18 {d : jj_D} {bc bs : Nat} {h : jj_H} {Q : Value → jj_H → Prop} (r1 : Nat) (r2 : Nat) (x3 : Int32) (H : (((nI d.2.2.2.2.1) - 6) < x3 → Q (.int 1) h) ∧ (¬ ((nI d.2.2.2.2.1) - 6) < x3 → vp_in x3 d.2.2.2.2.1 ∧ (((Int32.toInt ((d.2.2.2.2.2 (Int32.toNatClampNeg x3)) &&& 63) = 0 → vp_in (x3 + 1) d.2.2.2.2.1 ∧ (vp_in (x3 + 2) d.2.2.2.2.1 ∧ (vp_in (x3 + 3) d.2.2.2.2.1 ∧ (vp_in (x3 + 4) d.2.2.2.2.1 ∧ (vp_in (x3 + 5) d.2.2.2.2.1 ∧ (jK h r1 = 10 ∧ (jj_C mX9_put 0 0 [.ref r1, .int (d.2.2.2.2.2 (Int32.toNatClampNeg (x3 + 1))), .int (d.2.2.2.2.2 (Int32.toNatClampNeg (x3 + 2))), .int (d.2.2.2.2.2 (Int32.toNatClampNeg (x3 + 3))), .int (d.2.2.2.2.2 (Int32.toNatClampNeg (x3 + 4))), .int (d.2.2.2.2.2 (Int32.toNatClampNeg (x3 + 5)))] h (fun v4 h3 => jj_vi (fun y5 => vp_in (x3 + 1) d.2.2.2.2.1 ∧ (vp_in (x3 + 2) d.2.2.2.2.1 ∧ (vp_in (x3 + 3) d.2.2.2.2.1 ∧ (vp_in (x3 + 4) d.2.2.2.2.1 ∧ (vp_in (x3 + 5) d.2.2.2.2.1 ∧ (jK h3 r2 = 11 ∧ (jj_C mX10_put 0 0 [.ref r2, .int (d.2.2.2.2.2 (Int32.toNatClampNeg (x3 + 1))), .int (d.2.2.2.2.2 (Int32.toNatClampNeg (x3 + 2))), .int (d.2.2.2.2.2 (Int32.toNatClampNeg (x3 + 3))), .int (d.2.2.2.2.2 (Int32.toNatClampNeg (x3 + 4))), .int (d.2.2.2.2.2 (Int32.toNatClampNeg (x3 + 5)))] h3 (fun v8 h7 => jj_vi (fun y9 => (y5 = y9 → jj_WP d mL_law bc bs 18 [(0, .float 0), (1, .ref r1), (2, .ref r2), (3, .int (x3 + 6))] [] h7 Q) ∧ (¬ y5 = y9 → Q (.int 0) h7)) v8)))))))) v4)))))))) ∧ (Int32.toInt ((d.2.2.2.2.2 (Int32.toNatClampNeg x3)) &&& 63) = 1 → vp_in (x3 + 1) d.2.2.2.2.1 ∧ (vp_in (x3 + 2) d.2.2.2.2.1 ∧ (vp_in (x3 + 3) d.2.2.2.2.1 ∧ (vp_in (x3 + 4) d.2.2.2.2.1 ∧ (jK h r1 = 10 ∧ (jj_C mX9_cell 0 0 [.ref r1, .int (d.2.2.2.2.2 (Int32.toNatClampNeg (x3 + 1))), .int (d.2.2.2.2.2 (Int32.toNatClampNeg (x3 + 2))), .int (d.2.2.2.2.2 (Int32.toNatClampNeg (x3 + 3))), .int (d.2.2.2.2.2 (Int32.toNatClampNeg (x3 + 4)))] h (fun v14 h13 => jj_vi (fun y15 => vp_in (x3 + 1) d.2.2.2.2.1 ∧ (vp_in (x3 + 2) d.2.2.2.2.1 ∧ (vp_in (x3 + 3) d.2.2.2.2.1 ∧ (vp_in (x3 + 4) d.2.2.2.2.1 ∧ (jK h13 r2 = 11 ∧ (jj_C mX10_cell 0 0 [.ref r2, .int (d.2.2.2.2.2 (Int32.toNatClampNeg (x3 + 1))), .int (d.2.2.2.2.2 (Int32.toNatClampNeg (x3 + 2))), .int (d.2.2.2.2.2 (Int32.toNatClampNeg (x3 + 3))), .int (d.2.2.2.2.2 (Int32.toNatClampNeg (x3 + 4)))] h13 (fun v18 h17 => jj_vi (fun y19 => (y15 = y19 → jj_WP d mL_law bc bs 18 [(0, .float 0), (1, .ref r1), (2, .ref r2), (3, .int (x3 + 6))] [] h17 Q) ∧ (¬ y15 = y19 → Q (.int 0) h17)) v18))))))) v14))))))) ∧ (Int32.toInt ((d.2.2.2.2.2 (Int32.toNatClampNeg x3)) &&& 63) = 2 → vp_in (x3 + 1) d.2.2.2.2.1 ∧ (vp_in (x3 + 2) d.2.2.2.2.1 ∧ (jK h r1 = 10 ∧ (jj_C mX9_drop 0 0 [.ref r1, .int (d.2.2.2.2.2 (Int32.toNatClampNeg (x3 + 1))), .int (d.2.2.2.2.2 (Int32.toNatClampNeg (x3 + 2)))] h (fun v24 h23 => jj_vi (fun y25 => vp_in (x3 + 1) d.2.2.2.2.1 ∧ (vp_in (x3 + 2) d.2.2.2.2.1 ∧ (jK h23 r2 = 11 ∧ (jj_C mX10_drop 0 0 [.ref r2, .int (d.2.2.2.2.2 (Int32.toNatClampNeg (x3 + 1))), .int (d.2.2.2.2.2 (Int32.toNatClampNeg (x3 + 2)))] h23 (fun v28 h27 => jj_vi (fun y29 => (y25 = y29 → jj_WP d mL_law bc bs 18 [(0, .float 0), (1, .ref r1), (2, .ref r2), (3, .int (x3 + 6))] [] h27 Q) ∧ (¬ y25 = y29 → Q (.int 0) h27)) v28))))) v24))))) ∧ (Int32.toInt ((d.2.2.2.2.2 (Int32.toNatClampNeg x3)) &&& 63) = 3 → vp_in (x3 + 1) d.2.2.2.2.1 ∧ (vp_in (x3 + 2) d.2.2.2.2.1 ∧ (vp_in (x3 + 3) d.2.2.2.2.1 ∧ (vp_in (x3 + 4) d.2.2.2.2.1 ∧ (vp_in (x3 + 5) d.2.2.2.2.1 ∧ (jK h r1 = 10 ∧ (jj_C mX9_fill 0 0 [.ref r1, .int (d.2.2.2.2.2 (Int32.toNatClampNeg (x3 + 1))), .int (d.2.2.2.2.2 (Int32.toNatClampNeg (x3 + 2))), .int (d.2.2.2.2.2 (Int32.toNatClampNeg (x3 + 3))), .int (d.2.2.2.2.2 (Int32.toNatClampNeg (x3 + 4))), .int (d.2.2.2.2.2 (Int32.toNatClampNeg (x3 + 5)))] h (fun v34 h33 => jj_vi (fun y35 => vp_in (x3 + 1) d.2.2.2.2.1 ∧ (vp_in (x3 + 2) d.2.2.2.2.1 ∧ (vp_in (x3 + 3) d.2.2.2.2.1 ∧ (vp_in (x3 + 4) d.2.2.2.2.1 ∧ (vp_in (x3 + 5) d.2.2.2.2.1 ∧ (jK h33 r2 = 11 ∧ (jj_C mX10_fill 0 0 [.ref r2, .int (d.2.2.2.2.2 (Int32.toNatClampNeg (x3 + 1))), .int (d.2.2.2.2.2 (Int32.toNatClampNeg (x3 + 2))), .int (d.2.2.2.2.2 (Int32.toNatClampNeg (x3 + 3))), .int (d.2.2.2.2.2 (Int32.toNatClampNeg (x3 + 4))), .int (d.2.2.2.2.2 (Int32.toNatClampNeg (x3 + 5)))] h33 (fun v38 h37 => jj_vi (fun y39 => (y35 = y39 → jj_WP d mL_law bc bs 18 [(0, .float 0), (1, .ref r1), (2, .ref r2), (3, .int (x3 + 6))] [] h37 Q) ∧ (¬ y35 = y39 → Q (.int 0) h37)) v38)))))))) v34)))))))) ∧ (Int32.toInt ((d.2.2.2.2.2 (Int32.toNatClampNeg x3)) &&& 63) = 4 → vp_in (x3 + 1) d.2.2.2.2.1 ∧ (vp_in (x3 + 2) d.2.2.2.2.1 ∧ (vp_in (x3 + 3) d.2.2.2.2.1 ∧ (jK h r1 = 10 ∧ (jj_C mX9_get 0 0 [.ref r1, .int (d.2.2.2.2.2 (Int32.toNatClampNeg (x3 + 1))), .int (d.2.2.2.2.2 (Int32.toNatClampNeg (x3 + 2))), .int (d.2.2.2.2.2 (Int32.toNatClampNeg (x3 + 3)))] h (fun v44 h43 => jj_vj (fun k45 => vp_in (x3 + 1) d.2.2.2.2.1 ∧ (vp_in (x3 + 2) d.2.2.2.2.1 ∧ (vp_in (x3 + 3) d.2.2.2.2.1 ∧ (jK h43 r2 = 11 ∧ (jj_C mX10_get 0 0 [.ref r2, .int (d.2.2.2.2.2 (Int32.toNatClampNeg (x3 + 1))), .int (d.2.2.2.2.2 (Int32.toNatClampNeg (x3 + 2))), .int (d.2.2.2.2.2 (Int32.toNatClampNeg (x3 + 3)))] h43 (fun v48 h47 => jj_vj (fun k49 => (k45 = k49 → jj_WP d mL_law bc bs 18 [(0, .float 0), (1, .ref r1), (2, .ref r2), (3, .int (x3 + 6))] [] h47 Q) ∧ (¬ k45 = k49 → Q (.int 0) h47)) v48)))))) v44)))))) ∧ (Int32.toInt ((d.2.2.2.2.2 (Int32.toNatClampNeg x3)) &&& 63) = 5 → vp_in (x3 + 1) d.2.2.2.2.1 ∧ (jK h r1 = 10 ∧ (jj_C mX9_size 0 0 [.ref r1, .int (d.2.2.2.2.2 (Int32.toNatClampNeg (x3 + 1)))] h (fun v54 h53 => jj_vi (fun y55 => vp_in (x3 + 1) d.2.2.2.2.1 ∧ (jK h53 r2 = 11 ∧ (jj_C mX10_size 0 0 [.ref r2, .int (d.2.2.2.2.2 (Int32.toNatClampNeg (x3 + 1)))] h53 (fun v58 h57 => jj_vi (fun y59 => (y55 = y59 → jj_WP d mL_law bc bs 18 [(0, .float 0), (1, .ref r1), (2, .ref r2), (3, .int (x3 + 6))] [] h57 Q) ∧ (¬ y55 = y59 → Q (.int 0) h57)) v58)))) v54)))) ∧ (Int32.toInt ((d.2.2.2.2.2 (Int32.toNatClampNeg x3)) &&& 63) = 6 → vp_in (x3 + 1) d.2.2.2.2.1 ∧ (vp_in (x3 + 2) d.2.2.2.2.1 ∧ (jK h r1 = 10 ∧ (jj_C mX9_kth 0 0 [.ref r1, .int (d.2.2.2.2.2 (Int32.toNatClampNeg (x3 + 1))), .int (d.2.2.2.2.2 (Int32.toNatClampNeg (x3 + 2)))] h (fun v64 h63 => jj_vj (fun k65 => vp_in (x3 + 1) d.2.2.2.2.1 ∧ (vp_in (x3 + 2) d.2.2.2.2.1 ∧ (jK h63 r2 = 11 ∧ (jj_C mX10_kth 0 0 [.ref r2, .int (d.2.2.2.2.2 (Int32.toNatClampNeg (x3 + 1))), .int (d.2.2.2.2.2 (Int32.toNatClampNeg (x3 + 2)))] h63 (fun v68 h67 => jj_vj (fun k69 => (k65 = k69 → jj_WP d mL_law bc bs 18 [(0, .float 0), (1, .ref r1), (2, .ref r2), (3, .int (x3 + 6))] [] h67 Q) ∧ (¬ k65 = k69 → Q (.int 0) h67)) v68))))) v64))))) ∧ (Int32.toInt ((d.2.2.2.2.2 (Int32.toNatClampNeg x3)) &&& 63) = 7 → vp_in (x3 + 1) d.2.2.2.2.1 ∧ (vp_in (x3 + 2) d.2.2.2.2.1 ∧ (jK h r1 = 10 ∧ (jj_C mX9_rank 0 0 [.ref r1, .int (d.2.2.2.2.2 (Int32.toNatClampNeg (x3 + 1))), .int (d.2.2.2.2.2 (Int32.toNatClampNeg (x3 + 2)))] h (fun v74 h73 => jj_vi (fun y75 => vp_in (x3 + 1) d.2.2.2.2.1 ∧ (vp_in (x3 + 2) d.2.2.2.2.1 ∧ (jK h73 r2 = 11 ∧ (jj_C mX10_rank 0 0 [.ref r2, .int (d.2.2.2.2.2 (Int32.toNatClampNeg (x3 + 1))), .int (d.2.2.2.2.2 (Int32.toNatClampNeg (x3 + 2)))] h73 (fun v78 h77 => jj_vi (fun y79 => (y75 = y79 → jj_WP d mL_law bc bs 18 [(0, .float 0), (1, .ref r1), (2, .ref r2), (3, .int (x3 + 6))] [] h77 Q) ∧ (¬ y75 = y79 → Q (.int 0) h77)) v78))))) v74))))) ∧ (Int32.toInt ((d.2.2.2.2.2 (Int32.toNatClampNeg x3)) &&& 63) = 8 → vp_in (x3 + 1) d.2.2.2.2.1 ∧ (vp_in (x3 + 2) d.2.2.2.2.1 ∧ (jK h r1 = 10 ∧ (1616 ≤ bc ∧ 14544 ≤ bs ∧ (jj_C mX9_root 1616 14544 [.ref r1, .int (d.2.2.2.2.2 (Int32.toNatClampNeg (x3 + 1))), .int (d.2.2.2.2.2 (Int32.toNatClampNeg (x3 + 2)))] h (fun v84 h83 => jj_vj (fun k85 => vp_in (x3 + 1) d.2.2.2.2.1 ∧ (vp_in (x3 + 2) d.2.2.2.2.1 ∧ (jK h83 r2 = 11 ∧ (jj_C mX10_root 0 0 [.ref r2, .int (d.2.2.2.2.2 (Int32.toNatClampNeg (x3 + 1))), .int (d.2.2.2.2.2 (Int32.toNatClampNeg (x3 + 2)))] h83 (fun v88 h87 => jj_vj (fun k89 => (k85 = k89 → jj_WP d mL_law (bc - 1616) (bs - 14544) 18 [(0, .float 0), (1, .ref r1), (2, .ref r2), (3, .int (x3 + 6))] [] h87 Q) ∧ (¬ k85 = k89 → Q (.int 0) h87)) v88))))) v84)))))) ∧ (Int32.toInt ((d.2.2.2.2.2 (Int32.toNatClampNeg x3)) &&& 63) = 9 → vp_in (x3 + 1) d.2.2.2.2.1 ∧ (vp_in (x3 + 2) d.2.2.2.2.1 ∧ (jK h r1 = 10 ∧ (1616 ≤ bc ∧ 14544 ≤ bs ∧ (jj_C mX9_height 1616 14544 [.ref r1, .int (d.2.2.2.2.2 (Int32.toNatClampNeg (x3 + 1))), .int (d.2.2.2.2.2 (Int32.toNatClampNeg (x3 + 2)))] h (fun v94 h93 => jj_vi (fun y95 => vp_in (x3 + 1) d.2.2.2.2.1 ∧ (vp_in (x3 + 2) d.2.2.2.2.1 ∧ (jK h93 r2 = 11 ∧ (jj_C mX10_height 0 0 [.ref r2, .int (d.2.2.2.2.2 (Int32.toNatClampNeg (x3 + 1))), .int (d.2.2.2.2.2 (Int32.toNatClampNeg (x3 + 2)))] h93 (fun v98 h97 => jj_vi (fun y99 => (y95 = y99 → jj_WP d mL_law (bc - 1616) (bs - 14544) 18 [(0, .float 0), (1, .ref r1), (2, .ref r2), (3, .int (x3 + 6))] [] h97 Q) ∧ (¬ y95 = y99 → Q (.int 0) h97)) v98))))) v94)))))) ∧ (Int32.toInt ((d.2.2.2.2.2 (Int32.toNatClampNeg x3)) &&& 63) = 10 → vp_in (x3 + 1) d.2.2.2.2.1 ∧ (vp_in (x3 + 2) d.2.2.2.2.1 ∧ (vp_in (x3 + 3) d.2.2.2.2.1 ∧ (jK h r1 = 10 ∧ (1616 ≤ bc ∧ 14544 ≤ bs ∧ (jj_C mX9_nodes 1616 14544 [.ref r1, .int (d.2.2.2.2.2 (Int32.toNatClampNeg (x3 + 1))), .int (d.2.2.2.2.2 (Int32.toNatClampNeg (x3 + 2))), .int (d.2.2.2.2.2 (Int32.toNatClampNeg (x3 + 3)))] h (fun v104 h103 => jj_vi (fun y105 => vp_in (x3 + 1) d.2.2.2.2.1 ∧ (vp_in (x3 + 2) d.2.2.2.2.1 ∧ (vp_in (x3 + 3) d.2.2.2.2.1 ∧ (jK h103 r2 = 11 ∧ (jj_C mX10_nodes 0 0 [.ref r2, .int (d.2.2.2.2.2 (Int32.toNatClampNeg (x3 + 1))), .int (d.2.2.2.2.2 (Int32.toNatClampNeg (x3 + 2))), .int (d.2.2.2.2.2 (Int32.toNatClampNeg (x3 + 3)))] h103 (fun v108 h107 => jj_vi (fun y109 => (y105 = y109 → jj_WP d mL_law (bc - 1616) (bs - 14544) 18 [(0, .float 0), (1, .ref r1), (2, .ref r2), (3, .int (x3 + 6))] [] h107 Q) ∧ (¬ y105 = y109 → Q (.int 0) h107)) v108)))))) v104))))))) ∧ (Int32.toInt ((d.2.2.2.2.2 (Int32.toNatClampNeg x3)) &&& 63) = 11 → vp_in (x3 + 1) d.2.2.2.2.1 ∧ (vp_in (x3 + 2) d.2.2.2.2.1 ∧ (vp_in (x3 + 3) d.2.2.2.2.1 ∧ (vp_in (x3 + 4) d.2.2.2.2.1 ∧ (vp_in (x3 + 5) d.2.2.2.2.1 ∧ (jK h r1 = 10 ∧ (1616 ≤ bc ∧ 14544 ≤ bs ∧ (jj_C mX9_node 1616 14544 [.ref r1, .int (d.2.2.2.2.2 (Int32.toNatClampNeg (x3 + 1))), .int (d.2.2.2.2.2 (Int32.toNatClampNeg (x3 + 2))), .int (d.2.2.2.2.2 (Int32.toNatClampNeg (x3 + 3))), .int (d.2.2.2.2.2 (Int32.toNatClampNeg (x3 + 4))), .int (d.2.2.2.2.2 (Int32.toNatClampNeg (x3 + 5)))] h (fun v114 h113 => jj_vj (fun k115 => vp_in (x3 + 1) d.2.2.2.2.1 ∧ (vp_in (x3 + 2) d.2.2.2.2.1 ∧ (vp_in (x3 + 3) d.2.2.2.2.1 ∧ (vp_in (x3 + 4) d.2.2.2.2.1 ∧ (vp_in (x3 + 5) d.2.2.2.2.1 ∧ (jK h113 r2 = 11 ∧ (jj_C mX10_node_ 0 0 [.ref r2, .int (d.2.2.2.2.2 (Int32.toNatClampNeg (x3 + 1))), .int (d.2.2.2.2.2 (Int32.toNatClampNeg (x3 + 2))), .int (d.2.2.2.2.2 (Int32.toNatClampNeg (x3 + 3))), .int (d.2.2.2.2.2 (Int32.toNatClampNeg (x3 + 4))), .int (d.2.2.2.2.2 (Int32.toNatClampNeg (x3 + 5)))] h113 (fun v118 h117 => jj_vj (fun k119 => (k115 = k119 → jj_WP d mL_law (bc - 1616) (bs - 14544) 18 [(0, .float 0), (1, .ref r1), (2, .ref r2), (3, .int (x3 + 6))] [] h117 Q) ∧ (¬ k115 = k119 → Q (.int 0) h117)) v118)))))))) v114))))))))) ∧ (Int32.toInt ((d.2.2.2.2.2 (Int32.toNatClampNeg x3)) &&& 63) = 12 → vp_in (x3 + 1) d.2.2.2.2.1 ∧ (vp_in (x3 + 2) d.2.2.2.2.1 ∧ (vp_in (x3 + 3) d.2.2.2.2.1 ∧ (jK h r1 = 10 ∧ (3232 ≤ bc ∧ 29088 ≤ bs ∧ (jj_C mX9_shared 3232 29088 [.ref r1, .int (d.2.2.2.2.2 (Int32.toNatClampNeg (x3 + 1))), .int (d.2.2.2.2.2 (Int32.toNatClampNeg (x3 + 2))), .int (d.2.2.2.2.2 (Int32.toNatClampNeg (x3 + 3)))] h (fun v124 h123 => jj_vi (fun y125 => vp_in (x3 + 1) d.2.2.2.2.1 ∧ (vp_in (x3 + 2) d.2.2.2.2.1 ∧ (vp_in (x3 + 3) d.2.2.2.2.1 ∧ (jK h123 r2 = 11 ∧ (jj_C mX10_shared 0 0 [.ref r2, .int (d.2.2.2.2.2 (Int32.toNatClampNeg (x3 + 1))), .int (d.2.2.2.2.2 (Int32.toNatClampNeg (x3 + 2))), .int (d.2.2.2.2.2 (Int32.toNatClampNeg (x3 + 3)))] h123 (fun v128 h127 => jj_vi (fun y129 => (y125 = y129 → jj_WP d mL_law (bc - 3232) (bs - 29088) 18 [(0, .float 0), (1, .ref r1), (2, .ref r2), (3, .int (x3 + 6))] [] h127 Q) ∧ (¬ y125 = y129 → Q (.int 0) h127)) v128)))))) v124))))))) ∧ (Int32.toInt ((d.2.2.2.2.2 (Int32.toNatClampNeg x3)) &&& 63) = 13 → jK h r1 = 10 ∧ (4848 ≤ bc ∧ 43632 ≤ bs ∧ (jj_C mX9_stored 4848 43632 [.ref r1] h (fun v134 h133 => jj_vi (fun y135 => jK h133 r2 = 11 ∧ (jj_C mX10_stored 0 0 [.ref r2] h133 (fun v138 h137 => jj_vi (fun y139 => (y135 = y139 → jj_WP d mL_law (bc - 4848) (bs - 43632) 18 [(0, .float 0), (1, .ref r1), (2, .ref r2), (3, .int (x3 + 6))] [] h137 Q) ∧ (¬ y135 = y139 → Q (.int 0) h137)) v138))) v134)))) ∧ (Int32.toInt ((d.2.2.2.2.2 (Int32.toNatClampNeg x3)) &&& 63) = 14 → vp_in (x3 + 1) d.2.2.2.2.1 ∧ (jK h r1 = 10 ∧ (jj_C mX9_open 0 0 [.ref r1, .int (d.2.2.2.2.2 (Int32.toNatClampNeg (x3 + 1)))] h (fun v144 h143 => jj_vi (fun y145 => vp_in (x3 + 1) d.2.2.2.2.1 ∧ (jK h143 r2 = 11 ∧ (jj_C mX10_open 0 0 [.ref r2, .int (d.2.2.2.2.2 (Int32.toNatClampNeg (x3 + 1)))] h143 (fun v148 h147 => jj_vi (fun y149 => (y145 = y149 → jj_WP d mL_law bc bs 18 [(0, .float 0), (1, .ref r1), (2, .ref r2), (3, .int (x3 + 6))] [] h147 Q) ∧ (¬ y145 = y149 → Q (.int 0) h147)) v148)))) v144)))) ∧ (Int32.toInt ((d.2.2.2.2.2 (Int32.toNatClampNeg x3)) &&& 63) = 15 → vp_in (x3 + 1) d.2.2.2.2.1 ∧ (jK h r1 = 10 ∧ (jj_C mX9_go 0 0 [.ref r1, .int (d.2.2.2.2.2 (Int32.toNatClampNeg (x3 + 1)))] h (fun v154 h153 => jj_vi (fun y155 => vp_in (x3 + 1) d.2.2.2.2.1 ∧ (jK h153 r2 = 11 ∧ (jj_C mX10_go 0 0 [.ref r2, .int (d.2.2.2.2.2 (Int32.toNatClampNeg (x3 + 1)))] h153 (fun v158 h157 => jj_vi (fun y159 => (y155 = y159 → jj_WP d mL_law bc bs 18 [(0, .float 0), (1, .ref r1), (2, .ref r2), (3, .int (x3 + 6))] [] h157 Q) ∧ (¬ y155 = y159 → Q (.int 0) h157)) v158)))) v154)))) ∧ (Int32.toInt ((d.2.2.2.2.2 (Int32.toNatClampNeg x3)) &&& 63) = 16 → vp_in (x3 + 1) d.2.2.2.2.1 ∧ (jK h r1 = 10 ∧ (jj_C mX9_close 0 0 [.ref r1, .int (d.2.2.2.2.2 (Int32.toNatClampNeg (x3 + 1)))] h (fun v164 h163 => jj_vi (fun y165 => vp_in (x3 + 1) d.2.2.2.2.1 ∧ (jK h163 r2 = 11 ∧ (jj_C mX10_close 0 0 [.ref r2, .int (d.2.2.2.2.2 (Int32.toNatClampNeg (x3 + 1)))] h163 (fun v168 h167 => jj_vi (fun y169 => (y165 = y169 → jj_WP d mL_law bc bs 18 [(0, .float 0), (1, .ref r1), (2, .ref r2), (3, .int (x3 + 6))] [] h167 Q) ∧ (¬ y165 = y169 → Q (.int 0) h167)) v168)))) v164)))) ∧ (Int32.toInt ((d.2.2.2.2.2 (Int32.toNatClampNeg x3)) &&& 63) = 17 → vp_in (x3 + 1) d.2.2.2.2.1 ∧ (jK h r1 = 10 ∧ (jj_C mX9_head 0 0 [.ref r1, .int (d.2.2.2.2.2 (Int32.toNatClampNeg (x3 + 1)))] h (fun v174 h173 => jj_vi (fun y175 => vp_in (x3 + 1) d.2.2.2.2.1 ∧ (jK h173 r2 = 11 ∧ (jj_C mX10_head 0 0 [.ref r2, .int (d.2.2.2.2.2 (Int32.toNatClampNeg (x3 + 1)))] h173 (fun v178 h177 => jj_vi (fun y179 => (y175 = y179 → jj_WP d mL_law bc bs 18 [(0, .float 0), (1, .ref r1), (2, .ref r2), (3, .int (x3 + 6))] [] h177 Q) ∧ (¬ y175 = y179 → Q (.int 0) h177)) v178)))) v174)))) ∧ (Int32.toInt ((d.2.2.2.2.2 (Int32.toNatClampNeg x3)) &&& 63) = 18 → jK h r1 = 10 ∧ (5480 ≤ bc ∧ 53000 ≤ bs ∧ (jj_C mX9_commit 5480 53000 [.ref r1] h (fun v184 h183 => jj_vi (fun y185 => jK h183 r2 = 11 ∧ (jj_C mX10_commit 0 0 [.ref r2] h183 (fun v188 h187 => jj_vi (fun y189 => (y185 = y189 → jj_WP d mL_law (bc - 5480) (bs - 53000) 18 [(0, .float 0), (1, .ref r1), (2, .ref r2), (3, .int (x3 + 6))] [] h187 Q) ∧ (¬ y185 = y189 → Q (.int 0) h187)) v188))) v184)))) ∧ (Int32.toInt ((d.2.2.2.2.2 (Int32.toNatClampNeg x3)) &&& 63) = 19 → vp_in (x3 + 1) d.2.2.2.2.1 ∧ (vp_in (x3 + 2) d.2.2.2.2.1 ∧ (jK h r1 = 10 ∧ (jj_C mX9_parent 0 0 [.ref r1, .int (d.2.2.2.2.2 (Int32.toNatClampNeg (x3 + 1))), .int (d.2.2.2.2.2 (Int32.toNatClampNeg (x3 + 2)))] h (fun v194 h193 => jj_vi (fun y195 => vp_in (x3 + 1) d.2.2.2.2.1 ∧ (vp_in (x3 + 2) d.2.2.2.2.1 ∧ (jK h193 r2 = 11 ∧ (jj_C mX10_parent 0 0 [.ref r2, .int (d.2.2.2.2.2 (Int32.toNatClampNeg (x3 + 1))), .int (d.2.2.2.2.2 (Int32.toNatClampNeg (x3 + 2)))] h193 (fun v198 h197 => jj_vi (fun y199 => (y195 = y199 → jj_WP d mL_law bc bs 18 [(0, .float 0), (1, .ref r1), (2, .ref r2), (3, .int (x3 + 6))] [] h197 Q) ∧ (¬ y195 = y199 → Q (.int 0) h197)) v198))))) v194))))) ∧ (Int32.toInt ((d.2.2.2.2.2 (Int32.toNatClampNeg x3)) &&& 63) = 20 → vp_in (x3 + 1) d.2.2.2.2.1 ∧ (jK h r1 = 10 ∧ (jj_C mX9_ancestors 0 0 [.ref r1, .int (d.2.2.2.2.2 (Int32.toNatClampNeg (x3 + 1)))] h (fun v204 h203 => jj_vi (fun y205 => vp_in (x3 + 1) d.2.2.2.2.1 ∧ (jK h203 r2 = 11 ∧ (jj_C mX10_ancestors 0 0 [.ref r2, .int (d.2.2.2.2.2 (Int32.toNatClampNeg (x3 + 1)))] h203 (fun v208 h207 => jj_vi (fun y209 => (y205 = y209 → jj_WP d mL_law bc bs 18 [(0, .float 0), (1, .ref r1), (2, .ref r2), (3, .int (x3 + 6))] [] h207 Q) ∧ (¬ y205 = y209 → Q (.int 0) h207)) v208)))) v204)))) ∧ (Int32.toInt ((d.2.2.2.2.2 (Int32.toNatClampNeg x3)) &&& 63) = 21 → vp_in (x3 + 1) d.2.2.2.2.1 ∧ (vp_in (x3 + 2) d.2.2.2.2.1 ∧ (jK h r1 = 10 ∧ (jj_C mX9_base 0 0 [.ref r1, .int (d.2.2.2.2.2 (Int32.toNatClampNeg (x3 + 1))), .int (d.2.2.2.2.2 (Int32.toNatClampNeg (x3 + 2)))] h (fun v214 h213 => jj_vi (fun y215 => vp_in (x3 + 1) d.2.2.2.2.1 ∧ (vp_in (x3 + 2) d.2.2.2.2.1 ∧ (jK h213 r2 = 11 ∧ (jj_C mX10_base 0 0 [.ref r2, .int (d.2.2.2.2.2 (Int32.toNatClampNeg (x3 + 1))), .int (d.2.2.2.2.2 (Int32.toNatClampNeg (x3 + 2)))] h213 (fun v218 h217 => jj_vi (fun y219 => (y215 = y219 → jj_WP d mL_law bc bs 18 [(0, .float 0), (1, .ref r1), (2, .ref r2), (3, .int (x3 + 6))] [] h217 Q) ∧ (¬ y215 = y219 → Q (.int 0) h217)) v218))))) v214))))) ∧ (Int32.toInt ((d.2.2.2.2.2 (Int32.toNatClampNeg x3)) &&& 63) = 22 → jK h r1 = 10 ∧ (jj_C mX9_reset 0 0 [.ref r1] h (fun v224 h223 => jj_vi (fun y225 => jK h223 r2 = 11 ∧ (jj_C mX10_reset 0 0 [.ref r2] h223 (fun v228 h227 => jj_vi (fun y229 => (y225 = y229 → jj_WP d mL_law bc bs 18 [(0, .float 0), (1, .ref r1), (2, .ref r2), (3, .int (x3 + 6))] [] h227 Q) ∧ (¬ y225 = y229 → Q (.int 0) h227)) v228))) v224))) ∧ (Int32.toInt ((d.2.2.2.2.2 (Int32.toNatClampNeg x3)) &&& 63) = 23 → jK h r1 = 10 ∧ (jj_C mX9_sweep 0 0 [.ref r1] h (fun v234 h233 => jj_vi (fun y235 => jK h233 r2 = 11 ∧ (jj_C mX10_sweep 0 0 [.ref r2] h233 (fun v238 h237 => jj_vi (fun y239 => (y235 = y239 → jj_WP d mL_law bc bs 18 [(0, .float 0), (1, .ref r1), (2, .ref r2), (3, .int (x3 + 6))] [] h237 Q) ∧ (¬ y235 = y239 → Q (.int 0) h237)) v238))) v234))) ∧ (Int32.toInt ((d.2.2.2.2.2 (Int32.toNatClampNeg x3)) &&& 63) = 24 → vp_in (x3 + 1) d.2.2.2.2.1 ∧ (vp_in (x3 + 2) d.2.2.2.2.1 ∧ (vp_in (x3 + 3) d.2.2.2.2.1 ∧ (jK h r1 = 10 ∧ (jj_C mX9_diff 0 0 [.ref r1, .int (d.2.2.2.2.2 (Int32.toNatClampNeg (x3 + 1))), .int (d.2.2.2.2.2 (Int32.toNatClampNeg (x3 + 2))), .int (d.2.2.2.2.2 (Int32.toNatClampNeg (x3 + 3)))] h (fun v244 h243 => jj_vi (fun y245 => vp_in (x3 + 1) d.2.2.2.2.1 ∧ (vp_in (x3 + 2) d.2.2.2.2.1 ∧ (vp_in (x3 + 3) d.2.2.2.2.1 ∧ (jK h243 r2 = 11 ∧ (jj_C mX10_diff 0 0 [.ref r2, .int (d.2.2.2.2.2 (Int32.toNatClampNeg (x3 + 1))), .int (d.2.2.2.2.2 (Int32.toNatClampNeg (x3 + 2))), .int (d.2.2.2.2.2 (Int32.toNatClampNeg (x3 + 3)))] h243 (fun v248 h247 => jj_vi (fun y249 => (y245 = y249 → jj_WP d mL_law bc bs 18 [(0, .float 0), (1, .ref r1), (2, .ref r2), (3, .int (x3 + 6))] [] h247 Q) ∧ (¬ y245 = y249 → Q (.int 0) h247)) v248)))))) v244)))))) ∧ (Int32.toInt ((d.2.2.2.2.2 (Int32.toNatClampNeg x3)) &&& 63) = 25 → vp_in (x3 + 1) d.2.2.2.2.1 ∧ (jK h r1 = 10 ∧ (jj_C mX9_diffKey 0 0 [.ref r1, .int (d.2.2.2.2.2 (Int32.toNatClampNeg (x3 + 1)))] h (fun v254 h253 => jj_vj (fun k255 => vp_in (x3 + 1) d.2.2.2.2.1 ∧ (jK h253 r2 = 11 ∧ (jj_C mX10_diffKey 0 0 [.ref r2, .int (d.2.2.2.2.2 (Int32.toNatClampNeg (x3 + 1)))] h253 (fun v258 h257 => jj_vj (fun k259 => (k255 = k259 → jj_WP d mL_law bc bs 18 [(0, .float 0), (1, .ref r1), (2, .ref r2), (3, .int (x3 + 6))] [] h257 Q) ∧ (¬ k255 = k259 → Q (.int 0) h257)) v258)))) v254)))) ∧ (Int32.toInt ((d.2.2.2.2.2 (Int32.toNatClampNeg x3)) &&& 63) = 26 → vp_in (x3 + 1) d.2.2.2.2.1 ∧ (jK h r1 = 10 ∧ (jj_C mX9_diffKind 0 0 [.ref r1, .int (d.2.2.2.2.2 (Int32.toNatClampNeg (x3 + 1)))] h (fun v264 h263 => jj_vi (fun y265 => vp_in (x3 + 1) d.2.2.2.2.1 ∧ (jK h263 r2 = 11 ∧ (jj_C mX10_diffKind 0 0 [.ref r2, .int (d.2.2.2.2.2 (Int32.toNatClampNeg (x3 + 1)))] h263 (fun v268 h267 => jj_vi (fun y269 => (y265 = y269 → jj_WP d mL_law bc bs 18 [(0, .float 0), (1, .ref r1), (2, .ref r2), (3, .int (x3 + 6))] [] h267 Q) ∧ (¬ y265 = y269 → Q (.int 0) h267)) v268)))) v264)))) ∧ (Int32.toInt ((d.2.2.2.2.2 (Int32.toNatClampNeg x3)) &&& 63) = 27 → vp_in (x3 + 1) d.2.2.2.2.1 ∧ (jK h r1 = 10 ∧ (jj_C mX9_merge 0 0 [.ref r1, .int (d.2.2.2.2.2 (Int32.toNatClampNeg (x3 + 1)))] h (fun v274 h273 => jj_vi (fun y275 => vp_in (x3 + 1) d.2.2.2.2.1 ∧ (jK h273 r2 = 11 ∧ (jj_C mX10_merge 0 0 [.ref r2, .int (d.2.2.2.2.2 (Int32.toNatClampNeg (x3 + 1)))] h273 (fun v278 h277 => jj_vi (fun y279 => (y275 = y279 → jj_WP d mL_law bc bs 18 [(0, .float 0), (1, .ref r1), (2, .ref r2), (3, .int (x3 + 6))] [] h277 Q) ∧ (¬ y275 = y279 → Q (.int 0) h277)) v278)))) v274)))) ∧ (Int32.toInt ((d.2.2.2.2.2 (Int32.toNatClampNeg x3)) &&& 63) = 28 → vp_in (x3 + 1) d.2.2.2.2.1 ∧ (jK h r1 = 10 ∧ (jj_C mX9_pick 0 0 [.ref r1, .int (d.2.2.2.2.2 (Int32.toNatClampNeg (x3 + 1)))] h (fun v284 h283 => jj_vi (fun y285 => vp_in (x3 + 1) d.2.2.2.2.1 ∧ (jK h283 r2 = 11 ∧ (jj_C mX10_pick 0 0 [.ref r2, .int (d.2.2.2.2.2 (Int32.toNatClampNeg (x3 + 1)))] h283 (fun v288 h287 => jj_vi (fun y289 => (y285 = y289 → jj_WP d mL_law bc bs 18 [(0, .float 0), (1, .ref r1), (2, .ref r2), (3, .int (x3 + 6))] [] h287 Q) ∧ (¬ y285 = y289 → Q (.int 0) h287)) v288)))) v284)))) ∧ (Int32.toInt ((d.2.2.2.2.2 (Int32.toNatClampNeg x3)) &&& 63) = 29 → vp_in (x3 + 1) d.2.2.2.2.1 ∧ (jK h r1 = 10 ∧ (jj_C mX9_undo 0 0 [.ref r1, .int (d.2.2.2.2.2 (Int32.toNatClampNeg (x3 + 1)))] h (fun v294 h293 => jj_vi (fun y295 => vp_in (x3 + 1) d.2.2.2.2.1 ∧ (jK h293 r2 = 11 ∧ (jj_C mX10_undo 0 0 [.ref r2, .int (d.2.2.2.2.2 (Int32.toNatClampNeg (x3 + 1)))] h293 (fun v298 h297 => jj_vi (fun y299 => (y295 = y299 → jj_WP d mL_law bc bs 18 [(0, .float 0), (1, .ref r1), (2, .ref r2), (3, .int (x3 + 6))] [] h297 Q) ∧ (¬ y295 = y299 → Q (.int 0) h297)) v298)))) v294)))) ∧ (Int32.toInt ((d.2.2.2.2.2 (Int32.toNatClampNeg x3)) &&& 63) = 30 → jK h r1 = 10 ∧ (jj_C mX9_merging 0 0 [.ref r1] h (fun v304 h303 => jj_vi (fun y305 => jK h303 r2 = 11 ∧ (jj_C mX10_merging 0 0 [.ref r2] h303 (fun v308 h307 => jj_vi (fun y309 => (y305 = y309 → jj_WP d mL_law bc bs 18 [(0, .float 0), (1, .ref r1), (2, .ref r2), (3, .int (x3 + 6))] [] h307 Q) ∧ (¬ y305 = y309 → Q (.int 0) h307)) v308))) v304))) ∧ (Int32.toInt ((d.2.2.2.2.2 (Int32.toNatClampNeg x3)) &&& 63) = 31 → vp_in (x3 + 1) d.2.2.2.2.1 ∧ (jK h r1 = 10 ∧ (jj_C mX9_conflicts 0 0 [.ref r1, .int (d.2.2.2.2.2 (Int32.toNatClampNeg (x3 + 1)))] h (fun v314 h313 => jj_vi (fun y315 => vp_in (x3 + 1) d.2.2.2.2.1 ∧ (jK h313 r2 = 11 ∧ (jj_C mX10_conflicts 0 0 [.ref r2, .int (d.2.2.2.2.2 (Int32.toNatClampNeg (x3 + 1)))] h313 (fun v318 h317 => jj_vi (fun y319 => (y315 = y319 → jj_WP d mL_law bc bs 18 [(0, .float 0), (1, .ref r1), (2, .ref r2), (3, .int (x3 + 6))] [] h317 Q) ∧ (¬ y315 = y319 → Q (.int 0) h317)) v318)))) v314)))) ∧ (Int32.toInt ((d.2.2.2.2.2 (Int32.toNatClampNeg x3)) &&& 63) = 32 → vp_in (x3 + 1) d.2.2.2.2.1 ∧ (vp_in (x3 + 2) d.2.2.2.2.1 ∧ (jK h r1 = 10 ∧ (jj_C mX9_conflict 0 0 [.ref r1, .int (d.2.2.2.2.2 (Int32.toNatClampNeg (x3 + 1))), .int (d.2.2.2.2.2 (Int32.toNatClampNeg (x3 + 2)))] h (fun v324 h323 => jj_vj (fun k325 => vp_in (x3 + 1) d.2.2.2.2.1 ∧ (vp_in (x3 + 2) d.2.2.2.2.1 ∧ (jK h323 r2 = 11 ∧ (jj_C mX10_conflict 0 0 [.ref r2, .int (d.2.2.2.2.2 (Int32.toNatClampNeg (x3 + 1))), .int (d.2.2.2.2.2 (Int32.toNatClampNeg (x3 + 2)))] h323 (fun v328 h327 => jj_vj (fun k329 => (k325 = k329 → jj_WP d mL_law bc bs 18 [(0, .float 0), (1, .ref r1), (2, .ref r2), (3, .int (x3 + 6))] [] h327 Q) ∧ (¬ k325 = k329 → Q (.int 0) h327)) v328))))) v324))))) ∧ (Int32.toInt ((d.2.2.2.2.2 (Int32.toNatClampNeg x3)) &&& 63) = 33 → vp_in (x3 + 1) d.2.2.2.2.1 ∧ (vp_in (x3 + 2) d.2.2.2.2.1 ∧ (vp_in (x3 + 3) d.2.2.2.2.1 ∧ (jK h r1 = 10 ∧ (jj_C mX9_version 0 0 [.ref r1, .int (d.2.2.2.2.2 (Int32.toNatClampNeg (x3 + 1))), .int (d.2.2.2.2.2 (Int32.toNatClampNeg (x3 + 2))), .int (d.2.2.2.2.2 (Int32.toNatClampNeg (x3 + 3)))] h (fun v334 h333 => jj_vj (fun k335 => vp_in (x3 + 1) d.2.2.2.2.1 ∧ (vp_in (x3 + 2) d.2.2.2.2.1 ∧ (vp_in (x3 + 3) d.2.2.2.2.1 ∧ (jK h333 r2 = 11 ∧ (jj_C mX10_version 0 0 [.ref r2, .int (d.2.2.2.2.2 (Int32.toNatClampNeg (x3 + 1))), .int (d.2.2.2.2.2 (Int32.toNatClampNeg (x3 + 2))), .int (d.2.2.2.2.2 (Int32.toNatClampNeg (x3 + 3)))] h333 (fun v338 h337 => jj_vj (fun k339 => (k335 = k339 → jj_WP d mL_law bc bs 18 [(0, .float 0), (1, .ref r1), (2, .ref r2), (3, .int (x3 + 6))] [] h337 Q) ∧ (¬ k335 = k339 → Q (.int 0) h337)) v338)))))) v334)))))) ∧ (Int32.toInt ((d.2.2.2.2.2 (Int32.toNatClampNeg x3)) &&& 63) = 34 → vp_in (x3 + 1) d.2.2.2.2.1 ∧ (vp_in (x3 + 2) d.2.2.2.2.1 ∧ (jK h r1 = 10 ∧ (jj_C mX9_settle 0 0 [.ref r1, .int (d.2.2.2.2.2 (Int32.toNatClampNeg (x3 + 1))), .int (d.2.2.2.2.2 (Int32.toNatClampNeg (x3 + 2)))] h (fun v344 h343 => jj_vi (fun y345 => vp_in (x3 + 1) d.2.2.2.2.1 ∧ (vp_in (x3 + 2) d.2.2.2.2.1 ∧ (jK h343 r2 = 11 ∧ (jj_C mX10_settle 0 0 [.ref r2, .int (d.2.2.2.2.2 (Int32.toNatClampNeg (x3 + 1))), .int (d.2.2.2.2.2 (Int32.toNatClampNeg (x3 + 2)))] h343 (fun v348 h347 => jj_vi (fun y349 => (y345 = y349 → jj_WP d mL_law bc bs 18 [(0, .float 0), (1, .ref r1), (2, .ref r2), (3, .int (x3 + 6))] [] h347 Q) ∧ (¬ y345 = y349 → Q (.int 0) h347)) v348))))) v344))))) ∧ (Int32.toInt ((d.2.2.2.2.2 (Int32.toNatClampNeg x3)) &&& 63) = 35 → vp_in (x3 + 1) d.2.2.2.2.1 ∧ (jK h r1 = 10 ∧ (jj_C mX9_send 0 0 [.ref r1, .int (d.2.2.2.2.2 (Int32.toNatClampNeg (x3 + 1)))] h (fun v354 h353 => jj_vi (fun y355 => vp_in (x3 + 1) d.2.2.2.2.1 ∧ (jK h353 r2 = 11 ∧ (jj_C mX10_send 0 0 [.ref r2, .int (d.2.2.2.2.2 (Int32.toNatClampNeg (x3 + 1)))] h353 (fun v358 h357 => jj_vi (fun y359 => (y355 = y359 → jj_WP d mL_law bc bs 18 [(0, .float 0), (1, .ref r1), (2, .ref r2), (3, .int (x3 + 6))] [] h357 Q) ∧ (¬ y355 = y359 → Q (.int 0) h357)) v358)))) v354)))) ∧ (Int32.toInt ((d.2.2.2.2.2 (Int32.toNatClampNeg x3)) &&& 63) = 36 → vp_in (x3 + 1) d.2.2.2.2.1 ∧ (jK h r1 = 10 ∧ (jj_C mX9_fetch 0 0 [.ref r1, .int (d.2.2.2.2.2 (Int32.toNatClampNeg (x3 + 1)))] h (fun v364 h363 => jj_vi (fun y365 => vp_in (x3 + 1) d.2.2.2.2.1 ∧ (jK h363 r2 = 11 ∧ (jj_C mX10_fetch 0 0 [.ref r2, .int (d.2.2.2.2.2 (Int32.toNatClampNeg (x3 + 1)))] h363 (fun v368 h367 => jj_vi (fun y369 => (y365 = y369 → jj_WP d mL_law bc bs 18 [(0, .float 0), (1, .ref r1), (2, .ref r2), (3, .int (x3 + 6))] [] h367 Q) ∧ (¬ y365 = y369 → Q (.int 0) h367)) v368)))) v364)))) ∧ (Int32.toInt ((d.2.2.2.2.2 (Int32.toNatClampNeg x3)) &&& 63) = 37 → vp_in (x3 + 1) d.2.2.2.2.1 ∧ (jK h r1 = 10 ∧ (jj_C mX9_there 0 0 [.ref r1, .int (d.2.2.2.2.2 (Int32.toNatClampNeg (x3 + 1)))] h (fun v374 h373 => jj_vi (fun y375 => vp_in (x3 + 1) d.2.2.2.2.1 ∧ (jK h373 r2 = 11 ∧ (jj_C mX10_there 0 0 [.ref r2, .int (d.2.2.2.2.2 (Int32.toNatClampNeg (x3 + 1)))] h373 (fun v378 h377 => jj_vi (fun y379 => (y375 = y379 → jj_WP d mL_law bc bs 18 [(0, .float 0), (1, .ref r1), (2, .ref r2), (3, .int (x3 + 6))] [] h377 Q) ∧ (¬ y375 = y379 → Q (.int 0) h377)) v378)))) v374)))) ∧ (Int32.toInt ((d.2.2.2.2.2 (Int32.toNatClampNeg x3)) &&& 63) = 38 → vp_in (x3 + 1) d.2.2.2.2.1 ∧ (jK h r1 = 10 ∧ (jj_C mX9_kept 0 0 [.ref r1, .int (d.2.2.2.2.2 (Int32.toNatClampNeg (x3 + 1)))] h (fun v384 h383 => jj_vi (fun y385 => vp_in (x3 + 1) d.2.2.2.2.1 ∧ (jK h383 r2 = 11 ∧ (jj_C mX10_kept 0 0 [.ref r2, .int (d.2.2.2.2.2 (Int32.toNatClampNeg (x3 + 1)))] h383 (fun v388 h387 => jj_vi (fun y389 => (y385 = y389 → jj_WP d mL_law bc bs 18 [(0, .float 0), (1, .ref r1), (2, .ref r2), (3, .int (x3 + 6))] [] h387 Q) ∧ (¬ y385 = y389 → Q (.int 0) h387)) v388)))) v384)))) ∧ True) ∧ ((Int32.toInt ((d.2.2.2.2.2 (Int32.toNatClampNeg x3)) &&& 63) < 0 ∨ 38 < Int32.toInt ((d.2.2.2.2.2 (Int32.toNatClampNeg x3)) &&& 63)) → jj_WP d mL_law bc bs 18 [(0, .float 0), (1, .ref r1), (2, .ref r2), (3, .int (x3 + 6))] [] h Q)))) : jj_WP d mL_law bc bs 18 [(0, .float 0), (1, .ref r1), (2, .ref r2), (3, .int x3)] [] h Q := j_iload_n dL_law_18 rfl 3 rfl (j_aload_nS dL_law_19 rfl 0 rfl (j_slen dL_law_20 (j_bipush (v := 6) dL_law_21 rfl (j_isub dL_law_23 (j_icmp_gt (tgt := 1404) dL_law_24 (by decide) (fun c1 => j_iconst (v := 1) dL_law_1404 rfl (j_ret (v := .int 1) ⟨dL_law_1405, _, rfl, by decide⟩ rfl ((H.1 c1)))) (fun c1 => j_aload_nS dL_law_27 rfl 0 rfl (j_iload_n dL_law_28 rfl 3 rfl (j_sld dL_law_29 (H.2 c1).1 (j_bipush (v := 63) dL_law_30 rfl (j_iand dL_law_32 (j_tsw [204, 267, 320, 353, 416, 460, 483, 517, 550, 584, 617, 660, 724, 767, 780, 803, 826, 849, 872, 885, 918, 941, 974, 987, 1000, 1043, 1067, 1090, 1113, 1136, 1159, 1172, 1195, 1229, 1273, 1306, 1329, 1352, 1375] 1398 dL_law_33 (by decide) (by decide) (by decide) (show jj_sw _ _ _ _ from ⟨fun c2 => j_aload_n dL_law_204 rfl 1 rfl (j_aload_nS dL_law_205 rfl 0 rfl (j_iload_n dL_law_206 rfl 3 rfl (j_iconst (v := 1) dL_law_207 rfl (j_iadd dL_law_208 (j_sld dL_law_209 ((H.2 c1).2.1.1 c2).1 (j_aload_nS dL_law_210 rfl 0 rfl (j_iload_n dL_law_211 rfl 3 rfl (j_iconst (v := 2) dL_law_212 rfl (j_iadd dL_law_213 (j_sld dL_law_214 ((H.2 c1).2.1.1 c2).2.1 (j_aload_nS dL_law_215 rfl 0 rfl (j_iload_n dL_law_216 rfl 3 rfl (j_iconst (v := 3) dL_law_217 rfl (j_iadd dL_law_218 (j_sld dL_law_219 ((H.2 c1).2.1.1 c2).2.2.1 (j_aload_nS dL_law_220 rfl 0 rfl (j_iload_n dL_law_221 rfl 3 rfl (j_iconst (v := 4) dL_law_222 rfl (j_iadd dL_law_223 (j_sld dL_law_224 ((H.2 c1).2.1.1 c2).2.2.2.1 (j_aload_nS dL_law_225 rfl 0 rfl (j_iload_n dL_law_226 rfl 3 rfl (j_iconst (v := 5) dL_law_227 rfl (j_iadd dL_law_228 (j_sld dL_law_229 ((H.2 c1).2.1.1 c2).2.2.2.2.1 (j_callV0 (as := [.int (d.2.2.2.2.2 (Int32.toNatClampNeg (x3 + 1))), .int (d.2.2.2.2.2 (Int32.toNatClampNeg (x3 + 2))), .int (d.2.2.2.2.2 (Int32.toNatClampNeg (x3 + 3))), .int (d.2.2.2.2.2 (Int32.toNatClampNeg (x3 + 4))), .int (d.2.2.2.2.2 (Int32.toNatClampNeg (x3 + 5)))]) cm_X9_put im_X9_put se_X9_put (ci := 9) rfl (by decide) ml_L_13 ⟨by decide, by decide⟩ dL_law_230 rfl rfl (Nat.le_of_ble_eq_true rfl) ((H.2 c1).2.1.1 c2).2.2.2.2.2.1 (jj_C.mono ((H.2 c1).2.1.1 c2).2.2.2.2.2.2 (fun v4 h3 H6 => jj_vi_e (fun y5 H6 => j_aload_n dL_law_233 rfl 2 rfl (j_aload_nS dL_law_234 rfl 0 rfl (j_iload_n dL_law_235 rfl 3 rfl (j_iconst (v := 1) dL_law_236 rfl (j_iadd dL_law_237 (j_sld dL_law_238 H6.1 (j_aload_nS dL_law_239 rfl 0 rfl (j_iload_n dL_law_240 rfl 3 rfl (j_iconst (v := 2) dL_law_241 rfl (j_iadd dL_law_242 (j_sld dL_law_243 H6.2.1 (j_aload_nS dL_law_244 rfl 0 rfl (j_iload_n dL_law_245 rfl 3 rfl (j_iconst (v := 3) dL_law_246 rfl (j_iadd dL_law_247 (j_sld dL_law_248 H6.2.2.1 (j_aload_nS dL_law_249 rfl 0 rfl (j_iload_n dL_law_250 rfl 3 rfl (j_iconst (v := 4) dL_law_251 rfl (j_iadd dL_law_252 (j_sld dL_law_253 H6.2.2.2.1 (j_aload_nS dL_law_254 rfl 0 rfl (j_iload_n dL_law_255 rfl 3 rfl (j_iconst (v := 5) dL_law_256 rfl (j_iadd dL_law_257 (j_sld dL_law_258 H6.2.2.2.2.1 (j_callV0 (as := [.int (d.2.2.2.2.2 (Int32.toNatClampNeg (x3 + 1))), .int (d.2.2.2.2.2 (Int32.toNatClampNeg (x3 + 2))), .int (d.2.2.2.2.2 (Int32.toNatClampNeg (x3 + 3))), .int (d.2.2.2.2.2 (Int32.toNatClampNeg (x3 + 4))), .int (d.2.2.2.2.2 (Int32.toNatClampNeg (x3 + 5)))]) cm_X10_put im_X10_put se_X10_put (ci := 10) rfl (by decide) ml_L_17 ⟨by decide, by decide⟩ dL_law_259 rfl rfl (Nat.le_of_ble_eq_true rfl) H6.2.2.2.2.2.1 (jj_C.mono H6.2.2.2.2.2.2 (fun v8 h7 H10 => jj_vi_e (fun y9 H10 => j_icmp_eq (tgt := 1398) dL_law_262 (by decide) (fun c11 => j_iinc (v := (x3 + 6)) (L' := [(3, .int (x3 + 6)), (0, .float 0), (1, .ref r1), (2, .ref r2)]) dL_law_1398 3 rfl rfl (by decide) rfl (j_goto (tgt := 18) dL_law_1401 (by decide) (j_sub [1, 2, 3, 0] rfl ((H10.1 c11))))) (fun c11 => j_iconst (v := 0) dL_law_265 rfl (j_ret (v := .int 0) ⟨dL_law_266, _, rfl, by decide⟩ rfl ((H10.2 c11))))) H10))))))))))))))))))))))))))))) H6)))))))))))))))))))))))))))), fun c12 => j_aload_n dL_law_267 rfl 1 rfl (j_aload_nS dL_law_268 rfl 0 rfl (j_iload_n dL_law_269 rfl 3 rfl (j_iconst (v := 1) dL_law_270 rfl (j_iadd dL_law_271 (j_sld dL_law_272 ((H.2 c1).2.1.2.1 c12).1 (j_aload_nS dL_law_273 rfl 0 rfl (j_iload_n dL_law_274 rfl 3 rfl (j_iconst (v := 2) dL_law_275 rfl (j_iadd dL_law_276 (j_sld dL_law_277 ((H.2 c1).2.1.2.1 c12).2.1 (j_aload_nS dL_law_278 rfl 0 rfl (j_iload_n dL_law_279 rfl 3 rfl (j_iconst (v := 3) dL_law_280 rfl (j_iadd dL_law_281 (j_sld dL_law_282 ((H.2 c1).2.1.2.1 c12).2.2.1 (j_aload_nS dL_law_283 rfl 0 rfl (j_iload_n dL_law_284 rfl 3 rfl (j_iconst (v := 4) dL_law_285 rfl (j_iadd dL_law_286 (j_sld dL_law_287 ((H.2 c1).2.1.2.1 c12).2.2.2.1 (j_callV0 (as := [.int (d.2.2.2.2.2 (Int32.toNatClampNeg (x3 + 1))), .int (d.2.2.2.2.2 (Int32.toNatClampNeg (x3 + 2))), .int (d.2.2.2.2.2 (Int32.toNatClampNeg (x3 + 3))), .int (d.2.2.2.2.2 (Int32.toNatClampNeg (x3 + 4)))]) cm_X9_cell im_X9_cell se_X9_cell (ci := 9) rfl (by decide) ml_L_18 ⟨by decide, by decide⟩ dL_law_288 rfl rfl (Nat.le_of_ble_eq_true rfl) ((H.2 c1).2.1.2.1 c12).2.2.2.2.1 (jj_C.mono ((H.2 c1).2.1.2.1 c12).2.2.2.2.2 (fun v14 h13 H16 => jj_vi_e (fun y15 H16 => j_aload_n dL_law_291 rfl 2 rfl (j_aload_nS dL_law_292 rfl 0 rfl (j_iload_n dL_law_293 rfl 3 rfl (j_iconst (v := 1) dL_law_294 rfl (j_iadd dL_law_295 (j_sld dL_law_296 H16.1 (j_aload_nS dL_law_297 rfl 0 rfl (j_iload_n dL_law_298 rfl 3 rfl (j_iconst (v := 2) dL_law_299 rfl (j_iadd dL_law_300 (j_sld dL_law_301 H16.2.1 (j_aload_nS dL_law_302 rfl 0 rfl (j_iload_n dL_law_303 rfl 3 rfl (j_iconst (v := 3) dL_law_304 rfl (j_iadd dL_law_305 (j_sld dL_law_306 H16.2.2.1 (j_aload_nS dL_law_307 rfl 0 rfl (j_iload_n dL_law_308 rfl 3 rfl (j_iconst (v := 4) dL_law_309 rfl (j_iadd dL_law_310 (j_sld dL_law_311 H16.2.2.2.1 (j_callV0 (as := [.int (d.2.2.2.2.2 (Int32.toNatClampNeg (x3 + 1))), .int (d.2.2.2.2.2 (Int32.toNatClampNeg (x3 + 2))), .int (d.2.2.2.2.2 (Int32.toNatClampNeg (x3 + 3))), .int (d.2.2.2.2.2 (Int32.toNatClampNeg (x3 + 4)))]) cm_X10_cell im_X10_cell se_X10_cell (ci := 10) rfl (by decide) ml_L_22 ⟨by decide, by decide⟩ dL_law_312 rfl rfl (Nat.le_of_ble_eq_true rfl) H16.2.2.2.2.1 (jj_C.mono H16.2.2.2.2.2 (fun v18 h17 H20 => jj_vi_e (fun y19 H20 => j_icmp_eq (tgt := 1398) dL_law_315 (by decide) (fun c21 => j_iinc (v := (x3 + 6)) (L' := [(3, .int (x3 + 6)), (0, .float 0), (1, .ref r1), (2, .ref r2)]) dL_law_1398 3 rfl rfl (by decide) rfl (j_goto (tgt := 18) dL_law_1401 (by decide) (j_sub [1, 2, 3, 0] rfl ((H20.1 c21))))) (fun c21 => j_iconst (v := 0) dL_law_318 rfl (j_ret (v := .int 0) ⟨dL_law_319, _, rfl, by decide⟩ rfl ((H20.2 c21))))) H20)))))))))))))))))))))))) H16))))))))))))))))))))))), fun c22 => j_aload_n dL_law_320 rfl 1 rfl (j_aload_nS dL_law_321 rfl 0 rfl (j_iload_n dL_law_322 rfl 3 rfl (j_iconst (v := 1) dL_law_323 rfl (j_iadd dL_law_324 (j_sld dL_law_325 ((H.2 c1).2.1.2.2.1 c22).1 (j_aload_nS dL_law_326 rfl 0 rfl (j_iload_n dL_law_327 rfl 3 rfl (j_iconst (v := 2) dL_law_328 rfl (j_iadd dL_law_329 (j_sld dL_law_330 ((H.2 c1).2.1.2.2.1 c22).2.1 (j_callV0 (as := [.int (d.2.2.2.2.2 (Int32.toNatClampNeg (x3 + 1))), .int (d.2.2.2.2.2 (Int32.toNatClampNeg (x3 + 2)))]) cm_X9_drop im_X9_drop se_X9_drop (ci := 9) rfl (by decide) ml_L_23 ⟨by decide, by decide⟩ dL_law_331 rfl rfl (Nat.le_of_ble_eq_true rfl) ((H.2 c1).2.1.2.2.1 c22).2.2.1 (jj_C.mono ((H.2 c1).2.1.2.2.1 c22).2.2.2 (fun v24 h23 H26 => jj_vi_e (fun y25 H26 => j_aload_n dL_law_334 rfl 2 rfl (j_aload_nS dL_law_335 rfl 0 rfl (j_iload_n dL_law_336 rfl 3 rfl (j_iconst (v := 1) dL_law_337 rfl (j_iadd dL_law_338 (j_sld dL_law_339 H26.1 (j_aload_nS dL_law_340 rfl 0 rfl (j_iload_n dL_law_341 rfl 3 rfl (j_iconst (v := 2) dL_law_342 rfl (j_iadd dL_law_343 (j_sld dL_law_344 H26.2.1 (j_callV0 (as := [.int (d.2.2.2.2.2 (Int32.toNatClampNeg (x3 + 1))), .int (d.2.2.2.2.2 (Int32.toNatClampNeg (x3 + 2)))]) cm_X10_drop im_X10_drop se_X10_drop (ci := 10) rfl (by decide) ml_L_27 ⟨by decide, by decide⟩ dL_law_345 rfl rfl (Nat.le_of_ble_eq_true rfl) H26.2.2.1 (jj_C.mono H26.2.2.2 (fun v28 h27 H30 => jj_vi_e (fun y29 H30 => j_icmp_eq (tgt := 1398) dL_law_348 (by decide) (fun c31 => j_iinc (v := (x3 + 6)) (L' := [(3, .int (x3 + 6)), (0, .float 0), (1, .ref r1), (2, .ref r2)]) dL_law_1398 3 rfl rfl (by decide) rfl (j_goto (tgt := 18) dL_law_1401 (by decide) (j_sub [1, 2, 3, 0] rfl ((H30.1 c31))))) (fun c31 => j_iconst (v := 0) dL_law_351 rfl (j_ret (v := .int 0) ⟨dL_law_352, _, rfl, by decide⟩ rfl ((H30.2 c31))))) H30)))))))))))))) H26))))))))))))), fun c32 => j_aload_n dL_law_353 rfl 1 rfl (j_aload_nS dL_law_354 rfl 0 rfl (j_iload_n dL_law_355 rfl 3 rfl (j_iconst (v := 1) dL_law_356 rfl (j_iadd dL_law_357 (j_sld dL_law_358 ((H.2 c1).2.1.2.2.2.1 c32).1 (j_aload_nS dL_law_359 rfl 0 rfl (j_iload_n dL_law_360 rfl 3 rfl (j_iconst (v := 2) dL_law_361 rfl (j_iadd dL_law_362 (j_sld dL_law_363 ((H.2 c1).2.1.2.2.2.1 c32).2.1 (j_aload_nS dL_law_364 rfl 0 rfl (j_iload_n dL_law_365 rfl 3 rfl (j_iconst (v := 3) dL_law_366 rfl (j_iadd dL_law_367 (j_sld dL_law_368 ((H.2 c1).2.1.2.2.2.1 c32).2.2.1 (j_aload_nS dL_law_369 rfl 0 rfl (j_iload_n dL_law_370 rfl 3 rfl (j_iconst (v := 4) dL_law_371 rfl (j_iadd dL_law_372 (j_sld dL_law_373 ((H.2 c1).2.1.2.2.2.1 c32).2.2.2.1 (j_aload_nS dL_law_374 rfl 0 rfl (j_iload_n dL_law_375 rfl 3 rfl (j_iconst (v := 5) dL_law_376 rfl (j_iadd dL_law_377 (j_sld dL_law_378 ((H.2 c1).2.1.2.2.2.1 c32).2.2.2.2.1 (j_callV0 (as := [.int (d.2.2.2.2.2 (Int32.toNatClampNeg (x3 + 1))), .int (d.2.2.2.2.2 (Int32.toNatClampNeg (x3 + 2))), .int (d.2.2.2.2.2 (Int32.toNatClampNeg (x3 + 3))), .int (d.2.2.2.2.2 (Int32.toNatClampNeg (x3 + 4))), .int (d.2.2.2.2.2 (Int32.toNatClampNeg (x3 + 5)))]) cm_X9_fill im_X9_fill se_X9_fill (ci := 9) rfl (by decide) ml_L_28 ⟨by decide, by decide⟩ dL_law_379 rfl rfl (Nat.le_of_ble_eq_true rfl) ((H.2 c1).2.1.2.2.2.1 c32).2.2.2.2.2.1 (jj_C.mono ((H.2 c1).2.1.2.2.2.1 c32).2.2.2.2.2.2 (fun v34 h33 H36 => jj_vi_e (fun y35 H36 => j_aload_n dL_law_382 rfl 2 rfl (j_aload_nS dL_law_383 rfl 0 rfl (j_iload_n dL_law_384 rfl 3 rfl (j_iconst (v := 1) dL_law_385 rfl (j_iadd dL_law_386 (j_sld dL_law_387 H36.1 (j_aload_nS dL_law_388 rfl 0 rfl (j_iload_n dL_law_389 rfl 3 rfl (j_iconst (v := 2) dL_law_390 rfl (j_iadd dL_law_391 (j_sld dL_law_392 H36.2.1 (j_aload_nS dL_law_393 rfl 0 rfl (j_iload_n dL_law_394 rfl 3 rfl (j_iconst (v := 3) dL_law_395 rfl (j_iadd dL_law_396 (j_sld dL_law_397 H36.2.2.1 (j_aload_nS dL_law_398 rfl 0 rfl (j_iload_n dL_law_399 rfl 3 rfl (j_iconst (v := 4) dL_law_400 rfl (j_iadd dL_law_401 (j_sld dL_law_402 H36.2.2.2.1 (j_aload_nS dL_law_403 rfl 0 rfl (j_iload_n dL_law_404 rfl 3 rfl (j_iconst (v := 5) dL_law_405 rfl (j_iadd dL_law_406 (j_sld dL_law_407 H36.2.2.2.2.1 (j_callV0 (as := [.int (d.2.2.2.2.2 (Int32.toNatClampNeg (x3 + 1))), .int (d.2.2.2.2.2 (Int32.toNatClampNeg (x3 + 2))), .int (d.2.2.2.2.2 (Int32.toNatClampNeg (x3 + 3))), .int (d.2.2.2.2.2 (Int32.toNatClampNeg (x3 + 4))), .int (d.2.2.2.2.2 (Int32.toNatClampNeg (x3 + 5)))]) cm_X10_fill im_X10_fill se_X10_fill (ci := 10) rfl (by decide) ml_L_31 ⟨by decide, by decide⟩ dL_law_408 rfl rfl (Nat.le_of_ble_eq_true rfl) H36.2.2.2.2.2.1 (jj_C.mono H36.2.2.2.2.2.2 (fun v38 h37 H40 => jj_vi_e (fun y39 H40 => j_icmp_eq (tgt := 1398) dL_law_411 (by decide) (fun c41 => j_iinc (v := (x3 + 6)) (L' := [(3, .int (x3 + 6)), (0, .float 0), (1, .ref r1), (2, .ref r2)]) dL_law_1398 3 rfl rfl (by decide) rfl (j_goto (tgt := 18) dL_law_1401 (by decide) (j_sub [1, 2, 3, 0] rfl ((H40.1 c41))))) (fun c41 => j_iconst (v := 0) dL_law_414 rfl (j_ret (v := .int 0) ⟨dL_law_415, _, rfl, by decide⟩ rfl ((H40.2 c41))))) H40))))))))))))))))))))))))))))) H36)))))))))))))))))))))))))))), fun c42 => j_aload_n dL_law_416 rfl 1 rfl (j_aload_nS dL_law_417 rfl 0 rfl (j_iload_n dL_law_418 rfl 3 rfl (j_iconst (v := 1) dL_law_419 rfl (j_iadd dL_law_420 (j_sld dL_law_421 ((H.2 c1).2.1.2.2.2.2.1 c42).1 (j_aload_nS dL_law_422 rfl 0 rfl (j_iload_n dL_law_423 rfl 3 rfl (j_iconst (v := 2) dL_law_424 rfl (j_iadd dL_law_425 (j_sld dL_law_426 ((H.2 c1).2.1.2.2.2.2.1 c42).2.1 (j_aload_nS dL_law_427 rfl 0 rfl (j_iload_n dL_law_428 rfl 3 rfl (j_iconst (v := 3) dL_law_429 rfl (j_iadd dL_law_430 (j_sld dL_law_431 ((H.2 c1).2.1.2.2.2.2.1 c42).2.2.1 (j_callV0 (as := [.int (d.2.2.2.2.2 (Int32.toNatClampNeg (x3 + 1))), .int (d.2.2.2.2.2 (Int32.toNatClampNeg (x3 + 2))), .int (d.2.2.2.2.2 (Int32.toNatClampNeg (x3 + 3)))]) cm_X9_get im_X9_get se_X9_get (ci := 9) rfl (by decide) ml_L_32 ⟨by decide, by decide⟩ dL_law_432 rfl rfl (Nat.le_of_ble_eq_true rfl) ((H.2 c1).2.1.2.2.2.2.1 c42).2.2.2.1 (jj_C.mono ((H.2 c1).2.1.2.2.2.2.1 c42).2.2.2.2 (fun v44 h43 H46 => jj_vj_e (fun k45 H46 => j_aload_n dL_law_435 rfl 2 rfl (j_aload_nS dL_law_436 rfl 0 rfl (j_iload_n dL_law_437 rfl 3 rfl (j_iconst (v := 1) dL_law_438 rfl (j_iadd dL_law_439 (j_sld dL_law_440 H46.1 (j_aload_nS dL_law_441 rfl 0 rfl (j_iload_n dL_law_442 rfl 3 rfl (j_iconst (v := 2) dL_law_443 rfl (j_iadd dL_law_444 (j_sld dL_law_445 H46.2.1 (j_aload_nS dL_law_446 rfl 0 rfl (j_iload_n dL_law_447 rfl 3 rfl (j_iconst (v := 3) dL_law_448 rfl (j_iadd dL_law_449 (j_sld dL_law_450 H46.2.2.1 (j_callV0 (as := [.int (d.2.2.2.2.2 (Int32.toNatClampNeg (x3 + 1))), .int (d.2.2.2.2.2 (Int32.toNatClampNeg (x3 + 2))), .int (d.2.2.2.2.2 (Int32.toNatClampNeg (x3 + 3)))]) cm_X10_get im_X10_get se_X10_get (ci := 10) rfl (by decide) ml_L_36 ⟨by decide, by decide⟩ dL_law_451 rfl rfl (Nat.le_of_ble_eq_true rfl) H46.2.2.2.1 (jj_C.mono H46.2.2.2.2 (fun v48 h47 H50 => jj_vj_e (fun k49 H50 => j_lcmp dL_law_454 (j_if_eq (tgt := 1398) dL_law_455 (by decide) (fun c51 => j_iinc (v := (x3 + 6)) (L' := [(3, .int (x3 + 6)), (0, .float 0), (1, .ref r1), (2, .ref r2)]) dL_law_1398 3 rfl rfl (by decide) rfl (j_goto (tgt := 18) dL_law_1401 (by decide) (j_sub [1, 2, 3, 0] rfl ((H50.1 ((lg_cmp_eq _ _).mp c51)))))) (fun c51 => j_iconst (v := 0) dL_law_458 rfl (j_ret (v := .int 0) ⟨dL_law_459, _, rfl, by decide⟩ rfl ((H50.2 (fun z => c51 ((lg_cmp_eq _ _).mpr z)))))))) H50))))))))))))))))))) H46)))))))))))))))))), fun c52 => j_aload_n dL_law_460 rfl 1 rfl (j_aload_nS dL_law_461 rfl 0 rfl (j_iload_n dL_law_462 rfl 3 rfl (j_iconst (v := 1) dL_law_463 rfl (j_iadd dL_law_464 (j_sld dL_law_465 ((H.2 c1).2.1.2.2.2.2.2.1 c52).1 (j_callV0 (as := [.int (d.2.2.2.2.2 (Int32.toNatClampNeg (x3 + 1)))]) cm_X9_size im_X9_size se_X9_size (ci := 9) rfl (by decide) ml_L_37 ⟨by decide, by decide⟩ dL_law_466 rfl rfl (Nat.le_of_ble_eq_true rfl) ((H.2 c1).2.1.2.2.2.2.2.1 c52).2.1 (jj_C.mono ((H.2 c1).2.1.2.2.2.2.2.1 c52).2.2 (fun v54 h53 H56 => jj_vi_e (fun y55 H56 => j_aload_n dL_law_469 rfl 2 rfl (j_aload_nS dL_law_470 rfl 0 rfl (j_iload_n dL_law_471 rfl 3 rfl (j_iconst (v := 1) dL_law_472 rfl (j_iadd dL_law_473 (j_sld dL_law_474 H56.1 (j_callV0 (as := [.int (d.2.2.2.2.2 (Int32.toNatClampNeg (x3 + 1)))]) cm_X10_size im_X10_size se_X10_size (ci := 10) rfl (by decide) ml_L_41 ⟨by decide, by decide⟩ dL_law_475 rfl rfl (Nat.le_of_ble_eq_true rfl) H56.2.1 (jj_C.mono H56.2.2 (fun v58 h57 H60 => jj_vi_e (fun y59 H60 => j_icmp_eq (tgt := 1398) dL_law_478 (by decide) (fun c61 => j_iinc (v := (x3 + 6)) (L' := [(3, .int (x3 + 6)), (0, .float 0), (1, .ref r1), (2, .ref r2)]) dL_law_1398 3 rfl rfl (by decide) rfl (j_goto (tgt := 18) dL_law_1401 (by decide) (j_sub [1, 2, 3, 0] rfl ((H60.1 c61))))) (fun c61 => j_iconst (v := 0) dL_law_481 rfl (j_ret (v := .int 0) ⟨dL_law_482, _, rfl, by decide⟩ rfl ((H60.2 c61))))) H60))))))))) H56)))))))), fun c62 => j_aload_n dL_law_483 rfl 1 rfl (j_aload_nS dL_law_484 rfl 0 rfl (j_iload_n dL_law_485 rfl 3 rfl (j_iconst (v := 1) dL_law_486 rfl (j_iadd dL_law_487 (j_sld dL_law_488 ((H.2 c1).2.1.2.2.2.2.2.2.1 c62).1 (j_aload_nS dL_law_489 rfl 0 rfl (j_iload_n dL_law_490 rfl 3 rfl (j_iconst (v := 2) dL_law_491 rfl (j_iadd dL_law_492 (j_sld dL_law_493 ((H.2 c1).2.1.2.2.2.2.2.2.1 c62).2.1 (j_callV0 (as := [.int (d.2.2.2.2.2 (Int32.toNatClampNeg (x3 + 1))), .int (d.2.2.2.2.2 (Int32.toNatClampNeg (x3 + 2)))]) cm_X9_kth im_X9_kth se_X9_kth (ci := 9) rfl (by decide) ml_L_42 ⟨by decide, by decide⟩ dL_law_494 rfl rfl (Nat.le_of_ble_eq_true rfl) ((H.2 c1).2.1.2.2.2.2.2.2.1 c62).2.2.1 (jj_C.mono ((H.2 c1).2.1.2.2.2.2.2.2.1 c62).2.2.2 (fun v64 h63 H66 => jj_vj_e (fun k65 H66 => j_aload_n dL_law_497 rfl 2 rfl (j_aload_nS dL_law_498 rfl 0 rfl (j_iload_n dL_law_499 rfl 3 rfl (j_iconst (v := 1) dL_law_500 rfl (j_iadd dL_law_501 (j_sld dL_law_502 H66.1 (j_aload_nS dL_law_503 rfl 0 rfl (j_iload_n dL_law_504 rfl 3 rfl (j_iconst (v := 2) dL_law_505 rfl (j_iadd dL_law_506 (j_sld dL_law_507 H66.2.1 (j_callV0 (as := [.int (d.2.2.2.2.2 (Int32.toNatClampNeg (x3 + 1))), .int (d.2.2.2.2.2 (Int32.toNatClampNeg (x3 + 2)))]) cm_X10_kth im_X10_kth se_X10_kth (ci := 10) rfl (by decide) ml_L_46 ⟨by decide, by decide⟩ dL_law_508 rfl rfl (Nat.le_of_ble_eq_true rfl) H66.2.2.1 (jj_C.mono H66.2.2.2 (fun v68 h67 H70 => jj_vj_e (fun k69 H70 => j_lcmp dL_law_511 (j_if_eq (tgt := 1398) dL_law_512 (by decide) (fun c71 => j_iinc (v := (x3 + 6)) (L' := [(3, .int (x3 + 6)), (0, .float 0), (1, .ref r1), (2, .ref r2)]) dL_law_1398 3 rfl rfl (by decide) rfl (j_goto (tgt := 18) dL_law_1401 (by decide) (j_sub [1, 2, 3, 0] rfl ((H70.1 ((lg_cmp_eq _ _).mp c71)))))) (fun c71 => j_iconst (v := 0) dL_law_515 rfl (j_ret (v := .int 0) ⟨dL_law_516, _, rfl, by decide⟩ rfl ((H70.2 (fun z => c71 ((lg_cmp_eq _ _).mpr z)))))))) H70)))))))))))))) H66))))))))))))), fun c72 => j_aload_n dL_law_517 rfl 1 rfl (j_aload_nS dL_law_518 rfl 0 rfl (j_iload_n dL_law_519 rfl 3 rfl (j_iconst (v := 1) dL_law_520 rfl (j_iadd dL_law_521 (j_sld dL_law_522 ((H.2 c1).2.1.2.2.2.2.2.2.2.1 c72).1 (j_aload_nS dL_law_523 rfl 0 rfl (j_iload_n dL_law_524 rfl 3 rfl (j_iconst (v := 2) dL_law_525 rfl (j_iadd dL_law_526 (j_sld dL_law_527 ((H.2 c1).2.1.2.2.2.2.2.2.2.1 c72).2.1 (j_callV0 (as := [.int (d.2.2.2.2.2 (Int32.toNatClampNeg (x3 + 1))), .int (d.2.2.2.2.2 (Int32.toNatClampNeg (x3 + 2)))]) cm_X9_rank im_X9_rank se_X9_rank (ci := 9) rfl (by decide) ml_L_47 ⟨by decide, by decide⟩ dL_law_528 rfl rfl (Nat.le_of_ble_eq_true rfl) ((H.2 c1).2.1.2.2.2.2.2.2.2.1 c72).2.2.1 (jj_C.mono ((H.2 c1).2.1.2.2.2.2.2.2.2.1 c72).2.2.2 (fun v74 h73 H76 => jj_vi_e (fun y75 H76 => j_aload_n dL_law_531 rfl 2 rfl (j_aload_nS dL_law_532 rfl 0 rfl (j_iload_n dL_law_533 rfl 3 rfl (j_iconst (v := 1) dL_law_534 rfl (j_iadd dL_law_535 (j_sld dL_law_536 H76.1 (j_aload_nS dL_law_537 rfl 0 rfl (j_iload_n dL_law_538 rfl 3 rfl (j_iconst (v := 2) dL_law_539 rfl (j_iadd dL_law_540 (j_sld dL_law_541 H76.2.1 (j_callV0 (as := [.int (d.2.2.2.2.2 (Int32.toNatClampNeg (x3 + 1))), .int (d.2.2.2.2.2 (Int32.toNatClampNeg (x3 + 2)))]) cm_X10_rank im_X10_rank se_X10_rank (ci := 10) rfl (by decide) ml_L_50 ⟨by decide, by decide⟩ dL_law_542 rfl rfl (Nat.le_of_ble_eq_true rfl) H76.2.2.1 (jj_C.mono H76.2.2.2 (fun v78 h77 H80 => jj_vi_e (fun y79 H80 => j_icmp_eq (tgt := 1398) dL_law_545 (by decide) (fun c81 => j_iinc (v := (x3 + 6)) (L' := [(3, .int (x3 + 6)), (0, .float 0), (1, .ref r1), (2, .ref r2)]) dL_law_1398 3 rfl rfl (by decide) rfl (j_goto (tgt := 18) dL_law_1401 (by decide) (j_sub [1, 2, 3, 0] rfl ((H80.1 c81))))) (fun c81 => j_iconst (v := 0) dL_law_548 rfl (j_ret (v := .int 0) ⟨dL_law_549, _, rfl, by decide⟩ rfl ((H80.2 c81))))) H80)))))))))))))) H76))))))))))))), fun c82 => j_aload_n dL_law_550 rfl 1 rfl (j_aload_nS dL_law_551 rfl 0 rfl (j_iload_n dL_law_552 rfl 3 rfl (j_iconst (v := 1) dL_law_553 rfl (j_iadd dL_law_554 (j_sld dL_law_555 ((H.2 c1).2.1.2.2.2.2.2.2.2.2.1 c82).1 (j_aload_nS dL_law_556 rfl 0 rfl (j_iload_n dL_law_557 rfl 3 rfl (j_iconst (v := 2) dL_law_558 rfl (j_iadd dL_law_559 (j_sld dL_law_560 ((H.2 c1).2.1.2.2.2.2.2.2.2.2.1 c82).2.1 (jj_bud (cj := 1616) (sj := 14544) ((H.2 c1).2.1.2.2.2.2.2.2.2.2.1 c82).2.2.2.1 ((H.2 c1).2.1.2.2.2.2.2.2.2.2.1 c82).2.2.2.2.1 (j_callV (cj := 1616) (sj := 14544) (bc := (bc - 1616)) (bs := (bs - 14544)) (as := [.int (d.2.2.2.2.2 (Int32.toNatClampNeg (x3 + 1))), .int (d.2.2.2.2.2 (Int32.toNatClampNeg (x3 + 2)))]) cm_X9_root im_X9_root se_X9_root (ci := 9) rfl (by decide) ml_L_51 ⟨by decide, by decide⟩ dL_law_561 rfl rfl (Nat.le_of_ble_eq_true rfl) ((H.2 c1).2.1.2.2.2.2.2.2.2.2.1 c82).2.2.1 (jj_C.mono ((H.2 c1).2.1.2.2.2.2.2.2.2.2.1 c82).2.2.2.2.2 (fun v84 h83 H86 => jj_vj_e (fun k85 H86 => j_aload_n dL_law_564 rfl 2 rfl (j_aload_nS dL_law_565 rfl 0 rfl (j_iload_n dL_law_566 rfl 3 rfl (j_iconst (v := 1) dL_law_567 rfl (j_iadd dL_law_568 (j_sld dL_law_569 H86.1 (j_aload_nS dL_law_570 rfl 0 rfl (j_iload_n dL_law_571 rfl 3 rfl (j_iconst (v := 2) dL_law_572 rfl (j_iadd dL_law_573 (j_sld dL_law_574 H86.2.1 (j_callV0 (as := [.int (d.2.2.2.2.2 (Int32.toNatClampNeg (x3 + 1))), .int (d.2.2.2.2.2 (Int32.toNatClampNeg (x3 + 2)))]) cm_X10_root im_X10_root se_X10_root (ci := 10) rfl (by decide) ml_L_54 ⟨by decide, by decide⟩ dL_law_575 rfl rfl (Nat.le_of_ble_eq_true rfl) H86.2.2.1 (jj_C.mono H86.2.2.2 (fun v88 h87 H90 => jj_vj_e (fun k89 H90 => j_lcmp dL_law_578 (j_if_eq (tgt := 1398) dL_law_579 (by decide) (fun c91 => j_iinc (v := (x3 + 6)) (L' := [(3, .int (x3 + 6)), (0, .float 0), (1, .ref r1), (2, .ref r2)]) dL_law_1398 3 rfl rfl (by decide) rfl (j_goto (tgt := 18) dL_law_1401 (by decide) (j_sub [1, 2, 3, 0] rfl ((H90.1 ((lg_cmp_eq _ _).mp c91)))))) (fun c91 => j_iconst (v := 0) dL_law_582 rfl (j_ret (v := .int 0) ⟨dL_law_583, _, rfl, by decide⟩ rfl ((H90.2 (fun z => c91 ((lg_cmp_eq _ _).mpr z)))))))) H90)))))))))))))) H86)))))))))))))), fun c92 => j_aload_n dL_law_584 rfl 1 rfl (j_aload_nS dL_law_585 rfl 0 rfl (j_iload_n dL_law_586 rfl 3 rfl (j_iconst (v := 1) dL_law_587 rfl (j_iadd dL_law_588 (j_sld dL_law_589 ((H.2 c1).2.1.2.2.2.2.2.2.2.2.2.1 c92).1 (j_aload_nS dL_law_590 rfl 0 rfl (j_iload_n dL_law_591 rfl 3 rfl (j_iconst (v := 2) dL_law_592 rfl (j_iadd dL_law_593 (j_sld dL_law_594 ((H.2 c1).2.1.2.2.2.2.2.2.2.2.2.1 c92).2.1 (jj_bud (cj := 1616) (sj := 14544) ((H.2 c1).2.1.2.2.2.2.2.2.2.2.2.1 c92).2.2.2.1 ((H.2 c1).2.1.2.2.2.2.2.2.2.2.2.1 c92).2.2.2.2.1 (j_callV (cj := 1616) (sj := 14544) (bc := (bc - 1616)) (bs := (bs - 14544)) (as := [.int (d.2.2.2.2.2 (Int32.toNatClampNeg (x3 + 1))), .int (d.2.2.2.2.2 (Int32.toNatClampNeg (x3 + 2)))]) cm_X9_height im_X9_height se_X9_height (ci := 9) rfl (by decide) ml_L_55 ⟨by decide, by decide⟩ dL_law_595 rfl rfl (Nat.le_of_ble_eq_true rfl) ((H.2 c1).2.1.2.2.2.2.2.2.2.2.2.1 c92).2.2.1 (jj_C.mono ((H.2 c1).2.1.2.2.2.2.2.2.2.2.2.1 c92).2.2.2.2.2 (fun v94 h93 H96 => jj_vi_e (fun y95 H96 => j_aload_n dL_law_598 rfl 2 rfl (j_aload_nS dL_law_599 rfl 0 rfl (j_iload_n dL_law_600 rfl 3 rfl (j_iconst (v := 1) dL_law_601 rfl (j_iadd dL_law_602 (j_sld dL_law_603 H96.1 (j_aload_nS dL_law_604 rfl 0 rfl (j_iload_n dL_law_605 rfl 3 rfl (j_iconst (v := 2) dL_law_606 rfl (j_iadd dL_law_607 (j_sld dL_law_608 H96.2.1 (j_callV0 (as := [.int (d.2.2.2.2.2 (Int32.toNatClampNeg (x3 + 1))), .int (d.2.2.2.2.2 (Int32.toNatClampNeg (x3 + 2)))]) cm_X10_height im_X10_height se_X10_height (ci := 10) rfl (by decide) ml_L_58 ⟨by decide, by decide⟩ dL_law_609 rfl rfl (Nat.le_of_ble_eq_true rfl) H96.2.2.1 (jj_C.mono H96.2.2.2 (fun v98 h97 H100 => jj_vi_e (fun y99 H100 => j_icmp_eq (tgt := 1398) dL_law_612 (by decide) (fun c101 => j_iinc (v := (x3 + 6)) (L' := [(3, .int (x3 + 6)), (0, .float 0), (1, .ref r1), (2, .ref r2)]) dL_law_1398 3 rfl rfl (by decide) rfl (j_goto (tgt := 18) dL_law_1401 (by decide) (j_sub [1, 2, 3, 0] rfl ((H100.1 c101))))) (fun c101 => j_iconst (v := 0) dL_law_615 rfl (j_ret (v := .int 0) ⟨dL_law_616, _, rfl, by decide⟩ rfl ((H100.2 c101))))) H100)))))))))))))) H96)))))))))))))), fun c102 => j_aload_n dL_law_617 rfl 1 rfl (j_aload_nS dL_law_618 rfl 0 rfl (j_iload_n dL_law_619 rfl 3 rfl (j_iconst (v := 1) dL_law_620 rfl (j_iadd dL_law_621 (j_sld dL_law_622 ((H.2 c1).2.1.2.2.2.2.2.2.2.2.2.2.1 c102).1 (j_aload_nS dL_law_623 rfl 0 rfl (j_iload_n dL_law_624 rfl 3 rfl (j_iconst (v := 2) dL_law_625 rfl (j_iadd dL_law_626 (j_sld dL_law_627 ((H.2 c1).2.1.2.2.2.2.2.2.2.2.2.2.1 c102).2.1 (j_aload_nS dL_law_628 rfl 0 rfl (j_iload_n dL_law_629 rfl 3 rfl (j_iconst (v := 3) dL_law_630 rfl (j_iadd dL_law_631 (j_sld dL_law_632 ((H.2 c1).2.1.2.2.2.2.2.2.2.2.2.2.1 c102).2.2.1 (jj_bud (cj := 1616) (sj := 14544) ((H.2 c1).2.1.2.2.2.2.2.2.2.2.2.2.1 c102).2.2.2.2.1 ((H.2 c1).2.1.2.2.2.2.2.2.2.2.2.2.1 c102).2.2.2.2.2.1 (j_callV (cj := 1616) (sj := 14544) (bc := (bc - 1616)) (bs := (bs - 14544)) (as := [.int (d.2.2.2.2.2 (Int32.toNatClampNeg (x3 + 1))), .int (d.2.2.2.2.2 (Int32.toNatClampNeg (x3 + 2))), .int (d.2.2.2.2.2 (Int32.toNatClampNeg (x3 + 3)))]) cm_X9_nodes im_X9_nodes se_X9_nodes (ci := 9) rfl (by decide) ml_L_59 ⟨by decide, by decide⟩ dL_law_633 rfl rfl (Nat.le_of_ble_eq_true rfl) ((H.2 c1).2.1.2.2.2.2.2.2.2.2.2.2.1 c102).2.2.2.1 (jj_C.mono ((H.2 c1).2.1.2.2.2.2.2.2.2.2.2.2.1 c102).2.2.2.2.2.2 (fun v104 h103 H106 => jj_vi_e (fun y105 H106 => j_aload_n dL_law_636 rfl 2 rfl (j_aload_nS dL_law_637 rfl 0 rfl (j_iload_n dL_law_638 rfl 3 rfl (j_iconst (v := 1) dL_law_639 rfl (j_iadd dL_law_640 (j_sld dL_law_641 H106.1 (j_aload_nS dL_law_642 rfl 0 rfl (j_iload_n dL_law_643 rfl 3 rfl (j_iconst (v := 2) dL_law_644 rfl (j_iadd dL_law_645 (j_sld dL_law_646 H106.2.1 (j_aload_nS dL_law_647 rfl 0 rfl (j_iload_n dL_law_648 rfl 3 rfl (j_iconst (v := 3) dL_law_649 rfl (j_iadd dL_law_650 (j_sld dL_law_651 H106.2.2.1 (j_callV0 (as := [.int (d.2.2.2.2.2 (Int32.toNatClampNeg (x3 + 1))), .int (d.2.2.2.2.2 (Int32.toNatClampNeg (x3 + 2))), .int (d.2.2.2.2.2 (Int32.toNatClampNeg (x3 + 3)))]) cm_X10_nodes im_X10_nodes se_X10_nodes (ci := 10) rfl (by decide) ml_L_63 ⟨by decide, by decide⟩ dL_law_652 rfl rfl (Nat.le_of_ble_eq_true rfl) H106.2.2.2.1 (jj_C.mono H106.2.2.2.2 (fun v108 h107 H110 => jj_vi_e (fun y109 H110 => j_icmp_eq (tgt := 1398) dL_law_655 (by decide) (fun c111 => j_iinc (v := (x3 + 6)) (L' := [(3, .int (x3 + 6)), (0, .float 0), (1, .ref r1), (2, .ref r2)]) dL_law_1398 3 rfl rfl (by decide) rfl (j_goto (tgt := 18) dL_law_1401 (by decide) (j_sub [1, 2, 3, 0] rfl ((H110.1 c111))))) (fun c111 => j_iconst (v := 0) dL_law_658 rfl (j_ret (v := .int 0) ⟨dL_law_659, _, rfl, by decide⟩ rfl ((H110.2 c111))))) H110))))))))))))))))))) H106))))))))))))))))))), fun c112 => j_aload_n dL_law_660 rfl 1 rfl (j_aload_nS dL_law_661 rfl 0 rfl (j_iload_n dL_law_662 rfl 3 rfl (j_iconst (v := 1) dL_law_663 rfl (j_iadd dL_law_664 (j_sld dL_law_665 ((H.2 c1).2.1.2.2.2.2.2.2.2.2.2.2.2.1 c112).1 (j_aload_nS dL_law_666 rfl 0 rfl (j_iload_n dL_law_667 rfl 3 rfl (j_iconst (v := 2) dL_law_668 rfl (j_iadd dL_law_669 (j_sld dL_law_670 ((H.2 c1).2.1.2.2.2.2.2.2.2.2.2.2.2.1 c112).2.1 (j_aload_nS dL_law_671 rfl 0 rfl (j_iload_n dL_law_672 rfl 3 rfl (j_iconst (v := 3) dL_law_673 rfl (j_iadd dL_law_674 (j_sld dL_law_675 ((H.2 c1).2.1.2.2.2.2.2.2.2.2.2.2.2.1 c112).2.2.1 (j_aload_nS dL_law_676 rfl 0 rfl (j_iload_n dL_law_677 rfl 3 rfl (j_iconst (v := 4) dL_law_678 rfl (j_iadd dL_law_679 (j_sld dL_law_680 ((H.2 c1).2.1.2.2.2.2.2.2.2.2.2.2.2.1 c112).2.2.2.1 (j_aload_nS dL_law_681 rfl 0 rfl (j_iload_n dL_law_682 rfl 3 rfl (j_iconst (v := 5) dL_law_683 rfl (j_iadd dL_law_684 (j_sld dL_law_685 ((H.2 c1).2.1.2.2.2.2.2.2.2.2.2.2.2.1 c112).2.2.2.2.1 (jj_bud (cj := 1616) (sj := 14544) ((H.2 c1).2.1.2.2.2.2.2.2.2.2.2.2.2.1 c112).2.2.2.2.2.2.1 ((H.2 c1).2.1.2.2.2.2.2.2.2.2.2.2.2.1 c112).2.2.2.2.2.2.2.1 (j_callV (cj := 1616) (sj := 14544) (bc := (bc - 1616)) (bs := (bs - 14544)) (as := [.int (d.2.2.2.2.2 (Int32.toNatClampNeg (x3 + 1))), .int (d.2.2.2.2.2 (Int32.toNatClampNeg (x3 + 2))), .int (d.2.2.2.2.2 (Int32.toNatClampNeg (x3 + 3))), .int (d.2.2.2.2.2 (Int32.toNatClampNeg (x3 + 4))), .int (d.2.2.2.2.2 (Int32.toNatClampNeg (x3 + 5)))]) cm_X9_node im_X9_node se_X9_node (ci := 9) rfl (by decide) ml_L_64 ⟨by decide, by decide⟩ dL_law_686 rfl rfl (Nat.le_of_ble_eq_true rfl) ((H.2 c1).2.1.2.2.2.2.2.2.2.2.2.2.2.1 c112).2.2.2.2.2.1 (jj_C.mono ((H.2 c1).2.1.2.2.2.2.2.2.2.2.2.2.2.1 c112).2.2.2.2.2.2.2.2 (fun v114 h113 H116 => jj_vj_e (fun k115 H116 => j_aload_n dL_law_689 rfl 2 rfl (j_aload_nS dL_law_690 rfl 0 rfl (j_iload_n dL_law_691 rfl 3 rfl (j_iconst (v := 1) dL_law_692 rfl (j_iadd dL_law_693 (j_sld dL_law_694 H116.1 (j_aload_nS dL_law_695 rfl 0 rfl (j_iload_n dL_law_696 rfl 3 rfl (j_iconst (v := 2) dL_law_697 rfl (j_iadd dL_law_698 (j_sld dL_law_699 H116.2.1 (j_aload_nS dL_law_700 rfl 0 rfl (j_iload_n dL_law_701 rfl 3 rfl (j_iconst (v := 3) dL_law_702 rfl (j_iadd dL_law_703 (j_sld dL_law_704 H116.2.2.1 (j_aload_nS dL_law_705 rfl 0 rfl (j_iload_n dL_law_706 rfl 3 rfl (j_iconst (v := 4) dL_law_707 rfl (j_iadd dL_law_708 (j_sld dL_law_709 H116.2.2.2.1 (j_aload_nS dL_law_710 rfl 0 rfl (j_iload_n dL_law_711 rfl 3 rfl (j_iconst (v := 5) dL_law_712 rfl (j_iadd dL_law_713 (j_sld dL_law_714 H116.2.2.2.2.1 (j_callV0 (as := [.int (d.2.2.2.2.2 (Int32.toNatClampNeg (x3 + 1))), .int (d.2.2.2.2.2 (Int32.toNatClampNeg (x3 + 2))), .int (d.2.2.2.2.2 (Int32.toNatClampNeg (x3 + 3))), .int (d.2.2.2.2.2 (Int32.toNatClampNeg (x3 + 4))), .int (d.2.2.2.2.2 (Int32.toNatClampNeg (x3 + 5)))]) cm_X10_node_ im_X10_node_ se_X10_node_ (ci := 10) rfl (by decide) ml_L_68 ⟨by decide, by decide⟩ dL_law_715 rfl rfl (Nat.le_of_ble_eq_true rfl) H116.2.2.2.2.2.1 (jj_C.mono H116.2.2.2.2.2.2 (fun v118 h117 H120 => jj_vj_e (fun k119 H120 => j_lcmp dL_law_718 (j_if_eq (tgt := 1398) dL_law_719 (by decide) (fun c121 => j_iinc (v := (x3 + 6)) (L' := [(3, .int (x3 + 6)), (0, .float 0), (1, .ref r1), (2, .ref r2)]) dL_law_1398 3 rfl rfl (by decide) rfl (j_goto (tgt := 18) dL_law_1401 (by decide) (j_sub [1, 2, 3, 0] rfl ((H120.1 ((lg_cmp_eq _ _).mp c121)))))) (fun c121 => j_iconst (v := 0) dL_law_722 rfl (j_ret (v := .int 0) ⟨dL_law_723, _, rfl, by decide⟩ rfl ((H120.2 (fun z => c121 ((lg_cmp_eq _ _).mpr z)))))))) H120))))))))))))))))))))))))))))) H116))))))))))))))))))))))))))))), fun c122 => j_aload_n dL_law_724 rfl 1 rfl (j_aload_nS dL_law_725 rfl 0 rfl (j_iload_n dL_law_726 rfl 3 rfl (j_iconst (v := 1) dL_law_727 rfl (j_iadd dL_law_728 (j_sld dL_law_729 ((H.2 c1).2.1.2.2.2.2.2.2.2.2.2.2.2.2.1 c122).1 (j_aload_nS dL_law_730 rfl 0 rfl (j_iload_n dL_law_731 rfl 3 rfl (j_iconst (v := 2) dL_law_732 rfl (j_iadd dL_law_733 (j_sld dL_law_734 ((H.2 c1).2.1.2.2.2.2.2.2.2.2.2.2.2.2.1 c122).2.1 (j_aload_nS dL_law_735 rfl 0 rfl (j_iload_n dL_law_736 rfl 3 rfl (j_iconst (v := 3) dL_law_737 rfl (j_iadd dL_law_738 (j_sld dL_law_739 ((H.2 c1).2.1.2.2.2.2.2.2.2.2.2.2.2.2.1 c122).2.2.1 (jj_bud (cj := 3232) (sj := 29088) ((H.2 c1).2.1.2.2.2.2.2.2.2.2.2.2.2.2.1 c122).2.2.2.2.1 ((H.2 c1).2.1.2.2.2.2.2.2.2.2.2.2.2.2.1 c122).2.2.2.2.2.1 (j_callV (cj := 3232) (sj := 29088) (bc := (bc - 3232)) (bs := (bs - 29088)) (as := [.int (d.2.2.2.2.2 (Int32.toNatClampNeg (x3 + 1))), .int (d.2.2.2.2.2 (Int32.toNatClampNeg (x3 + 2))), .int (d.2.2.2.2.2 (Int32.toNatClampNeg (x3 + 3)))]) cm_X9_shared im_X9_shared se_X9_shared (ci := 9) rfl (by decide) ml_L_69 ⟨by decide, by decide⟩ dL_law_740 rfl rfl (Nat.le_of_ble_eq_true rfl) ((H.2 c1).2.1.2.2.2.2.2.2.2.2.2.2.2.2.1 c122).2.2.2.1 (jj_C.mono ((H.2 c1).2.1.2.2.2.2.2.2.2.2.2.2.2.2.1 c122).2.2.2.2.2.2 (fun v124 h123 H126 => jj_vi_e (fun y125 H126 => j_aload_n dL_law_743 rfl 2 rfl (j_aload_nS dL_law_744 rfl 0 rfl (j_iload_n dL_law_745 rfl 3 rfl (j_iconst (v := 1) dL_law_746 rfl (j_iadd dL_law_747 (j_sld dL_law_748 H126.1 (j_aload_nS dL_law_749 rfl 0 rfl (j_iload_n dL_law_750 rfl 3 rfl (j_iconst (v := 2) dL_law_751 rfl (j_iadd dL_law_752 (j_sld dL_law_753 H126.2.1 (j_aload_nS dL_law_754 rfl 0 rfl (j_iload_n dL_law_755 rfl 3 rfl (j_iconst (v := 3) dL_law_756 rfl (j_iadd dL_law_757 (j_sld dL_law_758 H126.2.2.1 (j_callV0 (as := [.int (d.2.2.2.2.2 (Int32.toNatClampNeg (x3 + 1))), .int (d.2.2.2.2.2 (Int32.toNatClampNeg (x3 + 2))), .int (d.2.2.2.2.2 (Int32.toNatClampNeg (x3 + 3)))]) cm_X10_shared im_X10_shared se_X10_shared (ci := 10) rfl (by decide) ml_L_72 ⟨by decide, by decide⟩ dL_law_759 rfl rfl (Nat.le_of_ble_eq_true rfl) H126.2.2.2.1 (jj_C.mono H126.2.2.2.2 (fun v128 h127 H130 => jj_vi_e (fun y129 H130 => j_icmp_eq (tgt := 1398) dL_law_762 (by decide) (fun c131 => j_iinc (v := (x3 + 6)) (L' := [(3, .int (x3 + 6)), (0, .float 0), (1, .ref r1), (2, .ref r2)]) dL_law_1398 3 rfl rfl (by decide) rfl (j_goto (tgt := 18) dL_law_1401 (by decide) (j_sub [1, 2, 3, 0] rfl ((H130.1 c131))))) (fun c131 => j_iconst (v := 0) dL_law_765 rfl (j_ret (v := .int 0) ⟨dL_law_766, _, rfl, by decide⟩ rfl ((H130.2 c131))))) H130))))))))))))))))))) H126))))))))))))))))))), fun c132 => j_aload_n dL_law_767 rfl 1 rfl (jj_bud (cj := 4848) (sj := 43632) ((H.2 c1).2.1.2.2.2.2.2.2.2.2.2.2.2.2.2.1 c132).2.1 ((H.2 c1).2.1.2.2.2.2.2.2.2.2.2.2.2.2.2.1 c132).2.2.1 (j_callV (cj := 4848) (sj := 43632) (bc := (bc - 4848)) (bs := (bs - 43632)) (as := []) cm_X9_stored im_X9_stored se_X9_stored (ci := 9) rfl (by decide) ml_L_73 ⟨by decide, by decide⟩ dL_law_768 rfl rfl (Nat.le_of_ble_eq_true rfl) ((H.2 c1).2.1.2.2.2.2.2.2.2.2.2.2.2.2.2.1 c132).1 (jj_C.mono ((H.2 c1).2.1.2.2.2.2.2.2.2.2.2.2.2.2.2.1 c132).2.2.2 (fun v134 h133 H136 => jj_vi_e (fun y135 H136 => j_aload_n dL_law_771 rfl 2 rfl (j_callV0 (as := []) cm_X10_stored im_X10_stored se_X10_stored (ci := 10) rfl (by decide) ml_L_77 ⟨by decide, by decide⟩ dL_law_772 rfl rfl (Nat.le_of_ble_eq_true rfl) H136.1 (jj_C.mono H136.2 (fun v138 h137 H140 => jj_vi_e (fun y139 H140 => j_icmp_eq (tgt := 1398) dL_law_775 (by decide) (fun c141 => j_iinc (v := (x3 + 6)) (L' := [(3, .int (x3 + 6)), (0, .float 0), (1, .ref r1), (2, .ref r2)]) dL_law_1398 3 rfl rfl (by decide) rfl (j_goto (tgt := 18) dL_law_1401 (by decide) (j_sub [1, 2, 3, 0] rfl ((H140.1 c141))))) (fun c141 => j_iconst (v := 0) dL_law_778 rfl (j_ret (v := .int 0) ⟨dL_law_779, _, rfl, by decide⟩ rfl ((H140.2 c141))))) H140)))) H136)))), fun c142 => j_aload_n dL_law_780 rfl 1 rfl (j_aload_nS dL_law_781 rfl 0 rfl (j_iload_n dL_law_782 rfl 3 rfl (j_iconst (v := 1) dL_law_783 rfl (j_iadd dL_law_784 (j_sld dL_law_785 ((H.2 c1).2.1.2.2.2.2.2.2.2.2.2.2.2.2.2.2.1 c142).1 (j_callV0 (as := [.int (d.2.2.2.2.2 (Int32.toNatClampNeg (x3 + 1)))]) cm_X9_open im_X9_open se_X9_open (ci := 9) rfl (by decide) ml_L_78 ⟨by decide, by decide⟩ dL_law_786 rfl rfl (Nat.le_of_ble_eq_true rfl) ((H.2 c1).2.1.2.2.2.2.2.2.2.2.2.2.2.2.2.2.1 c142).2.1 (jj_C.mono ((H.2 c1).2.1.2.2.2.2.2.2.2.2.2.2.2.2.2.2.1 c142).2.2 (fun v144 h143 H146 => jj_vi_e (fun y145 H146 => j_aload_n dL_law_789 rfl 2 rfl (j_aload_nS dL_law_790 rfl 0 rfl (j_iload_n dL_law_791 rfl 3 rfl (j_iconst (v := 1) dL_law_792 rfl (j_iadd dL_law_793 (j_sld dL_law_794 H146.1 (j_callV0 (as := [.int (d.2.2.2.2.2 (Int32.toNatClampNeg (x3 + 1)))]) cm_X10_open im_X10_open se_X10_open (ci := 10) rfl (by decide) ml_L_81 ⟨by decide, by decide⟩ dL_law_795 rfl rfl (Nat.le_of_ble_eq_true rfl) H146.2.1 (jj_C.mono H146.2.2 (fun v148 h147 H150 => jj_vi_e (fun y149 H150 => j_icmp_eq (tgt := 1398) dL_law_798 (by decide) (fun c151 => j_iinc (v := (x3 + 6)) (L' := [(3, .int (x3 + 6)), (0, .float 0), (1, .ref r1), (2, .ref r2)]) dL_law_1398 3 rfl rfl (by decide) rfl (j_goto (tgt := 18) dL_law_1401 (by decide) (j_sub [1, 2, 3, 0] rfl ((H150.1 c151))))) (fun c151 => j_iconst (v := 0) dL_law_801 rfl (j_ret (v := .int 0) ⟨dL_law_802, _, rfl, by decide⟩ rfl ((H150.2 c151))))) H150))))))))) H146)))))))), fun c152 => j_aload_n dL_law_803 rfl 1 rfl (j_aload_nS dL_law_804 rfl 0 rfl (j_iload_n dL_law_805 rfl 3 rfl (j_iconst (v := 1) dL_law_806 rfl (j_iadd dL_law_807 (j_sld dL_law_808 ((H.2 c1).2.1.2.2.2.2.2.2.2.2.2.2.2.2.2.2.2.1 c152).1 (j_callV0 (as := [.int (d.2.2.2.2.2 (Int32.toNatClampNeg (x3 + 1)))]) cm_X9_go im_X9_go se_X9_go (ci := 9) rfl (by decide) ml_L_82 ⟨by decide, by decide⟩ dL_law_809 rfl rfl (Nat.le_of_ble_eq_true rfl) ((H.2 c1).2.1.2.2.2.2.2.2.2.2.2.2.2.2.2.2.2.1 c152).2.1 (jj_C.mono ((H.2 c1).2.1.2.2.2.2.2.2.2.2.2.2.2.2.2.2.2.1 c152).2.2 (fun v154 h153 H156 => jj_vi_e (fun y155 H156 => j_aload_n dL_law_812 rfl 2 rfl (j_aload_nS dL_law_813 rfl 0 rfl (j_iload_n dL_law_814 rfl 3 rfl (j_iconst (v := 1) dL_law_815 rfl (j_iadd dL_law_816 (j_sld dL_law_817 H156.1 (j_callV0 (as := [.int (d.2.2.2.2.2 (Int32.toNatClampNeg (x3 + 1)))]) cm_X10_go im_X10_go se_X10_go (ci := 10) rfl (by decide) ml_L_85 ⟨by decide, by decide⟩ dL_law_818 rfl rfl (Nat.le_of_ble_eq_true rfl) H156.2.1 (jj_C.mono H156.2.2 (fun v158 h157 H160 => jj_vi_e (fun y159 H160 => j_icmp_eq (tgt := 1398) dL_law_821 (by decide) (fun c161 => j_iinc (v := (x3 + 6)) (L' := [(3, .int (x3 + 6)), (0, .float 0), (1, .ref r1), (2, .ref r2)]) dL_law_1398 3 rfl rfl (by decide) rfl (j_goto (tgt := 18) dL_law_1401 (by decide) (j_sub [1, 2, 3, 0] rfl ((H160.1 c161))))) (fun c161 => j_iconst (v := 0) dL_law_824 rfl (j_ret (v := .int 0) ⟨dL_law_825, _, rfl, by decide⟩ rfl ((H160.2 c161))))) H160))))))))) H156)))))))), fun c162 => j_aload_n dL_law_826 rfl 1 rfl (j_aload_nS dL_law_827 rfl 0 rfl (j_iload_n dL_law_828 rfl 3 rfl (j_iconst (v := 1) dL_law_829 rfl (j_iadd dL_law_830 (j_sld dL_law_831 ((H.2 c1).2.1.2.2.2.2.2.2.2.2.2.2.2.2.2.2.2.2.1 c162).1 (j_callV0 (as := [.int (d.2.2.2.2.2 (Int32.toNatClampNeg (x3 + 1)))]) cm_X9_close im_X9_close se_X9_close (ci := 9) rfl (by decide) ml_L_86 ⟨by decide, by decide⟩ dL_law_832 rfl rfl (Nat.le_of_ble_eq_true rfl) ((H.2 c1).2.1.2.2.2.2.2.2.2.2.2.2.2.2.2.2.2.2.1 c162).2.1 (jj_C.mono ((H.2 c1).2.1.2.2.2.2.2.2.2.2.2.2.2.2.2.2.2.2.1 c162).2.2 (fun v164 h163 H166 => jj_vi_e (fun y165 H166 => j_aload_n dL_law_835 rfl 2 rfl (j_aload_nS dL_law_836 rfl 0 rfl (j_iload_n dL_law_837 rfl 3 rfl (j_iconst (v := 1) dL_law_838 rfl (j_iadd dL_law_839 (j_sld dL_law_840 H166.1 (j_callV0 (as := [.int (d.2.2.2.2.2 (Int32.toNatClampNeg (x3 + 1)))]) cm_X10_close im_X10_close se_X10_close (ci := 10) rfl (by decide) ml_L_89 ⟨by decide, by decide⟩ dL_law_841 rfl rfl (Nat.le_of_ble_eq_true rfl) H166.2.1 (jj_C.mono H166.2.2 (fun v168 h167 H170 => jj_vi_e (fun y169 H170 => j_icmp_eq (tgt := 1398) dL_law_844 (by decide) (fun c171 => j_iinc (v := (x3 + 6)) (L' := [(3, .int (x3 + 6)), (0, .float 0), (1, .ref r1), (2, .ref r2)]) dL_law_1398 3 rfl rfl (by decide) rfl (j_goto (tgt := 18) dL_law_1401 (by decide) (j_sub [1, 2, 3, 0] rfl ((H170.1 c171))))) (fun c171 => j_iconst (v := 0) dL_law_847 rfl (j_ret (v := .int 0) ⟨dL_law_848, _, rfl, by decide⟩ rfl ((H170.2 c171))))) H170))))))))) H166)))))))), fun c172 => j_aload_n dL_law_849 rfl 1 rfl (j_aload_nS dL_law_850 rfl 0 rfl (j_iload_n dL_law_851 rfl 3 rfl (j_iconst (v := 1) dL_law_852 rfl (j_iadd dL_law_853 (j_sld dL_law_854 ((H.2 c1).2.1.2.2.2.2.2.2.2.2.2.2.2.2.2.2.2.2.2.1 c172).1 (j_callV0 (as := [.int (d.2.2.2.2.2 (Int32.toNatClampNeg (x3 + 1)))]) cm_X9_head im_X9_head se_X9_head (ci := 9) rfl (by decide) ml_L_90 ⟨by decide, by decide⟩ dL_law_855 rfl rfl (Nat.le_of_ble_eq_true rfl) ((H.2 c1).2.1.2.2.2.2.2.2.2.2.2.2.2.2.2.2.2.2.2.1 c172).2.1 (jj_C.mono ((H.2 c1).2.1.2.2.2.2.2.2.2.2.2.2.2.2.2.2.2.2.2.1 c172).2.2 (fun v174 h173 H176 => jj_vi_e (fun y175 H176 => j_aload_n dL_law_858 rfl 2 rfl (j_aload_nS dL_law_859 rfl 0 rfl (j_iload_n dL_law_860 rfl 3 rfl (j_iconst (v := 1) dL_law_861 rfl (j_iadd dL_law_862 (j_sld dL_law_863 H176.1 (j_callV0 (as := [.int (d.2.2.2.2.2 (Int32.toNatClampNeg (x3 + 1)))]) cm_X10_head im_X10_head se_X10_head (ci := 10) rfl (by decide) ml_L_93 ⟨by decide, by decide⟩ dL_law_864 rfl rfl (Nat.le_of_ble_eq_true rfl) H176.2.1 (jj_C.mono H176.2.2 (fun v178 h177 H180 => jj_vi_e (fun y179 H180 => j_icmp_eq (tgt := 1398) dL_law_867 (by decide) (fun c181 => j_iinc (v := (x3 + 6)) (L' := [(3, .int (x3 + 6)), (0, .float 0), (1, .ref r1), (2, .ref r2)]) dL_law_1398 3 rfl rfl (by decide) rfl (j_goto (tgt := 18) dL_law_1401 (by decide) (j_sub [1, 2, 3, 0] rfl ((H180.1 c181))))) (fun c181 => j_iconst (v := 0) dL_law_870 rfl (j_ret (v := .int 0) ⟨dL_law_871, _, rfl, by decide⟩ rfl ((H180.2 c181))))) H180))))))))) H176)))))))), fun c182 => j_aload_n dL_law_872 rfl 1 rfl (jj_bud (cj := 5480) (sj := 53000) ((H.2 c1).2.1.2.2.2.2.2.2.2.2.2.2.2.2.2.2.2.2.2.2.1 c182).2.1 ((H.2 c1).2.1.2.2.2.2.2.2.2.2.2.2.2.2.2.2.2.2.2.2.1 c182).2.2.1 (j_callV (cj := 5480) (sj := 53000) (bc := (bc - 5480)) (bs := (bs - 53000)) (as := []) cm_X9_commit im_X9_commit se_X9_commit (ci := 9) rfl (by decide) ml_L_94 ⟨by decide, by decide⟩ dL_law_873 rfl rfl (Nat.le_of_ble_eq_true rfl) ((H.2 c1).2.1.2.2.2.2.2.2.2.2.2.2.2.2.2.2.2.2.2.2.1 c182).1 (jj_C.mono ((H.2 c1).2.1.2.2.2.2.2.2.2.2.2.2.2.2.2.2.2.2.2.2.1 c182).2.2.2 (fun v184 h183 H186 => jj_vi_e (fun y185 H186 => j_aload_n dL_law_876 rfl 2 rfl (j_callV0 (as := []) cm_X10_commit im_X10_commit se_X10_commit (ci := 10) rfl (by decide) ml_L_97 ⟨by decide, by decide⟩ dL_law_877 rfl rfl (Nat.le_of_ble_eq_true rfl) H186.1 (jj_C.mono H186.2 (fun v188 h187 H190 => jj_vi_e (fun y189 H190 => j_icmp_eq (tgt := 1398) dL_law_880 (by decide) (fun c191 => j_iinc (v := (x3 + 6)) (L' := [(3, .int (x3 + 6)), (0, .float 0), (1, .ref r1), (2, .ref r2)]) dL_law_1398 3 rfl rfl (by decide) rfl (j_goto (tgt := 18) dL_law_1401 (by decide) (j_sub [1, 2, 3, 0] rfl ((H190.1 c191))))) (fun c191 => j_iconst (v := 0) dL_law_883 rfl (j_ret (v := .int 0) ⟨dL_law_884, _, rfl, by decide⟩ rfl ((H190.2 c191))))) H190)))) H186)))), fun c192 => j_aload_n dL_law_885 rfl 1 rfl (j_aload_nS dL_law_886 rfl 0 rfl (j_iload_n dL_law_887 rfl 3 rfl (j_iconst (v := 1) dL_law_888 rfl (j_iadd dL_law_889 (j_sld dL_law_890 ((H.2 c1).2.1.2.2.2.2.2.2.2.2.2.2.2.2.2.2.2.2.2.2.2.1 c192).1 (j_aload_nS dL_law_891 rfl 0 rfl (j_iload_n dL_law_892 rfl 3 rfl (j_iconst (v := 2) dL_law_893 rfl (j_iadd dL_law_894 (j_sld dL_law_895 ((H.2 c1).2.1.2.2.2.2.2.2.2.2.2.2.2.2.2.2.2.2.2.2.2.1 c192).2.1 (j_callV0 (as := [.int (d.2.2.2.2.2 (Int32.toNatClampNeg (x3 + 1))), .int (d.2.2.2.2.2 (Int32.toNatClampNeg (x3 + 2)))]) cm_X9_parent im_X9_parent se_X9_parent (ci := 9) rfl (by decide) ml_L_98 ⟨by decide, by decide⟩ dL_law_896 rfl rfl (Nat.le_of_ble_eq_true rfl) ((H.2 c1).2.1.2.2.2.2.2.2.2.2.2.2.2.2.2.2.2.2.2.2.2.1 c192).2.2.1 (jj_C.mono ((H.2 c1).2.1.2.2.2.2.2.2.2.2.2.2.2.2.2.2.2.2.2.2.2.1 c192).2.2.2 (fun v194 h193 H196 => jj_vi_e (fun y195 H196 => j_aload_n dL_law_899 rfl 2 rfl (j_aload_nS dL_law_900 rfl 0 rfl (j_iload_n dL_law_901 rfl 3 rfl (j_iconst (v := 1) dL_law_902 rfl (j_iadd dL_law_903 (j_sld dL_law_904 H196.1 (j_aload_nS dL_law_905 rfl 0 rfl (j_iload_n dL_law_906 rfl 3 rfl (j_iconst (v := 2) dL_law_907 rfl (j_iadd dL_law_908 (j_sld dL_law_909 H196.2.1 (j_callV0 (as := [.int (d.2.2.2.2.2 (Int32.toNatClampNeg (x3 + 1))), .int (d.2.2.2.2.2 (Int32.toNatClampNeg (x3 + 2)))]) cm_X10_parent im_X10_parent se_X10_parent (ci := 10) rfl (by decide) ml_L_101 ⟨by decide, by decide⟩ dL_law_910 rfl rfl (Nat.le_of_ble_eq_true rfl) H196.2.2.1 (jj_C.mono H196.2.2.2 (fun v198 h197 H200 => jj_vi_e (fun y199 H200 => j_icmp_eq (tgt := 1398) dL_law_913 (by decide) (fun c201 => j_iinc (v := (x3 + 6)) (L' := [(3, .int (x3 + 6)), (0, .float 0), (1, .ref r1), (2, .ref r2)]) dL_law_1398 3 rfl rfl (by decide) rfl (j_goto (tgt := 18) dL_law_1401 (by decide) (j_sub [1, 2, 3, 0] rfl ((H200.1 c201))))) (fun c201 => j_iconst (v := 0) dL_law_916 rfl (j_ret (v := .int 0) ⟨dL_law_917, _, rfl, by decide⟩ rfl ((H200.2 c201))))) H200)))))))))))))) H196))))))))))))), fun c202 => j_aload_n dL_law_918 rfl 1 rfl (j_aload_nS dL_law_919 rfl 0 rfl (j_iload_n dL_law_920 rfl 3 rfl (j_iconst (v := 1) dL_law_921 rfl (j_iadd dL_law_922 (j_sld dL_law_923 ((H.2 c1).2.1.2.2.2.2.2.2.2.2.2.2.2.2.2.2.2.2.2.2.2.2.1 c202).1 (j_callV0 (as := [.int (d.2.2.2.2.2 (Int32.toNatClampNeg (x3 + 1)))]) cm_X9_ancestors im_X9_ancestors se_X9_ancestors (ci := 9) rfl (by decide) ml_L_102 ⟨by decide, by decide⟩ dL_law_924 rfl rfl (Nat.le_of_ble_eq_true rfl) ((H.2 c1).2.1.2.2.2.2.2.2.2.2.2.2.2.2.2.2.2.2.2.2.2.2.1 c202).2.1 (jj_C.mono ((H.2 c1).2.1.2.2.2.2.2.2.2.2.2.2.2.2.2.2.2.2.2.2.2.2.1 c202).2.2 (fun v204 h203 H206 => jj_vi_e (fun y205 H206 => j_aload_n dL_law_927 rfl 2 rfl (j_aload_nS dL_law_928 rfl 0 rfl (j_iload_n dL_law_929 rfl 3 rfl (j_iconst (v := 1) dL_law_930 rfl (j_iadd dL_law_931 (j_sld dL_law_932 H206.1 (j_callV0 (as := [.int (d.2.2.2.2.2 (Int32.toNatClampNeg (x3 + 1)))]) cm_X10_ancestors im_X10_ancestors se_X10_ancestors (ci := 10) rfl (by decide) ml_L_105 ⟨by decide, by decide⟩ dL_law_933 rfl rfl (Nat.le_of_ble_eq_true rfl) H206.2.1 (jj_C.mono H206.2.2 (fun v208 h207 H210 => jj_vi_e (fun y209 H210 => j_icmp_eq (tgt := 1398) dL_law_936 (by decide) (fun c211 => j_iinc (v := (x3 + 6)) (L' := [(3, .int (x3 + 6)), (0, .float 0), (1, .ref r1), (2, .ref r2)]) dL_law_1398 3 rfl rfl (by decide) rfl (j_goto (tgt := 18) dL_law_1401 (by decide) (j_sub [1, 2, 3, 0] rfl ((H210.1 c211))))) (fun c211 => j_iconst (v := 0) dL_law_939 rfl (j_ret (v := .int 0) ⟨dL_law_940, _, rfl, by decide⟩ rfl ((H210.2 c211))))) H210))))))))) H206)))))))), fun c212 => j_aload_n dL_law_941 rfl 1 rfl (j_aload_nS dL_law_942 rfl 0 rfl (j_iload_n dL_law_943 rfl 3 rfl (j_iconst (v := 1) dL_law_944 rfl (j_iadd dL_law_945 (j_sld dL_law_946 ((H.2 c1).2.1.2.2.2.2.2.2.2.2.2.2.2.2.2.2.2.2.2.2.2.2.2.1 c212).1 (j_aload_nS dL_law_947 rfl 0 rfl (j_iload_n dL_law_948 rfl 3 rfl (j_iconst (v := 2) dL_law_949 rfl (j_iadd dL_law_950 (j_sld dL_law_951 ((H.2 c1).2.1.2.2.2.2.2.2.2.2.2.2.2.2.2.2.2.2.2.2.2.2.2.1 c212).2.1 (j_callV0 (as := [.int (d.2.2.2.2.2 (Int32.toNatClampNeg (x3 + 1))), .int (d.2.2.2.2.2 (Int32.toNatClampNeg (x3 + 2)))]) cm_X9_base im_X9_base se_X9_base (ci := 9) rfl (by decide) ml_L_106 ⟨by decide, by decide⟩ dL_law_952 rfl rfl (Nat.le_of_ble_eq_true rfl) ((H.2 c1).2.1.2.2.2.2.2.2.2.2.2.2.2.2.2.2.2.2.2.2.2.2.2.1 c212).2.2.1 (jj_C.mono ((H.2 c1).2.1.2.2.2.2.2.2.2.2.2.2.2.2.2.2.2.2.2.2.2.2.2.1 c212).2.2.2 (fun v214 h213 H216 => jj_vi_e (fun y215 H216 => j_aload_n dL_law_955 rfl 2 rfl (j_aload_nS dL_law_956 rfl 0 rfl (j_iload_n dL_law_957 rfl 3 rfl (j_iconst (v := 1) dL_law_958 rfl (j_iadd dL_law_959 (j_sld dL_law_960 H216.1 (j_aload_nS dL_law_961 rfl 0 rfl (j_iload_n dL_law_962 rfl 3 rfl (j_iconst (v := 2) dL_law_963 rfl (j_iadd dL_law_964 (j_sld dL_law_965 H216.2.1 (j_callV0 (as := [.int (d.2.2.2.2.2 (Int32.toNatClampNeg (x3 + 1))), .int (d.2.2.2.2.2 (Int32.toNatClampNeg (x3 + 2)))]) cm_X10_base im_X10_base se_X10_base (ci := 10) rfl (by decide) ml_L_109 ⟨by decide, by decide⟩ dL_law_966 rfl rfl (Nat.le_of_ble_eq_true rfl) H216.2.2.1 (jj_C.mono H216.2.2.2 (fun v218 h217 H220 => jj_vi_e (fun y219 H220 => j_icmp_eq (tgt := 1398) dL_law_969 (by decide) (fun c221 => j_iinc (v := (x3 + 6)) (L' := [(3, .int (x3 + 6)), (0, .float 0), (1, .ref r1), (2, .ref r2)]) dL_law_1398 3 rfl rfl (by decide) rfl (j_goto (tgt := 18) dL_law_1401 (by decide) (j_sub [1, 2, 3, 0] rfl ((H220.1 c221))))) (fun c221 => j_iconst (v := 0) dL_law_972 rfl (j_ret (v := .int 0) ⟨dL_law_973, _, rfl, by decide⟩ rfl ((H220.2 c221))))) H220)))))))))))))) H216))))))))))))), fun c222 => j_aload_n dL_law_974 rfl 1 rfl (j_callV0 (as := []) cm_X9_reset im_X9_reset se_X9_reset (ci := 9) rfl (by decide) ml_L_110 ⟨by decide, by decide⟩ dL_law_975 rfl rfl (Nat.le_of_ble_eq_true rfl) ((H.2 c1).2.1.2.2.2.2.2.2.2.2.2.2.2.2.2.2.2.2.2.2.2.2.2.2.1 c222).1 (jj_C.mono ((H.2 c1).2.1.2.2.2.2.2.2.2.2.2.2.2.2.2.2.2.2.2.2.2.2.2.2.1 c222).2 (fun v224 h223 H226 => jj_vi_e (fun y225 H226 => j_aload_n dL_law_978 rfl 2 rfl (j_callV0 (as := []) cm_X10_reset im_X10_reset se_X10_reset (ci := 10) rfl (by decide) ml_L_113 ⟨by decide, by decide⟩ dL_law_979 rfl rfl (Nat.le_of_ble_eq_true rfl) H226.1 (jj_C.mono H226.2 (fun v228 h227 H230 => jj_vi_e (fun y229 H230 => j_icmp_eq (tgt := 1398) dL_law_982 (by decide) (fun c231 => j_iinc (v := (x3 + 6)) (L' := [(3, .int (x3 + 6)), (0, .float 0), (1, .ref r1), (2, .ref r2)]) dL_law_1398 3 rfl rfl (by decide) rfl (j_goto (tgt := 18) dL_law_1401 (by decide) (j_sub [1, 2, 3, 0] rfl ((H230.1 c231))))) (fun c231 => j_iconst (v := 0) dL_law_985 rfl (j_ret (v := .int 0) ⟨dL_law_986, _, rfl, by decide⟩ rfl ((H230.2 c231))))) H230)))) H226))), fun c232 => j_aload_n dL_law_987 rfl 1 rfl (j_callV0 (as := []) cm_X9_sweep im_X9_sweep se_X9_sweep (ci := 9) rfl (by decide) ml_L_114 ⟨by decide, by decide⟩ dL_law_988 rfl rfl (Nat.le_of_ble_eq_true rfl) ((H.2 c1).2.1.2.2.2.2.2.2.2.2.2.2.2.2.2.2.2.2.2.2.2.2.2.2.2.1 c232).1 (jj_C.mono ((H.2 c1).2.1.2.2.2.2.2.2.2.2.2.2.2.2.2.2.2.2.2.2.2.2.2.2.2.1 c232).2 (fun v234 h233 H236 => jj_vi_e (fun y235 H236 => j_aload_n dL_law_991 rfl 2 rfl (j_callV0 (as := []) cm_X10_sweep im_X10_sweep se_X10_sweep (ci := 10) rfl (by decide) ml_L_117 ⟨by decide, by decide⟩ dL_law_992 rfl rfl (Nat.le_of_ble_eq_true rfl) H236.1 (jj_C.mono H236.2 (fun v238 h237 H240 => jj_vi_e (fun y239 H240 => j_icmp_eq (tgt := 1398) dL_law_995 (by decide) (fun c241 => j_iinc (v := (x3 + 6)) (L' := [(3, .int (x3 + 6)), (0, .float 0), (1, .ref r1), (2, .ref r2)]) dL_law_1398 3 rfl rfl (by decide) rfl (j_goto (tgt := 18) dL_law_1401 (by decide) (j_sub [1, 2, 3, 0] rfl ((H240.1 c241))))) (fun c241 => j_iconst (v := 0) dL_law_998 rfl (j_ret (v := .int 0) ⟨dL_law_999, _, rfl, by decide⟩ rfl ((H240.2 c241))))) H240)))) H236))), fun c242 => j_aload_n dL_law_1000 rfl 1 rfl (j_aload_nS dL_law_1001 rfl 0 rfl (j_iload_n dL_law_1002 rfl 3 rfl (j_iconst (v := 1) dL_law_1003 rfl (j_iadd dL_law_1004 (j_sld dL_law_1005 ((H.2 c1).2.1.2.2.2.2.2.2.2.2.2.2.2.2.2.2.2.2.2.2.2.2.2.2.2.2.1 c242).1 (j_aload_nS dL_law_1006 rfl 0 rfl (j_iload_n dL_law_1007 rfl 3 rfl (j_iconst (v := 2) dL_law_1008 rfl (j_iadd dL_law_1009 (j_sld dL_law_1010 ((H.2 c1).2.1.2.2.2.2.2.2.2.2.2.2.2.2.2.2.2.2.2.2.2.2.2.2.2.2.1 c242).2.1 (j_aload_nS dL_law_1011 rfl 0 rfl (j_iload_n dL_law_1012 rfl 3 rfl (j_iconst (v := 3) dL_law_1013 rfl (j_iadd dL_law_1014 (j_sld dL_law_1015 ((H.2 c1).2.1.2.2.2.2.2.2.2.2.2.2.2.2.2.2.2.2.2.2.2.2.2.2.2.2.1 c242).2.2.1 (j_callV0 (as := [.int (d.2.2.2.2.2 (Int32.toNatClampNeg (x3 + 1))), .int (d.2.2.2.2.2 (Int32.toNatClampNeg (x3 + 2))), .int (d.2.2.2.2.2 (Int32.toNatClampNeg (x3 + 3)))]) cm_X9_diff im_X9_diff se_X9_diff (ci := 9) rfl (by decide) ml_L_118 ⟨by decide, by decide⟩ dL_law_1016 rfl rfl (Nat.le_of_ble_eq_true rfl) ((H.2 c1).2.1.2.2.2.2.2.2.2.2.2.2.2.2.2.2.2.2.2.2.2.2.2.2.2.2.1 c242).2.2.2.1 (jj_C.mono ((H.2 c1).2.1.2.2.2.2.2.2.2.2.2.2.2.2.2.2.2.2.2.2.2.2.2.2.2.2.1 c242).2.2.2.2 (fun v244 h243 H246 => jj_vi_e (fun y245 H246 => j_aload_n dL_law_1019 rfl 2 rfl (j_aload_nS dL_law_1020 rfl 0 rfl (j_iload_n dL_law_1021 rfl 3 rfl (j_iconst (v := 1) dL_law_1022 rfl (j_iadd dL_law_1023 (j_sld dL_law_1024 H246.1 (j_aload_nS dL_law_1025 rfl 0 rfl (j_iload_n dL_law_1026 rfl 3 rfl (j_iconst (v := 2) dL_law_1027 rfl (j_iadd dL_law_1028 (j_sld dL_law_1029 H246.2.1 (j_aload_nS dL_law_1030 rfl 0 rfl (j_iload_n dL_law_1031 rfl 3 rfl (j_iconst (v := 3) dL_law_1032 rfl (j_iadd dL_law_1033 (j_sld dL_law_1034 H246.2.2.1 (j_callV0 (as := [.int (d.2.2.2.2.2 (Int32.toNatClampNeg (x3 + 1))), .int (d.2.2.2.2.2 (Int32.toNatClampNeg (x3 + 2))), .int (d.2.2.2.2.2 (Int32.toNatClampNeg (x3 + 3)))]) cm_X10_diff im_X10_diff se_X10_diff (ci := 10) rfl (by decide) ml_L_121 ⟨by decide, by decide⟩ dL_law_1035 rfl rfl (Nat.le_of_ble_eq_true rfl) H246.2.2.2.1 (jj_C.mono H246.2.2.2.2 (fun v248 h247 H250 => jj_vi_e (fun y249 H250 => j_icmp_eq (tgt := 1398) dL_law_1038 (by decide) (fun c251 => j_iinc (v := (x3 + 6)) (L' := [(3, .int (x3 + 6)), (0, .float 0), (1, .ref r1), (2, .ref r2)]) dL_law_1398 3 rfl rfl (by decide) rfl (j_goto (tgt := 18) dL_law_1401 (by decide) (j_sub [1, 2, 3, 0] rfl ((H250.1 c251))))) (fun c251 => j_iconst (v := 0) dL_law_1041 rfl (j_ret (v := .int 0) ⟨dL_law_1042, _, rfl, by decide⟩ rfl ((H250.2 c251))))) H250))))))))))))))))))) H246)))))))))))))))))), fun c252 => j_aload_n dL_law_1043 rfl 1 rfl (j_aload_nS dL_law_1044 rfl 0 rfl (j_iload_n dL_law_1045 rfl 3 rfl (j_iconst (v := 1) dL_law_1046 rfl (j_iadd dL_law_1047 (j_sld dL_law_1048 ((H.2 c1).2.1.2.2.2.2.2.2.2.2.2.2.2.2.2.2.2.2.2.2.2.2.2.2.2.2.2.1 c252).1 (j_callV0 (as := [.int (d.2.2.2.2.2 (Int32.toNatClampNeg (x3 + 1)))]) cm_X9_diffKey im_X9_diffKey se_X9_diffKey (ci := 9) rfl (by decide) ml_L_122 ⟨by decide, by decide⟩ dL_law_1049 rfl rfl (Nat.le_of_ble_eq_true rfl) ((H.2 c1).2.1.2.2.2.2.2.2.2.2.2.2.2.2.2.2.2.2.2.2.2.2.2.2.2.2.2.1 c252).2.1 (jj_C.mono ((H.2 c1).2.1.2.2.2.2.2.2.2.2.2.2.2.2.2.2.2.2.2.2.2.2.2.2.2.2.2.1 c252).2.2 (fun v254 h253 H256 => jj_vj_e (fun k255 H256 => j_aload_n dL_law_1052 rfl 2 rfl (j_aload_nS dL_law_1053 rfl 0 rfl (j_iload_n dL_law_1054 rfl 3 rfl (j_iconst (v := 1) dL_law_1055 rfl (j_iadd dL_law_1056 (j_sld dL_law_1057 H256.1 (j_callV0 (as := [.int (d.2.2.2.2.2 (Int32.toNatClampNeg (x3 + 1)))]) cm_X10_diffKey im_X10_diffKey se_X10_diffKey (ci := 10) rfl (by decide) ml_L_126 ⟨by decide, by decide⟩ dL_law_1058 rfl rfl (Nat.le_of_ble_eq_true rfl) H256.2.1 (jj_C.mono H256.2.2 (fun v258 h257 H260 => jj_vj_e (fun k259 H260 => j_lcmp dL_law_1061 (j_if_eq (tgt := 1398) dL_law_1062 (by decide) (fun c261 => j_iinc (v := (x3 + 6)) (L' := [(3, .int (x3 + 6)), (0, .float 0), (1, .ref r1), (2, .ref r2)]) dL_law_1398 3 rfl rfl (by decide) rfl (j_goto (tgt := 18) dL_law_1401 (by decide) (j_sub [1, 2, 3, 0] rfl ((H260.1 ((lg_cmp_eq _ _).mp c261)))))) (fun c261 => j_iconst (v := 0) dL_law_1065 rfl (j_ret (v := .int 0) ⟨dL_law_1066, _, rfl, by decide⟩ rfl ((H260.2 (fun z => c261 ((lg_cmp_eq _ _).mpr z)))))))) H260))))))))) H256)))))))), fun c262 => j_aload_n dL_law_1067 rfl 1 rfl (j_aload_nS dL_law_1068 rfl 0 rfl (j_iload_n dL_law_1069 rfl 3 rfl (j_iconst (v := 1) dL_law_1070 rfl (j_iadd dL_law_1071 (j_sld dL_law_1072 ((H.2 c1).2.1.2.2.2.2.2.2.2.2.2.2.2.2.2.2.2.2.2.2.2.2.2.2.2.2.2.2.1 c262).1 (j_callV0 (as := [.int (d.2.2.2.2.2 (Int32.toNatClampNeg (x3 + 1)))]) cm_X9_diffKind im_X9_diffKind se_X9_diffKind (ci := 9) rfl (by decide) ml_L_127 ⟨by decide, by decide⟩ dL_law_1073 rfl rfl (Nat.le_of_ble_eq_true rfl) ((H.2 c1).2.1.2.2.2.2.2.2.2.2.2.2.2.2.2.2.2.2.2.2.2.2.2.2.2.2.2.2.1 c262).2.1 (jj_C.mono ((H.2 c1).2.1.2.2.2.2.2.2.2.2.2.2.2.2.2.2.2.2.2.2.2.2.2.2.2.2.2.2.1 c262).2.2 (fun v264 h263 H266 => jj_vi_e (fun y265 H266 => j_aload_n dL_law_1076 rfl 2 rfl (j_aload_nS dL_law_1077 rfl 0 rfl (j_iload_n dL_law_1078 rfl 3 rfl (j_iconst (v := 1) dL_law_1079 rfl (j_iadd dL_law_1080 (j_sld dL_law_1081 H266.1 (j_callV0 (as := [.int (d.2.2.2.2.2 (Int32.toNatClampNeg (x3 + 1)))]) cm_X10_diffKind im_X10_diffKind se_X10_diffKind (ci := 10) rfl (by decide) ml_L_130 ⟨by decide, by decide⟩ dL_law_1082 rfl rfl (Nat.le_of_ble_eq_true rfl) H266.2.1 (jj_C.mono H266.2.2 (fun v268 h267 H270 => jj_vi_e (fun y269 H270 => j_icmp_eq (tgt := 1398) dL_law_1085 (by decide) (fun c271 => j_iinc (v := (x3 + 6)) (L' := [(3, .int (x3 + 6)), (0, .float 0), (1, .ref r1), (2, .ref r2)]) dL_law_1398 3 rfl rfl (by decide) rfl (j_goto (tgt := 18) dL_law_1401 (by decide) (j_sub [1, 2, 3, 0] rfl ((H270.1 c271))))) (fun c271 => j_iconst (v := 0) dL_law_1088 rfl (j_ret (v := .int 0) ⟨dL_law_1089, _, rfl, by decide⟩ rfl ((H270.2 c271))))) H270))))))))) H266)))))))), fun c272 => j_aload_n dL_law_1090 rfl 1 rfl (j_aload_nS dL_law_1091 rfl 0 rfl (j_iload_n dL_law_1092 rfl 3 rfl (j_iconst (v := 1) dL_law_1093 rfl (j_iadd dL_law_1094 (j_sld dL_law_1095 ((H.2 c1).2.1.2.2.2.2.2.2.2.2.2.2.2.2.2.2.2.2.2.2.2.2.2.2.2.2.2.2.2.1 c272).1 (j_callV0 (as := [.int (d.2.2.2.2.2 (Int32.toNatClampNeg (x3 + 1)))]) cm_X9_merge im_X9_merge se_X9_merge (ci := 9) rfl (by decide) ml_L_131 ⟨by decide, by decide⟩ dL_law_1096 rfl rfl (Nat.le_of_ble_eq_true rfl) ((H.2 c1).2.1.2.2.2.2.2.2.2.2.2.2.2.2.2.2.2.2.2.2.2.2.2.2.2.2.2.2.2.1 c272).2.1 (jj_C.mono ((H.2 c1).2.1.2.2.2.2.2.2.2.2.2.2.2.2.2.2.2.2.2.2.2.2.2.2.2.2.2.2.2.1 c272).2.2 (fun v274 h273 H276 => jj_vi_e (fun y275 H276 => j_aload_n dL_law_1099 rfl 2 rfl (j_aload_nS dL_law_1100 rfl 0 rfl (j_iload_n dL_law_1101 rfl 3 rfl (j_iconst (v := 1) dL_law_1102 rfl (j_iadd dL_law_1103 (j_sld dL_law_1104 H276.1 (j_callV0 (as := [.int (d.2.2.2.2.2 (Int32.toNatClampNeg (x3 + 1)))]) cm_X10_merge im_X10_merge se_X10_merge (ci := 10) rfl (by decide) ml_L_134 ⟨by decide, by decide⟩ dL_law_1105 rfl rfl (Nat.le_of_ble_eq_true rfl) H276.2.1 (jj_C.mono H276.2.2 (fun v278 h277 H280 => jj_vi_e (fun y279 H280 => j_icmp_eq (tgt := 1398) dL_law_1108 (by decide) (fun c281 => j_iinc (v := (x3 + 6)) (L' := [(3, .int (x3 + 6)), (0, .float 0), (1, .ref r1), (2, .ref r2)]) dL_law_1398 3 rfl rfl (by decide) rfl (j_goto (tgt := 18) dL_law_1401 (by decide) (j_sub [1, 2, 3, 0] rfl ((H280.1 c281))))) (fun c281 => j_iconst (v := 0) dL_law_1111 rfl (j_ret (v := .int 0) ⟨dL_law_1112, _, rfl, by decide⟩ rfl ((H280.2 c281))))) H280))))))))) H276)))))))), fun c282 => j_aload_n dL_law_1113 rfl 1 rfl (j_aload_nS dL_law_1114 rfl 0 rfl (j_iload_n dL_law_1115 rfl 3 rfl (j_iconst (v := 1) dL_law_1116 rfl (j_iadd dL_law_1117 (j_sld dL_law_1118 ((H.2 c1).2.1.2.2.2.2.2.2.2.2.2.2.2.2.2.2.2.2.2.2.2.2.2.2.2.2.2.2.2.2.1 c282).1 (j_callV0 (as := [.int (d.2.2.2.2.2 (Int32.toNatClampNeg (x3 + 1)))]) cm_X9_pick im_X9_pick se_X9_pick (ci := 9) rfl (by decide) ml_L_135 ⟨by decide, by decide⟩ dL_law_1119 rfl rfl (Nat.le_of_ble_eq_true rfl) ((H.2 c1).2.1.2.2.2.2.2.2.2.2.2.2.2.2.2.2.2.2.2.2.2.2.2.2.2.2.2.2.2.2.1 c282).2.1 (jj_C.mono ((H.2 c1).2.1.2.2.2.2.2.2.2.2.2.2.2.2.2.2.2.2.2.2.2.2.2.2.2.2.2.2.2.2.1 c282).2.2 (fun v284 h283 H286 => jj_vi_e (fun y285 H286 => j_aload_n dL_law_1122 rfl 2 rfl (j_aload_nS dL_law_1123 rfl 0 rfl (j_iload_n dL_law_1124 rfl 3 rfl (j_iconst (v := 1) dL_law_1125 rfl (j_iadd dL_law_1126 (j_sld dL_law_1127 H286.1 (j_callV0 (as := [.int (d.2.2.2.2.2 (Int32.toNatClampNeg (x3 + 1)))]) cm_X10_pick im_X10_pick se_X10_pick (ci := 10) rfl (by decide) ml_L_138 ⟨by decide, by decide⟩ dL_law_1128 rfl rfl (Nat.le_of_ble_eq_true rfl) H286.2.1 (jj_C.mono H286.2.2 (fun v288 h287 H290 => jj_vi_e (fun y289 H290 => j_icmp_eq (tgt := 1398) dL_law_1131 (by decide) (fun c291 => j_iinc (v := (x3 + 6)) (L' := [(3, .int (x3 + 6)), (0, .float 0), (1, .ref r1), (2, .ref r2)]) dL_law_1398 3 rfl rfl (by decide) rfl (j_goto (tgt := 18) dL_law_1401 (by decide) (j_sub [1, 2, 3, 0] rfl ((H290.1 c291))))) (fun c291 => j_iconst (v := 0) dL_law_1134 rfl (j_ret (v := .int 0) ⟨dL_law_1135, _, rfl, by decide⟩ rfl ((H290.2 c291))))) H290))))))))) H286)))))))), fun c292 => j_aload_n dL_law_1136 rfl 1 rfl (j_aload_nS dL_law_1137 rfl 0 rfl (j_iload_n dL_law_1138 rfl 3 rfl (j_iconst (v := 1) dL_law_1139 rfl (j_iadd dL_law_1140 (j_sld dL_law_1141 ((H.2 c1).2.1.2.2.2.2.2.2.2.2.2.2.2.2.2.2.2.2.2.2.2.2.2.2.2.2.2.2.2.2.2.1 c292).1 (j_callV0 (as := [.int (d.2.2.2.2.2 (Int32.toNatClampNeg (x3 + 1)))]) cm_X9_undo im_X9_undo se_X9_undo (ci := 9) rfl (by decide) ml_L_139 ⟨by decide, by decide⟩ dL_law_1142 rfl rfl (Nat.le_of_ble_eq_true rfl) ((H.2 c1).2.1.2.2.2.2.2.2.2.2.2.2.2.2.2.2.2.2.2.2.2.2.2.2.2.2.2.2.2.2.2.1 c292).2.1 (jj_C.mono ((H.2 c1).2.1.2.2.2.2.2.2.2.2.2.2.2.2.2.2.2.2.2.2.2.2.2.2.2.2.2.2.2.2.2.1 c292).2.2 (fun v294 h293 H296 => jj_vi_e (fun y295 H296 => j_aload_n dL_law_1145 rfl 2 rfl (j_aload_nS dL_law_1146 rfl 0 rfl (j_iload_n dL_law_1147 rfl 3 rfl (j_iconst (v := 1) dL_law_1148 rfl (j_iadd dL_law_1149 (j_sld dL_law_1150 H296.1 (j_callV0 (as := [.int (d.2.2.2.2.2 (Int32.toNatClampNeg (x3 + 1)))]) cm_X10_undo im_X10_undo se_X10_undo (ci := 10) rfl (by decide) ml_L_142 ⟨by decide, by decide⟩ dL_law_1151 rfl rfl (Nat.le_of_ble_eq_true rfl) H296.2.1 (jj_C.mono H296.2.2 (fun v298 h297 H300 => jj_vi_e (fun y299 H300 => j_icmp_eq (tgt := 1398) dL_law_1154 (by decide) (fun c301 => j_iinc (v := (x3 + 6)) (L' := [(3, .int (x3 + 6)), (0, .float 0), (1, .ref r1), (2, .ref r2)]) dL_law_1398 3 rfl rfl (by decide) rfl (j_goto (tgt := 18) dL_law_1401 (by decide) (j_sub [1, 2, 3, 0] rfl ((H300.1 c301))))) (fun c301 => j_iconst (v := 0) dL_law_1157 rfl (j_ret (v := .int 0) ⟨dL_law_1158, _, rfl, by decide⟩ rfl ((H300.2 c301))))) H300))))))))) H296)))))))), fun c302 => j_aload_n dL_law_1159 rfl 1 rfl (j_callV0 (as := []) cm_X9_merging im_X9_merging se_X9_merging (ci := 9) rfl (by decide) ml_L_143 ⟨by decide, by decide⟩ dL_law_1160 rfl rfl (Nat.le_of_ble_eq_true rfl) ((H.2 c1).2.1.2.2.2.2.2.2.2.2.2.2.2.2.2.2.2.2.2.2.2.2.2.2.2.2.2.2.2.2.2.2.1 c302).1 (jj_C.mono ((H.2 c1).2.1.2.2.2.2.2.2.2.2.2.2.2.2.2.2.2.2.2.2.2.2.2.2.2.2.2.2.2.2.2.2.1 c302).2 (fun v304 h303 H306 => jj_vi_e (fun y305 H306 => j_aload_n dL_law_1163 rfl 2 rfl (j_callV0 (as := []) cm_X10_merging im_X10_merging se_X10_merging (ci := 10) rfl (by decide) ml_L_147 ⟨by decide, by decide⟩ dL_law_1164 rfl rfl (Nat.le_of_ble_eq_true rfl) H306.1 (jj_C.mono H306.2 (fun v308 h307 H310 => jj_vi_e (fun y309 H310 => j_icmp_eq (tgt := 1398) dL_law_1167 (by decide) (fun c311 => j_iinc (v := (x3 + 6)) (L' := [(3, .int (x3 + 6)), (0, .float 0), (1, .ref r1), (2, .ref r2)]) dL_law_1398 3 rfl rfl (by decide) rfl (j_goto (tgt := 18) dL_law_1401 (by decide) (j_sub [1, 2, 3, 0] rfl ((H310.1 c311))))) (fun c311 => j_iconst (v := 0) dL_law_1170 rfl (j_ret (v := .int 0) ⟨dL_law_1171, _, rfl, by decide⟩ rfl ((H310.2 c311))))) H310)))) H306))), fun c312 => j_aload_n dL_law_1172 rfl 1 rfl (j_aload_nS dL_law_1173 rfl 0 rfl (j_iload_n dL_law_1174 rfl 3 rfl (j_iconst (v := 1) dL_law_1175 rfl (j_iadd dL_law_1176 (j_sld dL_law_1177 ((H.2 c1).2.1.2.2.2.2.2.2.2.2.2.2.2.2.2.2.2.2.2.2.2.2.2.2.2.2.2.2.2.2.2.2.2.1 c312).1 (j_callV0 (as := [.int (d.2.2.2.2.2 (Int32.toNatClampNeg (x3 + 1)))]) cm_X9_conflicts im_X9_conflicts se_X9_conflicts (ci := 9) rfl (by decide) ml_L_148 ⟨by decide, by decide⟩ dL_law_1178 rfl rfl (Nat.le_of_ble_eq_true rfl) ((H.2 c1).2.1.2.2.2.2.2.2.2.2.2.2.2.2.2.2.2.2.2.2.2.2.2.2.2.2.2.2.2.2.2.2.2.1 c312).2.1 (jj_C.mono ((H.2 c1).2.1.2.2.2.2.2.2.2.2.2.2.2.2.2.2.2.2.2.2.2.2.2.2.2.2.2.2.2.2.2.2.2.1 c312).2.2 (fun v314 h313 H316 => jj_vi_e (fun y315 H316 => j_aload_n dL_law_1181 rfl 2 rfl (j_aload_nS dL_law_1182 rfl 0 rfl (j_iload_n dL_law_1183 rfl 3 rfl (j_iconst (v := 1) dL_law_1184 rfl (j_iadd dL_law_1185 (j_sld dL_law_1186 H316.1 (j_callV0 (as := [.int (d.2.2.2.2.2 (Int32.toNatClampNeg (x3 + 1)))]) cm_X10_conflicts im_X10_conflicts se_X10_conflicts (ci := 10) rfl (by decide) ml_L_151 ⟨by decide, by decide⟩ dL_law_1187 rfl rfl (Nat.le_of_ble_eq_true rfl) H316.2.1 (jj_C.mono H316.2.2 (fun v318 h317 H320 => jj_vi_e (fun y319 H320 => j_icmp_eq (tgt := 1398) dL_law_1190 (by decide) (fun c321 => j_iinc (v := (x3 + 6)) (L' := [(3, .int (x3 + 6)), (0, .float 0), (1, .ref r1), (2, .ref r2)]) dL_law_1398 3 rfl rfl (by decide) rfl (j_goto (tgt := 18) dL_law_1401 (by decide) (j_sub [1, 2, 3, 0] rfl ((H320.1 c321))))) (fun c321 => j_iconst (v := 0) dL_law_1193 rfl (j_ret (v := .int 0) ⟨dL_law_1194, _, rfl, by decide⟩ rfl ((H320.2 c321))))) H320))))))))) H316)))))))), fun c322 => j_aload_n dL_law_1195 rfl 1 rfl (j_aload_nS dL_law_1196 rfl 0 rfl (j_iload_n dL_law_1197 rfl 3 rfl (j_iconst (v := 1) dL_law_1198 rfl (j_iadd dL_law_1199 (j_sld dL_law_1200 ((H.2 c1).2.1.2.2.2.2.2.2.2.2.2.2.2.2.2.2.2.2.2.2.2.2.2.2.2.2.2.2.2.2.2.2.2.2.1 c322).1 (j_aload_nS dL_law_1201 rfl 0 rfl (j_iload_n dL_law_1202 rfl 3 rfl (j_iconst (v := 2) dL_law_1203 rfl (j_iadd dL_law_1204 (j_sld dL_law_1205 ((H.2 c1).2.1.2.2.2.2.2.2.2.2.2.2.2.2.2.2.2.2.2.2.2.2.2.2.2.2.2.2.2.2.2.2.2.2.1 c322).2.1 (j_callV0 (as := [.int (d.2.2.2.2.2 (Int32.toNatClampNeg (x3 + 1))), .int (d.2.2.2.2.2 (Int32.toNatClampNeg (x3 + 2)))]) cm_X9_conflict im_X9_conflict se_X9_conflict (ci := 9) rfl (by decide) ml_L_152 ⟨by decide, by decide⟩ dL_law_1206 rfl rfl (Nat.le_of_ble_eq_true rfl) ((H.2 c1).2.1.2.2.2.2.2.2.2.2.2.2.2.2.2.2.2.2.2.2.2.2.2.2.2.2.2.2.2.2.2.2.2.2.1 c322).2.2.1 (jj_C.mono ((H.2 c1).2.1.2.2.2.2.2.2.2.2.2.2.2.2.2.2.2.2.2.2.2.2.2.2.2.2.2.2.2.2.2.2.2.2.1 c322).2.2.2 (fun v324 h323 H326 => jj_vj_e (fun k325 H326 => j_aload_n dL_law_1209 rfl 2 rfl (j_aload_nS dL_law_1210 rfl 0 rfl (j_iload_n dL_law_1211 rfl 3 rfl (j_iconst (v := 1) dL_law_1212 rfl (j_iadd dL_law_1213 (j_sld dL_law_1214 H326.1 (j_aload_nS dL_law_1215 rfl 0 rfl (j_iload_n dL_law_1216 rfl 3 rfl (j_iconst (v := 2) dL_law_1217 rfl (j_iadd dL_law_1218 (j_sld dL_law_1219 H326.2.1 (j_callV0 (as := [.int (d.2.2.2.2.2 (Int32.toNatClampNeg (x3 + 1))), .int (d.2.2.2.2.2 (Int32.toNatClampNeg (x3 + 2)))]) cm_X10_conflict im_X10_conflict se_X10_conflict (ci := 10) rfl (by decide) ml_L_155 ⟨by decide, by decide⟩ dL_law_1220 rfl rfl (Nat.le_of_ble_eq_true rfl) H326.2.2.1 (jj_C.mono H326.2.2.2 (fun v328 h327 H330 => jj_vj_e (fun k329 H330 => j_lcmp dL_law_1223 (j_if_eq (tgt := 1398) dL_law_1224 (by decide) (fun c331 => j_iinc (v := (x3 + 6)) (L' := [(3, .int (x3 + 6)), (0, .float 0), (1, .ref r1), (2, .ref r2)]) dL_law_1398 3 rfl rfl (by decide) rfl (j_goto (tgt := 18) dL_law_1401 (by decide) (j_sub [1, 2, 3, 0] rfl ((H330.1 ((lg_cmp_eq _ _).mp c331)))))) (fun c331 => j_iconst (v := 0) dL_law_1227 rfl (j_ret (v := .int 0) ⟨dL_law_1228, _, rfl, by decide⟩ rfl ((H330.2 (fun z => c331 ((lg_cmp_eq _ _).mpr z)))))))) H330)))))))))))))) H326))))))))))))), fun c332 => j_aload_n dL_law_1229 rfl 1 rfl (j_aload_nS dL_law_1230 rfl 0 rfl (j_iload_n dL_law_1231 rfl 3 rfl (j_iconst (v := 1) dL_law_1232 rfl (j_iadd dL_law_1233 (j_sld dL_law_1234 ((H.2 c1).2.1.2.2.2.2.2.2.2.2.2.2.2.2.2.2.2.2.2.2.2.2.2.2.2.2.2.2.2.2.2.2.2.2.2.1 c332).1 (j_aload_nS dL_law_1235 rfl 0 rfl (j_iload_n dL_law_1236 rfl 3 rfl (j_iconst (v := 2) dL_law_1237 rfl (j_iadd dL_law_1238 (j_sld dL_law_1239 ((H.2 c1).2.1.2.2.2.2.2.2.2.2.2.2.2.2.2.2.2.2.2.2.2.2.2.2.2.2.2.2.2.2.2.2.2.2.2.1 c332).2.1 (j_aload_nS dL_law_1240 rfl 0 rfl (j_iload_n dL_law_1241 rfl 3 rfl (j_iconst (v := 3) dL_law_1242 rfl (j_iadd dL_law_1243 (j_sld dL_law_1244 ((H.2 c1).2.1.2.2.2.2.2.2.2.2.2.2.2.2.2.2.2.2.2.2.2.2.2.2.2.2.2.2.2.2.2.2.2.2.2.1 c332).2.2.1 (j_callV0 (as := [.int (d.2.2.2.2.2 (Int32.toNatClampNeg (x3 + 1))), .int (d.2.2.2.2.2 (Int32.toNatClampNeg (x3 + 2))), .int (d.2.2.2.2.2 (Int32.toNatClampNeg (x3 + 3)))]) cm_X9_version im_X9_version se_X9_version (ci := 9) rfl (by decide) ml_L_156 ⟨by decide, by decide⟩ dL_law_1245 rfl rfl (Nat.le_of_ble_eq_true rfl) ((H.2 c1).2.1.2.2.2.2.2.2.2.2.2.2.2.2.2.2.2.2.2.2.2.2.2.2.2.2.2.2.2.2.2.2.2.2.2.1 c332).2.2.2.1 (jj_C.mono ((H.2 c1).2.1.2.2.2.2.2.2.2.2.2.2.2.2.2.2.2.2.2.2.2.2.2.2.2.2.2.2.2.2.2.2.2.2.2.1 c332).2.2.2.2 (fun v334 h333 H336 => jj_vj_e (fun k335 H336 => j_aload_n dL_law_1248 rfl 2 rfl (j_aload_nS dL_law_1249 rfl 0 rfl (j_iload_n dL_law_1250 rfl 3 rfl (j_iconst (v := 1) dL_law_1251 rfl (j_iadd dL_law_1252 (j_sld dL_law_1253 H336.1 (j_aload_nS dL_law_1254 rfl 0 rfl (j_iload_n dL_law_1255 rfl 3 rfl (j_iconst (v := 2) dL_law_1256 rfl (j_iadd dL_law_1257 (j_sld dL_law_1258 H336.2.1 (j_aload_nS dL_law_1259 rfl 0 rfl (j_iload_n dL_law_1260 rfl 3 rfl (j_iconst (v := 3) dL_law_1261 rfl (j_iadd dL_law_1262 (j_sld dL_law_1263 H336.2.2.1 (j_callV0 (as := [.int (d.2.2.2.2.2 (Int32.toNatClampNeg (x3 + 1))), .int (d.2.2.2.2.2 (Int32.toNatClampNeg (x3 + 2))), .int (d.2.2.2.2.2 (Int32.toNatClampNeg (x3 + 3)))]) cm_X10_version im_X10_version se_X10_version (ci := 10) rfl (by decide) ml_L_159 ⟨by decide, by decide⟩ dL_law_1264 rfl rfl (Nat.le_of_ble_eq_true rfl) H336.2.2.2.1 (jj_C.mono H336.2.2.2.2 (fun v338 h337 H340 => jj_vj_e (fun k339 H340 => j_lcmp dL_law_1267 (j_if_eq (tgt := 1398) dL_law_1268 (by decide) (fun c341 => j_iinc (v := (x3 + 6)) (L' := [(3, .int (x3 + 6)), (0, .float 0), (1, .ref r1), (2, .ref r2)]) dL_law_1398 3 rfl rfl (by decide) rfl (j_goto (tgt := 18) dL_law_1401 (by decide) (j_sub [1, 2, 3, 0] rfl ((H340.1 ((lg_cmp_eq _ _).mp c341)))))) (fun c341 => j_iconst (v := 0) dL_law_1271 rfl (j_ret (v := .int 0) ⟨dL_law_1272, _, rfl, by decide⟩ rfl ((H340.2 (fun z => c341 ((lg_cmp_eq _ _).mpr z)))))))) H340))))))))))))))))))) H336)))))))))))))))))), fun c342 => j_aload_n dL_law_1273 rfl 1 rfl (j_aload_nS dL_law_1274 rfl 0 rfl (j_iload_n dL_law_1275 rfl 3 rfl (j_iconst (v := 1) dL_law_1276 rfl (j_iadd dL_law_1277 (j_sld dL_law_1278 ((H.2 c1).2.1.2.2.2.2.2.2.2.2.2.2.2.2.2.2.2.2.2.2.2.2.2.2.2.2.2.2.2.2.2.2.2.2.2.2.1 c342).1 (j_aload_nS dL_law_1279 rfl 0 rfl (j_iload_n dL_law_1280 rfl 3 rfl (j_iconst (v := 2) dL_law_1281 rfl (j_iadd dL_law_1282 (j_sld dL_law_1283 ((H.2 c1).2.1.2.2.2.2.2.2.2.2.2.2.2.2.2.2.2.2.2.2.2.2.2.2.2.2.2.2.2.2.2.2.2.2.2.2.1 c342).2.1 (j_callV0 (as := [.int (d.2.2.2.2.2 (Int32.toNatClampNeg (x3 + 1))), .int (d.2.2.2.2.2 (Int32.toNatClampNeg (x3 + 2)))]) cm_X9_settle im_X9_settle se_X9_settle (ci := 9) rfl (by decide) ml_L_160 ⟨by decide, by decide⟩ dL_law_1284 rfl rfl (Nat.le_of_ble_eq_true rfl) ((H.2 c1).2.1.2.2.2.2.2.2.2.2.2.2.2.2.2.2.2.2.2.2.2.2.2.2.2.2.2.2.2.2.2.2.2.2.2.2.1 c342).2.2.1 (jj_C.mono ((H.2 c1).2.1.2.2.2.2.2.2.2.2.2.2.2.2.2.2.2.2.2.2.2.2.2.2.2.2.2.2.2.2.2.2.2.2.2.2.1 c342).2.2.2 (fun v344 h343 H346 => jj_vi_e (fun y345 H346 => j_aload_n dL_law_1287 rfl 2 rfl (j_aload_nS dL_law_1288 rfl 0 rfl (j_iload_n dL_law_1289 rfl 3 rfl (j_iconst (v := 1) dL_law_1290 rfl (j_iadd dL_law_1291 (j_sld dL_law_1292 H346.1 (j_aload_nS dL_law_1293 rfl 0 rfl (j_iload_n dL_law_1294 rfl 3 rfl (j_iconst (v := 2) dL_law_1295 rfl (j_iadd dL_law_1296 (j_sld dL_law_1297 H346.2.1 (j_callV0 (as := [.int (d.2.2.2.2.2 (Int32.toNatClampNeg (x3 + 1))), .int (d.2.2.2.2.2 (Int32.toNatClampNeg (x3 + 2)))]) cm_X10_settle im_X10_settle se_X10_settle (ci := 10) rfl (by decide) ml_L_163 ⟨by decide, by decide⟩ dL_law_1298 rfl rfl (Nat.le_of_ble_eq_true rfl) H346.2.2.1 (jj_C.mono H346.2.2.2 (fun v348 h347 H350 => jj_vi_e (fun y349 H350 => j_icmp_eq (tgt := 1398) dL_law_1301 (by decide) (fun c351 => j_iinc (v := (x3 + 6)) (L' := [(3, .int (x3 + 6)), (0, .float 0), (1, .ref r1), (2, .ref r2)]) dL_law_1398 3 rfl rfl (by decide) rfl (j_goto (tgt := 18) dL_law_1401 (by decide) (j_sub [1, 2, 3, 0] rfl ((H350.1 c351))))) (fun c351 => j_iconst (v := 0) dL_law_1304 rfl (j_ret (v := .int 0) ⟨dL_law_1305, _, rfl, by decide⟩ rfl ((H350.2 c351))))) H350)))))))))))))) H346))))))))))))), fun c352 => j_aload_n dL_law_1306 rfl 1 rfl (j_aload_nS dL_law_1307 rfl 0 rfl (j_iload_n dL_law_1308 rfl 3 rfl (j_iconst (v := 1) dL_law_1309 rfl (j_iadd dL_law_1310 (j_sld dL_law_1311 ((H.2 c1).2.1.2.2.2.2.2.2.2.2.2.2.2.2.2.2.2.2.2.2.2.2.2.2.2.2.2.2.2.2.2.2.2.2.2.2.2.1 c352).1 (j_callV0 (as := [.int (d.2.2.2.2.2 (Int32.toNatClampNeg (x3 + 1)))]) cm_X9_send im_X9_send se_X9_send (ci := 9) rfl (by decide) ml_L_164 ⟨by decide, by decide⟩ dL_law_1312 rfl rfl (Nat.le_of_ble_eq_true rfl) ((H.2 c1).2.1.2.2.2.2.2.2.2.2.2.2.2.2.2.2.2.2.2.2.2.2.2.2.2.2.2.2.2.2.2.2.2.2.2.2.2.1 c352).2.1 (jj_C.mono ((H.2 c1).2.1.2.2.2.2.2.2.2.2.2.2.2.2.2.2.2.2.2.2.2.2.2.2.2.2.2.2.2.2.2.2.2.2.2.2.2.1 c352).2.2 (fun v354 h353 H356 => jj_vi_e (fun y355 H356 => j_aload_n dL_law_1315 rfl 2 rfl (j_aload_nS dL_law_1316 rfl 0 rfl (j_iload_n dL_law_1317 rfl 3 rfl (j_iconst (v := 1) dL_law_1318 rfl (j_iadd dL_law_1319 (j_sld dL_law_1320 H356.1 (j_callV0 (as := [.int (d.2.2.2.2.2 (Int32.toNatClampNeg (x3 + 1)))]) cm_X10_send im_X10_send se_X10_send (ci := 10) rfl (by decide) ml_L_167 ⟨by decide, by decide⟩ dL_law_1321 rfl rfl (Nat.le_of_ble_eq_true rfl) H356.2.1 (jj_C.mono H356.2.2 (fun v358 h357 H360 => jj_vi_e (fun y359 H360 => j_icmp_eq (tgt := 1398) dL_law_1324 (by decide) (fun c361 => j_iinc (v := (x3 + 6)) (L' := [(3, .int (x3 + 6)), (0, .float 0), (1, .ref r1), (2, .ref r2)]) dL_law_1398 3 rfl rfl (by decide) rfl (j_goto (tgt := 18) dL_law_1401 (by decide) (j_sub [1, 2, 3, 0] rfl ((H360.1 c361))))) (fun c361 => j_iconst (v := 0) dL_law_1327 rfl (j_ret (v := .int 0) ⟨dL_law_1328, _, rfl, by decide⟩ rfl ((H360.2 c361))))) H360))))))))) H356)))))))), fun c362 => j_aload_n dL_law_1329 rfl 1 rfl (j_aload_nS dL_law_1330 rfl 0 rfl (j_iload_n dL_law_1331 rfl 3 rfl (j_iconst (v := 1) dL_law_1332 rfl (j_iadd dL_law_1333 (j_sld dL_law_1334 ((H.2 c1).2.1.2.2.2.2.2.2.2.2.2.2.2.2.2.2.2.2.2.2.2.2.2.2.2.2.2.2.2.2.2.2.2.2.2.2.2.2.1 c362).1 (j_callV0 (as := [.int (d.2.2.2.2.2 (Int32.toNatClampNeg (x3 + 1)))]) cm_X9_fetch im_X9_fetch se_X9_fetch (ci := 9) rfl (by decide) ml_L_168 ⟨by decide, by decide⟩ dL_law_1335 rfl rfl (Nat.le_of_ble_eq_true rfl) ((H.2 c1).2.1.2.2.2.2.2.2.2.2.2.2.2.2.2.2.2.2.2.2.2.2.2.2.2.2.2.2.2.2.2.2.2.2.2.2.2.2.1 c362).2.1 (jj_C.mono ((H.2 c1).2.1.2.2.2.2.2.2.2.2.2.2.2.2.2.2.2.2.2.2.2.2.2.2.2.2.2.2.2.2.2.2.2.2.2.2.2.2.1 c362).2.2 (fun v364 h363 H366 => jj_vi_e (fun y365 H366 => j_aload_n dL_law_1338 rfl 2 rfl (j_aload_nS dL_law_1339 rfl 0 rfl (j_iload_n dL_law_1340 rfl 3 rfl (j_iconst (v := 1) dL_law_1341 rfl (j_iadd dL_law_1342 (j_sld dL_law_1343 H366.1 (j_callV0 (as := [.int (d.2.2.2.2.2 (Int32.toNatClampNeg (x3 + 1)))]) cm_X10_fetch im_X10_fetch se_X10_fetch (ci := 10) rfl (by decide) ml_L_171 ⟨by decide, by decide⟩ dL_law_1344 rfl rfl (Nat.le_of_ble_eq_true rfl) H366.2.1 (jj_C.mono H366.2.2 (fun v368 h367 H370 => jj_vi_e (fun y369 H370 => j_icmp_eq (tgt := 1398) dL_law_1347 (by decide) (fun c371 => j_iinc (v := (x3 + 6)) (L' := [(3, .int (x3 + 6)), (0, .float 0), (1, .ref r1), (2, .ref r2)]) dL_law_1398 3 rfl rfl (by decide) rfl (j_goto (tgt := 18) dL_law_1401 (by decide) (j_sub [1, 2, 3, 0] rfl ((H370.1 c371))))) (fun c371 => j_iconst (v := 0) dL_law_1350 rfl (j_ret (v := .int 0) ⟨dL_law_1351, _, rfl, by decide⟩ rfl ((H370.2 c371))))) H370))))))))) H366)))))))), fun c372 => j_aload_n dL_law_1352 rfl 1 rfl (j_aload_nS dL_law_1353 rfl 0 rfl (j_iload_n dL_law_1354 rfl 3 rfl (j_iconst (v := 1) dL_law_1355 rfl (j_iadd dL_law_1356 (j_sld dL_law_1357 ((H.2 c1).2.1.2.2.2.2.2.2.2.2.2.2.2.2.2.2.2.2.2.2.2.2.2.2.2.2.2.2.2.2.2.2.2.2.2.2.2.2.2.1 c372).1 (j_callV0 (as := [.int (d.2.2.2.2.2 (Int32.toNatClampNeg (x3 + 1)))]) cm_X9_there im_X9_there se_X9_there (ci := 9) rfl (by decide) ml_L_172 ⟨by decide, by decide⟩ dL_law_1358 rfl rfl (Nat.le_of_ble_eq_true rfl) ((H.2 c1).2.1.2.2.2.2.2.2.2.2.2.2.2.2.2.2.2.2.2.2.2.2.2.2.2.2.2.2.2.2.2.2.2.2.2.2.2.2.2.1 c372).2.1 (jj_C.mono ((H.2 c1).2.1.2.2.2.2.2.2.2.2.2.2.2.2.2.2.2.2.2.2.2.2.2.2.2.2.2.2.2.2.2.2.2.2.2.2.2.2.2.1 c372).2.2 (fun v374 h373 H376 => jj_vi_e (fun y375 H376 => j_aload_n dL_law_1361 rfl 2 rfl (j_aload_nS dL_law_1362 rfl 0 rfl (j_iload_n dL_law_1363 rfl 3 rfl (j_iconst (v := 1) dL_law_1364 rfl (j_iadd dL_law_1365 (j_sld dL_law_1366 H376.1 (j_callV0 (as := [.int (d.2.2.2.2.2 (Int32.toNatClampNeg (x3 + 1)))]) cm_X10_there im_X10_there se_X10_there (ci := 10) rfl (by decide) ml_L_175 ⟨by decide, by decide⟩ dL_law_1367 rfl rfl (Nat.le_of_ble_eq_true rfl) H376.2.1 (jj_C.mono H376.2.2 (fun v378 h377 H380 => jj_vi_e (fun y379 H380 => j_icmp_eq (tgt := 1398) dL_law_1370 (by decide) (fun c381 => j_iinc (v := (x3 + 6)) (L' := [(3, .int (x3 + 6)), (0, .float 0), (1, .ref r1), (2, .ref r2)]) dL_law_1398 3 rfl rfl (by decide) rfl (j_goto (tgt := 18) dL_law_1401 (by decide) (j_sub [1, 2, 3, 0] rfl ((H380.1 c381))))) (fun c381 => j_iconst (v := 0) dL_law_1373 rfl (j_ret (v := .int 0) ⟨dL_law_1374, _, rfl, by decide⟩ rfl ((H380.2 c381))))) H380))))))))) H376)))))))), fun c382 => j_aload_n dL_law_1375 rfl 1 rfl (j_aload_nS dL_law_1376 rfl 0 rfl (j_iload_n dL_law_1377 rfl 3 rfl (j_iconst (v := 1) dL_law_1378 rfl (j_iadd dL_law_1379 (j_sld dL_law_1380 ((H.2 c1).2.1.2.2.2.2.2.2.2.2.2.2.2.2.2.2.2.2.2.2.2.2.2.2.2.2.2.2.2.2.2.2.2.2.2.2.2.2.2.2.1 c382).1 (j_callV0 (as := [.int (d.2.2.2.2.2 (Int32.toNatClampNeg (x3 + 1)))]) cm_X9_kept im_X9_kept se_X9_kept (ci := 9) rfl (by decide) ml_L_176 ⟨by decide, by decide⟩ dL_law_1381 rfl rfl (Nat.le_of_ble_eq_true rfl) ((H.2 c1).2.1.2.2.2.2.2.2.2.2.2.2.2.2.2.2.2.2.2.2.2.2.2.2.2.2.2.2.2.2.2.2.2.2.2.2.2.2.2.2.1 c382).2.1 (jj_C.mono ((H.2 c1).2.1.2.2.2.2.2.2.2.2.2.2.2.2.2.2.2.2.2.2.2.2.2.2.2.2.2.2.2.2.2.2.2.2.2.2.2.2.2.2.1 c382).2.2 (fun v384 h383 H386 => jj_vi_e (fun y385 H386 => j_aload_n dL_law_1384 rfl 2 rfl (j_aload_nS dL_law_1385 rfl 0 rfl (j_iload_n dL_law_1386 rfl 3 rfl (j_iconst (v := 1) dL_law_1387 rfl (j_iadd dL_law_1388 (j_sld dL_law_1389 H386.1 (j_callV0 (as := [.int (d.2.2.2.2.2 (Int32.toNatClampNeg (x3 + 1)))]) cm_X10_kept im_X10_kept se_X10_kept (ci := 10) rfl (by decide) ml_L_179 ⟨by decide, by decide⟩ dL_law_1390 rfl rfl (Nat.le_of_ble_eq_true rfl) H386.2.1 (jj_C.mono H386.2.2 (fun v388 h387 H390 => jj_vi_e (fun y389 H390 => j_icmp_eq (tgt := 1398) dL_law_1393 (by decide) (fun c391 => j_iinc (v := (x3 + 6)) (L' := [(3, .int (x3 + 6)), (0, .float 0), (1, .ref r1), (2, .ref r2)]) dL_law_1398 3 rfl rfl (by decide) rfl (j_goto (tgt := 18) dL_law_1401 (by decide) (j_sub [1, 2, 3, 0] rfl ((H390.1 c391))))) (fun c391 => j_iconst (v := 0) dL_law_1396 rfl (j_ret (v := .int 0) ⟨dL_law_1397, _, rfl, by decide⟩ rfl ((H390.2 c391))))) H390))))))))) H386)))))))), trivial⟩) (fun c392 => j_iinc (v := (x3 + 6)) (L' := [(3, .int (x3 + 6)), (0, .float 0), (1, .ref r1), (2, .ref r2)]) dL_law_1398 3 rfl rfl (by decide) rfl (j_goto (tgt := 18) dL_law_1401 (by decide) (j_sub [1, 2, 3, 0] rfl (((H.2 c1).2.2 c392))))))))))))))))
