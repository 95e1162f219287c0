/-! rows of the methods, by program (wip/whole/gen13.py): L -/
theorem dL_law_0 : decode mL_law.1 0 = .ok (.new 7, 3) := by decide +kernel
theorem dL_law_3 : decode mL_law.1 3 = .ok (.dup, 1) := by decide +kernel
theorem dL_law_4 : decode mL_law.1 4 = .ok (.invokespecial 9, 3) := by decide +kernel
theorem dL_law_7 : decode mL_law.1 7 = .ok (.astore_n 1, 1) := by decide +kernel
theorem dL_law_8 : decode mL_law.1 8 = .ok (.new 10, 3) := by decide +kernel
theorem dL_law_11 : decode mL_law.1 11 = .ok (.dup, 1) := by decide +kernel
theorem dL_law_12 : decode mL_law.1 12 = .ok (.invokespecial 12, 3) := by decide +kernel
theorem dL_law_15 : decode mL_law.1 15 = .ok (.astore_n 2, 1) := by decide +kernel
theorem dL_law_16 : decode mL_law.1 16 = .ok (.iconst 0, 1) := by decide +kernel
theorem dL_law_17 : decode mL_law.1 17 = .ok (.istore_n 3, 1) := by decide +kernel
theorem dL_law_18 : decode mL_law.1 18 = .ok (.iload_n 3, 1) := by decide +kernel
theorem dL_law_19 : decode mL_law.1 19 = .ok (.aload_n 0, 1) := by decide +kernel
theorem dL_law_20 : decode mL_law.1 20 = .ok (.arraylength, 1) := by decide +kernel
theorem dL_law_21 : decode mL_law.1 21 = .ok (.bipush 6, 2) := by decide +kernel
theorem dL_law_23 : decode mL_law.1 23 = .ok (.isub, 1) := by decide +kernel
theorem dL_law_24 : decode mL_law.1 24 = .ok (.if_icmp .gt 1633, 3) := by decide +kernel
theorem dL_law_27 : decode mL_law.1 27 = .ok (.aload_n 0, 1) := by decide +kernel
theorem dL_law_28 : decode mL_law.1 28 = .ok (.iload_n 3, 1) := by decide +kernel
theorem dL_law_29 : decode mL_law.1 29 = .ok (.iaload, 1) := by decide +kernel
theorem dL_law_30 : decode mL_law.1 30 = .ok (.bipush 63, 2) := by decide +kernel
theorem dL_law_32 : decode mL_law.1 32 = .ok (.iand, 1) := by decide +kernel
theorem dL_law_33 : decode mL_law.1 33 = .ok (.tableswitch 1618 0 43 #[191, 224, 267, 310, 343, 366, 379, 402, 435, 468, 501, 534, 557, 600, 643, 676, 730, 774, 797, 841, 895, 918, 951, 974, 997, 1050, 1073, 1096, 1119, 1152, 1175, 1188, 1201, 1214, 1227, 1250, 1293, 1316, 1349, 1392, 1465, 1499, 1562, 1595], 191) := by decide +kernel
theorem dL_law_224 : decode mL_law.1 224 = .ok (.aload_n 1, 1) := by decide +kernel
theorem dL_law_225 : decode mL_law.1 225 = .ok (.aload_n 0, 1) := by decide +kernel
theorem dL_law_226 : decode mL_law.1 226 = .ok (.iload_n 3, 1) := by decide +kernel
theorem dL_law_227 : decode mL_law.1 227 = .ok (.iconst 1, 1) := by decide +kernel
theorem dL_law_228 : decode mL_law.1 228 = .ok (.iadd, 1) := by decide +kernel
theorem dL_law_229 : decode mL_law.1 229 = .ok (.iaload, 1) := by decide +kernel
theorem dL_law_230 : decode mL_law.1 230 = .ok (.aload_n 0, 1) := by decide +kernel
theorem dL_law_231 : decode mL_law.1 231 = .ok (.iload_n 3, 1) := by decide +kernel
theorem dL_law_232 : decode mL_law.1 232 = .ok (.iconst 2, 1) := by decide +kernel
theorem dL_law_233 : decode mL_law.1 233 = .ok (.iadd, 1) := by decide +kernel
theorem dL_law_234 : decode mL_law.1 234 = .ok (.iaload, 1) := by decide +kernel
theorem dL_law_235 : decode mL_law.1 235 = .ok (.invokevirtual 13, 3) := by decide +kernel
theorem dL_law_238 : decode mL_law.1 238 = .ok (.aload_n 2, 1) := by decide +kernel
theorem dL_law_239 : decode mL_law.1 239 = .ok (.aload_n 0, 1) := by decide +kernel
theorem dL_law_240 : decode mL_law.1 240 = .ok (.iload_n 3, 1) := by decide +kernel
theorem dL_law_241 : decode mL_law.1 241 = .ok (.iconst 1, 1) := by decide +kernel
theorem dL_law_242 : decode mL_law.1 242 = .ok (.iadd, 1) := by decide +kernel
theorem dL_law_243 : decode mL_law.1 243 = .ok (.iaload, 1) := by decide +kernel
theorem dL_law_244 : decode mL_law.1 244 = .ok (.aload_n 0, 1) := by decide +kernel
theorem dL_law_245 : decode mL_law.1 245 = .ok (.iload_n 3, 1) := by decide +kernel
theorem dL_law_246 : decode mL_law.1 246 = .ok (.iconst 2, 1) := by decide +kernel
theorem dL_law_247 : decode mL_law.1 247 = .ok (.iadd, 1) := by decide +kernel
theorem dL_law_248 : decode mL_law.1 248 = .ok (.iaload, 1) := by decide +kernel
theorem dL_law_249 : decode mL_law.1 249 = .ok (.invokevirtual 17, 3) := by decide +kernel
theorem dL_law_252 : decode mL_law.1 252 = .ok (.if_icmp .eq 1399, 3) := by decide +kernel
theorem dL_law_255 : decode mL_law.1 255 = .ok (.iconst 0, 1) := by decide +kernel
theorem dL_law_256 : decode mL_law.1 256 = .ok (.ireturn, 1) := by decide +kernel
theorem dL_law_257 : decode mL_law.1 257 = .ok (.aload_n 1, 1) := by decide +kernel
theorem dL_law_258 : decode mL_law.1 258 = .ok (.aload_n 0, 1) := by decide +kernel
theorem dL_law_259 : decode mL_law.1 259 = .ok (.iload_n 3, 1) := by decide +kernel
theorem dL_law_260 : decode mL_law.1 260 = .ok (.iconst 1, 1) := by decide +kernel
theorem dL_law_261 : decode mL_law.1 261 = .ok (.iadd, 1) := by decide +kernel
theorem dL_law_262 : decode mL_law.1 262 = .ok (.iaload, 1) := by decide +kernel
theorem dL_law_263 : decode mL_law.1 263 = .ok (.aload_n 0, 1) := by decide +kernel
theorem dL_law_264 : decode mL_law.1 264 = .ok (.iload_n 3, 1) := by decide +kernel
theorem dL_law_265 : decode mL_law.1 265 = .ok (.iconst 2, 1) := by decide +kernel
theorem dL_law_266 : decode mL_law.1 266 = .ok (.iadd, 1) := by decide +kernel
theorem dL_law_267 : decode mL_law.1 267 = .ok (.iaload, 1) := by decide +kernel
theorem dL_law_268 : decode mL_law.1 268 = .ok (.aload_n 0, 1) := by decide +kernel
theorem dL_law_269 : decode mL_law.1 269 = .ok (.iload_n 3, 1) := by decide +kernel
theorem dL_law_270 : decode mL_law.1 270 = .ok (.iconst 3, 1) := by decide +kernel
theorem dL_law_271 : decode mL_law.1 271 = .ok (.iadd, 1) := by decide +kernel
theorem dL_law_272 : decode mL_law.1 272 = .ok (.iaload, 1) := by decide +kernel
theorem dL_law_273 : decode mL_law.1 273 = .ok (.invokevirtual 18, 3) := by decide +kernel
theorem dL_law_276 : decode mL_law.1 276 = .ok (.aload_n 2, 1) := by decide +kernel
theorem dL_law_277 : decode mL_law.1 277 = .ok (.aload_n 0, 1) := by decide +kernel
theorem dL_law_278 : decode mL_law.1 278 = .ok (.iload_n 3, 1) := by decide +kernel
theorem dL_law_279 : decode mL_law.1 279 = .ok (.iconst 1, 1) := by decide +kernel
theorem dL_law_280 : decode mL_law.1 280 = .ok (.iadd, 1) := by decide +kernel
theorem dL_law_281 : decode mL_law.1 281 = .ok (.iaload, 1) := by decide +kernel
theorem dL_law_282 : decode mL_law.1 282 = .ok (.aload_n 0, 1) := by decide +kernel
theorem dL_law_283 : decode mL_law.1 283 = .ok (.iload_n 3, 1) := by decide +kernel
theorem dL_law_284 : decode mL_law.1 284 = .ok (.iconst 2, 1) := by decide +kernel
theorem dL_law_285 : decode mL_law.1 285 = .ok (.iadd, 1) := by decide +kernel
theorem dL_law_286 : decode mL_law.1 286 = .ok (.iaload, 1) := by decide +kernel
theorem dL_law_287 : decode mL_law.1 287 = .ok (.aload_n 0, 1) := by decide +kernel
theorem dL_law_288 : decode mL_law.1 288 = .ok (.iload_n 3, 1) := by decide +kernel
theorem dL_law_289 : decode mL_law.1 289 = .ok (.iconst 3, 1) := by decide +kernel
theorem dL_law_290 : decode mL_law.1 290 = .ok (.iadd, 1) := by decide +kernel
theorem dL_law_291 : decode mL_law.1 291 = .ok (.iaload, 1) := by decide +kernel
theorem dL_law_292 : decode mL_law.1 292 = .ok (.invokevirtual 22, 3) := by decide +kernel
theorem dL_law_295 : decode mL_law.1 295 = .ok (.if_icmp .eq 1356, 3) := by decide +kernel
theorem dL_law_298 : decode mL_law.1 298 = .ok (.iconst 0, 1) := by decide +kernel
theorem dL_law_299 : decode mL_law.1 299 = .ok (.ireturn, 1) := by decide +kernel
theorem dL_law_300 : decode mL_law.1 300 = .ok (.aload_n 1, 1) := by decide +kernel
theorem dL_law_301 : decode mL_law.1 301 = .ok (.aload_n 0, 1) := by decide +kernel
theorem dL_law_302 : decode mL_law.1 302 = .ok (.iload_n 3, 1) := by decide +kernel
theorem dL_law_303 : decode mL_law.1 303 = .ok (.iconst 1, 1) := by decide +kernel
theorem dL_law_304 : decode mL_law.1 304 = .ok (.iadd, 1) := by decide +kernel
theorem dL_law_305 : decode mL_law.1 305 = .ok (.iaload, 1) := by decide +kernel
theorem dL_law_306 : decode mL_law.1 306 = .ok (.aload_n 0, 1) := by decide +kernel
theorem dL_law_307 : decode mL_law.1 307 = .ok (.iload_n 3, 1) := by decide +kernel
theorem dL_law_308 : decode mL_law.1 308 = .ok (.iconst 2, 1) := by decide +kernel
theorem dL_law_309 : decode mL_law.1 309 = .ok (.iadd, 1) := by decide +kernel
theorem dL_law_310 : decode mL_law.1 310 = .ok (.iaload, 1) := by decide +kernel
theorem dL_law_311 : decode mL_law.1 311 = .ok (.aload_n 0, 1) := by decide +kernel
theorem dL_law_312 : decode mL_law.1 312 = .ok (.iload_n 3, 1) := by decide +kernel
theorem dL_law_313 : decode mL_law.1 313 = .ok (.iconst 3, 1) := by decide +kernel
theorem dL_law_314 : decode mL_law.1 314 = .ok (.iadd, 1) := by decide +kernel
theorem dL_law_315 : decode mL_law.1 315 = .ok (.iaload, 1) := by decide +kernel
theorem dL_law_316 : decode mL_law.1 316 = .ok (.invokevirtual 23, 3) := by decide +kernel
theorem dL_law_319 : decode mL_law.1 319 = .ok (.aload_n 2, 1) := by decide +kernel
theorem dL_law_320 : decode mL_law.1 320 = .ok (.aload_n 0, 1) := by decide +kernel
theorem dL_law_321 : decode mL_law.1 321 = .ok (.iload_n 3, 1) := by decide +kernel
theorem dL_law_322 : decode mL_law.1 322 = .ok (.iconst 1, 1) := by decide +kernel
theorem dL_law_323 : decode mL_law.1 323 = .ok (.iadd, 1) := by decide +kernel
theorem dL_law_324 : decode mL_law.1 324 = .ok (.iaload, 1) := by decide +kernel
theorem dL_law_325 : decode mL_law.1 325 = .ok (.aload_n 0, 1) := by decide +kernel
theorem dL_law_326 : decode mL_law.1 326 = .ok (.iload_n 3, 1) := by decide +kernel
theorem dL_law_327 : decode mL_law.1 327 = .ok (.iconst 2, 1) := by decide +kernel
theorem dL_law_328 : decode mL_law.1 328 = .ok (.iadd, 1) := by decide +kernel
theorem dL_law_329 : decode mL_law.1 329 = .ok (.iaload, 1) := by decide +kernel
theorem dL_law_330 : decode mL_law.1 330 = .ok (.aload_n 0, 1) := by decide +kernel
theorem dL_law_331 : decode mL_law.1 331 = .ok (.iload_n 3, 1) := by decide +kernel
theorem dL_law_332 : decode mL_law.1 332 = .ok (.iconst 3, 1) := by decide +kernel
theorem dL_law_333 : decode mL_law.1 333 = .ok (.iadd, 1) := by decide +kernel
theorem dL_law_334 : decode mL_law.1 334 = .ok (.iaload, 1) := by decide +kernel
theorem dL_law_335 : decode mL_law.1 335 = .ok (.invokevirtual 26, 3) := by decide +kernel
theorem dL_law_338 : decode mL_law.1 338 = .ok (.if_icmp .eq 1313, 3) := by decide +kernel
theorem dL_law_341 : decode mL_law.1 341 = .ok (.iconst 0, 1) := by decide +kernel
theorem dL_law_342 : decode mL_law.1 342 = .ok (.ireturn, 1) := by decide +kernel
theorem dL_law_343 : decode mL_law.1 343 = .ok (.aload_n 1, 1) := by decide +kernel
theorem dL_law_344 : decode mL_law.1 344 = .ok (.aload_n 0, 1) := by decide +kernel
theorem dL_law_345 : decode mL_law.1 345 = .ok (.iload_n 3, 1) := by decide +kernel
theorem dL_law_346 : decode mL_law.1 346 = .ok (.iconst 1, 1) := by decide +kernel
theorem dL_law_347 : decode mL_law.1 347 = .ok (.iadd, 1) := by decide +kernel
theorem dL_law_348 : decode mL_law.1 348 = .ok (.iaload, 1) := by decide +kernel
theorem dL_law_349 : decode mL_law.1 349 = .ok (.aload_n 0, 1) := by decide +kernel
theorem dL_law_350 : decode mL_law.1 350 = .ok (.iload_n 3, 1) := by decide +kernel
theorem dL_law_351 : decode mL_law.1 351 = .ok (.iconst 2, 1) := by decide +kernel
theorem dL_law_352 : decode mL_law.1 352 = .ok (.iadd, 1) := by decide +kernel
theorem dL_law_353 : decode mL_law.1 353 = .ok (.iaload, 1) := by decide +kernel
theorem dL_law_354 : decode mL_law.1 354 = .ok (.invokevirtual 27, 3) := by decide +kernel
theorem dL_law_357 : decode mL_law.1 357 = .ok (.aload_n 2, 1) := by decide +kernel
theorem dL_law_358 : decode mL_law.1 358 = .ok (.aload_n 0, 1) := by decide +kernel
theorem dL_law_359 : decode mL_law.1 359 = .ok (.iload_n 3, 1) := by decide +kernel
theorem dL_law_360 : decode mL_law.1 360 = .ok (.iconst 1, 1) := by decide +kernel
theorem dL_law_361 : decode mL_law.1 361 = .ok (.iadd, 1) := by decide +kernel
theorem dL_law_362 : decode mL_law.1 362 = .ok (.iaload, 1) := by decide +kernel
theorem dL_law_363 : decode mL_law.1 363 = .ok (.aload_n 0, 1) := by decide +kernel
theorem dL_law_364 : decode mL_law.1 364 = .ok (.iload_n 3, 1) := by decide +kernel
theorem dL_law_365 : decode mL_law.1 365 = .ok (.iconst 2, 1) := by decide +kernel
theorem dL_law_366 : decode mL_law.1 366 = .ok (.iadd, 1) := by decide +kernel
theorem dL_law_367 : decode mL_law.1 367 = .ok (.iaload, 1) := by decide +kernel
theorem dL_law_368 : decode mL_law.1 368 = .ok (.invokevirtual 30, 3) := by decide +kernel
theorem dL_law_371 : decode mL_law.1 371 = .ok (.if_icmp .eq 1280, 3) := by decide +kernel
theorem dL_law_374 : decode mL_law.1 374 = .ok (.iconst 0, 1) := by decide +kernel
theorem dL_law_375 : decode mL_law.1 375 = .ok (.ireturn, 1) := by decide +kernel
theorem dL_law_376 : decode mL_law.1 376 = .ok (.aload_n 1, 1) := by decide +kernel
theorem dL_law_377 : decode mL_law.1 377 = .ok (.aload_n 0, 1) := by decide +kernel
theorem dL_law_378 : decode mL_law.1 378 = .ok (.iload_n 3, 1) := by decide +kernel
theorem dL_law_379 : decode mL_law.1 379 = .ok (.iconst 1, 1) := by decide +kernel
theorem dL_law_380 : decode mL_law.1 380 = .ok (.iadd, 1) := by decide +kernel
theorem dL_law_381 : decode mL_law.1 381 = .ok (.iaload, 1) := by decide +kernel
theorem dL_law_382 : decode mL_law.1 382 = .ok (.invokevirtual 31, 3) := by decide +kernel
theorem dL_law_385 : decode mL_law.1 385 = .ok (.aload_n 2, 1) := by decide +kernel
theorem dL_law_386 : decode mL_law.1 386 = .ok (.aload_n 0, 1) := by decide +kernel
theorem dL_law_387 : decode mL_law.1 387 = .ok (.iload_n 3, 1) := by decide +kernel
theorem dL_law_388 : decode mL_law.1 388 = .ok (.iconst 1, 1) := by decide +kernel
theorem dL_law_389 : decode mL_law.1 389 = .ok (.iadd, 1) := by decide +kernel
theorem dL_law_390 : decode mL_law.1 390 = .ok (.iaload, 1) := by decide +kernel
theorem dL_law_391 : decode mL_law.1 391 = .ok (.invokevirtual 35, 3) := by decide +kernel
theorem dL_law_394 : decode mL_law.1 394 = .ok (.if_icmp .eq 1257, 3) := by decide +kernel
theorem dL_law_397 : decode mL_law.1 397 = .ok (.iconst 0, 1) := by decide +kernel
theorem dL_law_398 : decode mL_law.1 398 = .ok (.ireturn, 1) := by decide +kernel
theorem dL_law_399 : decode mL_law.1 399 = .ok (.aload_n 1, 1) := by decide +kernel
theorem dL_law_400 : decode mL_law.1 400 = .ok (.invokevirtual 36, 3) := by decide +kernel
theorem dL_law_403 : decode mL_law.1 403 = .ok (.aload_n 2, 1) := by decide +kernel
theorem dL_law_404 : decode mL_law.1 404 = .ok (.invokevirtual 40, 3) := by decide +kernel
theorem dL_law_407 : decode mL_law.1 407 = .ok (.if_icmp .eq 1244, 3) := by decide +kernel
theorem dL_law_410 : decode mL_law.1 410 = .ok (.iconst 0, 1) := by decide +kernel
theorem dL_law_411 : decode mL_law.1 411 = .ok (.ireturn, 1) := by decide +kernel
theorem dL_law_412 : decode mL_law.1 412 = .ok (.aload_n 1, 1) := by decide +kernel
theorem dL_law_413 : decode mL_law.1 413 = .ok (.aload_n 0, 1) := by decide +kernel
theorem dL_law_414 : decode mL_law.1 414 = .ok (.iload_n 3, 1) := by decide +kernel
theorem dL_law_415 : decode mL_law.1 415 = .ok (.iconst 1, 1) := by decide +kernel
theorem dL_law_416 : decode mL_law.1 416 = .ok (.iadd, 1) := by decide +kernel
theorem dL_law_417 : decode mL_law.1 417 = .ok (.iaload, 1) := by decide +kernel
theorem dL_law_418 : decode mL_law.1 418 = .ok (.invokevirtual 41, 3) := by decide +kernel
theorem dL_law_421 : decode mL_law.1 421 = .ok (.aload_n 2, 1) := by decide +kernel
theorem dL_law_422 : decode mL_law.1 422 = .ok (.aload_n 0, 1) := by decide +kernel
theorem dL_law_423 : decode mL_law.1 423 = .ok (.iload_n 3, 1) := by decide +kernel
theorem dL_law_424 : decode mL_law.1 424 = .ok (.iconst 1, 1) := by decide +kernel
theorem dL_law_425 : decode mL_law.1 425 = .ok (.iadd, 1) := by decide +kernel
theorem dL_law_426 : decode mL_law.1 426 = .ok (.iaload, 1) := by decide +kernel
theorem dL_law_427 : decode mL_law.1 427 = .ok (.invokevirtual 44, 3) := by decide +kernel
theorem dL_law_430 : decode mL_law.1 430 = .ok (.if_icmp .eq 1221, 3) := by decide +kernel
theorem dL_law_433 : decode mL_law.1 433 = .ok (.iconst 0, 1) := by decide +kernel
theorem dL_law_434 : decode mL_law.1 434 = .ok (.ireturn, 1) := by decide +kernel
theorem dL_law_435 : decode mL_law.1 435 = .ok (.aload_n 1, 1) := by decide +kernel
theorem dL_law_436 : decode mL_law.1 436 = .ok (.aload_n 0, 1) := by decide +kernel
theorem dL_law_437 : decode mL_law.1 437 = .ok (.iload_n 3, 1) := by decide +kernel
theorem dL_law_438 : decode mL_law.1 438 = .ok (.iconst 1, 1) := by decide +kernel
theorem dL_law_439 : decode mL_law.1 439 = .ok (.iadd, 1) := by decide +kernel
theorem dL_law_440 : decode mL_law.1 440 = .ok (.iaload, 1) := by decide +kernel
theorem dL_law_441 : decode mL_law.1 441 = .ok (.aload_n 0, 1) := by decide +kernel
theorem dL_law_442 : decode mL_law.1 442 = .ok (.iload_n 3, 1) := by decide +kernel
theorem dL_law_443 : decode mL_law.1 443 = .ok (.iconst 2, 1) := by decide +kernel
theorem dL_law_444 : decode mL_law.1 444 = .ok (.iadd, 1) := by decide +kernel
theorem dL_law_445 : decode mL_law.1 445 = .ok (.iaload, 1) := by decide +kernel
theorem dL_law_446 : decode mL_law.1 446 = .ok (.invokevirtual 45, 3) := by decide +kernel
theorem dL_law_449 : decode mL_law.1 449 = .ok (.aload_n 2, 1) := by decide +kernel
theorem dL_law_450 : decode mL_law.1 450 = .ok (.aload_n 0, 1) := by decide +kernel
theorem dL_law_451 : decode mL_law.1 451 = .ok (.iload_n 3, 1) := by decide +kernel
theorem dL_law_452 : decode mL_law.1 452 = .ok (.iconst 1, 1) := by decide +kernel
theorem dL_law_453 : decode mL_law.1 453 = .ok (.iadd, 1) := by decide +kernel
theorem dL_law_454 : decode mL_law.1 454 = .ok (.iaload, 1) := by decide +kernel
theorem dL_law_455 : decode mL_law.1 455 = .ok (.aload_n 0, 1) := by decide +kernel
theorem dL_law_456 : decode mL_law.1 456 = .ok (.iload_n 3, 1) := by decide +kernel
theorem dL_law_457 : decode mL_law.1 457 = .ok (.iconst 2, 1) := by decide +kernel
theorem dL_law_458 : decode mL_law.1 458 = .ok (.iadd, 1) := by decide +kernel
theorem dL_law_459 : decode mL_law.1 459 = .ok (.iaload, 1) := by decide +kernel
theorem dL_law_460 : decode mL_law.1 460 = .ok (.invokevirtual 48, 3) := by decide +kernel
theorem dL_law_463 : decode mL_law.1 463 = .ok (.if_icmp .eq 1188, 3) := by decide +kernel
theorem dL_law_466 : decode mL_law.1 466 = .ok (.iconst 0, 1) := by decide +kernel
theorem dL_law_467 : decode mL_law.1 467 = .ok (.ireturn, 1) := by decide +kernel
theorem dL_law_468 : decode mL_law.1 468 = .ok (.aload_n 1, 1) := by decide +kernel
theorem dL_law_469 : decode mL_law.1 469 = .ok (.aload_n 0, 1) := by decide +kernel
theorem dL_law_470 : decode mL_law.1 470 = .ok (.iload_n 3, 1) := by decide +kernel
theorem dL_law_471 : decode mL_law.1 471 = .ok (.iconst 1, 1) := by decide +kernel
theorem dL_law_472 : decode mL_law.1 472 = .ok (.iadd, 1) := by decide +kernel
theorem dL_law_473 : decode mL_law.1 473 = .ok (.iaload, 1) := by decide +kernel
theorem dL_law_474 : decode mL_law.1 474 = .ok (.aload_n 0, 1) := by decide +kernel
theorem dL_law_475 : decode mL_law.1 475 = .ok (.iload_n 3, 1) := by decide +kernel
theorem dL_law_476 : decode mL_law.1 476 = .ok (.iconst 2, 1) := by decide +kernel
theorem dL_law_477 : decode mL_law.1 477 = .ok (.iadd, 1) := by decide +kernel
theorem dL_law_478 : decode mL_law.1 478 = .ok (.iaload, 1) := by decide +kernel
theorem dL_law_479 : decode mL_law.1 479 = .ok (.invokevirtual 49, 3) := by decide +kernel
theorem dL_law_482 : decode mL_law.1 482 = .ok (.aload_n 2, 1) := by decide +kernel
theorem dL_law_483 : decode mL_law.1 483 = .ok (.aload_n 0, 1) := by decide +kernel
theorem dL_law_484 : decode mL_law.1 484 = .ok (.iload_n 3, 1) := by decide +kernel
theorem dL_law_485 : decode mL_law.1 485 = .ok (.iconst 1, 1) := by decide +kernel
theorem dL_law_486 : decode mL_law.1 486 = .ok (.iadd, 1) := by decide +kernel
theorem dL_law_487 : decode mL_law.1 487 = .ok (.iaload, 1) := by decide +kernel
theorem dL_law_488 : decode mL_law.1 488 = .ok (.aload_n 0, 1) := by decide +kernel
theorem dL_law_489 : decode mL_law.1 489 = .ok (.iload_n 3, 1) := by decide +kernel
theorem dL_law_490 : decode mL_law.1 490 = .ok (.iconst 2, 1) := by decide +kernel
theorem dL_law_491 : decode mL_law.1 491 = .ok (.iadd, 1) := by decide +kernel
theorem dL_law_492 : decode mL_law.1 492 = .ok (.iaload, 1) := by decide +kernel
theorem dL_law_493 : decode mL_law.1 493 = .ok (.invokevirtual 52, 3) := by decide +kernel
theorem dL_law_496 : decode mL_law.1 496 = .ok (.if_icmp .eq 1155, 3) := by decide +kernel
theorem dL_law_499 : decode mL_law.1 499 = .ok (.iconst 0, 1) := by decide +kernel
theorem dL_law_500 : decode mL_law.1 500 = .ok (.ireturn, 1) := by decide +kernel
theorem dL_law_501 : decode mL_law.1 501 = .ok (.aload_n 1, 1) := by decide +kernel
theorem dL_law_502 : decode mL_law.1 502 = .ok (.aload_n 0, 1) := by decide +kernel
theorem dL_law_503 : decode mL_law.1 503 = .ok (.iload_n 3, 1) := by decide +kernel
theorem dL_law_504 : decode mL_law.1 504 = .ok (.iconst 1, 1) := by decide +kernel
theorem dL_law_505 : decode mL_law.1 505 = .ok (.iadd, 1) := by decide +kernel
theorem dL_law_506 : decode mL_law.1 506 = .ok (.iaload, 1) := by decide +kernel
theorem dL_law_507 : decode mL_law.1 507 = .ok (.aload_n 0, 1) := by decide +kernel
theorem dL_law_508 : decode mL_law.1 508 = .ok (.iload_n 3, 1) := by decide +kernel
theorem dL_law_509 : decode mL_law.1 509 = .ok (.iconst 2, 1) := by decide +kernel
theorem dL_law_510 : decode mL_law.1 510 = .ok (.iadd, 1) := by decide +kernel
theorem dL_law_511 : decode mL_law.1 511 = .ok (.iaload, 1) := by decide +kernel
theorem dL_law_512 : decode mL_law.1 512 = .ok (.invokevirtual 53, 3) := by decide +kernel
theorem dL_law_515 : decode mL_law.1 515 = .ok (.aload_n 2, 1) := by decide +kernel
theorem dL_law_516 : decode mL_law.1 516 = .ok (.aload_n 0, 1) := by decide +kernel
theorem dL_law_517 : decode mL_law.1 517 = .ok (.iload_n 3, 1) := by decide +kernel
theorem dL_law_518 : decode mL_law.1 518 = .ok (.iconst 1, 1) := by decide +kernel
theorem dL_law_519 : decode mL_law.1 519 = .ok (.iadd, 1) := by decide +kernel
theorem dL_law_520 : decode mL_law.1 520 = .ok (.iaload, 1) := by decide +kernel
theorem dL_law_521 : decode mL_law.1 521 = .ok (.aload_n 0, 1) := by decide +kernel
theorem dL_law_522 : decode mL_law.1 522 = .ok (.iload_n 3, 1) := by decide +kernel
theorem dL_law_523 : decode mL_law.1 523 = .ok (.iconst 2, 1) := by decide +kernel
theorem dL_law_524 : decode mL_law.1 524 = .ok (.iadd, 1) := by decide +kernel
theorem dL_law_525 : decode mL_law.1 525 = .ok (.iaload, 1) := by decide +kernel
theorem dL_law_526 : decode mL_law.1 526 = .ok (.invokevirtual 56, 3) := by decide +kernel
theorem dL_law_529 : decode mL_law.1 529 = .ok (.if_icmp .eq 1122, 3) := by decide +kernel
theorem dL_law_532 : decode mL_law.1 532 = .ok (.iconst 0, 1) := by decide +kernel
theorem dL_law_533 : decode mL_law.1 533 = .ok (.ireturn, 1) := by decide +kernel
theorem dL_law_534 : decode mL_law.1 534 = .ok (.aload_n 1, 1) := by decide +kernel
theorem dL_law_535 : decode mL_law.1 535 = .ok (.aload_n 0, 1) := by decide +kernel
theorem dL_law_536 : decode mL_law.1 536 = .ok (.iload_n 3, 1) := by decide +kernel
theorem dL_law_537 : decode mL_law.1 537 = .ok (.iconst 1, 1) := by decide +kernel
theorem dL_law_538 : decode mL_law.1 538 = .ok (.iadd, 1) := by decide +kernel
theorem dL_law_539 : decode mL_law.1 539 = .ok (.iaload, 1) := by decide +kernel
theorem dL_law_540 : decode mL_law.1 540 = .ok (.aload_n 0, 1) := by decide +kernel
theorem dL_law_541 : decode mL_law.1 541 = .ok (.iload_n 3, 1) := by decide +kernel
theorem dL_law_542 : decode mL_law.1 542 = .ok (.iconst 2, 1) := by decide +kernel
theorem dL_law_543 : decode mL_law.1 543 = .ok (.iadd, 1) := by decide +kernel
theorem dL_law_544 : decode mL_law.1 544 = .ok (.iaload, 1) := by decide +kernel
theorem dL_law_545 : decode mL_law.1 545 = .ok (.invokevirtual 57, 3) := by decide +kernel
theorem dL_law_548 : decode mL_law.1 548 = .ok (.aload_n 2, 1) := by decide +kernel
theorem dL_law_549 : decode mL_law.1 549 = .ok (.aload_n 0, 1) := by decide +kernel
theorem dL_law_550 : decode mL_law.1 550 = .ok (.iload_n 3, 1) := by decide +kernel
theorem dL_law_551 : decode mL_law.1 551 = .ok (.iconst 1, 1) := by decide +kernel
theorem dL_law_552 : decode mL_law.1 552 = .ok (.iadd, 1) := by decide +kernel
theorem dL_law_553 : decode mL_law.1 553 = .ok (.iaload, 1) := by decide +kernel
theorem dL_law_554 : decode mL_law.1 554 = .ok (.aload_n 0, 1) := by decide +kernel
theorem dL_law_555 : decode mL_law.1 555 = .ok (.iload_n 3, 1) := by decide +kernel
theorem dL_law_556 : decode mL_law.1 556 = .ok (.iconst 2, 1) := by decide +kernel
theorem dL_law_557 : decode mL_law.1 557 = .ok (.iadd, 1) := by decide +kernel
theorem dL_law_558 : decode mL_law.1 558 = .ok (.iaload, 1) := by decide +kernel
theorem dL_law_559 : decode mL_law.1 559 = .ok (.invokevirtual 60, 3) := by decide +kernel
theorem dL_law_562 : decode mL_law.1 562 = .ok (.if_icmp .eq 1089, 3) := by decide +kernel
theorem dL_law_565 : decode mL_law.1 565 = .ok (.iconst 0, 1) := by decide +kernel
theorem dL_law_566 : decode mL_law.1 566 = .ok (.ireturn, 1) := by decide +kernel
theorem dL_law_567 : decode mL_law.1 567 = .ok (.aload_n 1, 1) := by decide +kernel
theorem dL_law_568 : decode mL_law.1 568 = .ok (.aload_n 0, 1) := by decide +kernel
theorem dL_law_569 : decode mL_law.1 569 = .ok (.iload_n 3, 1) := by decide +kernel
theorem dL_law_570 : decode mL_law.1 570 = .ok (.iconst 1, 1) := by decide +kernel
theorem dL_law_571 : decode mL_law.1 571 = .ok (.iadd, 1) := by decide +kernel
theorem dL_law_572 : decode mL_law.1 572 = .ok (.iaload, 1) := by decide +kernel
theorem dL_law_573 : decode mL_law.1 573 = .ok (.invokevirtual 61, 3) := by decide +kernel
theorem dL_law_576 : decode mL_law.1 576 = .ok (.aload_n 2, 1) := by decide +kernel
theorem dL_law_577 : decode mL_law.1 577 = .ok (.aload_n 0, 1) := by decide +kernel
theorem dL_law_578 : decode mL_law.1 578 = .ok (.iload_n 3, 1) := by decide +kernel
theorem dL_law_579 : decode mL_law.1 579 = .ok (.iconst 1, 1) := by decide +kernel
theorem dL_law_580 : decode mL_law.1 580 = .ok (.iadd, 1) := by decide +kernel
theorem dL_law_581 : decode mL_law.1 581 = .ok (.iaload, 1) := by decide +kernel
theorem dL_law_582 : decode mL_law.1 582 = .ok (.invokevirtual 64, 3) := by decide +kernel
theorem dL_law_585 : decode mL_law.1 585 = .ok (.if_icmp .eq 1066, 3) := by decide +kernel
theorem dL_law_588 : decode mL_law.1 588 = .ok (.iconst 0, 1) := by decide +kernel
theorem dL_law_589 : decode mL_law.1 589 = .ok (.ireturn, 1) := by decide +kernel
theorem dL_law_590 : decode mL_law.1 590 = .ok (.aload_n 1, 1) := by decide +kernel
theorem dL_law_591 : decode mL_law.1 591 = .ok (.aload_n 0, 1) := by decide +kernel
theorem dL_law_592 : decode mL_law.1 592 = .ok (.iload_n 3, 1) := by decide +kernel
theorem dL_law_593 : decode mL_law.1 593 = .ok (.iconst 1, 1) := by decide +kernel
theorem dL_law_594 : decode mL_law.1 594 = .ok (.iadd, 1) := by decide +kernel
theorem dL_law_595 : decode mL_law.1 595 = .ok (.iaload, 1) := by decide +kernel
theorem dL_law_596 : decode mL_law.1 596 = .ok (.aload_n 0, 1) := by decide +kernel
theorem dL_law_597 : decode mL_law.1 597 = .ok (.iload_n 3, 1) := by decide +kernel
theorem dL_law_598 : decode mL_law.1 598 = .ok (.iconst 2, 1) := by decide +kernel
theorem dL_law_599 : decode mL_law.1 599 = .ok (.iadd, 1) := by decide +kernel
theorem dL_law_600 : decode mL_law.1 600 = .ok (.iaload, 1) := by decide +kernel
theorem dL_law_601 : decode mL_law.1 601 = .ok (.aload_n 0, 1) := by decide +kernel
theorem dL_law_602 : decode mL_law.1 602 = .ok (.iload_n 3, 1) := by decide +kernel
theorem dL_law_603 : decode mL_law.1 603 = .ok (.iconst 3, 1) := by decide +kernel
theorem dL_law_604 : decode mL_law.1 604 = .ok (.iadd, 1) := by decide +kernel
theorem dL_law_605 : decode mL_law.1 605 = .ok (.iaload, 1) := by decide +kernel
theorem dL_law_606 : decode mL_law.1 606 = .ok (.invokevirtual 65, 3) := by decide +kernel
theorem dL_law_609 : decode mL_law.1 609 = .ok (.aload_n 2, 1) := by decide +kernel
theorem dL_law_610 : decode mL_law.1 610 = .ok (.aload_n 0, 1) := by decide +kernel
theorem dL_law_611 : decode mL_law.1 611 = .ok (.iload_n 3, 1) := by decide +kernel
theorem dL_law_612 : decode mL_law.1 612 = .ok (.iconst 1, 1) := by decide +kernel
theorem dL_law_613 : decode mL_law.1 613 = .ok (.iadd, 1) := by decide +kernel
theorem dL_law_614 : decode mL_law.1 614 = .ok (.iaload, 1) := by decide +kernel
theorem dL_law_615 : decode mL_law.1 615 = .ok (.aload_n 0, 1) := by decide +kernel
theorem dL_law_616 : decode mL_law.1 616 = .ok (.iload_n 3, 1) := by decide +kernel
theorem dL_law_617 : decode mL_law.1 617 = .ok (.iconst 2, 1) := by decide +kernel
theorem dL_law_618 : decode mL_law.1 618 = .ok (.iadd, 1) := by decide +kernel
theorem dL_law_619 : decode mL_law.1 619 = .ok (.iaload, 1) := by decide +kernel
theorem dL_law_620 : decode mL_law.1 620 = .ok (.aload_n 0, 1) := by decide +kernel
theorem dL_law_621 : decode mL_law.1 621 = .ok (.iload_n 3, 1) := by decide +kernel
theorem dL_law_622 : decode mL_law.1 622 = .ok (.iconst 3, 1) := by decide +kernel
theorem dL_law_623 : decode mL_law.1 623 = .ok (.iadd, 1) := by decide +kernel
theorem dL_law_624 : decode mL_law.1 624 = .ok (.iaload, 1) := by decide +kernel
theorem dL_law_625 : decode mL_law.1 625 = .ok (.invokevirtual 68, 3) := by decide +kernel
theorem dL_law_628 : decode mL_law.1 628 = .ok (.if_icmp .eq 1023, 3) := by decide +kernel
theorem dL_law_631 : decode mL_law.1 631 = .ok (.iconst 0, 1) := by decide +kernel
theorem dL_law_632 : decode mL_law.1 632 = .ok (.ireturn, 1) := by decide +kernel
theorem dL_law_633 : decode mL_law.1 633 = .ok (.aload_n 1, 1) := by decide +kernel
theorem dL_law_634 : decode mL_law.1 634 = .ok (.aload_n 0, 1) := by decide +kernel
theorem dL_law_635 : decode mL_law.1 635 = .ok (.iload_n 3, 1) := by decide +kernel
theorem dL_law_636 : decode mL_law.1 636 = .ok (.iconst 1, 1) := by decide +kernel
theorem dL_law_637 : decode mL_law.1 637 = .ok (.iadd, 1) := by decide +kernel
theorem dL_law_638 : decode mL_law.1 638 = .ok (.iaload, 1) := by decide +kernel
theorem dL_law_639 : decode mL_law.1 639 = .ok (.aload_n 0, 1) := by decide +kernel
theorem dL_law_640 : decode mL_law.1 640 = .ok (.iload_n 3, 1) := by decide +kernel
theorem dL_law_641 : decode mL_law.1 641 = .ok (.iconst 2, 1) := by decide +kernel
theorem dL_law_642 : decode mL_law.1 642 = .ok (.iadd, 1) := by decide +kernel
theorem dL_law_643 : decode mL_law.1 643 = .ok (.iaload, 1) := by decide +kernel
theorem dL_law_644 : decode mL_law.1 644 = .ok (.aload_n 0, 1) := by decide +kernel
theorem dL_law_645 : decode mL_law.1 645 = .ok (.iload_n 3, 1) := by decide +kernel
theorem dL_law_646 : decode mL_law.1 646 = .ok (.iconst 3, 1) := by decide +kernel
theorem dL_law_647 : decode mL_law.1 647 = .ok (.iadd, 1) := by decide +kernel
theorem dL_law_648 : decode mL_law.1 648 = .ok (.iaload, 1) := by decide +kernel
theorem dL_law_649 : decode mL_law.1 649 = .ok (.invokevirtual 69, 3) := by decide +kernel
theorem dL_law_652 : decode mL_law.1 652 = .ok (.aload_n 2, 1) := by decide +kernel
theorem dL_law_653 : decode mL_law.1 653 = .ok (.aload_n 0, 1) := by decide +kernel
theorem dL_law_654 : decode mL_law.1 654 = .ok (.iload_n 3, 1) := by decide +kernel
theorem dL_law_655 : decode mL_law.1 655 = .ok (.iconst 1, 1) := by decide +kernel
theorem dL_law_656 : decode mL_law.1 656 = .ok (.iadd, 1) := by decide +kernel
theorem dL_law_657 : decode mL_law.1 657 = .ok (.iaload, 1) := by decide +kernel
theorem dL_law_658 : decode mL_law.1 658 = .ok (.aload_n 0, 1) := by decide +kernel
theorem dL_law_659 : decode mL_law.1 659 = .ok (.iload_n 3, 1) := by decide +kernel
theorem dL_law_660 : decode mL_law.1 660 = .ok (.iconst 2, 1) := by decide +kernel
theorem dL_law_661 : decode mL_law.1 661 = .ok (.iadd, 1) := by decide +kernel
theorem dL_law_662 : decode mL_law.1 662 = .ok (.iaload, 1) := by decide +kernel
theorem dL_law_663 : decode mL_law.1 663 = .ok (.aload_n 0, 1) := by decide +kernel
theorem dL_law_664 : decode mL_law.1 664 = .ok (.iload_n 3, 1) := by decide +kernel
theorem dL_law_665 : decode mL_law.1 665 = .ok (.iconst 3, 1) := by decide +kernel
theorem dL_law_666 : decode mL_law.1 666 = .ok (.iadd, 1) := by decide +kernel
theorem dL_law_667 : decode mL_law.1 667 = .ok (.iaload, 1) := by decide +kernel
theorem dL_law_668 : decode mL_law.1 668 = .ok (.invokevirtual 72, 3) := by decide +kernel
theorem dL_law_671 : decode mL_law.1 671 = .ok (.if_icmp .eq 980, 3) := by decide +kernel
theorem dL_law_674 : decode mL_law.1 674 = .ok (.iconst 0, 1) := by decide +kernel
theorem dL_law_675 : decode mL_law.1 675 = .ok (.ireturn, 1) := by decide +kernel
theorem dL_law_676 : decode mL_law.1 676 = .ok (.aload_n 1, 1) := by decide +kernel
theorem dL_law_677 : decode mL_law.1 677 = .ok (.aload_n 0, 1) := by decide +kernel
theorem dL_law_678 : decode mL_law.1 678 = .ok (.iload_n 3, 1) := by decide +kernel
theorem dL_law_679 : decode mL_law.1 679 = .ok (.iconst 1, 1) := by decide +kernel
theorem dL_law_680 : decode mL_law.1 680 = .ok (.iadd, 1) := by decide +kernel
theorem dL_law_681 : decode mL_law.1 681 = .ok (.iaload, 1) := by decide +kernel
theorem dL_law_682 : decode mL_law.1 682 = .ok (.aload_n 0, 1) := by decide +kernel
theorem dL_law_683 : decode mL_law.1 683 = .ok (.iload_n 3, 1) := by decide +kernel
theorem dL_law_684 : decode mL_law.1 684 = .ok (.iconst 2, 1) := by decide +kernel
theorem dL_law_685 : decode mL_law.1 685 = .ok (.iadd, 1) := by decide +kernel
theorem dL_law_686 : decode mL_law.1 686 = .ok (.iaload, 1) := by decide +kernel
theorem dL_law_687 : decode mL_law.1 687 = .ok (.invokevirtual 73, 3) := by decide +kernel
theorem dL_law_690 : decode mL_law.1 690 = .ok (.aload_n 2, 1) := by decide +kernel
theorem dL_law_691 : decode mL_law.1 691 = .ok (.aload_n 0, 1) := by decide +kernel
theorem dL_law_692 : decode mL_law.1 692 = .ok (.iload_n 3, 1) := by decide +kernel
theorem dL_law_693 : decode mL_law.1 693 = .ok (.iconst 1, 1) := by decide +kernel
theorem dL_law_694 : decode mL_law.1 694 = .ok (.iadd, 1) := by decide +kernel
theorem dL_law_695 : decode mL_law.1 695 = .ok (.iaload, 1) := by decide +kernel
theorem dL_law_696 : decode mL_law.1 696 = .ok (.aload_n 0, 1) := by decide +kernel
theorem dL_law_697 : decode mL_law.1 697 = .ok (.iload_n 3, 1) := by decide +kernel
theorem dL_law_698 : decode mL_law.1 698 = .ok (.iconst 2, 1) := by decide +kernel
theorem dL_law_699 : decode mL_law.1 699 = .ok (.iadd, 1) := by decide +kernel
theorem dL_law_700 : decode mL_law.1 700 = .ok (.iaload, 1) := by decide +kernel
theorem dL_law_701 : decode mL_law.1 701 = .ok (.invokevirtual 76, 3) := by decide +kernel
theorem dL_law_704 : decode mL_law.1 704 = .ok (.if_icmp .eq 947, 3) := by decide +kernel
theorem dL_law_707 : decode mL_law.1 707 = .ok (.iconst 0, 1) := by decide +kernel
theorem dL_law_708 : decode mL_law.1 708 = .ok (.ireturn, 1) := by decide +kernel
theorem dL_law_709 : decode mL_law.1 709 = .ok (.aload_n 1, 1) := by decide +kernel
theorem dL_law_710 : decode mL_law.1 710 = .ok (.aload_n 0, 1) := by decide +kernel
theorem dL_law_711 : decode mL_law.1 711 = .ok (.iload_n 3, 1) := by decide +kernel
theorem dL_law_712 : decode mL_law.1 712 = .ok (.iconst 1, 1) := by decide +kernel
theorem dL_law_713 : decode mL_law.1 713 = .ok (.iadd, 1) := by decide +kernel
theorem dL_law_714 : decode mL_law.1 714 = .ok (.iaload, 1) := by decide +kernel
theorem dL_law_715 : decode mL_law.1 715 = .ok (.aload_n 0, 1) := by decide +kernel
theorem dL_law_716 : decode mL_law.1 716 = .ok (.iload_n 3, 1) := by decide +kernel
theorem dL_law_717 : decode mL_law.1 717 = .ok (.iconst 2, 1) := by decide +kernel
theorem dL_law_718 : decode mL_law.1 718 = .ok (.iadd, 1) := by decide +kernel
theorem dL_law_719 : decode mL_law.1 719 = .ok (.iaload, 1) := by decide +kernel
theorem dL_law_720 : decode mL_law.1 720 = .ok (.aload_n 0, 1) := by decide +kernel
theorem dL_law_721 : decode mL_law.1 721 = .ok (.iload_n 3, 1) := by decide +kernel
theorem dL_law_722 : decode mL_law.1 722 = .ok (.iconst 3, 1) := by decide +kernel
theorem dL_law_723 : decode mL_law.1 723 = .ok (.iadd, 1) := by decide +kernel
theorem dL_law_724 : decode mL_law.1 724 = .ok (.iaload, 1) := by decide +kernel
theorem dL_law_725 : decode mL_law.1 725 = .ok (.aload_n 0, 1) := by decide +kernel
theorem dL_law_726 : decode mL_law.1 726 = .ok (.iload_n 3, 1) := by decide +kernel
theorem dL_law_727 : decode mL_law.1 727 = .ok (.iconst 4, 1) := by decide +kernel
theorem dL_law_728 : decode mL_law.1 728 = .ok (.iadd, 1) := by decide +kernel
theorem dL_law_729 : decode mL_law.1 729 = .ok (.iaload, 1) := by decide +kernel
theorem dL_law_730 : decode mL_law.1 730 = .ok (.invokevirtual 77, 3) := by decide +kernel
theorem dL_law_733 : decode mL_law.1 733 = .ok (.aload_n 2, 1) := by decide +kernel
theorem dL_law_734 : decode mL_law.1 734 = .ok (.aload_n 0, 1) := by decide +kernel
theorem dL_law_735 : decode mL_law.1 735 = .ok (.iload_n 3, 1) := by decide +kernel
theorem dL_law_736 : decode mL_law.1 736 = .ok (.iconst 1, 1) := by decide +kernel
theorem dL_law_737 : decode mL_law.1 737 = .ok (.iadd, 1) := by decide +kernel
theorem dL_law_738 : decode mL_law.1 738 = .ok (.iaload, 1) := by decide +kernel
theorem dL_law_739 : decode mL_law.1 739 = .ok (.aload_n 0, 1) := by decide +kernel
theorem dL_law_740 : decode mL_law.1 740 = .ok (.iload_n 3, 1) := by decide +kernel
theorem dL_law_741 : decode mL_law.1 741 = .ok (.iconst 2, 1) := by decide +kernel
theorem dL_law_742 : decode mL_law.1 742 = .ok (.iadd, 1) := by decide +kernel
theorem dL_law_743 : decode mL_law.1 743 = .ok (.iaload, 1) := by decide +kernel
theorem dL_law_744 : decode mL_law.1 744 = .ok (.aload_n 0, 1) := by decide +kernel
theorem dL_law_745 : decode mL_law.1 745 = .ok (.iload_n 3, 1) := by decide +kernel
theorem dL_law_746 : decode mL_law.1 746 = .ok (.iconst 3, 1) := by decide +kernel
theorem dL_law_747 : decode mL_law.1 747 = .ok (.iadd, 1) := by decide +kernel
theorem dL_law_748 : decode mL_law.1 748 = .ok (.iaload, 1) := by decide +kernel
theorem dL_law_749 : decode mL_law.1 749 = .ok (.aload_n 0, 1) := by decide +kernel
theorem dL_law_750 : decode mL_law.1 750 = .ok (.iload_n 3, 1) := by decide +kernel
theorem dL_law_751 : decode mL_law.1 751 = .ok (.iconst 4, 1) := by decide +kernel
theorem dL_law_752 : decode mL_law.1 752 = .ok (.iadd, 1) := by decide +kernel
theorem dL_law_753 : decode mL_law.1 753 = .ok (.iaload, 1) := by decide +kernel
theorem dL_law_754 : decode mL_law.1 754 = .ok (.invokevirtual 81, 3) := by decide +kernel
theorem dL_law_757 : decode mL_law.1 757 = .ok (.lcmp, 1) := by decide +kernel
theorem dL_law_758 : decode mL_law.1 758 = .ok (.ifCond .eq 893, 3) := by decide +kernel
theorem dL_law_761 : decode mL_law.1 761 = .ok (.iconst 0, 1) := by decide +kernel
theorem dL_law_762 : decode mL_law.1 762 = .ok (.ireturn, 1) := by decide +kernel
theorem dL_law_763 : decode mL_law.1 763 = .ok (.aload_n 1, 1) := by decide +kernel
theorem dL_law_764 : decode mL_law.1 764 = .ok (.aload_n 0, 1) := by decide +kernel
theorem dL_law_765 : decode mL_law.1 765 = .ok (.iload_n 3, 1) := by decide +kernel
theorem dL_law_766 : decode mL_law.1 766 = .ok (.iconst 1, 1) := by decide +kernel
theorem dL_law_767 : decode mL_law.1 767 = .ok (.iadd, 1) := by decide +kernel
theorem dL_law_768 : decode mL_law.1 768 = .ok (.iaload, 1) := by decide +kernel
theorem dL_law_769 : decode mL_law.1 769 = .ok (.aload_n 0, 1) := by decide +kernel
theorem dL_law_770 : decode mL_law.1 770 = .ok (.iload_n 3, 1) := by decide +kernel
theorem dL_law_771 : decode mL_law.1 771 = .ok (.iconst 2, 1) := by decide +kernel
theorem dL_law_772 : decode mL_law.1 772 = .ok (.iadd, 1) := by decide +kernel
theorem dL_law_773 : decode mL_law.1 773 = .ok (.iaload, 1) := by decide +kernel
theorem dL_law_774 : decode mL_law.1 774 = .ok (.aload_n 0, 1) := by decide +kernel
theorem dL_law_775 : decode mL_law.1 775 = .ok (.iload_n 3, 1) := by decide +kernel
theorem dL_law_776 : decode mL_law.1 776 = .ok (.iconst 3, 1) := by decide +kernel
theorem dL_law_777 : decode mL_law.1 777 = .ok (.iadd, 1) := by decide +kernel
theorem dL_law_778 : decode mL_law.1 778 = .ok (.iaload, 1) := by decide +kernel
theorem dL_law_779 : decode mL_law.1 779 = .ok (.invokevirtual 82, 3) := by decide +kernel
theorem dL_law_782 : decode mL_law.1 782 = .ok (.aload_n 2, 1) := by decide +kernel
theorem dL_law_783 : decode mL_law.1 783 = .ok (.aload_n 0, 1) := by decide +kernel
theorem dL_law_784 : decode mL_law.1 784 = .ok (.iload_n 3, 1) := by decide +kernel
theorem dL_law_785 : decode mL_law.1 785 = .ok (.iconst 1, 1) := by decide +kernel
theorem dL_law_786 : decode mL_law.1 786 = .ok (.iadd, 1) := by decide +kernel
theorem dL_law_787 : decode mL_law.1 787 = .ok (.iaload, 1) := by decide +kernel
theorem dL_law_788 : decode mL_law.1 788 = .ok (.aload_n 0, 1) := by decide +kernel
theorem dL_law_789 : decode mL_law.1 789 = .ok (.iload_n 3, 1) := by decide +kernel
theorem dL_law_790 : decode mL_law.1 790 = .ok (.iconst 2, 1) := by decide +kernel
theorem dL_law_791 : decode mL_law.1 791 = .ok (.iadd, 1) := by decide +kernel
theorem dL_law_792 : decode mL_law.1 792 = .ok (.iaload, 1) := by decide +kernel
theorem dL_law_793 : decode mL_law.1 793 = .ok (.aload_n 0, 1) := by decide +kernel
theorem dL_law_794 : decode mL_law.1 794 = .ok (.iload_n 3, 1) := by decide +kernel
theorem dL_law_795 : decode mL_law.1 795 = .ok (.iconst 3, 1) := by decide +kernel
theorem dL_law_796 : decode mL_law.1 796 = .ok (.iadd, 1) := by decide +kernel
theorem dL_law_797 : decode mL_law.1 797 = .ok (.iaload, 1) := by decide +kernel
theorem dL_law_798 : decode mL_law.1 798 = .ok (.invokevirtual 86, 3) := by decide +kernel
theorem dL_law_801 : decode mL_law.1 801 = .ok (.lcmp, 1) := by decide +kernel
theorem dL_law_802 : decode mL_law.1 802 = .ok (.ifCond .eq 849, 3) := by decide +kernel
theorem dL_law_805 : decode mL_law.1 805 = .ok (.iconst 0, 1) := by decide +kernel
theorem dL_law_806 : decode mL_law.1 806 = .ok (.ireturn, 1) := by decide +kernel
theorem dL_law_807 : decode mL_law.1 807 = .ok (.aload_n 1, 1) := by decide +kernel
theorem dL_law_808 : decode mL_law.1 808 = .ok (.aload_n 0, 1) := by decide +kernel
theorem dL_law_809 : decode mL_law.1 809 = .ok (.iload_n 3, 1) := by decide +kernel
theorem dL_law_810 : decode mL_law.1 810 = .ok (.iconst 1, 1) := by decide +kernel
theorem dL_law_811 : decode mL_law.1 811 = .ok (.iadd, 1) := by decide +kernel
theorem dL_law_812 : decode mL_law.1 812 = .ok (.iaload, 1) := by decide +kernel
theorem dL_law_813 : decode mL_law.1 813 = .ok (.invokevirtual 87, 3) := by decide +kernel
theorem dL_law_816 : decode mL_law.1 816 = .ok (.aload_n 2, 1) := by decide +kernel
theorem dL_law_817 : decode mL_law.1 817 = .ok (.aload_n 0, 1) := by decide +kernel
theorem dL_law_818 : decode mL_law.1 818 = .ok (.iload_n 3, 1) := by decide +kernel
theorem dL_law_819 : decode mL_law.1 819 = .ok (.iconst 1, 1) := by decide +kernel
theorem dL_law_820 : decode mL_law.1 820 = .ok (.iadd, 1) := by decide +kernel
theorem dL_law_821 : decode mL_law.1 821 = .ok (.iaload, 1) := by decide +kernel
theorem dL_law_822 : decode mL_law.1 822 = .ok (.invokevirtual 90, 3) := by decide +kernel
theorem dL_law_825 : decode mL_law.1 825 = .ok (.if_icmp .eq 826, 3) := by decide +kernel
theorem dL_law_828 : decode mL_law.1 828 = .ok (.iconst 0, 1) := by decide +kernel
theorem dL_law_829 : decode mL_law.1 829 = .ok (.ireturn, 1) := by decide +kernel
theorem dL_law_830 : decode mL_law.1 830 = .ok (.aload_n 1, 1) := by decide +kernel
theorem dL_law_831 : decode mL_law.1 831 = .ok (.aload_n 0, 1) := by decide +kernel
theorem dL_law_832 : decode mL_law.1 832 = .ok (.iload_n 3, 1) := by decide +kernel
theorem dL_law_833 : decode mL_law.1 833 = .ok (.iconst 1, 1) := by decide +kernel
theorem dL_law_834 : decode mL_law.1 834 = .ok (.iadd, 1) := by decide +kernel
theorem dL_law_835 : decode mL_law.1 835 = .ok (.iaload, 1) := by decide +kernel
theorem dL_law_836 : decode mL_law.1 836 = .ok (.aload_n 0, 1) := by decide +kernel
theorem dL_law_837 : decode mL_law.1 837 = .ok (.iload_n 3, 1) := by decide +kernel
theorem dL_law_838 : decode mL_law.1 838 = .ok (.iconst 2, 1) := by decide +kernel
theorem dL_law_839 : decode mL_law.1 839 = .ok (.iadd, 1) := by decide +kernel
theorem dL_law_840 : decode mL_law.1 840 = .ok (.iaload, 1) := by decide +kernel
theorem dL_law_841 : decode mL_law.1 841 = .ok (.aload_n 0, 1) := by decide +kernel
theorem dL_law_842 : decode mL_law.1 842 = .ok (.iload_n 3, 1) := by decide +kernel
theorem dL_law_843 : decode mL_law.1 843 = .ok (.iconst 3, 1) := by decide +kernel
theorem dL_law_844 : decode mL_law.1 844 = .ok (.iadd, 1) := by decide +kernel
theorem dL_law_845 : decode mL_law.1 845 = .ok (.iaload, 1) := by decide +kernel
theorem dL_law_846 : decode mL_law.1 846 = .ok (.invokevirtual 91, 3) := by decide +kernel
theorem dL_law_849 : decode mL_law.1 849 = .ok (.aload_n 2, 1) := by decide +kernel
theorem dL_law_850 : decode mL_law.1 850 = .ok (.aload_n 0, 1) := by decide +kernel
theorem dL_law_851 : decode mL_law.1 851 = .ok (.iload_n 3, 1) := by decide +kernel
theorem dL_law_852 : decode mL_law.1 852 = .ok (.iconst 1, 1) := by decide +kernel
theorem dL_law_853 : decode mL_law.1 853 = .ok (.iadd, 1) := by decide +kernel
theorem dL_law_854 : decode mL_law.1 854 = .ok (.iaload, 1) := by decide +kernel
theorem dL_law_855 : decode mL_law.1 855 = .ok (.aload_n 0, 1) := by decide +kernel
theorem dL_law_856 : decode mL_law.1 856 = .ok (.iload_n 3, 1) := by decide +kernel
theorem dL_law_857 : decode mL_law.1 857 = .ok (.iconst 2, 1) := by decide +kernel
theorem dL_law_858 : decode mL_law.1 858 = .ok (.iadd, 1) := by decide +kernel
theorem dL_law_859 : decode mL_law.1 859 = .ok (.iaload, 1) := by decide +kernel
theorem dL_law_860 : decode mL_law.1 860 = .ok (.aload_n 0, 1) := by decide +kernel
theorem dL_law_861 : decode mL_law.1 861 = .ok (.iload_n 3, 1) := by decide +kernel
theorem dL_law_862 : decode mL_law.1 862 = .ok (.iconst 3, 1) := by decide +kernel
theorem dL_law_863 : decode mL_law.1 863 = .ok (.iadd, 1) := by decide +kernel
theorem dL_law_864 : decode mL_law.1 864 = .ok (.iaload, 1) := by decide +kernel
theorem dL_law_865 : decode mL_law.1 865 = .ok (.invokevirtual 94, 3) := by decide +kernel
theorem dL_law_868 : decode mL_law.1 868 = .ok (.lcmp, 1) := by decide +kernel
theorem dL_law_869 : decode mL_law.1 869 = .ok (.ifCond .eq 782, 3) := by decide +kernel
theorem dL_law_872 : decode mL_law.1 872 = .ok (.iconst 0, 1) := by decide +kernel
theorem dL_law_873 : decode mL_law.1 873 = .ok (.ireturn, 1) := by decide +kernel
theorem dL_law_874 : decode mL_law.1 874 = .ok (.aload_n 1, 1) := by decide +kernel
theorem dL_law_875 : decode mL_law.1 875 = .ok (.aload_n 0, 1) := by decide +kernel
theorem dL_law_876 : decode mL_law.1 876 = .ok (.iload_n 3, 1) := by decide +kernel
theorem dL_law_877 : decode mL_law.1 877 = .ok (.iconst 1, 1) := by decide +kernel
theorem dL_law_878 : decode mL_law.1 878 = .ok (.iadd, 1) := by decide +kernel
theorem dL_law_879 : decode mL_law.1 879 = .ok (.iaload, 1) := by decide +kernel
theorem dL_law_880 : decode mL_law.1 880 = .ok (.aload_n 0, 1) := by decide +kernel
theorem dL_law_881 : decode mL_law.1 881 = .ok (.iload_n 3, 1) := by decide +kernel
theorem dL_law_882 : decode mL_law.1 882 = .ok (.iconst 2, 1) := by decide +kernel
theorem dL_law_883 : decode mL_law.1 883 = .ok (.iadd, 1) := by decide +kernel
theorem dL_law_884 : decode mL_law.1 884 = .ok (.iaload, 1) := by decide +kernel
theorem dL_law_885 : decode mL_law.1 885 = .ok (.aload_n 0, 1) := by decide +kernel
theorem dL_law_886 : decode mL_law.1 886 = .ok (.iload_n 3, 1) := by decide +kernel
theorem dL_law_887 : decode mL_law.1 887 = .ok (.iconst 3, 1) := by decide +kernel
theorem dL_law_888 : decode mL_law.1 888 = .ok (.iadd, 1) := by decide +kernel
theorem dL_law_889 : decode mL_law.1 889 = .ok (.iaload, 1) := by decide +kernel
theorem dL_law_890 : decode mL_law.1 890 = .ok (.aload_n 0, 1) := by decide +kernel
theorem dL_law_891 : decode mL_law.1 891 = .ok (.iload_n 3, 1) := by decide +kernel
theorem dL_law_892 : decode mL_law.1 892 = .ok (.iconst 4, 1) := by decide +kernel
theorem dL_law_893 : decode mL_law.1 893 = .ok (.iadd, 1) := by decide +kernel
theorem dL_law_894 : decode mL_law.1 894 = .ok (.iaload, 1) := by decide +kernel
theorem dL_law_895 : decode mL_law.1 895 = .ok (.invokevirtual 95, 3) := by decide +kernel
theorem dL_law_898 : decode mL_law.1 898 = .ok (.aload_n 2, 1) := by decide +kernel
theorem dL_law_899 : decode mL_law.1 899 = .ok (.aload_n 0, 1) := by decide +kernel
theorem dL_law_900 : decode mL_law.1 900 = .ok (.iload_n 3, 1) := by decide +kernel
theorem dL_law_901 : decode mL_law.1 901 = .ok (.iconst 1, 1) := by decide +kernel
theorem dL_law_902 : decode mL_law.1 902 = .ok (.iadd, 1) := by decide +kernel
theorem dL_law_903 : decode mL_law.1 903 = .ok (.iaload, 1) := by decide +kernel
theorem dL_law_904 : decode mL_law.1 904 = .ok (.aload_n 0, 1) := by decide +kernel
theorem dL_law_905 : decode mL_law.1 905 = .ok (.iload_n 3, 1) := by decide +kernel
theorem dL_law_906 : decode mL_law.1 906 = .ok (.iconst 2, 1) := by decide +kernel
theorem dL_law_907 : decode mL_law.1 907 = .ok (.iadd, 1) := by decide +kernel
theorem dL_law_908 : decode mL_law.1 908 = .ok (.iaload, 1) := by decide +kernel
theorem dL_law_909 : decode mL_law.1 909 = .ok (.aload_n 0, 1) := by decide +kernel
theorem dL_law_910 : decode mL_law.1 910 = .ok (.iload_n 3, 1) := by decide +kernel
theorem dL_law_911 : decode mL_law.1 911 = .ok (.iconst 3, 1) := by decide +kernel
theorem dL_law_912 : decode mL_law.1 912 = .ok (.iadd, 1) := by decide +kernel
theorem dL_law_913 : decode mL_law.1 913 = .ok (.iaload, 1) := by decide +kernel
theorem dL_law_914 : decode mL_law.1 914 = .ok (.aload_n 0, 1) := by decide +kernel
theorem dL_law_915 : decode mL_law.1 915 = .ok (.iload_n 3, 1) := by decide +kernel
theorem dL_law_916 : decode mL_law.1 916 = .ok (.iconst 4, 1) := by decide +kernel
theorem dL_law_917 : decode mL_law.1 917 = .ok (.iadd, 1) := by decide +kernel
theorem dL_law_918 : decode mL_law.1 918 = .ok (.iaload, 1) := by decide +kernel
theorem dL_law_919 : decode mL_law.1 919 = .ok (.invokevirtual 98, 3) := by decide +kernel
theorem dL_law_922 : decode mL_law.1 922 = .ok (.lcmp, 1) := by decide +kernel
theorem dL_law_923 : decode mL_law.1 923 = .ok (.ifCond .eq 728, 3) := by decide +kernel
theorem dL_law_926 : decode mL_law.1 926 = .ok (.iconst 0, 1) := by decide +kernel
theorem dL_law_927 : decode mL_law.1 927 = .ok (.ireturn, 1) := by decide +kernel
theorem dL_law_928 : decode mL_law.1 928 = .ok (.aload_n 1, 1) := by decide +kernel
theorem dL_law_929 : decode mL_law.1 929 = .ok (.aload_n 0, 1) := by decide +kernel
theorem dL_law_930 : decode mL_law.1 930 = .ok (.iload_n 3, 1) := by decide +kernel
theorem dL_law_931 : decode mL_law.1 931 = .ok (.iconst 1, 1) := by decide +kernel
theorem dL_law_932 : decode mL_law.1 932 = .ok (.iadd, 1) := by decide +kernel
theorem dL_law_933 : decode mL_law.1 933 = .ok (.iaload, 1) := by decide +kernel
theorem dL_law_934 : decode mL_law.1 934 = .ok (.invokevirtual 99, 3) := by decide +kernel
theorem dL_law_937 : decode mL_law.1 937 = .ok (.aload_n 2, 1) := by decide +kernel
theorem dL_law_938 : decode mL_law.1 938 = .ok (.aload_n 0, 1) := by decide +kernel
theorem dL_law_939 : decode mL_law.1 939 = .ok (.iload_n 3, 1) := by decide +kernel
theorem dL_law_940 : decode mL_law.1 940 = .ok (.iconst 1, 1) := by decide +kernel
theorem dL_law_941 : decode mL_law.1 941 = .ok (.iadd, 1) := by decide +kernel
theorem dL_law_942 : decode mL_law.1 942 = .ok (.iaload, 1) := by decide +kernel
theorem dL_law_943 : decode mL_law.1 943 = .ok (.invokevirtual 102, 3) := by decide +kernel
theorem dL_law_946 : decode mL_law.1 946 = .ok (.if_icmp .eq 705, 3) := by decide +kernel
theorem dL_law_949 : decode mL_law.1 949 = .ok (.iconst 0, 1) := by decide +kernel
theorem dL_law_950 : decode mL_law.1 950 = .ok (.ireturn, 1) := by decide +kernel
theorem dL_law_951 : decode mL_law.1 951 = .ok (.aload_n 1, 1) := by decide +kernel
theorem dL_law_952 : decode mL_law.1 952 = .ok (.aload_n 0, 1) := by decide +kernel
theorem dL_law_953 : decode mL_law.1 953 = .ok (.iload_n 3, 1) := by decide +kernel
theorem dL_law_954 : decode mL_law.1 954 = .ok (.iconst 1, 1) := by decide +kernel
theorem dL_law_955 : decode mL_law.1 955 = .ok (.iadd, 1) := by decide +kernel
theorem dL_law_956 : decode mL_law.1 956 = .ok (.iaload, 1) := by decide +kernel
theorem dL_law_957 : decode mL_law.1 957 = .ok (.aload_n 0, 1) := by decide +kernel
theorem dL_law_958 : decode mL_law.1 958 = .ok (.iload_n 3, 1) := by decide +kernel
theorem dL_law_959 : decode mL_law.1 959 = .ok (.iconst 2, 1) := by decide +kernel
theorem dL_law_960 : decode mL_law.1 960 = .ok (.iadd, 1) := by decide +kernel
theorem dL_law_961 : decode mL_law.1 961 = .ok (.iaload, 1) := by decide +kernel
theorem dL_law_962 : decode mL_law.1 962 = .ok (.invokevirtual 103, 3) := by decide +kernel
theorem dL_law_965 : decode mL_law.1 965 = .ok (.aload_n 2, 1) := by decide +kernel
theorem dL_law_966 : decode mL_law.1 966 = .ok (.aload_n 0, 1) := by decide +kernel
theorem dL_law_967 : decode mL_law.1 967 = .ok (.iload_n 3, 1) := by decide +kernel
theorem dL_law_968 : decode mL_law.1 968 = .ok (.iconst 1, 1) := by decide +kernel
theorem dL_law_969 : decode mL_law.1 969 = .ok (.iadd, 1) := by decide +kernel
theorem dL_law_970 : decode mL_law.1 970 = .ok (.iaload, 1) := by decide +kernel
theorem dL_law_971 : decode mL_law.1 971 = .ok (.aload_n 0, 1) := by decide +kernel
theorem dL_law_972 : decode mL_law.1 972 = .ok (.iload_n 3, 1) := by decide +kernel
theorem dL_law_973 : decode mL_law.1 973 = .ok (.iconst 2, 1) := by decide +kernel
theorem dL_law_974 : decode mL_law.1 974 = .ok (.iadd, 1) := by decide +kernel
theorem dL_law_975 : decode mL_law.1 975 = .ok (.iaload, 1) := by decide +kernel
theorem dL_law_976 : decode mL_law.1 976 = .ok (.invokevirtual 106, 3) := by decide +kernel
theorem dL_law_979 : decode mL_law.1 979 = .ok (.if_icmp .eq 672, 3) := by decide +kernel
theorem dL_law_982 : decode mL_law.1 982 = .ok (.iconst 0, 1) := by decide +kernel
theorem dL_law_983 : decode mL_law.1 983 = .ok (.ireturn, 1) := by decide +kernel
theorem dL_law_984 : decode mL_law.1 984 = .ok (.aload_n 1, 1) := by decide +kernel
theorem dL_law_985 : decode mL_law.1 985 = .ok (.aload_n 0, 1) := by decide +kernel
theorem dL_law_986 : decode mL_law.1 986 = .ok (.iload_n 3, 1) := by decide +kernel
theorem dL_law_987 : decode mL_law.1 987 = .ok (.iconst 1, 1) := by decide +kernel
theorem dL_law_988 : decode mL_law.1 988 = .ok (.iadd, 1) := by decide +kernel
theorem dL_law_989 : decode mL_law.1 989 = .ok (.iaload, 1) := by decide +kernel
theorem dL_law_990 : decode mL_law.1 990 = .ok (.invokevirtual 107, 3) := by decide +kernel
theorem dL_law_993 : decode mL_law.1 993 = .ok (.aload_n 2, 1) := by decide +kernel
theorem dL_law_994 : decode mL_law.1 994 = .ok (.aload_n 0, 1) := by decide +kernel
theorem dL_law_995 : decode mL_law.1 995 = .ok (.iload_n 3, 1) := by decide +kernel
theorem dL_law_996 : decode mL_law.1 996 = .ok (.iconst 1, 1) := by decide +kernel
theorem dL_law_997 : decode mL_law.1 997 = .ok (.iadd, 1) := by decide +kernel
theorem dL_law_998 : decode mL_law.1 998 = .ok (.iaload, 1) := by decide +kernel
theorem dL_law_999 : decode mL_law.1 999 = .ok (.invokevirtual 110, 3) := by decide +kernel
theorem dL_law_1002 : decode mL_law.1 1002 = .ok (.if_icmp .eq 649, 3) := by decide +kernel
theorem dL_law_1005 : decode mL_law.1 1005 = .ok (.iconst 0, 1) := by decide +kernel
theorem dL_law_1006 : decode mL_law.1 1006 = .ok (.ireturn, 1) := by decide +kernel
theorem dL_law_1007 : decode mL_law.1 1007 = .ok (.aload_n 1, 1) := by decide +kernel
theorem dL_law_1008 : decode mL_law.1 1008 = .ok (.aload_n 0, 1) := by decide +kernel
theorem dL_law_1009 : decode mL_law.1 1009 = .ok (.iload_n 3, 1) := by decide +kernel
theorem dL_law_1010 : decode mL_law.1 1010 = .ok (.iconst 1, 1) := by decide +kernel
theorem dL_law_1011 : decode mL_law.1 1011 = .ok (.iadd, 1) := by decide +kernel
theorem dL_law_1012 : decode mL_law.1 1012 = .ok (.iaload, 1) := by decide +kernel
theorem dL_law_1013 : decode mL_law.1 1013 = .ok (.invokevirtual 111, 3) := by decide +kernel
theorem dL_law_1016 : decode mL_law.1 1016 = .ok (.aload_n 2, 1) := by decide +kernel
theorem dL_law_1017 : decode mL_law.1 1017 = .ok (.aload_n 0, 1) := by decide +kernel
theorem dL_law_1018 : decode mL_law.1 1018 = .ok (.iload_n 3, 1) := by decide +kernel
theorem dL_law_1019 : decode mL_law.1 1019 = .ok (.iconst 1, 1) := by decide +kernel
theorem dL_law_1020 : decode mL_law.1 1020 = .ok (.iadd, 1) := by decide +kernel
theorem dL_law_1021 : decode mL_law.1 1021 = .ok (.iaload, 1) := by decide +kernel
theorem dL_law_1022 : decode mL_law.1 1022 = .ok (.invokevirtual 114, 3) := by decide +kernel
theorem dL_law_1025 : decode mL_law.1 1025 = .ok (.if_icmp .eq 626, 3) := by decide +kernel
theorem dL_law_1028 : decode mL_law.1 1028 = .ok (.iconst 0, 1) := by decide +kernel
theorem dL_law_1029 : decode mL_law.1 1029 = .ok (.ireturn, 1) := by decide +kernel
theorem dL_law_1030 : decode mL_law.1 1030 = .ok (.aload_n 1, 1) := by decide +kernel
theorem dL_law_1031 : decode mL_law.1 1031 = .ok (.aload_n 0, 1) := by decide +kernel
theorem dL_law_1032 : decode mL_law.1 1032 = .ok (.iload_n 3, 1) := by decide +kernel
theorem dL_law_1033 : decode mL_law.1 1033 = .ok (.iconst 1, 1) := by decide +kernel
theorem dL_law_1034 : decode mL_law.1 1034 = .ok (.iadd, 1) := by decide +kernel
theorem dL_law_1035 : decode mL_law.1 1035 = .ok (.iaload, 1) := by decide +kernel
theorem dL_law_1036 : decode mL_law.1 1036 = .ok (.aload_n 0, 1) := by decide +kernel
theorem dL_law_1037 : decode mL_law.1 1037 = .ok (.iload_n 3, 1) := by decide +kernel
theorem dL_law_1038 : decode mL_law.1 1038 = .ok (.iconst 2, 1) := by decide +kernel
theorem dL_law_1039 : decode mL_law.1 1039 = .ok (.iadd, 1) := by decide +kernel
theorem dL_law_1040 : decode mL_law.1 1040 = .ok (.iaload, 1) := by decide +kernel
theorem dL_law_1041 : decode mL_law.1 1041 = .ok (.aload_n 0, 1) := by decide +kernel
theorem dL_law_1042 : decode mL_law.1 1042 = .ok (.iload_n 3, 1) := by decide +kernel
theorem dL_law_1043 : decode mL_law.1 1043 = .ok (.iconst 3, 1) := by decide +kernel
theorem dL_law_1044 : decode mL_law.1 1044 = .ok (.iadd, 1) := by decide +kernel
theorem dL_law_1045 : decode mL_law.1 1045 = .ok (.iaload, 1) := by decide +kernel
theorem dL_law_1046 : decode mL_law.1 1046 = .ok (.aload_n 0, 1) := by decide +kernel
theorem dL_law_1047 : decode mL_law.1 1047 = .ok (.iload_n 3, 1) := by decide +kernel
theorem dL_law_1048 : decode mL_law.1 1048 = .ok (.iconst 4, 1) := by decide +kernel
theorem dL_law_1049 : decode mL_law.1 1049 = .ok (.iadd, 1) := by decide +kernel
theorem dL_law_1050 : decode mL_law.1 1050 = .ok (.iaload, 1) := by decide +kernel
theorem dL_law_1051 : decode mL_law.1 1051 = .ok (.invokevirtual 115, 3) := by decide +kernel
theorem dL_law_1054 : decode mL_law.1 1054 = .ok (.aload_n 2, 1) := by decide +kernel
theorem dL_law_1055 : decode mL_law.1 1055 = .ok (.aload_n 0, 1) := by decide +kernel
theorem dL_law_1056 : decode mL_law.1 1056 = .ok (.iload_n 3, 1) := by decide +kernel
theorem dL_law_1057 : decode mL_law.1 1057 = .ok (.iconst 1, 1) := by decide +kernel
theorem dL_law_1058 : decode mL_law.1 1058 = .ok (.iadd, 1) := by decide +kernel
theorem dL_law_1059 : decode mL_law.1 1059 = .ok (.iaload, 1) := by decide +kernel
theorem dL_law_1060 : decode mL_law.1 1060 = .ok (.aload_n 0, 1) := by decide +kernel
theorem dL_law_1061 : decode mL_law.1 1061 = .ok (.iload_n 3, 1) := by decide +kernel
theorem dL_law_1062 : decode mL_law.1 1062 = .ok (.iconst 2, 1) := by decide +kernel
theorem dL_law_1063 : decode mL_law.1 1063 = .ok (.iadd, 1) := by decide +kernel
theorem dL_law_1064 : decode mL_law.1 1064 = .ok (.iaload, 1) := by decide +kernel
theorem dL_law_1065 : decode mL_law.1 1065 = .ok (.aload_n 0, 1) := by decide +kernel
theorem dL_law_1066 : decode mL_law.1 1066 = .ok (.iload_n 3, 1) := by decide +kernel
theorem dL_law_1067 : decode mL_law.1 1067 = .ok (.iconst 3, 1) := by decide +kernel
theorem dL_law_1068 : decode mL_law.1 1068 = .ok (.iadd, 1) := by decide +kernel
theorem dL_law_1069 : decode mL_law.1 1069 = .ok (.iaload, 1) := by decide +kernel
theorem dL_law_1070 : decode mL_law.1 1070 = .ok (.aload_n 0, 1) := by decide +kernel
theorem dL_law_1071 : decode mL_law.1 1071 = .ok (.iload_n 3, 1) := by decide +kernel
theorem dL_law_1072 : decode mL_law.1 1072 = .ok (.iconst 4, 1) := by decide +kernel
theorem dL_law_1073 : decode mL_law.1 1073 = .ok (.iadd, 1) := by decide +kernel
theorem dL_law_1074 : decode mL_law.1 1074 = .ok (.iaload, 1) := by decide +kernel
theorem dL_law_1075 : decode mL_law.1 1075 = .ok (.invokevirtual 119, 3) := by decide +kernel
theorem dL_law_1078 : decode mL_law.1 1078 = .ok (.if_icmp .eq 573, 3) := by decide +kernel
theorem dL_law_1081 : decode mL_law.1 1081 = .ok (.iconst 0, 1) := by decide +kernel
theorem dL_law_1082 : decode mL_law.1 1082 = .ok (.ireturn, 1) := by decide +kernel
theorem dL_law_1083 : decode mL_law.1 1083 = .ok (.aload_n 1, 1) := by decide +kernel
theorem dL_law_1084 : decode mL_law.1 1084 = .ok (.aload_n 0, 1) := by decide +kernel
theorem dL_law_1085 : decode mL_law.1 1085 = .ok (.iload_n 3, 1) := by decide +kernel
theorem dL_law_1086 : decode mL_law.1 1086 = .ok (.iconst 1, 1) := by decide +kernel
theorem dL_law_1087 : decode mL_law.1 1087 = .ok (.iadd, 1) := by decide +kernel
theorem dL_law_1088 : decode mL_law.1 1088 = .ok (.iaload, 1) := by decide +kernel
theorem dL_law_1089 : decode mL_law.1 1089 = .ok (.invokevirtual 120, 3) := by decide +kernel
theorem dL_law_1092 : decode mL_law.1 1092 = .ok (.aload_n 2, 1) := by decide +kernel
theorem dL_law_1093 : decode mL_law.1 1093 = .ok (.aload_n 0, 1) := by decide +kernel
theorem dL_law_1094 : decode mL_law.1 1094 = .ok (.iload_n 3, 1) := by decide +kernel
theorem dL_law_1095 : decode mL_law.1 1095 = .ok (.iconst 1, 1) := by decide +kernel
theorem dL_law_1096 : decode mL_law.1 1096 = .ok (.iadd, 1) := by decide +kernel
theorem dL_law_1097 : decode mL_law.1 1097 = .ok (.iaload, 1) := by decide +kernel
theorem dL_law_1098 : decode mL_law.1 1098 = .ok (.invokevirtual 123, 3) := by decide +kernel
theorem dL_law_1101 : decode mL_law.1 1101 = .ok (.if_icmp .eq 550, 3) := by decide +kernel
theorem dL_law_1104 : decode mL_law.1 1104 = .ok (.iconst 0, 1) := by decide +kernel
theorem dL_law_1105 : decode mL_law.1 1105 = .ok (.ireturn, 1) := by decide +kernel
theorem dL_law_1106 : decode mL_law.1 1106 = .ok (.aload_n 1, 1) := by decide +kernel
theorem dL_law_1107 : decode mL_law.1 1107 = .ok (.aload_n 0, 1) := by decide +kernel
theorem dL_law_1108 : decode mL_law.1 1108 = .ok (.iload_n 3, 1) := by decide +kernel
theorem dL_law_1109 : decode mL_law.1 1109 = .ok (.iconst 1, 1) := by decide +kernel
theorem dL_law_1110 : decode mL_law.1 1110 = .ok (.iadd, 1) := by decide +kernel
theorem dL_law_1111 : decode mL_law.1 1111 = .ok (.iaload, 1) := by decide +kernel
theorem dL_law_1112 : decode mL_law.1 1112 = .ok (.invokevirtual 124, 3) := by decide +kernel
theorem dL_law_1115 : decode mL_law.1 1115 = .ok (.aload_n 2, 1) := by decide +kernel
theorem dL_law_1116 : decode mL_law.1 1116 = .ok (.aload_n 0, 1) := by decide +kernel
theorem dL_law_1117 : decode mL_law.1 1117 = .ok (.iload_n 3, 1) := by decide +kernel
theorem dL_law_1118 : decode mL_law.1 1118 = .ok (.iconst 1, 1) := by decide +kernel
theorem dL_law_1119 : decode mL_law.1 1119 = .ok (.iadd, 1) := by decide +kernel
theorem dL_law_1120 : decode mL_law.1 1120 = .ok (.iaload, 1) := by decide +kernel
theorem dL_law_1121 : decode mL_law.1 1121 = .ok (.invokevirtual 127, 3) := by decide +kernel
theorem dL_law_1124 : decode mL_law.1 1124 = .ok (.if_icmp .eq 527, 3) := by decide +kernel
theorem dL_law_1127 : decode mL_law.1 1127 = .ok (.iconst 0, 1) := by decide +kernel
theorem dL_law_1128 : decode mL_law.1 1128 = .ok (.ireturn, 1) := by decide +kernel
theorem dL_law_1129 : decode mL_law.1 1129 = .ok (.aload_n 1, 1) := by decide +kernel
theorem dL_law_1130 : decode mL_law.1 1130 = .ok (.aload_n 0, 1) := by decide +kernel
theorem dL_law_1131 : decode mL_law.1 1131 = .ok (.iload_n 3, 1) := by decide +kernel
theorem dL_law_1132 : decode mL_law.1 1132 = .ok (.iconst 1, 1) := by decide +kernel
theorem dL_law_1133 : decode mL_law.1 1133 = .ok (.iadd, 1) := by decide +kernel
theorem dL_law_1134 : decode mL_law.1 1134 = .ok (.iaload, 1) := by decide +kernel
theorem dL_law_1135 : decode mL_law.1 1135 = .ok (.invokevirtual 128, 3) := by decide +kernel
theorem dL_law_1138 : decode mL_law.1 1138 = .ok (.aload_n 2, 1) := by decide +kernel
theorem dL_law_1139 : decode mL_law.1 1139 = .ok (.aload_n 0, 1) := by decide +kernel
theorem dL_law_1140 : decode mL_law.1 1140 = .ok (.iload_n 3, 1) := by decide +kernel
theorem dL_law_1141 : decode mL_law.1 1141 = .ok (.iconst 1, 1) := by decide +kernel
theorem dL_law_1142 : decode mL_law.1 1142 = .ok (.iadd, 1) := by decide +kernel
theorem dL_law_1143 : decode mL_law.1 1143 = .ok (.iaload, 1) := by decide +kernel
theorem dL_law_1144 : decode mL_law.1 1144 = .ok (.invokevirtual 131, 3) := by decide +kernel
theorem dL_law_1147 : decode mL_law.1 1147 = .ok (.if_icmp .eq 504, 3) := by decide +kernel
theorem dL_law_1150 : decode mL_law.1 1150 = .ok (.iconst 0, 1) := by decide +kernel
theorem dL_law_1151 : decode mL_law.1 1151 = .ok (.ireturn, 1) := by decide +kernel
theorem dL_law_1152 : decode mL_law.1 1152 = .ok (.aload_n 1, 1) := by decide +kernel
theorem dL_law_1153 : decode mL_law.1 1153 = .ok (.aload_n 0, 1) := by decide +kernel
theorem dL_law_1154 : decode mL_law.1 1154 = .ok (.iload_n 3, 1) := by decide +kernel
theorem dL_law_1155 : decode mL_law.1 1155 = .ok (.iconst 1, 1) := by decide +kernel
theorem dL_law_1156 : decode mL_law.1 1156 = .ok (.iadd, 1) := by decide +kernel
theorem dL_law_1157 : decode mL_law.1 1157 = .ok (.iaload, 1) := by decide +kernel
theorem dL_law_1158 : decode mL_law.1 1158 = .ok (.aload_n 0, 1) := by decide +kernel
theorem dL_law_1159 : decode mL_law.1 1159 = .ok (.iload_n 3, 1) := by decide +kernel
theorem dL_law_1160 : decode mL_law.1 1160 = .ok (.iconst 2, 1) := by decide +kernel
theorem dL_law_1161 : decode mL_law.1 1161 = .ok (.iadd, 1) := by decide +kernel
theorem dL_law_1162 : decode mL_law.1 1162 = .ok (.iaload, 1) := by decide +kernel
theorem dL_law_1163 : decode mL_law.1 1163 = .ok (.invokevirtual 132, 3) := by decide +kernel
theorem dL_law_1166 : decode mL_law.1 1166 = .ok (.aload_n 2, 1) := by decide +kernel
theorem dL_law_1167 : decode mL_law.1 1167 = .ok (.aload_n 0, 1) := by decide +kernel
theorem dL_law_1168 : decode mL_law.1 1168 = .ok (.iload_n 3, 1) := by decide +kernel
theorem dL_law_1169 : decode mL_law.1 1169 = .ok (.iconst 1, 1) := by decide +kernel
theorem dL_law_1170 : decode mL_law.1 1170 = .ok (.iadd, 1) := by decide +kernel
theorem dL_law_1171 : decode mL_law.1 1171 = .ok (.iaload, 1) := by decide +kernel
theorem dL_law_1172 : decode mL_law.1 1172 = .ok (.aload_n 0, 1) := by decide +kernel
theorem dL_law_1173 : decode mL_law.1 1173 = .ok (.iload_n 3, 1) := by decide +kernel
theorem dL_law_1174 : decode mL_law.1 1174 = .ok (.iconst 2, 1) := by decide +kernel
theorem dL_law_1175 : decode mL_law.1 1175 = .ok (.iadd, 1) := by decide +kernel
theorem dL_law_1176 : decode mL_law.1 1176 = .ok (.iaload, 1) := by decide +kernel
theorem dL_law_1177 : decode mL_law.1 1177 = .ok (.invokevirtual 135, 3) := by decide +kernel
theorem dL_law_1180 : decode mL_law.1 1180 = .ok (.if_icmp .eq 471, 3) := by decide +kernel
theorem dL_law_1183 : decode mL_law.1 1183 = .ok (.iconst 0, 1) := by decide +kernel
theorem dL_law_1184 : decode mL_law.1 1184 = .ok (.ireturn, 1) := by decide +kernel
theorem dL_law_1185 : decode mL_law.1 1185 = .ok (.aload_n 1, 1) := by decide +kernel
theorem dL_law_1186 : decode mL_law.1 1186 = .ok (.aload_n 0, 1) := by decide +kernel
theorem dL_law_1187 : decode mL_law.1 1187 = .ok (.iload_n 3, 1) := by decide +kernel
theorem dL_law_1188 : decode mL_law.1 1188 = .ok (.iconst 1, 1) := by decide +kernel
theorem dL_law_1189 : decode mL_law.1 1189 = .ok (.iadd, 1) := by decide +kernel
theorem dL_law_1190 : decode mL_law.1 1190 = .ok (.iaload, 1) := by decide +kernel
theorem dL_law_1191 : decode mL_law.1 1191 = .ok (.invokevirtual 136, 3) := by decide +kernel
theorem dL_law_1194 : decode mL_law.1 1194 = .ok (.aload_n 2, 1) := by decide +kernel
theorem dL_law_1195 : decode mL_law.1 1195 = .ok (.aload_n 0, 1) := by decide +kernel
theorem dL_law_1196 : decode mL_law.1 1196 = .ok (.iload_n 3, 1) := by decide +kernel
theorem dL_law_1197 : decode mL_law.1 1197 = .ok (.iconst 1, 1) := by decide +kernel
theorem dL_law_1198 : decode mL_law.1 1198 = .ok (.iadd, 1) := by decide +kernel
theorem dL_law_1199 : decode mL_law.1 1199 = .ok (.iaload, 1) := by decide +kernel
theorem dL_law_1200 : decode mL_law.1 1200 = .ok (.invokevirtual 139, 3) := by decide +kernel
theorem dL_law_1203 : decode mL_law.1 1203 = .ok (.if_icmp .eq 448, 3) := by decide +kernel
theorem dL_law_1206 : decode mL_law.1 1206 = .ok (.iconst 0, 1) := by decide +kernel
theorem dL_law_1207 : decode mL_law.1 1207 = .ok (.ireturn, 1) := by decide +kernel
theorem dL_law_1208 : decode mL_law.1 1208 = .ok (.aload_n 1, 1) := by decide +kernel
theorem dL_law_1209 : decode mL_law.1 1209 = .ok (.invokevirtual 140, 3) := by decide +kernel
theorem dL_law_1212 : decode mL_law.1 1212 = .ok (.aload_n 2, 1) := by decide +kernel
theorem dL_law_1213 : decode mL_law.1 1213 = .ok (.invokevirtual 143, 3) := by decide +kernel
theorem dL_law_1216 : decode mL_law.1 1216 = .ok (.if_icmp .eq 435, 3) := by decide +kernel
theorem dL_law_1219 : decode mL_law.1 1219 = .ok (.iconst 0, 1) := by decide +kernel
theorem dL_law_1220 : decode mL_law.1 1220 = .ok (.ireturn, 1) := by decide +kernel
theorem dL_law_1221 : decode mL_law.1 1221 = .ok (.aload_n 1, 1) := by decide +kernel
theorem dL_law_1222 : decode mL_law.1 1222 = .ok (.invokevirtual 144, 3) := by decide +kernel
theorem dL_law_1225 : decode mL_law.1 1225 = .ok (.aload_n 2, 1) := by decide +kernel
theorem dL_law_1226 : decode mL_law.1 1226 = .ok (.invokevirtual 147, 3) := by decide +kernel
theorem dL_law_1229 : decode mL_law.1 1229 = .ok (.if_icmp .eq 422, 3) := by decide +kernel
theorem dL_law_1232 : decode mL_law.1 1232 = .ok (.iconst 0, 1) := by decide +kernel
theorem dL_law_1233 : decode mL_law.1 1233 = .ok (.ireturn, 1) := by decide +kernel
theorem dL_law_1234 : decode mL_law.1 1234 = .ok (.aload_n 1, 1) := by decide +kernel
theorem dL_law_1235 : decode mL_law.1 1235 = .ok (.invokevirtual 148, 3) := by decide +kernel
theorem dL_law_1238 : decode mL_law.1 1238 = .ok (.aload_n 2, 1) := by decide +kernel
theorem dL_law_1239 : decode mL_law.1 1239 = .ok (.invokevirtual 151, 3) := by decide +kernel
theorem dL_law_1242 : decode mL_law.1 1242 = .ok (.if_icmp .eq 409, 3) := by decide +kernel
theorem dL_law_1245 : decode mL_law.1 1245 = .ok (.iconst 0, 1) := by decide +kernel
theorem dL_law_1246 : decode mL_law.1 1246 = .ok (.ireturn, 1) := by decide +kernel
theorem dL_law_1247 : decode mL_law.1 1247 = .ok (.aload_n 1, 1) := by decide +kernel
theorem dL_law_1248 : decode mL_law.1 1248 = .ok (.invokevirtual 152, 3) := by decide +kernel
theorem dL_law_1251 : decode mL_law.1 1251 = .ok (.aload_n 2, 1) := by decide +kernel
theorem dL_law_1252 : decode mL_law.1 1252 = .ok (.invokevirtual 155, 3) := by decide +kernel
theorem dL_law_1255 : decode mL_law.1 1255 = .ok (.if_icmp .eq 396, 3) := by decide +kernel
theorem dL_law_1258 : decode mL_law.1 1258 = .ok (.iconst 0, 1) := by decide +kernel
theorem dL_law_1259 : decode mL_law.1 1259 = .ok (.ireturn, 1) := by decide +kernel
theorem dL_law_1260 : decode mL_law.1 1260 = .ok (.aload_n 1, 1) := by decide +kernel
theorem dL_law_1261 : decode mL_law.1 1261 = .ok (.aload_n 0, 1) := by decide +kernel
theorem dL_law_1262 : decode mL_law.1 1262 = .ok (.iload_n 3, 1) := by decide +kernel
theorem dL_law_1263 : decode mL_law.1 1263 = .ok (.iconst 1, 1) := by decide +kernel
theorem dL_law_1264 : decode mL_law.1 1264 = .ok (.iadd, 1) := by decide +kernel
theorem dL_law_1265 : decode mL_law.1 1265 = .ok (.iaload, 1) := by decide +kernel
theorem dL_law_1266 : decode mL_law.1 1266 = .ok (.invokevirtual 156, 3) := by decide +kernel
theorem dL_law_1269 : decode mL_law.1 1269 = .ok (.aload_n 2, 1) := by decide +kernel
theorem dL_law_1270 : decode mL_law.1 1270 = .ok (.aload_n 0, 1) := by decide +kernel
theorem dL_law_1271 : decode mL_law.1 1271 = .ok (.iload_n 3, 1) := by decide +kernel
theorem dL_law_1272 : decode mL_law.1 1272 = .ok (.iconst 1, 1) := by decide +kernel
theorem dL_law_1273 : decode mL_law.1 1273 = .ok (.iadd, 1) := by decide +kernel
theorem dL_law_1274 : decode mL_law.1 1274 = .ok (.iaload, 1) := by decide +kernel
theorem dL_law_1275 : decode mL_law.1 1275 = .ok (.invokevirtual 159, 3) := by decide +kernel
theorem dL_law_1278 : decode mL_law.1 1278 = .ok (.if_icmp .eq 373, 3) := by decide +kernel
theorem dL_law_1281 : decode mL_law.1 1281 = .ok (.iconst 0, 1) := by decide +kernel
theorem dL_law_1282 : decode mL_law.1 1282 = .ok (.ireturn, 1) := by decide +kernel
theorem dL_law_1283 : decode mL_law.1 1283 = .ok (.aload_n 1, 1) := by decide +kernel
theorem dL_law_1284 : decode mL_law.1 1284 = .ok (.aload_n 0, 1) := by decide +kernel
theorem dL_law_1285 : decode mL_law.1 1285 = .ok (.iload_n 3, 1) := by decide +kernel
theorem dL_law_1286 : decode mL_law.1 1286 = .ok (.iconst 1, 1) := by decide +kernel
theorem dL_law_1287 : decode mL_law.1 1287 = .ok (.iadd, 1) := by decide +kernel
theorem dL_law_1288 : decode mL_law.1 1288 = .ok (.iaload, 1) := by decide +kernel
theorem dL_law_1289 : decode mL_law.1 1289 = .ok (.aload_n 0, 1) := by decide +kernel
theorem dL_law_1290 : decode mL_law.1 1290 = .ok (.iload_n 3, 1) := by decide +kernel
theorem dL_law_1291 : decode mL_law.1 1291 = .ok (.iconst 2, 1) := by decide +kernel
theorem dL_law_1292 : decode mL_law.1 1292 = .ok (.iadd, 1) := by decide +kernel
theorem dL_law_1293 : decode mL_law.1 1293 = .ok (.iaload, 1) := by decide +kernel
theorem dL_law_1294 : decode mL_law.1 1294 = .ok (.aload_n 0, 1) := by decide +kernel
theorem dL_law_1295 : decode mL_law.1 1295 = .ok (.iload_n 3, 1) := by decide +kernel
theorem dL_law_1296 : decode mL_law.1 1296 = .ok (.iconst 3, 1) := by decide +kernel
theorem dL_law_1297 : decode mL_law.1 1297 = .ok (.iadd, 1) := by decide +kernel
theorem dL_law_1298 : decode mL_law.1 1298 = .ok (.iaload, 1) := by decide +kernel
theorem dL_law_1299 : decode mL_law.1 1299 = .ok (.invokevirtual 160, 3) := by decide +kernel
theorem dL_law_1302 : decode mL_law.1 1302 = .ok (.aload_n 2, 1) := by decide +kernel
theorem dL_law_1303 : decode mL_law.1 1303 = .ok (.aload_n 0, 1) := by decide +kernel
theorem dL_law_1304 : decode mL_law.1 1304 = .ok (.iload_n 3, 1) := by decide +kernel
theorem dL_law_1305 : decode mL_law.1 1305 = .ok (.iconst 1, 1) := by decide +kernel
theorem dL_law_1306 : decode mL_law.1 1306 = .ok (.iadd, 1) := by decide +kernel
theorem dL_law_1307 : decode mL_law.1 1307 = .ok (.iaload, 1) := by decide +kernel
theorem dL_law_1308 : decode mL_law.1 1308 = .ok (.aload_n 0, 1) := by decide +kernel
theorem dL_law_1309 : decode mL_law.1 1309 = .ok (.iload_n 3, 1) := by decide +kernel
theorem dL_law_1310 : decode mL_law.1 1310 = .ok (.iconst 2, 1) := by decide +kernel
theorem dL_law_1311 : decode mL_law.1 1311 = .ok (.iadd, 1) := by decide +kernel
theorem dL_law_1312 : decode mL_law.1 1312 = .ok (.iaload, 1) := by decide +kernel
theorem dL_law_1313 : decode mL_law.1 1313 = .ok (.aload_n 0, 1) := by decide +kernel
theorem dL_law_1314 : decode mL_law.1 1314 = .ok (.iload_n 3, 1) := by decide +kernel
theorem dL_law_1315 : decode mL_law.1 1315 = .ok (.iconst 3, 1) := by decide +kernel
theorem dL_law_1316 : decode mL_law.1 1316 = .ok (.iadd, 1) := by decide +kernel
theorem dL_law_1317 : decode mL_law.1 1317 = .ok (.iaload, 1) := by decide +kernel
theorem dL_law_1318 : decode mL_law.1 1318 = .ok (.invokevirtual 163, 3) := by decide +kernel
theorem dL_law_1321 : decode mL_law.1 1321 = .ok (.if_icmp .eq 330, 3) := by decide +kernel
theorem dL_law_1324 : decode mL_law.1 1324 = .ok (.iconst 0, 1) := by decide +kernel
theorem dL_law_1325 : decode mL_law.1 1325 = .ok (.ireturn, 1) := by decide +kernel
theorem dL_law_1326 : decode mL_law.1 1326 = .ok (.aload_n 1, 1) := by decide +kernel
theorem dL_law_1327 : decode mL_law.1 1327 = .ok (.aload_n 0, 1) := by decide +kernel
theorem dL_law_1328 : decode mL_law.1 1328 = .ok (.iload_n 3, 1) := by decide +kernel
theorem dL_law_1329 : decode mL_law.1 1329 = .ok (.iconst 1, 1) := by decide +kernel
theorem dL_law_1330 : decode mL_law.1 1330 = .ok (.iadd, 1) := by decide +kernel
theorem dL_law_1331 : decode mL_law.1 1331 = .ok (.iaload, 1) := by decide +kernel
theorem dL_law_1332 : decode mL_law.1 1332 = .ok (.invokevirtual 164, 3) := by decide +kernel
theorem dL_law_1335 : decode mL_law.1 1335 = .ok (.aload_n 2, 1) := by decide +kernel
theorem dL_law_1336 : decode mL_law.1 1336 = .ok (.aload_n 0, 1) := by decide +kernel
theorem dL_law_1337 : decode mL_law.1 1337 = .ok (.iload_n 3, 1) := by decide +kernel
theorem dL_law_1338 : decode mL_law.1 1338 = .ok (.iconst 1, 1) := by decide +kernel
theorem dL_law_1339 : decode mL_law.1 1339 = .ok (.iadd, 1) := by decide +kernel
theorem dL_law_1340 : decode mL_law.1 1340 = .ok (.iaload, 1) := by decide +kernel
theorem dL_law_1341 : decode mL_law.1 1341 = .ok (.invokevirtual 167, 3) := by decide +kernel
theorem dL_law_1344 : decode mL_law.1 1344 = .ok (.if_icmp .eq 307, 3) := by decide +kernel
theorem dL_law_1347 : decode mL_law.1 1347 = .ok (.iconst 0, 1) := by decide +kernel
theorem dL_law_1348 : decode mL_law.1 1348 = .ok (.ireturn, 1) := by decide +kernel
theorem dL_law_1349 : decode mL_law.1 1349 = .ok (.aload_n 1, 1) := by decide +kernel
theorem dL_law_1350 : decode mL_law.1 1350 = .ok (.aload_n 0, 1) := by decide +kernel
theorem dL_law_1351 : decode mL_law.1 1351 = .ok (.iload_n 3, 1) := by decide +kernel
theorem dL_law_1352 : decode mL_law.1 1352 = .ok (.iconst 1, 1) := by decide +kernel
theorem dL_law_1353 : decode mL_law.1 1353 = .ok (.iadd, 1) := by decide +kernel
theorem dL_law_1354 : decode mL_law.1 1354 = .ok (.iaload, 1) := by decide +kernel
theorem dL_law_1355 : decode mL_law.1 1355 = .ok (.aload_n 0, 1) := by decide +kernel
theorem dL_law_1356 : decode mL_law.1 1356 = .ok (.iload_n 3, 1) := by decide +kernel
theorem dL_law_1357 : decode mL_law.1 1357 = .ok (.iconst 2, 1) := by decide +kernel
theorem dL_law_1358 : decode mL_law.1 1358 = .ok (.iadd, 1) := by decide +kernel
theorem dL_law_1359 : decode mL_law.1 1359 = .ok (.iaload, 1) := by decide +kernel
theorem dL_law_1360 : decode mL_law.1 1360 = .ok (.invokevirtual 168, 3) := by decide +kernel
theorem dL_law_1363 : decode mL_law.1 1363 = .ok (.aload_n 2, 1) := by decide +kernel
theorem dL_law_1364 : decode mL_law.1 1364 = .ok (.aload_n 0, 1) := by decide +kernel
theorem dL_law_1365 : decode mL_law.1 1365 = .ok (.iload_n 3, 1) := by decide +kernel
theorem dL_law_1366 : decode mL_law.1 1366 = .ok (.iconst 1, 1) := by decide +kernel
theorem dL_law_1367 : decode mL_law.1 1367 = .ok (.iadd, 1) := by decide +kernel
theorem dL_law_1368 : decode mL_law.1 1368 = .ok (.iaload, 1) := by decide +kernel
theorem dL_law_1369 : decode mL_law.1 1369 = .ok (.aload_n 0, 1) := by decide +kernel
theorem dL_law_1370 : decode mL_law.1 1370 = .ok (.iload_n 3, 1) := by decide +kernel
theorem dL_law_1371 : decode mL_law.1 1371 = .ok (.iconst 2, 1) := by decide +kernel
theorem dL_law_1372 : decode mL_law.1 1372 = .ok (.iadd, 1) := by decide +kernel
theorem dL_law_1373 : decode mL_law.1 1373 = .ok (.iaload, 1) := by decide +kernel
theorem dL_law_1374 : decode mL_law.1 1374 = .ok (.invokevirtual 171, 3) := by decide +kernel
theorem dL_law_1377 : decode mL_law.1 1377 = .ok (.if_icmp .eq 274, 3) := by decide +kernel
theorem dL_law_1380 : decode mL_law.1 1380 = .ok (.iconst 0, 1) := by decide +kernel
theorem dL_law_1381 : decode mL_law.1 1381 = .ok (.ireturn, 1) := by decide +kernel
theorem dL_law_1382 : decode mL_law.1 1382 = .ok (.aload_n 1, 1) := by decide +kernel
theorem dL_law_1383 : decode mL_law.1 1383 = .ok (.aload_n 0, 1) := by decide +kernel
theorem dL_law_1384 : decode mL_law.1 1384 = .ok (.iload_n 3, 1) := by decide +kernel
theorem dL_law_1385 : decode mL_law.1 1385 = .ok (.iconst 1, 1) := by decide +kernel
theorem dL_law_1386 : decode mL_law.1 1386 = .ok (.iadd, 1) := by decide +kernel
theorem dL_law_1387 : decode mL_law.1 1387 = .ok (.iaload, 1) := by decide +kernel
theorem dL_law_1388 : decode mL_law.1 1388 = .ok (.aload_n 0, 1) := by decide +kernel
theorem dL_law_1389 : decode mL_law.1 1389 = .ok (.iload_n 3, 1) := by decide +kernel
theorem dL_law_1390 : decode mL_law.1 1390 = .ok (.iconst 2, 1) := by decide +kernel
theorem dL_law_1391 : decode mL_law.1 1391 = .ok (.iadd, 1) := by decide +kernel
theorem dL_law_1392 : decode mL_law.1 1392 = .ok (.iaload, 1) := by decide +kernel
theorem dL_law_1393 : decode mL_law.1 1393 = .ok (.aload_n 0, 1) := by decide +kernel
theorem dL_law_1394 : decode mL_law.1 1394 = .ok (.iload_n 3, 1) := by decide +kernel
theorem dL_law_1395 : decode mL_law.1 1395 = .ok (.iconst 3, 1) := by decide +kernel
theorem dL_law_1396 : decode mL_law.1 1396 = .ok (.iadd, 1) := by decide +kernel
theorem dL_law_1397 : decode mL_law.1 1397 = .ok (.iaload, 1) := by decide +kernel
theorem dL_law_1398 : decode mL_law.1 1398 = .ok (.invokevirtual 172, 3) := by decide +kernel
theorem dL_law_1401 : decode mL_law.1 1401 = .ok (.aload_n 2, 1) := by decide +kernel
theorem dL_law_1402 : decode mL_law.1 1402 = .ok (.aload_n 0, 1) := by decide +kernel
theorem dL_law_1403 : decode mL_law.1 1403 = .ok (.iload_n 3, 1) := by decide +kernel
theorem dL_law_1404 : decode mL_law.1 1404 = .ok (.iconst 1, 1) := by decide +kernel
theorem dL_law_1405 : decode mL_law.1 1405 = .ok (.iadd, 1) := by decide +kernel
theorem dL_law_1406 : decode mL_law.1 1406 = .ok (.iaload, 1) := by decide +kernel
theorem dL_law_1407 : decode mL_law.1 1407 = .ok (.aload_n 0, 1) := by decide +kernel
theorem dL_law_1408 : decode mL_law.1 1408 = .ok (.iload_n 3, 1) := by decide +kernel
theorem dL_law_1409 : decode mL_law.1 1409 = .ok (.iconst 2, 1) := by decide +kernel
theorem dL_law_1410 : decode mL_law.1 1410 = .ok (.iadd, 1) := by decide +kernel
theorem dL_law_1411 : decode mL_law.1 1411 = .ok (.iaload, 1) := by decide +kernel
theorem dL_law_1412 : decode mL_law.1 1412 = .ok (.aload_n 0, 1) := by decide +kernel
theorem dL_law_1413 : decode mL_law.1 1413 = .ok (.iload_n 3, 1) := by decide +kernel
theorem dL_law_1414 : decode mL_law.1 1414 = .ok (.iconst 3, 1) := by decide +kernel
theorem dL_law_1415 : decode mL_law.1 1415 = .ok (.iadd, 1) := by decide +kernel
theorem dL_law_1416 : decode mL_law.1 1416 = .ok (.iaload, 1) := by decide +kernel
theorem dL_law_1417 : decode mL_law.1 1417 = .ok (.invokevirtual 175, 3) := by decide +kernel
theorem dL_law_1420 : decode mL_law.1 1420 = .ok (.if_icmp .eq 231, 3) := by decide +kernel
theorem dL_law_1423 : decode mL_law.1 1423 = .ok (.iconst 0, 1) := by decide +kernel
theorem dL_law_1424 : decode mL_law.1 1424 = .ok (.ireturn, 1) := by decide +kernel
theorem dL_law_1425 : decode mL_law.1 1425 = .ok (.aload_n 1, 1) := by decide +kernel
theorem dL_law_1426 : decode mL_law.1 1426 = .ok (.aload_n 0, 1) := by decide +kernel
theorem dL_law_1427 : decode mL_law.1 1427 = .ok (.iload_n 3, 1) := by decide +kernel
theorem dL_law_1428 : decode mL_law.1 1428 = .ok (.iconst 1, 1) := by decide +kernel
theorem dL_law_1429 : decode mL_law.1 1429 = .ok (.iadd, 1) := by decide +kernel
theorem dL_law_1430 : decode mL_law.1 1430 = .ok (.iaload, 1) := by decide +kernel
theorem dL_law_1431 : decode mL_law.1 1431 = .ok (.aload_n 0, 1) := by decide +kernel
theorem dL_law_1432 : decode mL_law.1 1432 = .ok (.iload_n 3, 1) := by decide +kernel
theorem dL_law_1433 : decode mL_law.1 1433 = .ok (.iconst 2, 1) := by decide +kernel
theorem dL_law_1434 : decode mL_law.1 1434 = .ok (.iadd, 1) := by decide +kernel
theorem dL_law_1435 : decode mL_law.1 1435 = .ok (.iaload, 1) := by decide +kernel
theorem dL_law_1436 : decode mL_law.1 1436 = .ok (.aload_n 0, 1) := by decide +kernel
theorem dL_law_1437 : decode mL_law.1 1437 = .ok (.iload_n 3, 1) := by decide +kernel
theorem dL_law_1438 : decode mL_law.1 1438 = .ok (.iconst 3, 1) := by decide +kernel
theorem dL_law_1439 : decode mL_law.1 1439 = .ok (.iadd, 1) := by decide +kernel
theorem dL_law_1440 : decode mL_law.1 1440 = .ok (.iaload, 1) := by decide +kernel
theorem dL_law_1441 : decode mL_law.1 1441 = .ok (.i2l, 1) := by decide +kernel
theorem dL_law_1442 : decode mL_law.1 1442 = .ok (.bipush 32, 2) := by decide +kernel
theorem dL_law_1444 : decode mL_law.1 1444 = .ok (.lshl, 1) := by decide +kernel
theorem dL_law_1445 : decode mL_law.1 1445 = .ok (.aload_n 0, 1) := by decide +kernel
theorem dL_law_1446 : decode mL_law.1 1446 = .ok (.iload_n 3, 1) := by decide +kernel
theorem dL_law_1447 : decode mL_law.1 1447 = .ok (.iconst 4, 1) := by decide +kernel
theorem dL_law_1448 : decode mL_law.1 1448 = .ok (.iadd, 1) := by decide +kernel
theorem dL_law_1449 : decode mL_law.1 1449 = .ok (.iaload, 1) := by decide +kernel
theorem dL_law_1450 : decode mL_law.1 1450 = .ok (.i2l, 1) := by decide +kernel
theorem dL_law_1451 : decode mL_law.1 1451 = .ok (.ldc2_w 176, 3) := by decide +kernel
theorem dL_law_1454 : decode mL_law.1 1454 = .ok (.land, 1) := by decide +kernel
theorem dL_law_1455 : decode mL_law.1 1455 = .ok (.lor, 1) := by decide +kernel
theorem dL_law_1456 : decode mL_law.1 1456 = .ok (.invokevirtual 178, 3) := by decide +kernel
theorem dL_law_1459 : decode mL_law.1 1459 = .ok (.aload_n 2, 1) := by decide +kernel
theorem dL_law_1460 : decode mL_law.1 1460 = .ok (.aload_n 0, 1) := by decide +kernel
theorem dL_law_1461 : decode mL_law.1 1461 = .ok (.iload_n 3, 1) := by decide +kernel
theorem dL_law_1462 : decode mL_law.1 1462 = .ok (.iconst 1, 1) := by decide +kernel
theorem dL_law_1463 : decode mL_law.1 1463 = .ok (.iadd, 1) := by decide +kernel
theorem dL_law_1464 : decode mL_law.1 1464 = .ok (.iaload, 1) := by decide +kernel
theorem dL_law_1465 : decode mL_law.1 1465 = .ok (.aload_n 0, 1) := by decide +kernel
theorem dL_law_1466 : decode mL_law.1 1466 = .ok (.iload_n 3, 1) := by decide +kernel
theorem dL_law_1467 : decode mL_law.1 1467 = .ok (.iconst 2, 1) := by decide +kernel
theorem dL_law_1468 : decode mL_law.1 1468 = .ok (.iadd, 1) := by decide +kernel
theorem dL_law_1469 : decode mL_law.1 1469 = .ok (.iaload, 1) := by decide +kernel
theorem dL_law_1470 : decode mL_law.1 1470 = .ok (.aload_n 0, 1) := by decide +kernel
theorem dL_law_1471 : decode mL_law.1 1471 = .ok (.iload_n 3, 1) := by decide +kernel
theorem dL_law_1472 : decode mL_law.1 1472 = .ok (.iconst 3, 1) := by decide +kernel
theorem dL_law_1473 : decode mL_law.1 1473 = .ok (.iadd, 1) := by decide +kernel
theorem dL_law_1474 : decode mL_law.1 1474 = .ok (.iaload, 1) := by decide +kernel
theorem dL_law_1475 : decode mL_law.1 1475 = .ok (.i2l, 1) := by decide +kernel
theorem dL_law_1476 : decode mL_law.1 1476 = .ok (.bipush 32, 2) := by decide +kernel
theorem dL_law_1478 : decode mL_law.1 1478 = .ok (.lshl, 1) := by decide +kernel
theorem dL_law_1479 : decode mL_law.1 1479 = .ok (.aload_n 0, 1) := by decide +kernel
theorem dL_law_1480 : decode mL_law.1 1480 = .ok (.iload_n 3, 1) := by decide +kernel
theorem dL_law_1481 : decode mL_law.1 1481 = .ok (.iconst 4, 1) := by decide +kernel
theorem dL_law_1482 : decode mL_law.1 1482 = .ok (.iadd, 1) := by decide +kernel
theorem dL_law_1483 : decode mL_law.1 1483 = .ok (.iaload, 1) := by decide +kernel
theorem dL_law_1484 : decode mL_law.1 1484 = .ok (.i2l, 1) := by decide +kernel
theorem dL_law_1485 : decode mL_law.1 1485 = .ok (.ldc2_w 176, 3) := by decide +kernel
theorem dL_law_1488 : decode mL_law.1 1488 = .ok (.land, 1) := by decide +kernel
theorem dL_law_1489 : decode mL_law.1 1489 = .ok (.lor, 1) := by decide +kernel
theorem dL_law_1490 : decode mL_law.1 1490 = .ok (.invokevirtual 182, 3) := by decide +kernel
theorem dL_law_1493 : decode mL_law.1 1493 = .ok (.if_icmp .eq 158, 3) := by decide +kernel
theorem dL_law_1496 : decode mL_law.1 1496 = .ok (.iconst 0, 1) := by decide +kernel
theorem dL_law_1497 : decode mL_law.1 1497 = .ok (.ireturn, 1) := by decide +kernel
theorem dL_law_1498 : decode mL_law.1 1498 = .ok (.aload_n 1, 1) := by decide +kernel
theorem dL_law_1499 : decode mL_law.1 1499 = .ok (.aload_n 0, 1) := by decide +kernel
theorem dL_law_1500 : decode mL_law.1 1500 = .ok (.iload_n 3, 1) := by decide +kernel
theorem dL_law_1501 : decode mL_law.1 1501 = .ok (.iconst 1, 1) := by decide +kernel
theorem dL_law_1502 : decode mL_law.1 1502 = .ok (.iadd, 1) := by decide +kernel
theorem dL_law_1503 : decode mL_law.1 1503 = .ok (.iaload, 1) := by decide +kernel
theorem dL_law_1504 : decode mL_law.1 1504 = .ok (.aload_n 0, 1) := by decide +kernel
theorem dL_law_1505 : decode mL_law.1 1505 = .ok (.iload_n 3, 1) := by decide +kernel
theorem dL_law_1506 : decode mL_law.1 1506 = .ok (.iconst 2, 1) := by decide +kernel
theorem dL_law_1507 : decode mL_law.1 1507 = .ok (.iadd, 1) := by decide +kernel
theorem dL_law_1508 : decode mL_law.1 1508 = .ok (.iaload, 1) := by decide +kernel
theorem dL_law_1509 : decode mL_law.1 1509 = .ok (.invokevirtual 183, 3) := by decide +kernel
theorem dL_law_1512 : decode mL_law.1 1512 = .ok (.aload_n 2, 1) := by decide +kernel
theorem dL_law_1513 : decode mL_law.1 1513 = .ok (.aload_n 0, 1) := by decide +kernel
theorem dL_law_1514 : decode mL_law.1 1514 = .ok (.iload_n 3, 1) := by decide +kernel
theorem dL_law_1515 : decode mL_law.1 1515 = .ok (.iconst 1, 1) := by decide +kernel
theorem dL_law_1516 : decode mL_law.1 1516 = .ok (.iadd, 1) := by decide +kernel
theorem dL_law_1517 : decode mL_law.1 1517 = .ok (.iaload, 1) := by decide +kernel
theorem dL_law_1518 : decode mL_law.1 1518 = .ok (.aload_n 0, 1) := by decide +kernel
theorem dL_law_1519 : decode mL_law.1 1519 = .ok (.iload_n 3, 1) := by decide +kernel
theorem dL_law_1520 : decode mL_law.1 1520 = .ok (.iconst 2, 1) := by decide +kernel
theorem dL_law_1521 : decode mL_law.1 1521 = .ok (.iadd, 1) := by decide +kernel
theorem dL_law_1522 : decode mL_law.1 1522 = .ok (.iaload, 1) := by decide +kernel
theorem dL_law_1523 : decode mL_law.1 1523 = .ok (.invokevirtual 187, 3) := by decide +kernel
theorem dL_law_1526 : decode mL_law.1 1526 = .ok (.lcmp, 1) := by decide +kernel
theorem dL_law_1527 : decode mL_law.1 1527 = .ok (.ifCond .eq 124, 3) := by decide +kernel
theorem dL_law_1530 : decode mL_law.1 1530 = .ok (.iconst 0, 1) := by decide +kernel
theorem dL_law_1531 : decode mL_law.1 1531 = .ok (.ireturn, 1) := by decide +kernel
theorem dL_law_1532 : decode mL_law.1 1532 = .ok (.aload_n 1, 1) := by decide +kernel
theorem dL_law_1533 : decode mL_law.1 1533 = .ok (.aload_n 0, 1) := by decide +kernel
theorem dL_law_1534 : decode mL_law.1 1534 = .ok (.iload_n 3, 1) := by decide +kernel
theorem dL_law_1535 : decode mL_law.1 1535 = .ok (.iconst 1, 1) := by decide +kernel
theorem dL_law_1536 : decode mL_law.1 1536 = .ok (.iadd, 1) := by decide +kernel
theorem dL_law_1537 : decode mL_law.1 1537 = .ok (.iaload, 1) := by decide +kernel
theorem dL_law_1538 : decode mL_law.1 1538 = .ok (.aload_n 0, 1) := by decide +kernel
theorem dL_law_1539 : decode mL_law.1 1539 = .ok (.iload_n 3, 1) := by decide +kernel
theorem dL_law_1540 : decode mL_law.1 1540 = .ok (.iconst 2, 1) := by decide +kernel
theorem dL_law_1541 : decode mL_law.1 1541 = .ok (.iadd, 1) := by decide +kernel
theorem dL_law_1542 : decode mL_law.1 1542 = .ok (.iaload, 1) := by decide +kernel
theorem dL_law_1543 : decode mL_law.1 1543 = .ok (.aload_n 0, 1) := by decide +kernel
theorem dL_law_1544 : decode mL_law.1 1544 = .ok (.iload_n 3, 1) := by decide +kernel
theorem dL_law_1545 : decode mL_law.1 1545 = .ok (.iconst 3, 1) := by decide +kernel
theorem dL_law_1546 : decode mL_law.1 1546 = .ok (.iadd, 1) := by decide +kernel
theorem dL_law_1547 : decode mL_law.1 1547 = .ok (.iaload, 1) := by decide +kernel
theorem dL_law_1548 : decode mL_law.1 1548 = .ok (.aload_n 0, 1) := by decide +kernel
theorem dL_law_1549 : decode mL_law.1 1549 = .ok (.iload_n 3, 1) := by decide +kernel
theorem dL_law_1550 : decode mL_law.1 1550 = .ok (.iconst 4, 1) := by decide +kernel
theorem dL_law_1551 : decode mL_law.1 1551 = .ok (.iadd, 1) := by decide +kernel
theorem dL_law_1552 : decode mL_law.1 1552 = .ok (.iaload, 1) := by decide +kernel
theorem dL_law_1553 : decode mL_law.1 1553 = .ok (.aload_n 0, 1) := by decide +kernel
theorem dL_law_1554 : decode mL_law.1 1554 = .ok (.iload_n 3, 1) := by decide +kernel
theorem dL_law_1555 : decode mL_law.1 1555 = .ok (.iconst 5, 1) := by decide +kernel
theorem dL_law_1556 : decode mL_law.1 1556 = .ok (.iadd, 1) := by decide +kernel
theorem dL_law_1557 : decode mL_law.1 1557 = .ok (.iaload, 1) := by decide +kernel
theorem dL_law_1558 : decode mL_law.1 1558 = .ok (.invokevirtual 188, 3) := by decide +kernel
theorem dL_law_1561 : decode mL_law.1 1561 = .ok (.aload_n 2, 1) := by decide +kernel
theorem dL_law_1562 : decode mL_law.1 1562 = .ok (.aload_n 0, 1) := by decide +kernel
theorem dL_law_1563 : decode mL_law.1 1563 = .ok (.iload_n 3, 1) := by decide +kernel
theorem dL_law_1564 : decode mL_law.1 1564 = .ok (.iconst 1, 1) := by decide +kernel
theorem dL_law_1565 : decode mL_law.1 1565 = .ok (.iadd, 1) := by decide +kernel
theorem dL_law_1566 : decode mL_law.1 1566 = .ok (.iaload, 1) := by decide +kernel
theorem dL_law_1567 : decode mL_law.1 1567 = .ok (.aload_n 0, 1) := by decide +kernel
theorem dL_law_1568 : decode mL_law.1 1568 = .ok (.iload_n 3, 1) := by decide +kernel
theorem dL_law_1569 : decode mL_law.1 1569 = .ok (.iconst 2, 1) := by decide +kernel
theorem dL_law_1570 : decode mL_law.1 1570 = .ok (.iadd, 1) := by decide +kernel
theorem dL_law_1571 : decode mL_law.1 1571 = .ok (.iaload, 1) := by decide +kernel
theorem dL_law_1572 : decode mL_law.1 1572 = .ok (.aload_n 0, 1) := by decide +kernel
theorem dL_law_1573 : decode mL_law.1 1573 = .ok (.iload_n 3, 1) := by decide +kernel
theorem dL_law_1574 : decode mL_law.1 1574 = .ok (.iconst 3, 1) := by decide +kernel
theorem dL_law_1575 : decode mL_law.1 1575 = .ok (.iadd, 1) := by decide +kernel
theorem dL_law_1576 : decode mL_law.1 1576 = .ok (.iaload, 1) := by decide +kernel
theorem dL_law_1577 : decode mL_law.1 1577 = .ok (.aload_n 0, 1) := by decide +kernel
theorem dL_law_1578 : decode mL_law.1 1578 = .ok (.iload_n 3, 1) := by decide +kernel
theorem dL_law_1579 : decode mL_law.1 1579 = .ok (.iconst 4, 1) := by decide +kernel
theorem dL_law_1580 : decode mL_law.1 1580 = .ok (.iadd, 1) := by decide +kernel
theorem dL_law_1581 : decode mL_law.1 1581 = .ok (.iaload, 1) := by decide +kernel
theorem dL_law_1582 : decode mL_law.1 1582 = .ok (.aload_n 0, 1) := by decide +kernel
theorem dL_law_1583 : decode mL_law.1 1583 = .ok (.iload_n 3, 1) := by decide +kernel
theorem dL_law_1584 : decode mL_law.1 1584 = .ok (.iconst 5, 1) := by decide +kernel
theorem dL_law_1585 : decode mL_law.1 1585 = .ok (.iadd, 1) := by decide +kernel
theorem dL_law_1586 : decode mL_law.1 1586 = .ok (.iaload, 1) := by decide +kernel
theorem dL_law_1587 : decode mL_law.1 1587 = .ok (.invokevirtual 192, 3) := by decide +kernel
theorem dL_law_1590 : decode mL_law.1 1590 = .ok (.if_icmp .eq 61, 3) := by decide +kernel
theorem dL_law_1593 : decode mL_law.1 1593 = .ok (.iconst 0, 1) := by decide +kernel
theorem dL_law_1594 : decode mL_law.1 1594 = .ok (.ireturn, 1) := by decide +kernel
theorem dL_law_1595 : decode mL_law.1 1595 = .ok (.aload_n 1, 1) := by decide +kernel
theorem dL_law_1596 : decode mL_law.1 1596 = .ok (.aload_n 0, 1) := by decide +kernel
theorem dL_law_1597 : decode mL_law.1 1597 = .ok (.iload_n 3, 1) := by decide +kernel
theorem dL_law_1598 : decode mL_law.1 1598 = .ok (.iconst 1, 1) := by decide +kernel
theorem dL_law_1599 : decode mL_law.1 1599 = .ok (.iadd, 1) := by decide +kernel
theorem dL_law_1600 : decode mL_law.1 1600 = .ok (.iaload, 1) := by decide +kernel
theorem dL_law_1601 : decode mL_law.1 1601 = .ok (.aload_n 0, 1) := by decide +kernel
theorem dL_law_1602 : decode mL_law.1 1602 = .ok (.iload_n 3, 1) := by decide +kernel
theorem dL_law_1603 : decode mL_law.1 1603 = .ok (.iconst 2, 1) := by decide +kernel
theorem dL_law_1604 : decode mL_law.1 1604 = .ok (.iadd, 1) := by decide +kernel
theorem dL_law_1605 : decode mL_law.1 1605 = .ok (.iaload, 1) := by decide +kernel
theorem dL_law_1606 : decode mL_law.1 1606 = .ok (.invokevirtual 193, 3) := by decide +kernel
theorem dL_law_1609 : decode mL_law.1 1609 = .ok (.aload_n 2, 1) := by decide +kernel
theorem dL_law_1610 : decode mL_law.1 1610 = .ok (.aload_n 0, 1) := by decide +kernel
theorem dL_law_1611 : decode mL_law.1 1611 = .ok (.iload_n 3, 1) := by decide +kernel
theorem dL_law_1612 : decode mL_law.1 1612 = .ok (.iconst 1, 1) := by decide +kernel
theorem dL_law_1613 : decode mL_law.1 1613 = .ok (.iadd, 1) := by decide +kernel
theorem dL_law_1614 : decode mL_law.1 1614 = .ok (.iaload, 1) := by decide +kernel
theorem dL_law_1615 : decode mL_law.1 1615 = .ok (.aload_n 0, 1) := by decide +kernel
theorem dL_law_1616 : decode mL_law.1 1616 = .ok (.iload_n 3, 1) := by decide +kernel
theorem dL_law_1617 : decode mL_law.1 1617 = .ok (.iconst 2, 1) := by decide +kernel
theorem dL_law_1618 : decode mL_law.1 1618 = .ok (.iadd, 1) := by decide +kernel
theorem dL_law_1619 : decode mL_law.1 1619 = .ok (.iaload, 1) := by decide +kernel
theorem dL_law_1620 : decode mL_law.1 1620 = .ok (.invokevirtual 196, 3) := by decide +kernel
theorem dL_law_1623 : decode mL_law.1 1623 = .ok (.if_icmp .eq 28, 3) := by decide +kernel
theorem dL_law_1626 : decode mL_law.1 1626 = .ok (.iconst 0, 1) := by decide +kernel
theorem dL_law_1627 : decode mL_law.1 1627 = .ok (.ireturn, 1) := by decide +kernel
theorem dL_law_1628 : decode mL_law.1 1628 = .ok (.aload_n 1, 1) := by decide +kernel
theorem dL_law_1629 : decode mL_law.1 1629 = .ok (.aload_n 0, 1) := by decide +kernel
theorem dL_law_1630 : decode mL_law.1 1630 = .ok (.iload_n 3, 1) := by decide +kernel
theorem dL_law_1631 : decode mL_law.1 1631 = .ok (.iconst 1, 1) := by decide +kernel
theorem dL_law_1632 : decode mL_law.1 1632 = .ok (.iadd, 1) := by decide +kernel
theorem dL_law_1633 : decode mL_law.1 1633 = .ok (.iaload, 1) := by decide +kernel
theorem dL_law_1634 : decode mL_law.1 1634 = .ok (.invokevirtual 197, 3) := by decide +kernel
theorem dL_law_1637 : decode mL_law.1 1637 = .ok (.aload_n 2, 1) := by decide +kernel
theorem dL_law_1638 : decode mL_law.1 1638 = .ok (.aload_n 0, 1) := by decide +kernel
theorem dL_law_1639 : decode mL_law.1 1639 = .ok (.iload_n 3, 1) := by decide +kernel
theorem dL_law_1640 : decode mL_law.1 1640 = .ok (.iconst 1, 1) := by decide +kernel
theorem dL_law_1641 : decode mL_law.1 1641 = .ok (.iadd, 1) := by decide +kernel
theorem dL_law_1642 : decode mL_law.1 1642 = .ok (.iaload, 1) := by decide +kernel
theorem dL_law_1643 : decode mL_law.1 1643 = .ok (.invokevirtual 200, 3) := by decide +kernel
theorem dL_law_1646 : decode mL_law.1 1646 = .ok (.if_icmp .eq 5, 3) := by decide +kernel
theorem dL_law_1649 : decode mL_law.1 1649 = .ok (.iconst 0, 1) := by decide +kernel
theorem dL_law_1650 : decode mL_law.1 1650 = .ok (.ireturn, 1) := by decide +kernel
theorem dL_law_1651 : decode mL_law.1 1651 = .ok (.iinc 3 6, 3) := by decide +kernel
theorem dL_law_1654 : decode mL_law.1 1654 = .ok (.goto (-1636), 3) := by decide +kernel
theorem dL_law_1657 : decode mL_law.1 1657 = .ok (.iconst 1, 1) := by decide +kernel
theorem dL_law_1658 : decode mL_law.1 1658 = .ok (.ireturn, 1) := by decide +kernel
theorem L_law_16 (h : mm_M) : mm_ev mL_law 700 16 [some (vR 110), some (vR 0), some (vR 47), none] [] h = mm_ev mL_law 700 18 [some (vR 110), some (vR 0), some (vR 47), some (vI 0)] [] h := (ev_iconst 17 (v := 0) dL_law_16 rfl rfl).trans (ev_istore_n 18 [some (vR 110), some (vR 0), some (vR 47), some (vI 0)] dL_law_17 rfl rfl)
theorem L_law_18 (h : mm_M) (a3 : Int) : mm_ev mL_law 700 18 [some (vR 110), some (vR 0), some (vR 47), some (vI a3)] [] h = if (w32 ((h 110 (-1)) - 6)) < a3 then some ([vI 1], h) else if 0 ≤ a3 ∧ a3 < h 110 (-1) then mm_ev mL_law 700 33 [some (vR 110), some (vR 0), some (vR 47), some (vI a3)] [vI (iAnd (h 110 a3) 63)] h else none := (ev_iload_n 19 dL_law_18 rfl rfl).trans ((ev_aload_n 20 dL_law_19 rfl rfl).trans ((ev_alenS 21 dL_law_20 rfl).trans ((ev_bipush 23 (v := 6) dL_law_21 rfl rfl).trans ((ev_isub 24 dL_law_23 rfl).trans ((ev_ic_gt 1657 27 dL_law_24 rfl rfl).trans (mm_ite ((ev_iconst 1658 (v := 1) dL_law_1657 rfl rfl).trans (ev_zret1 dL_law_1658 rfl)) ((ev_aload_n 28 dL_law_27 rfl rfl).trans ((ev_iload_n 29 dL_law_28 rfl rfl).trans ((ev_ialdS 30 dL_law_29 rfl).trans (mm_ite ((ev_bipush 32 (v := 63) dL_law_30 rfl rfl).trans (ev_iand 33 dL_law_32 rfl)) (rfl)))))))))))
theorem L_law_224 (h : mm_M) (a3 : Int) : mm_ev mL_law 700 224 [some (vR 110), some (vR 0), some (vR 47), some (vI a3)] [] h = if 0 ≤ (w32 (a3 + 1)) ∧ (w32 (a3 + 1)) < h 110 (-1) then if 0 ≤ (w32 (a3 + 2)) ∧ (w32 (a3 + 2)) < h 110 (-1) then (mm_call mX9_post [vR 0, vI (h 110 (w32 (a3 + 1))), vI (h 110 (w32 (a3 + 2)))] h).bind (fun w => mm_ev mL_law 700 238 [some (vR 110), some (vR 0), some (vR 47), some (vI a3)] (w.1 ++ []) w.2) else none else none := (ev_aload_n 225 dL_law_224 rfl rfl).trans ((ev_aload_n 226 dL_law_225 rfl rfl).trans ((ev_iload_n 227 dL_law_226 rfl rfl).trans ((ev_iconst 228 (v := 1) dL_law_227 rfl rfl).trans ((ev_iadd 229 dL_law_228 rfl).trans ((ev_ialdS 230 dL_law_229 rfl).trans (mm_ite ((ev_aload_n 231 dL_law_230 rfl rfl).trans ((ev_iload_n 232 dL_law_231 rfl rfl).trans ((ev_iconst 233 (v := 2) dL_law_232 rfl rfl).trans ((ev_iadd 234 dL_law_233 rfl).trans ((ev_ialdS 235 dL_law_234 rfl).trans (mm_ite ((ev_callv mX9_post [vR 0, vI (h 110 (w32 (a3 + 1))), vI (h 110 (w32 (a3 + 2)))] [] 238 dL_law_235 ml_12_13 k87 rfl oc0 ak0 rfl rfl (Nat.le_of_ble_eq_true rfl) (Nat.le_of_ble_eq_true rfl) rfl).trans (if_pos (show 3 < 700 from by decide))) (rfl))))))) (rfl)))))))
theorem L_law_238 (h : mm_M) (a3 : Int) (s0 : Int) : mm_ev mL_law 700 238 [some (vR 110), some (vR 0), some (vR 47), some (vI a3)] [vI s0] h = if 0 ≤ (w32 (a3 + 1)) ∧ (w32 (a3 + 1)) < h 110 (-1) then if 0 ≤ (w32 (a3 + 2)) ∧ (w32 (a3 + 2)) < h 110 (-1) then (mm_call mX10_post [vR 47, vI (h 110 (w32 (a3 + 1))), vI (h 110 (w32 (a3 + 2)))] h).bind (fun w => mm_ev mL_law 700 252 [some (vR 110), some (vR 0), some (vR 47), some (vI a3)] (w.1 ++ [vI s0]) w.2) else none else none := (ev_aload_n 239 dL_law_238 rfl rfl).trans ((ev_aload_n 240 dL_law_239 rfl rfl).trans ((ev_iload_n 241 dL_law_240 rfl rfl).trans ((ev_iconst 242 (v := 1) dL_law_241 rfl rfl).trans ((ev_iadd 243 dL_law_242 rfl).trans ((ev_ialdS 244 dL_law_243 rfl).trans (mm_ite ((ev_aload_n 245 dL_law_244 rfl rfl).trans ((ev_iload_n 246 dL_law_245 rfl rfl).trans ((ev_iconst 247 (v := 2) dL_law_246 rfl rfl).trans ((ev_iadd 248 dL_law_247 rfl).trans ((ev_ialdS 249 dL_law_248 rfl).trans (mm_ite ((ev_callv mX10_post [vR 47, vI (h 110 (w32 (a3 + 1))), vI (h 110 (w32 (a3 + 2)))] [vI s0] 252 dL_law_249 ml_12_17 k148 rfl oc47 ak47 rfl rfl (Nat.le_of_ble_eq_true rfl) (Nat.le_of_ble_eq_true rfl) rfl).trans (if_pos (show 2 < 700 from by decide))) (rfl))))))) (rfl)))))))
theorem L_law_252 (h : mm_M) (a3 : Int) (s0 : Int) (s1 : Int) : mm_ev mL_law 700 252 [some (vR 110), some (vR 0), some (vR 47), some (vI a3)] [vI s0, vI s1] h = if s1 = s0 then mm_ev mL_law 700 1651 [some (vR 110), some (vR 0), some (vR 47), some (vI a3)] [] h else some ([vI 0], h) := (ev_ic_eq 1651 255 dL_law_252 rfl rfl).trans (mm_ite (rfl) ((ev_iconst 256 (v := 0) dL_law_255 rfl rfl).trans (ev_zret0 dL_law_256 rfl)))
theorem L_law_257 (h : mm_M) (a3 : Int) : mm_ev mL_law 700 257 [some (vR 110), some (vR 0), some (vR 47), some (vI a3)] [] h = if 0 ≤ (w32 (a3 + 1)) ∧ (w32 (a3 + 1)) < h 110 (-1) then if 0 ≤ (w32 (a3 + 2)) ∧ (w32 (a3 + 2)) < h 110 (-1) then if 0 ≤ (w32 (a3 + 3)) ∧ (w32 (a3 + 3)) < h 110 (-1) then (mm_call mX9_posts [vR 0, vI (h 110 (w32 (a3 + 1))), vI (h 110 (w32 (a3 + 2))), vI (h 110 (w32 (a3 + 3)))] h).bind (fun w => mm_ev mL_law 700 276 [some (vR 110), some (vR 0), some (vR 47), some (vI a3)] (w.1 ++ []) w.2) else none else none else none := (ev_aload_n 258 dL_law_257 rfl rfl).trans ((ev_aload_n 259 dL_law_258 rfl rfl).trans ((ev_iload_n 260 dL_law_259 rfl rfl).trans ((ev_iconst 261 (v := 1) dL_law_260 rfl rfl).trans ((ev_iadd 262 dL_law_261 rfl).trans ((ev_ialdS 263 dL_law_262 rfl).trans (mm_ite ((ev_aload_n 264 dL_law_263 rfl rfl).trans ((ev_iload_n 265 dL_law_264 rfl rfl).trans ((ev_iconst 266 (v := 2) dL_law_265 rfl rfl).trans ((ev_iadd 267 dL_law_266 rfl).trans ((ev_ialdS 268 dL_law_267 rfl).trans (mm_ite ((ev_aload_n 269 dL_law_268 rfl rfl).trans ((ev_iload_n 270 dL_law_269 rfl rfl).trans ((ev_iconst 271 (v := 3) dL_law_270 rfl rfl).trans ((ev_iadd 272 dL_law_271 rfl).trans ((ev_ialdS 273 dL_law_272 rfl).trans (mm_ite ((ev_callv mX9_posts [vR 0, vI (h 110 (w32 (a3 + 1))), vI (h 110 (w32 (a3 + 2))), vI (h 110 (w32 (a3 + 3)))] [] 276 dL_law_273 ml_12_18 k88 rfl oc0 ak0 rfl rfl (Nat.le_of_ble_eq_true rfl) (Nat.le_of_ble_eq_true rfl) rfl).trans (if_pos (show 5 < 700 from by decide))) (rfl))))))) (rfl))))))) (rfl)))))))
theorem L_law_276 (h : mm_M) (a3 : Int) (s0 : Int) : mm_ev mL_law 700 276 [some (vR 110), some (vR 0), some (vR 47), some (vI a3)] [vI s0] h = if 0 ≤ (w32 (a3 + 1)) ∧ (w32 (a3 + 1)) < h 110 (-1) then if 0 ≤ (w32 (a3 + 2)) ∧ (w32 (a3 + 2)) < h 110 (-1) then if 0 ≤ (w32 (a3 + 3)) ∧ (w32 (a3 + 3)) < h 110 (-1) then (mm_call mX10_posts [vR 47, vI (h 110 (w32 (a3 + 1))), vI (h 110 (w32 (a3 + 2))), vI (h 110 (w32 (a3 + 3)))] h).bind (fun w => mm_ev mL_law 700 295 [some (vR 110), some (vR 0), some (vR 47), some (vI a3)] (w.1 ++ [vI s0]) w.2) else none else none else none := (ev_aload_n 277 dL_law_276 rfl rfl).trans ((ev_aload_n 278 dL_law_277 rfl rfl).trans ((ev_iload_n 279 dL_law_278 rfl rfl).trans ((ev_iconst 280 (v := 1) dL_law_279 rfl rfl).trans ((ev_iadd 281 dL_law_280 rfl).trans ((ev_ialdS 282 dL_law_281 rfl).trans (mm_ite ((ev_aload_n 283 dL_law_282 rfl rfl).trans ((ev_iload_n 284 dL_law_283 rfl rfl).trans ((ev_iconst 285 (v := 2) dL_law_284 rfl rfl).trans ((ev_iadd 286 dL_law_285 rfl).trans ((ev_ialdS 287 dL_law_286 rfl).trans (mm_ite ((ev_aload_n 288 dL_law_287 rfl rfl).trans ((ev_iload_n 289 dL_law_288 rfl rfl).trans ((ev_iconst 290 (v := 3) dL_law_289 rfl rfl).trans ((ev_iadd 291 dL_law_290 rfl).trans ((ev_ialdS 292 dL_law_291 rfl).trans (mm_ite ((ev_callv mX10_posts [vR 47, vI (h 110 (w32 (a3 + 1))), vI (h 110 (w32 (a3 + 2))), vI (h 110 (w32 (a3 + 3)))] [vI s0] 295 dL_law_292 ml_12_22 k149 rfl oc47 ak47 rfl rfl (Nat.le_of_ble_eq_true rfl) (Nat.le_of_ble_eq_true rfl) rfl).trans (if_pos (show 3 < 700 from by decide))) (rfl))))))) (rfl))))))) (rfl)))))))
theorem L_law_295 (h : mm_M) (a3 : Int) (s0 : Int) (s1 : Int) : mm_ev mL_law 700 295 [some (vR 110), some (vR 0), some (vR 47), some (vI a3)] [vI s0, vI s1] h = if s1 = s0 then mm_ev mL_law 700 1651 [some (vR 110), some (vR 0), some (vR 47), some (vI a3)] [] h else some ([vI 0], h) := (ev_ic_eq 1651 298 dL_law_295 rfl rfl).trans (mm_ite (rfl) ((ev_iconst 299 (v := 0) dL_law_298 rfl rfl).trans (ev_zret0 dL_law_299 rfl)))
theorem L_law_300 (h : mm_M) (a3 : Int) : mm_ev mL_law 700 300 [some (vR 110), some (vR 0), some (vR 47), some (vI a3)] [] h = if 0 ≤ (w32 (a3 + 1)) ∧ (w32 (a3 + 1)) < h 110 (-1) then if 0 ≤ (w32 (a3 + 2)) ∧ (w32 (a3 + 2)) < h 110 (-1) then if 0 ≤ (w32 (a3 + 3)) ∧ (w32 (a3 + 3)) < h 110 (-1) then (mm_call mX9_mend [vR 0, vI (h 110 (w32 (a3 + 1))), vI (h 110 (w32 (a3 + 2))), vI (h 110 (w32 (a3 + 3)))] h).bind (fun w => mm_ev mL_law 700 319 [some (vR 110), some (vR 0), some (vR 47), some (vI a3)] (w.1 ++ []) w.2) else none else none else none := (ev_aload_n 301 dL_law_300 rfl rfl).trans ((ev_aload_n 302 dL_law_301 rfl rfl).trans ((ev_iload_n 303 dL_law_302 rfl rfl).trans ((ev_iconst 304 (v := 1) dL_law_303 rfl rfl).trans ((ev_iadd 305 dL_law_304 rfl).trans ((ev_ialdS 306 dL_law_305 rfl).trans (mm_ite ((ev_aload_n 307 dL_law_306 rfl rfl).trans ((ev_iload_n 308 dL_law_307 rfl rfl).trans ((ev_iconst 309 (v := 2) dL_law_308 rfl rfl).trans ((ev_iadd 310 dL_law_309 rfl).trans ((ev_ialdS 311 dL_law_310 rfl).trans (mm_ite ((ev_aload_n 312 dL_law_311 rfl rfl).trans ((ev_iload_n 313 dL_law_312 rfl rfl).trans ((ev_iconst 314 (v := 3) dL_law_313 rfl rfl).trans ((ev_iadd 315 dL_law_314 rfl).trans ((ev_ialdS 316 dL_law_315 rfl).trans (mm_ite ((ev_callv mX9_mend [vR 0, vI (h 110 (w32 (a3 + 1))), vI (h 110 (w32 (a3 + 2))), vI (h 110 (w32 (a3 + 3)))] [] 319 dL_law_316 ml_12_23 k89 rfl oc0 ak0 rfl rfl (Nat.le_of_ble_eq_true rfl) (Nat.le_of_ble_eq_true rfl) rfl).trans (if_pos (show 3 < 700 from by decide))) (rfl))))))) (rfl))))))) (rfl)))))))
theorem L_law_319 (h : mm_M) (a3 : Int) (s0 : Int) : mm_ev mL_law 700 319 [some (vR 110), some (vR 0), some (vR 47), some (vI a3)] [vI s0] h = if 0 ≤ (w32 (a3 + 1)) ∧ (w32 (a3 + 1)) < h 110 (-1) then if 0 ≤ (w32 (a3 + 2)) ∧ (w32 (a3 + 2)) < h 110 (-1) then if 0 ≤ (w32 (a3 + 3)) ∧ (w32 (a3 + 3)) < h 110 (-1) then (mm_call mX10_mend [vR 47, vI (h 110 (w32 (a3 + 1))), vI (h 110 (w32 (a3 + 2))), vI (h 110 (w32 (a3 + 3)))] h).bind (fun w => mm_ev mL_law 700 338 [some (vR 110), some (vR 0), some (vR 47), some (vI a3)] (w.1 ++ [vI s0]) w.2) else none else none else none := (ev_aload_n 320 dL_law_319 rfl rfl).trans ((ev_aload_n 321 dL_law_320 rfl rfl).trans ((ev_iload_n 322 dL_law_321 rfl rfl).trans ((ev_iconst 323 (v := 1) dL_law_322 rfl rfl).trans ((ev_iadd 324 dL_law_323 rfl).trans ((ev_ialdS 325 dL_law_324 rfl).trans (mm_ite ((ev_aload_n 326 dL_law_325 rfl rfl).trans ((ev_iload_n 327 dL_law_326 rfl rfl).trans ((ev_iconst 328 (v := 2) dL_law_327 rfl rfl).trans ((ev_iadd 329 dL_law_328 rfl).trans ((ev_ialdS 330 dL_law_329 rfl).trans (mm_ite ((ev_aload_n 331 dL_law_330 rfl rfl).trans ((ev_iload_n 332 dL_law_331 rfl rfl).trans ((ev_iconst 333 (v := 3) dL_law_332 rfl rfl).trans ((ev_iadd 334 dL_law_333 rfl).trans ((ev_ialdS 335 dL_law_334 rfl).trans (mm_ite ((ev_callv mX10_mend [vR 47, vI (h 110 (w32 (a3 + 1))), vI (h 110 (w32 (a3 + 2))), vI (h 110 (w32 (a3 + 3)))] [vI s0] 338 dL_law_335 ml_12_26 k157 rfl oc47 ak47 rfl rfl (Nat.le_of_ble_eq_true rfl) (Nat.le_of_ble_eq_true rfl) rfl).trans (if_pos (show 4 < 700 from by decide))) (rfl))))))) (rfl))))))) (rfl)))))))
theorem L_law_338 (h : mm_M) (a3 : Int) (s0 : Int) (s1 : Int) : mm_ev mL_law 700 338 [some (vR 110), some (vR 0), some (vR 47), some (vI a3)] [vI s0, vI s1] h = if s1 = s0 then mm_ev mL_law 700 1651 [some (vR 110), some (vR 0), some (vR 47), some (vI a3)] [] h else some ([vI 0], h) := (ev_ic_eq 1651 341 dL_law_338 rfl rfl).trans (mm_ite (rfl) ((ev_iconst 342 (v := 0) dL_law_341 rfl rfl).trans (ev_zret0 dL_law_342 rfl)))
theorem L_law_343 (h : mm_M) (a3 : Int) : mm_ev mL_law 700 343 [some (vR 110), some (vR 0), some (vR 47), some (vI a3)] [] h = if 0 ≤ (w32 (a3 + 1)) ∧ (w32 (a3 + 1)) < h 110 (-1) then if 0 ≤ (w32 (a3 + 2)) ∧ (w32 (a3 + 2)) < h 110 (-1) then (mm_call mX9_of [vR 0, vI (h 110 (w32 (a3 + 1))), vI (h 110 (w32 (a3 + 2)))] h).bind (fun w => mm_ev mL_law 700 357 [some (vR 110), some (vR 0), some (vR 47), some (vI a3)] (w.1 ++ []) w.2) else none else none := (ev_aload_n 344 dL_law_343 rfl rfl).trans ((ev_aload_n 345 dL_law_344 rfl rfl).trans ((ev_iload_n 346 dL_law_345 rfl rfl).trans ((ev_iconst 347 (v := 1) dL_law_346 rfl rfl).trans ((ev_iadd 348 dL_law_347 rfl).trans ((ev_ialdS 349 dL_law_348 rfl).trans (mm_ite ((ev_aload_n 350 dL_law_349 rfl rfl).trans ((ev_iload_n 351 dL_law_350 rfl rfl).trans ((ev_iconst 352 (v := 2) dL_law_351 rfl rfl).trans ((ev_iadd 353 dL_law_352 rfl).trans ((ev_ialdS 354 dL_law_353 rfl).trans (mm_ite ((ev_callv mX9_of [vR 0, vI (h 110 (w32 (a3 + 1))), vI (h 110 (w32 (a3 + 2)))] [] 357 dL_law_354 ml_12_27 k90 rfl oc0 ak0 rfl rfl (Nat.le_of_ble_eq_true rfl) (Nat.le_of_ble_eq_true rfl) rfl).trans (if_pos (show 2 < 700 from by decide))) (rfl))))))) (rfl)))))))
theorem L_law_357 (h : mm_M) (a3 : Int) (s0 : Int) : mm_ev mL_law 700 357 [some (vR 110), some (vR 0), some (vR 47), some (vI a3)] [vI s0] h = if 0 ≤ (w32 (a3 + 1)) ∧ (w32 (a3 + 1)) < h 110 (-1) then if 0 ≤ (w32 (a3 + 2)) ∧ (w32 (a3 + 2)) < h 110 (-1) then (mm_call mX10_of [vR 47, vI (h 110 (w32 (a3 + 1))), vI (h 110 (w32 (a3 + 2)))] h).bind (fun w => mm_ev mL_law 700 371 [some (vR 110), some (vR 0), some (vR 47), some (vI a3)] (w.1 ++ [vI s0]) w.2) else none else none := (ev_aload_n 358 dL_law_357 rfl rfl).trans ((ev_aload_n 359 dL_law_358 rfl rfl).trans ((ev_iload_n 360 dL_law_359 rfl rfl).trans ((ev_iconst 361 (v := 1) dL_law_360 rfl rfl).trans ((ev_iadd 362 dL_law_361 rfl).trans ((ev_ialdS 363 dL_law_362 rfl).trans (mm_ite ((ev_aload_n 364 dL_law_363 rfl rfl).trans ((ev_iload_n 365 dL_law_364 rfl rfl).trans ((ev_iconst 366 (v := 2) dL_law_365 rfl rfl).trans ((ev_iadd 367 dL_law_366 rfl).trans ((ev_ialdS 368 dL_law_367 rfl).trans (mm_ite ((ev_callv mX10_of [vR 47, vI (h 110 (w32 (a3 + 1))), vI (h 110 (w32 (a3 + 2)))] [vI s0] 371 dL_law_368 ml_12_30 k158 rfl oc47 ak47 rfl rfl (Nat.le_of_ble_eq_true rfl) (Nat.le_of_ble_eq_true rfl) rfl).trans (if_pos (show 4 < 700 from by decide))) (rfl))))))) (rfl)))))))
theorem L_law_371 (h : mm_M) (a3 : Int) (s0 : Int) (s1 : Int) : mm_ev mL_law 700 371 [some (vR 110), some (vR 0), some (vR 47), some (vI a3)] [vI s0, vI s1] h = if s1 = s0 then mm_ev mL_law 700 1651 [some (vR 110), some (vR 0), some (vR 47), some (vI a3)] [] h else some ([vI 0], h) := (ev_ic_eq 1651 374 dL_law_371 rfl rfl).trans (mm_ite (rfl) ((ev_iconst 375 (v := 0) dL_law_374 rfl rfl).trans (ev_zret0 dL_law_375 rfl)))
theorem L_law_376 (h : mm_M) (a3 : Int) : mm_ev mL_law 700 376 [some (vR 110), some (vR 0), some (vR 47), some (vI a3)] [] h = if 0 ≤ (w32 (a3 + 1)) ∧ (w32 (a3 + 1)) < h 110 (-1) then (mm_call mX9_feed [vR 0, vI (h 110 (w32 (a3 + 1)))] h).bind (fun w => mm_ev mL_law 700 385 [some (vR 110), some (vR 0), some (vR 47), some (vI a3)] (w.1 ++ []) w.2) else none := (ev_aload_n 377 dL_law_376 rfl rfl).trans ((ev_aload_n 378 dL_law_377 rfl rfl).trans ((ev_iload_n 379 dL_law_378 rfl rfl).trans ((ev_iconst 380 (v := 1) dL_law_379 rfl rfl).trans ((ev_iadd 381 dL_law_380 rfl).trans ((ev_ialdS 382 dL_law_381 rfl).trans (mm_ite ((ev_callv mX9_feed [vR 0, vI (h 110 (w32 (a3 + 1)))] [] 385 dL_law_382 ml_12_31 k91 rfl oc0 ak0 rfl rfl (Nat.le_of_ble_eq_true rfl) (Nat.le_of_ble_eq_true rfl) rfl).trans (if_pos (show 2 < 700 from by decide))) (rfl)))))))
theorem L_law_385 (h : mm_M) (a3 : Int) (s0 : Int) : mm_ev mL_law 700 385 [some (vR 110), some (vR 0), some (vR 47), some (vI a3)] [vI s0] h = if 0 ≤ (w32 (a3 + 1)) ∧ (w32 (a3 + 1)) < h 110 (-1) then (mm_call mX10_feed [vR 47, vI (h 110 (w32 (a3 + 1)))] h).bind (fun w => mm_ev mL_law 700 394 [some (vR 110), some (vR 0), some (vR 47), some (vI a3)] (w.1 ++ [vI s0]) w.2) else none := (ev_aload_n 386 dL_law_385 rfl rfl).trans ((ev_aload_n 387 dL_law_386 rfl rfl).trans ((ev_iload_n 388 dL_law_387 rfl rfl).trans ((ev_iconst 389 (v := 1) dL_law_388 rfl rfl).trans ((ev_iadd 390 dL_law_389 rfl).trans ((ev_ialdS 391 dL_law_390 rfl).trans (mm_ite ((ev_callv mX10_feed [vR 47, vI (h 110 (w32 (a3 + 1)))] [vI s0] 394 dL_law_391 ml_12_35 k159 rfl oc47 ak47 rfl rfl (Nat.le_of_ble_eq_true rfl) (Nat.le_of_ble_eq_true rfl) rfl).trans (if_pos (show 2 < 700 from by decide))) (rfl)))))))
theorem L_law_394 (h : mm_M) (a3 : Int) (s0 : Int) (s1 : Int) : mm_ev mL_law 700 394 [some (vR 110), some (vR 0), some (vR 47), some (vI a3)] [vI s0, vI s1] h = if s1 = s0 then mm_ev mL_law 700 1651 [some (vR 110), some (vR 0), some (vR 47), some (vI a3)] [] h else some ([vI 0], h) := (ev_ic_eq 1651 397 dL_law_394 rfl rfl).trans (mm_ite (rfl) ((ev_iconst 398 (v := 0) dL_law_397 rfl rfl).trans (ev_zret0 dL_law_398 rfl)))
theorem L_law_399 (h : mm_M) (a3 : Int) : mm_ev mL_law 700 399 [some (vR 110), some (vR 0), some (vR 47), some (vI a3)] [] h = (mm_call mX9_law [vR 0] h).bind (fun w => mm_ev mL_law 700 403 [some (vR 110), some (vR 0), some (vR 47), some (vI a3)] (w.1 ++ []) w.2) := (ev_aload_n 400 dL_law_399 rfl rfl).trans ((ev_callv mX9_law [vR 0] [] 403 dL_law_400 ml_12_36 k92 rfl oc0 ak0 rfl rfl (Nat.le_of_ble_eq_true rfl) (Nat.le_of_ble_eq_true rfl) rfl).trans (if_pos (show 83 < 700 from by decide)))
theorem L_law_403 (h : mm_M) (a3 : Int) (s0 : Int) : mm_ev mL_law 700 403 [some (vR 110), some (vR 0), some (vR 47), some (vI a3)] [vI s0] h = (mm_call mX10_law [vR 47] h).bind (fun w => mm_ev mL_law 700 407 [some (vR 110), some (vR 0), some (vR 47), some (vI a3)] (w.1 ++ [vI s0]) w.2) := (ev_aload_n 404 dL_law_403 rfl rfl).trans ((ev_callv mX10_law [vR 47] [vI s0] 407 dL_law_404 ml_12_40 k177 rfl oc47 ak47 rfl rfl (Nat.le_of_ble_eq_true rfl) (Nat.le_of_ble_eq_true rfl) rfl).trans (if_pos (show 83 < 700 from by decide)))
theorem L_law_407 (h : mm_M) (a3 : Int) (s0 : Int) (s1 : Int) : mm_ev mL_law 700 407 [some (vR 110), some (vR 0), some (vR 47), some (vI a3)] [vI s0, vI s1] h = if s1 = s0 then mm_ev mL_law 700 1651 [some (vR 110), some (vR 0), some (vR 47), some (vI a3)] [] h else some ([vI 0], h) := (ev_ic_eq 1651 410 dL_law_407 rfl rfl).trans (mm_ite (rfl) ((ev_iconst 411 (v := 0) dL_law_410 rfl rfl).trans (ev_zret0 dL_law_411 rfl)))
theorem L_law_412 (h : mm_M) (a3 : Int) : mm_ev mL_law 700 412 [some (vR 110), some (vR 0), some (vR 47), some (vI a3)] [] h = if 0 ≤ (w32 (a3 + 1)) ∧ (w32 (a3 + 1)) < h 110 (-1) then (mm_call mX9_mishears [vR 0, vI (h 110 (w32 (a3 + 1)))] h).bind (fun w => mm_ev mL_law 700 421 [some (vR 110), some (vR 0), some (vR 47), some (vI a3)] (w.1 ++ []) w.2) else none := (ev_aload_n 413 dL_law_412 rfl rfl).trans ((ev_aload_n 414 dL_law_413 rfl rfl).trans ((ev_iload_n 415 dL_law_414 rfl rfl).trans ((ev_iconst 416 (v := 1) dL_law_415 rfl rfl).trans ((ev_iadd 417 dL_law_416 rfl).trans ((ev_ialdS 418 dL_law_417 rfl).trans (mm_ite ((ev_callv mX9_mishears [vR 0, vI (h 110 (w32 (a3 + 1)))] [] 421 dL_law_418 ml_12_41 k93 rfl oc0 ak0 rfl rfl (Nat.le_of_ble_eq_true rfl) (Nat.le_of_ble_eq_true rfl) rfl).trans (if_pos (show 5 < 700 from by decide))) (rfl)))))))
theorem L_law_421 (h : mm_M) (a3 : Int) (s0 : Int) : mm_ev mL_law 700 421 [some (vR 110), some (vR 0), some (vR 47), some (vI a3)] [vI s0] h = if 0 ≤ (w32 (a3 + 1)) ∧ (w32 (a3 + 1)) < h 110 (-1) then (mm_call mX10_mishears [vR 47, vI (h 110 (w32 (a3 + 1)))] h).bind (fun w => mm_ev mL_law 700 430 [some (vR 110), some (vR 0), some (vR 47), some (vI a3)] (w.1 ++ [vI s0]) w.2) else none := (ev_aload_n 422 dL_law_421 rfl rfl).trans ((ev_aload_n 423 dL_law_422 rfl rfl).trans ((ev_iload_n 424 dL_law_423 rfl rfl).trans ((ev_iconst 425 (v := 1) dL_law_424 rfl rfl).trans ((ev_iadd 426 dL_law_425 rfl).trans ((ev_ialdS 427 dL_law_426 rfl).trans (mm_ite ((ev_callv mX10_mishears [vR 47, vI (h 110 (w32 (a3 + 1)))] [vI s0] 430 dL_law_427 ml_12_44 k179 rfl oc47 ak47 rfl rfl (Nat.le_of_ble_eq_true rfl) (Nat.le_of_ble_eq_true rfl) rfl).trans (if_pos (show 5 < 700 from by decide))) (rfl)))))))
theorem L_law_430 (h : mm_M) (a3 : Int) (s0 : Int) (s1 : Int) : mm_ev mL_law 700 430 [some (vR 110), some (vR 0), some (vR 47), some (vI a3)] [vI s0, vI s1] h = if s1 = s0 then mm_ev mL_law 700 1651 [some (vR 110), some (vR 0), some (vR 47), some (vI a3)] [] h else some ([vI 0], h) := (ev_ic_eq 1651 433 dL_law_430 rfl rfl).trans (mm_ite (rfl) ((ev_iconst 434 (v := 0) dL_law_433 rfl rfl).trans (ev_zret0 dL_law_434 rfl)))
theorem L_law_435 (h : mm_M) (a3 : Int) : mm_ev mL_law 700 435 [some (vR 110), some (vR 0), some (vR 47), some (vI a3)] [] h = if 0 ≤ (w32 (a3 + 1)) ∧ (w32 (a3 + 1)) < h 110 (-1) then if 0 ≤ (w32 (a3 + 2)) ∧ (w32 (a3 + 2)) < h 110 (-1) then (mm_call mX9_hears [vR 0, vI (h 110 (w32 (a3 + 1))), vI (h 110 (w32 (a3 + 2)))] h).bind (fun w => mm_ev mL_law 700 449 [some (vR 110), some (vR 0), some (vR 47), some (vI a3)] (w.1 ++ []) w.2) else none else none := (ev_aload_n 436 dL_law_435 rfl rfl).trans ((ev_aload_n 437 dL_law_436 rfl rfl).trans ((ev_iload_n 438 dL_law_437 rfl rfl).trans ((ev_iconst 439 (v := 1) dL_law_438 rfl rfl).trans ((ev_iadd 440 dL_law_439 rfl).trans ((ev_ialdS 441 dL_law_440 rfl).trans (mm_ite ((ev_aload_n 442 dL_law_441 rfl rfl).trans ((ev_iload_n 443 dL_law_442 rfl rfl).trans ((ev_iconst 444 (v := 2) dL_law_443 rfl rfl).trans ((ev_iadd 445 dL_law_444 rfl).trans ((ev_ialdS 446 dL_law_445 rfl).trans (mm_ite ((ev_callv mX9_hears [vR 0, vI (h 110 (w32 (a3 + 1))), vI (h 110 (w32 (a3 + 2)))] [] 449 dL_law_446 ml_12_45 k94 rfl oc0 ak0 rfl rfl (Nat.le_of_ble_eq_true rfl) (Nat.le_of_ble_eq_true rfl) rfl).trans (if_pos (show 6 < 700 from by decide))) (rfl))))))) (rfl)))))))
theorem L_law_449 (h : mm_M) (a3 : Int) (s0 : Int) : mm_ev mL_law 700 449 [some (vR 110), some (vR 0), some (vR 47), some (vI a3)] [vI s0] h = if 0 ≤ (w32 (a3 + 1)) ∧ (w32 (a3 + 1)) < h 110 (-1) then if 0 ≤ (w32 (a3 + 2)) ∧ (w32 (a3 + 2)) < h 110 (-1) then (mm_call mX10_hears [vR 47, vI (h 110 (w32 (a3 + 1))), vI (h 110 (w32 (a3 + 2)))] h).bind (fun w => mm_ev mL_law 700 463 [some (vR 110), some (vR 0), some (vR 47), some (vI a3)] (w.1 ++ [vI s0]) w.2) else none else none := (ev_aload_n 450 dL_law_449 rfl rfl).trans ((ev_aload_n 451 dL_law_450 rfl rfl).trans ((ev_iload_n 452 dL_law_451 rfl rfl).trans ((ev_iconst 453 (v := 1) dL_law_452 rfl rfl).trans ((ev_iadd 454 dL_law_453 rfl).trans ((ev_ialdS 455 dL_law_454 rfl).trans (mm_ite ((ev_aload_n 456 dL_law_455 rfl rfl).trans ((ev_iload_n 457 dL_law_456 rfl rfl).trans ((ev_iconst 458 (v := 2) dL_law_457 rfl rfl).trans ((ev_iadd 459 dL_law_458 rfl).trans ((ev_ialdS 460 dL_law_459 rfl).trans (mm_ite ((ev_callv mX10_hears [vR 47, vI (h 110 (w32 (a3 + 1))), vI (h 110 (w32 (a3 + 2)))] [vI s0] 463 dL_law_460 ml_12_48 k189 rfl oc47 ak47 rfl rfl (Nat.le_of_ble_eq_true rfl) (Nat.le_of_ble_eq_true rfl) rfl).trans (if_pos (show 5 < 700 from by decide))) (rfl))))))) (rfl)))))))
theorem L_law_463 (h : mm_M) (a3 : Int) (s0 : Int) (s1 : Int) : mm_ev mL_law 700 463 [some (vR 110), some (vR 0), some (vR 47), some (vI a3)] [vI s0, vI s1] h = if s1 = s0 then mm_ev mL_law 700 1651 [some (vR 110), some (vR 0), some (vR 47), some (vI a3)] [] h else some ([vI 0], h) := (ev_ic_eq 1651 466 dL_law_463 rfl rfl).trans (mm_ite (rfl) ((ev_iconst 467 (v := 0) dL_law_466 rfl rfl).trans (ev_zret0 dL_law_467 rfl)))
theorem L_law_468 (h : mm_M) (a3 : Int) : mm_ev mL_law 700 468 [some (vR 110), some (vR 0), some (vR 47), some (vI a3)] [] h = if 0 ≤ (w32 (a3 + 1)) ∧ (w32 (a3 + 1)) < h 110 (-1) then if 0 ≤ (w32 (a3 + 2)) ∧ (w32 (a3 + 2)) < h 110 (-1) then (mm_call mX9_route [vR 0, vI (h 110 (w32 (a3 + 1))), vI (h 110 (w32 (a3 + 2)))] h).bind (fun w => mm_ev mL_law 700 482 [some (vR 110), some (vR 0), some (vR 47), some (vI a3)] (w.1 ++ []) w.2) else none else none := (ev_aload_n 469 dL_law_468 rfl rfl).trans ((ev_aload_n 470 dL_law_469 rfl rfl).trans ((ev_iload_n 471 dL_law_470 rfl rfl).trans ((ev_iconst 472 (v := 1) dL_law_471 rfl rfl).trans ((ev_iadd 473 dL_law_472 rfl).trans ((ev_ialdS 474 dL_law_473 rfl).trans (mm_ite ((ev_aload_n 475 dL_law_474 rfl rfl).trans ((ev_iload_n 476 dL_law_475 rfl rfl).trans ((ev_iconst 477 (v := 2) dL_law_476 rfl rfl).trans ((ev_iadd 478 dL_law_477 rfl).trans ((ev_ialdS 479 dL_law_478 rfl).trans (mm_ite ((ev_callv mX9_route [vR 0, vI (h 110 (w32 (a3 + 1))), vI (h 110 (w32 (a3 + 2)))] [] 482 dL_law_479 ml_12_49 k95 rfl oc0 ak0 rfl rfl (Nat.le_of_ble_eq_true rfl) (Nat.le_of_ble_eq_true rfl) rfl).trans (if_pos (show 22 < 700 from by decide))) (rfl))))))) (rfl)))))))
theorem L_law_482 (h : mm_M) (a3 : Int) (s0 : Int) : mm_ev mL_law 700 482 [some (vR 110), some (vR 0), some (vR 47), some (vI a3)] [vI s0] h = if 0 ≤ (w32 (a3 + 1)) ∧ (w32 (a3 + 1)) < h 110 (-1) then if 0 ≤ (w32 (a3 + 2)) ∧ (w32 (a3 + 2)) < h 110 (-1) then (mm_call mX10_route [vR 47, vI (h 110 (w32 (a3 + 1))), vI (h 110 (w32 (a3 + 2)))] h).bind (fun w => mm_ev mL_law 700 496 [some (vR 110), some (vR 0), some (vR 47), some (vI a3)] (w.1 ++ [vI s0]) w.2) else none else none := (ev_aload_n 483 dL_law_482 rfl rfl).trans ((ev_aload_n 484 dL_law_483 rfl rfl).trans ((ev_iload_n 485 dL_law_484 rfl rfl).trans ((ev_iconst 486 (v := 1) dL_law_485 rfl rfl).trans ((ev_iadd 487 dL_law_486 rfl).trans ((ev_ialdS 488 dL_law_487 rfl).trans (mm_ite ((ev_aload_n 489 dL_law_488 rfl rfl).trans ((ev_iload_n 490 dL_law_489 rfl rfl).trans ((ev_iconst 491 (v := 2) dL_law_490 rfl rfl).trans ((ev_iadd 492 dL_law_491 rfl).trans ((ev_ialdS 493 dL_law_492 rfl).trans (mm_ite ((ev_callv mX10_route [vR 47, vI (h 110 (w32 (a3 + 1))), vI (h 110 (w32 (a3 + 2)))] [vI s0] 496 dL_law_493 ml_12_52 k194 rfl oc47 ak47 rfl rfl (Nat.le_of_ble_eq_true rfl) (Nat.le_of_ble_eq_true rfl) rfl).trans (if_pos (show 42 < 700 from by decide))) (rfl))))))) (rfl)))))))
theorem L_law_496 (h : mm_M) (a3 : Int) (s0 : Int) (s1 : Int) : mm_ev mL_law 700 496 [some (vR 110), some (vR 0), some (vR 47), some (vI a3)] [vI s0, vI s1] h = if s1 = s0 then mm_ev mL_law 700 1651 [some (vR 110), some (vR 0), some (vR 47), some (vI a3)] [] h else some ([vI 0], h) := (ev_ic_eq 1651 499 dL_law_496 rfl rfl).trans (mm_ite (rfl) ((ev_iconst 500 (v := 0) dL_law_499 rfl rfl).trans (ev_zret0 dL_law_500 rfl)))
theorem L_law_501 (h : mm_M) (a3 : Int) : mm_ev mL_law 700 501 [some (vR 110), some (vR 0), some (vR 47), some (vI a3)] [] h = if 0 ≤ (w32 (a3 + 1)) ∧ (w32 (a3 + 1)) < h 110 (-1) then if 0 ≤ (w32 (a3 + 2)) ∧ (w32 (a3 + 2)) < h 110 (-1) then (mm_call mX9_letsIn [vR 0, vI (h 110 (w32 (a3 + 1))), vI (h 110 (w32 (a3 + 2)))] h).bind (fun w => mm_ev mL_law 700 515 [some (vR 110), some (vR 0), some (vR 47), some (vI a3)] (w.1 ++ []) w.2) else none else none := (ev_aload_n 502 dL_law_501 rfl rfl).trans ((ev_aload_n 503 dL_law_502 rfl rfl).trans ((ev_iload_n 504 dL_law_503 rfl rfl).trans ((ev_iconst 505 (v := 1) dL_law_504 rfl rfl).trans ((ev_iadd 506 dL_law_505 rfl).trans ((ev_ialdS 507 dL_law_506 rfl).trans (mm_ite ((ev_aload_n 508 dL_law_507 rfl rfl).trans ((ev_iload_n 509 dL_law_508 rfl rfl).trans ((ev_iconst 510 (v := 2) dL_law_509 rfl rfl).trans ((ev_iadd 511 dL_law_510 rfl).trans ((ev_ialdS 512 dL_law_511 rfl).trans (mm_ite ((ev_callv mX9_letsIn [vR 0, vI (h 110 (w32 (a3 + 1))), vI (h 110 (w32 (a3 + 2)))] [] 515 dL_law_512 ml_12_53 k96 rfl oc0 ak0 rfl rfl (Nat.le_of_ble_eq_true rfl) (Nat.le_of_ble_eq_true rfl) rfl).trans (if_pos (show 6 < 700 from by decide))) (rfl))))))) (rfl)))))))
theorem L_law_515 (h : mm_M) (a3 : Int) (s0 : Int) : mm_ev mL_law 700 515 [some (vR 110), some (vR 0), some (vR 47), some (vI a3)] [vI s0] h = if 0 ≤ (w32 (a3 + 1)) ∧ (w32 (a3 + 1)) < h 110 (-1) then if 0 ≤ (w32 (a3 + 2)) ∧ (w32 (a3 + 2)) < h 110 (-1) then (mm_call mX10_letsIn [vR 47, vI (h 110 (w32 (a3 + 1))), vI (h 110 (w32 (a3 + 2)))] h).bind (fun w => mm_ev mL_law 700 529 [some (vR 110), some (vR 0), some (vR 47), some (vI a3)] (w.1 ++ [vI s0]) w.2) else none else none := (ev_aload_n 516 dL_law_515 rfl rfl).trans ((ev_aload_n 517 dL_law_516 rfl rfl).trans ((ev_iload_n 518 dL_law_517 rfl rfl).trans ((ev_iconst 519 (v := 1) dL_law_518 rfl rfl).trans ((ev_iadd 520 dL_law_519 rfl).trans ((ev_ialdS 521 dL_law_520 rfl).trans (mm_ite ((ev_aload_n 522 dL_law_521 rfl rfl).trans ((ev_iload_n 523 dL_law_522 rfl rfl).trans ((ev_iconst 524 (v := 2) dL_law_523 rfl rfl).trans ((ev_iadd 525 dL_law_524 rfl).trans ((ev_ialdS 526 dL_law_525 rfl).trans (mm_ite ((ev_callv mX10_letsIn [vR 47, vI (h 110 (w32 (a3 + 1))), vI (h 110 (w32 (a3 + 2)))] [vI s0] 529 dL_law_526 ml_12_56 k199 rfl oc47 ak47 rfl rfl (Nat.le_of_ble_eq_true rfl) (Nat.le_of_ble_eq_true rfl) rfl).trans (if_pos (show 6 < 700 from by decide))) (rfl))))))) (rfl)))))))
theorem L_law_529 (h : mm_M) (a3 : Int) (s0 : Int) (s1 : Int) : mm_ev mL_law 700 529 [some (vR 110), some (vR 0), some (vR 47), some (vI a3)] [vI s0, vI s1] h = if s1 = s0 then mm_ev mL_law 700 1651 [some (vR 110), some (vR 0), some (vR 47), some (vI a3)] [] h else some ([vI 0], h) := (ev_ic_eq 1651 532 dL_law_529 rfl rfl).trans (mm_ite (rfl) ((ev_iconst 533 (v := 0) dL_law_532 rfl rfl).trans (ev_zret0 dL_law_533 rfl)))
theorem L_law_534 (h : mm_M) (a3 : Int) : mm_ev mL_law 700 534 [some (vR 110), some (vR 0), some (vR 47), some (vI a3)] [] h = if 0 ≤ (w32 (a3 + 1)) ∧ (w32 (a3 + 1)) < h 110 (-1) then if 0 ≤ (w32 (a3 + 2)) ∧ (w32 (a3 + 2)) < h 110 (-1) then (mm_call mX9_patrol [vR 0, vI (h 110 (w32 (a3 + 1))), vI (h 110 (w32 (a3 + 2)))] h).bind (fun w => mm_ev mL_law 700 548 [some (vR 110), some (vR 0), some (vR 47), some (vI a3)] (w.1 ++ []) w.2) else none else none := (ev_aload_n 535 dL_law_534 rfl rfl).trans ((ev_aload_n 536 dL_law_535 rfl rfl).trans ((ev_iload_n 537 dL_law_536 rfl rfl).trans ((ev_iconst 538 (v := 1) dL_law_537 rfl rfl).trans ((ev_iadd 539 dL_law_538 rfl).trans ((ev_ialdS 540 dL_law_539 rfl).trans (mm_ite ((ev_aload_n 541 dL_law_540 rfl rfl).trans ((ev_iload_n 542 dL_law_541 rfl rfl).trans ((ev_iconst 543 (v := 2) dL_law_542 rfl rfl).trans ((ev_iadd 544 dL_law_543 rfl).trans ((ev_ialdS 545 dL_law_544 rfl).trans (mm_ite ((ev_callv mX9_patrol [vR 0, vI (h 110 (w32 (a3 + 1))), vI (h 110 (w32 (a3 + 2)))] [] 548 dL_law_545 ml_12_57 k97 rfl oc0 ak0 rfl rfl (Nat.le_of_ble_eq_true rfl) (Nat.le_of_ble_eq_true rfl) rfl).trans (if_pos (show 6 < 700 from by decide))) (rfl))))))) (rfl)))))))
theorem L_law_548 (h : mm_M) (a3 : Int) (s0 : Int) : mm_ev mL_law 700 548 [some (vR 110), some (vR 0), some (vR 47), some (vI a3)] [vI s0] h = if 0 ≤ (w32 (a3 + 1)) ∧ (w32 (a3 + 1)) < h 110 (-1) then if 0 ≤ (w32 (a3 + 2)) ∧ (w32 (a3 + 2)) < h 110 (-1) then (mm_call mX10_patrol [vR 47, vI (h 110 (w32 (a3 + 1))), vI (h 110 (w32 (a3 + 2)))] h).bind (fun w => mm_ev mL_law 700 562 [some (vR 110), some (vR 0), some (vR 47), some (vI a3)] (w.1 ++ [vI s0]) w.2) else none else none := (ev_aload_n 549 dL_law_548 rfl rfl).trans ((ev_aload_n 550 dL_law_549 rfl rfl).trans ((ev_iload_n 551 dL_law_550 rfl rfl).trans ((ev_iconst 552 (v := 1) dL_law_551 rfl rfl).trans ((ev_iadd 553 dL_law_552 rfl).trans ((ev_ialdS 554 dL_law_553 rfl).trans (mm_ite ((ev_aload_n 555 dL_law_554 rfl rfl).trans ((ev_iload_n 556 dL_law_555 rfl rfl).trans ((ev_iconst 557 (v := 2) dL_law_556 rfl rfl).trans ((ev_iadd 558 dL_law_557 rfl).trans ((ev_ialdS 559 dL_law_558 rfl).trans (mm_ite ((ev_callv mX10_patrol [vR 47, vI (h 110 (w32 (a3 + 1))), vI (h 110 (w32 (a3 + 2)))] [vI s0] 562 dL_law_559 ml_12_60 k204 rfl oc47 ak47 rfl rfl (Nat.le_of_ble_eq_true rfl) (Nat.le_of_ble_eq_true rfl) rfl).trans (if_pos (show 6 < 700 from by decide))) (rfl))))))) (rfl)))))))
theorem L_law_562 (h : mm_M) (a3 : Int) (s0 : Int) (s1 : Int) : mm_ev mL_law 700 562 [some (vR 110), some (vR 0), some (vR 47), some (vI a3)] [vI s0, vI s1] h = if s1 = s0 then mm_ev mL_law 700 1651 [some (vR 110), some (vR 0), some (vR 47), some (vI a3)] [] h else some ([vI 0], h) := (ev_ic_eq 1651 565 dL_law_562 rfl rfl).trans (mm_ite (rfl) ((ev_iconst 566 (v := 0) dL_law_565 rfl rfl).trans (ev_zret0 dL_law_566 rfl)))
theorem L_law_567 (h : mm_M) (a3 : Int) : mm_ev mL_law 700 567 [some (vR 110), some (vR 0), some (vR 47), some (vI a3)] [] h = if 0 ≤ (w32 (a3 + 1)) ∧ (w32 (a3 + 1)) < h 110 (-1) then (mm_call mX9_holdsFor [vR 0, vI (h 110 (w32 (a3 + 1)))] h).bind (fun w => mm_ev mL_law 700 576 [some (vR 110), some (vR 0), some (vR 47), some (vI a3)] (w.1 ++ []) w.2) else none := (ev_aload_n 568 dL_law_567 rfl rfl).trans ((ev_aload_n 569 dL_law_568 rfl rfl).trans ((ev_iload_n 570 dL_law_569 rfl rfl).trans ((ev_iconst 571 (v := 1) dL_law_570 rfl rfl).trans ((ev_iadd 572 dL_law_571 rfl).trans ((ev_ialdS 573 dL_law_572 rfl).trans (mm_ite ((ev_callv mX9_holdsFor [vR 0, vI (h 110 (w32 (a3 + 1)))] [] 576 dL_law_573 ml_12_61 k98 rfl oc0 ak0 rfl rfl (Nat.le_of_ble_eq_true rfl) (Nat.le_of_ble_eq_true rfl) rfl).trans (if_pos (show 6 < 700 from by decide))) (rfl)))))))
theorem L_law_576 (h : mm_M) (a3 : Int) (s0 : Int) : mm_ev mL_law 700 576 [some (vR 110), some (vR 0), some (vR 47), some (vI a3)] [vI s0] h = if 0 ≤ (w32 (a3 + 1)) ∧ (w32 (a3 + 1)) < h 110 (-1) then (mm_call mX10_holdsFor [vR 47, vI (h 110 (w32 (a3 + 1)))] h).bind (fun w => mm_ev mL_law 700 585 [some (vR 110), some (vR 0), some (vR 47), some (vI a3)] (w.1 ++ [vI s0]) w.2) else none := (ev_aload_n 577 dL_law_576 rfl rfl).trans ((ev_aload_n 578 dL_law_577 rfl rfl).trans ((ev_iload_n 579 dL_law_578 rfl rfl).trans ((ev_iconst 580 (v := 1) dL_law_579 rfl rfl).trans ((ev_iadd 581 dL_law_580 rfl).trans ((ev_ialdS 582 dL_law_581 rfl).trans (mm_ite ((ev_callv mX10_holdsFor [vR 47, vI (h 110 (w32 (a3 + 1)))] [vI s0] 585 dL_law_582 ml_12_64 k205 rfl oc47 ak47 rfl rfl (Nat.le_of_ble_eq_true rfl) (Nat.le_of_ble_eq_true rfl) rfl).trans (if_pos (show 6 < 700 from by decide))) (rfl)))))))
theorem L_law_585 (h : mm_M) (a3 : Int) (s0 : Int) (s1 : Int) : mm_ev mL_law 700 585 [some (vR 110), some (vR 0), some (vR 47), some (vI a3)] [vI s0, vI s1] h = if s1 = s0 then mm_ev mL_law 700 1651 [some (vR 110), some (vR 0), some (vR 47), some (vI a3)] [] h else some ([vI 0], h) := (ev_ic_eq 1651 588 dL_law_585 rfl rfl).trans (mm_ite (rfl) ((ev_iconst 589 (v := 0) dL_law_588 rfl rfl).trans (ev_zret0 dL_law_589 rfl)))
theorem L_law_590 (h : mm_M) (a3 : Int) : mm_ev mL_law 700 590 [some (vR 110), some (vR 0), some (vR 47), some (vI a3)] [] h = if 0 ≤ (w32 (a3 + 1)) ∧ (w32 (a3 + 1)) < h 110 (-1) then if 0 ≤ (w32 (a3 + 2)) ∧ (w32 (a3 + 2)) < h 110 (-1) then if 0 ≤ (w32 (a3 + 3)) ∧ (w32 (a3 + 3)) < h 110 (-1) then (mm_call mX9_stranger [vR 0, vI (h 110 (w32 (a3 + 1))), vI (h 110 (w32 (a3 + 2))), vI (h 110 (w32 (a3 + 3)))] h).bind (fun w => mm_ev mL_law 700 609 [some (vR 110), some (vR 0), some (vR 47), some (vI a3)] (w.1 ++ []) w.2) else none else none else none := (ev_aload_n 591 dL_law_590 rfl rfl).trans ((ev_aload_n 592 dL_law_591 rfl rfl).trans ((ev_iload_n 593 dL_law_592 rfl rfl).trans ((ev_iconst 594 (v := 1) dL_law_593 rfl rfl).trans ((ev_iadd 595 dL_law_594 rfl).trans ((ev_ialdS 596 dL_law_595 rfl).trans (mm_ite ((ev_aload_n 597 dL_law_596 rfl rfl).trans ((ev_iload_n 598 dL_law_597 rfl rfl).trans ((ev_iconst 599 (v := 2) dL_law_598 rfl rfl).trans ((ev_iadd 600 dL_law_599 rfl).trans ((ev_ialdS 601 dL_law_600 rfl).trans (mm_ite ((ev_aload_n 602 dL_law_601 rfl rfl).trans ((ev_iload_n 603 dL_law_602 rfl rfl).trans ((ev_iconst 604 (v := 3) dL_law_603 rfl rfl).trans ((ev_iadd 605 dL_law_604 rfl).trans ((ev_ialdS 606 dL_law_605 rfl).trans (mm_ite ((ev_callv mX9_stranger [vR 0, vI (h 110 (w32 (a3 + 1))), vI (h 110 (w32 (a3 + 2))), vI (h 110 (w32 (a3 + 3)))] [] 609 dL_law_606 ml_12_65 k99 rfl oc0 ak0 rfl rfl (Nat.le_of_ble_eq_true rfl) (Nat.le_of_ble_eq_true rfl) rfl).trans (if_pos (show 6 < 700 from by decide))) (rfl))))))) (rfl))))))) (rfl)))))))
theorem L_law_609 (h : mm_M) (a3 : Int) (s0 : Int) : mm_ev mL_law 700 609 [some (vR 110), some (vR 0), some (vR 47), some (vI a3)] [vI s0] h = if 0 ≤ (w32 (a3 + 1)) ∧ (w32 (a3 + 1)) < h 110 (-1) then if 0 ≤ (w32 (a3 + 2)) ∧ (w32 (a3 + 2)) < h 110 (-1) then if 0 ≤ (w32 (a3 + 3)) ∧ (w32 (a3 + 3)) < h 110 (-1) then (mm_call mX10_stranger [vR 47, vI (h 110 (w32 (a3 + 1))), vI (h 110 (w32 (a3 + 2))), vI (h 110 (w32 (a3 + 3)))] h).bind (fun w => mm_ev mL_law 700 628 [some (vR 110), some (vR 0), some (vR 47), some (vI a3)] (w.1 ++ [vI s0]) w.2) else none else none else none := (ev_aload_n 610 dL_law_609 rfl rfl).trans ((ev_aload_n 611 dL_law_610 rfl rfl).trans ((ev_iload_n 612 dL_law_611 rfl rfl).trans ((ev_iconst 613 (v := 1) dL_law_612 rfl rfl).trans ((ev_iadd 614 dL_law_613 rfl).trans ((ev_ialdS 615 dL_law_614 rfl).trans (mm_ite ((ev_aload_n 616 dL_law_615 rfl rfl).trans ((ev_iload_n 617 dL_law_616 rfl rfl).trans ((ev_iconst 618 (v := 2) dL_law_617 rfl rfl).trans ((ev_iadd 619 dL_law_618 rfl).trans ((ev_ialdS 620 dL_law_619 rfl).trans (mm_ite ((ev_aload_n 621 dL_law_620 rfl rfl).trans ((ev_iload_n 622 dL_law_621 rfl rfl).trans ((ev_iconst 623 (v := 3) dL_law_622 rfl rfl).trans ((ev_iadd 624 dL_law_623 rfl).trans ((ev_ialdS 625 dL_law_624 rfl).trans (mm_ite ((ev_callv mX10_stranger [vR 47, vI (h 110 (w32 (a3 + 1))), vI (h 110 (w32 (a3 + 2))), vI (h 110 (w32 (a3 + 3)))] [vI s0] 628 dL_law_625 ml_12_68 k207 rfl oc47 ak47 rfl rfl (Nat.le_of_ble_eq_true rfl) (Nat.le_of_ble_eq_true rfl) rfl).trans (if_pos (show 6 < 700 from by decide))) (rfl))))))) (rfl))))))) (rfl)))))))
theorem L_law_628 (h : mm_M) (a3 : Int) (s0 : Int) (s1 : Int) : mm_ev mL_law 700 628 [some (vR 110), some (vR 0), some (vR 47), some (vI a3)] [vI s0, vI s1] h = if s1 = s0 then mm_ev mL_law 700 1651 [some (vR 110), some (vR 0), some (vR 47), some (vI a3)] [] h else some ([vI 0], h) := (ev_ic_eq 1651 631 dL_law_628 rfl rfl).trans (mm_ite (rfl) ((ev_iconst 632 (v := 0) dL_law_631 rfl rfl).trans (ev_zret0 dL_law_632 rfl)))
theorem L_law_633 (h : mm_M) (a3 : Int) : mm_ev mL_law 700 633 [some (vR 110), some (vR 0), some (vR 47), some (vI a3)] [] h = if 0 ≤ (w32 (a3 + 1)) ∧ (w32 (a3 + 1)) < h 110 (-1) then if 0 ≤ (w32 (a3 + 2)) ∧ (w32 (a3 + 2)) < h 110 (-1) then if 0 ≤ (w32 (a3 + 3)) ∧ (w32 (a3 + 3)) < h 110 (-1) then (mm_call mX9_safe [vR 0, vI (h 110 (w32 (a3 + 1))), vI (h 110 (w32 (a3 + 2))), vI (h 110 (w32 (a3 + 3)))] h).bind (fun w => mm_ev mL_law 700 652 [some (vR 110), some (vR 0), some (vR 47), some (vI a3)] (w.1 ++ []) w.2) else none else none else none := (ev_aload_n 634 dL_law_633 rfl rfl).trans ((ev_aload_n 635 dL_law_634 rfl rfl).trans ((ev_iload_n 636 dL_law_635 rfl rfl).trans ((ev_iconst 637 (v := 1) dL_law_636 rfl rfl).trans ((ev_iadd 638 dL_law_637 rfl).trans ((ev_ialdS 639 dL_law_638 rfl).trans (mm_ite ((ev_aload_n 640 dL_law_639 rfl rfl).trans ((ev_iload_n 641 dL_law_640 rfl rfl).trans ((ev_iconst 642 (v := 2) dL_law_641 rfl rfl).trans ((ev_iadd 643 dL_law_642 rfl).trans ((ev_ialdS 644 dL_law_643 rfl).trans (mm_ite ((ev_aload_n 645 dL_law_644 rfl rfl).trans ((ev_iload_n 646 dL_law_645 rfl rfl).trans ((ev_iconst 647 (v := 3) dL_law_646 rfl rfl).trans ((ev_iadd 648 dL_law_647 rfl).trans ((ev_ialdS 649 dL_law_648 rfl).trans (mm_ite ((ev_callv mX9_safe [vR 0, vI (h 110 (w32 (a3 + 1))), vI (h 110 (w32 (a3 + 2))), vI (h 110 (w32 (a3 + 3)))] [] 652 dL_law_649 ml_12_69 k100 rfl oc0 ak0 rfl rfl (Nat.le_of_ble_eq_true rfl) (Nat.le_of_ble_eq_true rfl) rfl).trans (if_pos (show 6 < 700 from by decide))) (rfl))))))) (rfl))))))) (rfl)))))))
theorem L_law_652 (h : mm_M) (a3 : Int) (s0 : Int) : mm_ev mL_law 700 652 [some (vR 110), some (vR 0), some (vR 47), some (vI a3)] [vI s0] h = if 0 ≤ (w32 (a3 + 1)) ∧ (w32 (a3 + 1)) < h 110 (-1) then if 0 ≤ (w32 (a3 + 2)) ∧ (w32 (a3 + 2)) < h 110 (-1) then if 0 ≤ (w32 (a3 + 3)) ∧ (w32 (a3 + 3)) < h 110 (-1) then (mm_call mX10_safe [vR 47, vI (h 110 (w32 (a3 + 1))), vI (h 110 (w32 (a3 + 2))), vI (h 110 (w32 (a3 + 3)))] h).bind (fun w => mm_ev mL_law 700 671 [some (vR 110), some (vR 0), some (vR 47), some (vI a3)] (w.1 ++ [vI s0]) w.2) else none else none else none := (ev_aload_n 653 dL_law_652 rfl rfl).trans ((ev_aload_n 654 dL_law_653 rfl rfl).trans ((ev_iload_n 655 dL_law_654 rfl rfl).trans ((ev_iconst 656 (v := 1) dL_law_655 rfl rfl).trans ((ev_iadd 657 dL_law_656 rfl).trans ((ev_ialdS 658 dL_law_657 rfl).trans (mm_ite ((ev_aload_n 659 dL_law_658 rfl rfl).trans ((ev_iload_n 660 dL_law_659 rfl rfl).trans ((ev_iconst 661 (v := 2) dL_law_660 rfl rfl).trans ((ev_iadd 662 dL_law_661 rfl).trans ((ev_ialdS 663 dL_law_662 rfl).trans (mm_ite ((ev_aload_n 664 dL_law_663 rfl rfl).trans ((ev_iload_n 665 dL_law_664 rfl rfl).trans ((ev_iconst 666 (v := 3) dL_law_665 rfl rfl).trans ((ev_iadd 667 dL_law_666 rfl).trans ((ev_ialdS 668 dL_law_667 rfl).trans (mm_ite ((ev_callv mX10_safe [vR 47, vI (h 110 (w32 (a3 + 1))), vI (h 110 (w32 (a3 + 2))), vI (h 110 (w32 (a3 + 3)))] [vI s0] 671 dL_law_668 ml_12_72 k209 rfl oc47 ak47 rfl rfl (Nat.le_of_ble_eq_true rfl) (Nat.le_of_ble_eq_true rfl) rfl).trans (if_pos (show 6 < 700 from by decide))) (rfl))))))) (rfl))))))) (rfl)))))))
theorem L_law_671 (h : mm_M) (a3 : Int) (s0 : Int) (s1 : Int) : mm_ev mL_law 700 671 [some (vR 110), some (vR 0), some (vR 47), some (vI a3)] [vI s0, vI s1] h = if s1 = s0 then mm_ev mL_law 700 1651 [some (vR 110), some (vR 0), some (vR 47), some (vI a3)] [] h else some ([vI 0], h) := (ev_ic_eq 1651 674 dL_law_671 rfl rfl).trans (mm_ite (rfl) ((ev_iconst 675 (v := 0) dL_law_674 rfl rfl).trans (ev_zret0 dL_law_675 rfl)))
theorem L_law_676 (h : mm_M) (a3 : Int) : mm_ev mL_law 700 676 [some (vR 110), some (vR 0), some (vR 47), some (vI a3)] [] h = if 0 ≤ (w32 (a3 + 1)) ∧ (w32 (a3 + 1)) < h 110 (-1) then if 0 ≤ (w32 (a3 + 2)) ∧ (w32 (a3 + 2)) < h 110 (-1) then (mm_call mX9_first [vR 0, vI (h 110 (w32 (a3 + 1))), vI (h 110 (w32 (a3 + 2)))] h).bind (fun w => mm_ev mL_law 700 690 [some (vR 110), some (vR 0), some (vR 47), some (vI a3)] (w.1 ++ []) w.2) else none else none := (ev_aload_n 677 dL_law_676 rfl rfl).trans ((ev_aload_n 678 dL_law_677 rfl rfl).trans ((ev_iload_n 679 dL_law_678 rfl rfl).trans ((ev_iconst 680 (v := 1) dL_law_679 rfl rfl).trans ((ev_iadd 681 dL_law_680 rfl).trans ((ev_ialdS 682 dL_law_681 rfl).trans (mm_ite ((ev_aload_n 683 dL_law_682 rfl rfl).trans ((ev_iload_n 684 dL_law_683 rfl rfl).trans ((ev_iconst 685 (v := 2) dL_law_684 rfl rfl).trans ((ev_iadd 686 dL_law_685 rfl).trans ((ev_ialdS 687 dL_law_686 rfl).trans (mm_ite ((ev_callv mX9_first [vR 0, vI (h 110 (w32 (a3 + 1))), vI (h 110 (w32 (a3 + 2)))] [] 690 dL_law_687 ml_12_73 k101 rfl oc0 ak0 rfl rfl (Nat.le_of_ble_eq_true rfl) (Nat.le_of_ble_eq_true rfl) rfl).trans (if_pos (show 6 < 700 from by decide))) (rfl))))))) (rfl)))))))
theorem L_law_690 (h : mm_M) (a3 : Int) (s0 : Int) : mm_ev mL_law 700 690 [some (vR 110), some (vR 0), some (vR 47), some (vI a3)] [vI s0] h = if 0 ≤ (w32 (a3 + 1)) ∧ (w32 (a3 + 1)) < h 110 (-1) then if 0 ≤ (w32 (a3 + 2)) ∧ (w32 (a3 + 2)) < h 110 (-1) then (mm_call mX10_first [vR 47, vI (h 110 (w32 (a3 + 1))), vI (h 110 (w32 (a3 + 2)))] h).bind (fun w => mm_ev mL_law 700 704 [some (vR 110), some (vR 0), some (vR 47), some (vI a3)] (w.1 ++ [vI s0]) w.2) else none else none := (ev_aload_n 691 dL_law_690 rfl rfl).trans ((ev_aload_n 692 dL_law_691 rfl rfl).trans ((ev_iload_n 693 dL_law_692 rfl rfl).trans ((ev_iconst 694 (v := 1) dL_law_693 rfl rfl).trans ((ev_iadd 695 dL_law_694 rfl).trans ((ev_ialdS 696 dL_law_695 rfl).trans (mm_ite ((ev_aload_n 697 dL_law_696 rfl rfl).trans ((ev_iload_n 698 dL_law_697 rfl rfl).trans ((ev_iconst 699 (v := 2) dL_law_698 rfl rfl).trans ((ev_iadd 700 dL_law_699 rfl).trans ((ev_ialdS 701 dL_law_700 rfl).trans (mm_ite ((ev_callv mX10_first [vR 47, vI (h 110 (w32 (a3 + 1))), vI (h 110 (w32 (a3 + 2)))] [vI s0] 704 dL_law_701 ml_12_76 k211 rfl oc47 ak47 rfl rfl (Nat.le_of_ble_eq_true rfl) (Nat.le_of_ble_eq_true rfl) rfl).trans (if_pos (show 6 < 700 from by decide))) (rfl))))))) (rfl)))))))
theorem L_law_704 (h : mm_M) (a3 : Int) (s0 : Int) (s1 : Int) : mm_ev mL_law 700 704 [some (vR 110), some (vR 0), some (vR 47), some (vI a3)] [vI s0, vI s1] h = if s1 = s0 then mm_ev mL_law 700 1651 [some (vR 110), some (vR 0), some (vR 47), some (vI a3)] [] h else some ([vI 0], h) := (ev_ic_eq 1651 707 dL_law_704 rfl rfl).trans (mm_ite (rfl) ((ev_iconst 708 (v := 0) dL_law_707 rfl rfl).trans (ev_zret0 dL_law_708 rfl)))
theorem L_law_709 (h : mm_M) (a3 : Int) : mm_ev mL_law 700 709 [some (vR 110), some (vR 0), some (vR 47), some (vI a3)] [] h = if 0 ≤ (w32 (a3 + 1)) ∧ (w32 (a3 + 1)) < h 110 (-1) then if 0 ≤ (w32 (a3 + 2)) ∧ (w32 (a3 + 2)) < h 110 (-1) then if 0 ≤ (w32 (a3 + 3)) ∧ (w32 (a3 + 3)) < h 110 (-1) then if 0 ≤ (w32 (a3 + 4)) ∧ (w32 (a3 + 4)) < h 110 (-1) then (mm_call mX9_right [vR 0, vI (h 110 (w32 (a3 + 1))), vI (h 110 (w32 (a3 + 2))), vI (h 110 (w32 (a3 + 3))), vI (h 110 (w32 (a3 + 4)))] h).bind (fun w => mm_ev mL_law 700 733 [some (vR 110), some (vR 0), some (vR 47), some (vI a3)] (w.1 ++ []) w.2) else none else none else none else none := (ev_aload_n 710 dL_law_709 rfl rfl).trans ((ev_aload_n 711 dL_law_710 rfl rfl).trans ((ev_iload_n 712 dL_law_711 rfl rfl).trans ((ev_iconst 713 (v := 1) dL_law_712 rfl rfl).trans ((ev_iadd 714 dL_law_713 rfl).trans ((ev_ialdS 715 dL_law_714 rfl).trans (mm_ite ((ev_aload_n 716 dL_law_715 rfl rfl).trans ((ev_iload_n 717 dL_law_716 rfl rfl).trans ((ev_iconst 718 (v := 2) dL_law_717 rfl rfl).trans ((ev_iadd 719 dL_law_718 rfl).trans ((ev_ialdS 720 dL_law_719 rfl).trans (mm_ite ((ev_aload_n 721 dL_law_720 rfl rfl).trans ((ev_iload_n 722 dL_law_721 rfl rfl).trans ((ev_iconst 723 (v := 3) dL_law_722 rfl rfl).trans ((ev_iadd 724 dL_law_723 rfl).trans ((ev_ialdS 725 dL_law_724 rfl).trans (mm_ite ((ev_aload_n 726 dL_law_725 rfl rfl).trans ((ev_iload_n 727 dL_law_726 rfl rfl).trans ((ev_iconst 728 (v := 4) dL_law_727 rfl rfl).trans ((ev_iadd 729 dL_law_728 rfl).trans ((ev_ialdS 730 dL_law_729 rfl).trans (mm_ite ((ev_callv mX9_right [vR 0, vI (h 110 (w32 (a3 + 1))), vI (h 110 (w32 (a3 + 2))), vI (h 110 (w32 (a3 + 3))), vI (h 110 (w32 (a3 + 4)))] [] 733 dL_law_730 ml_12_77 k102 rfl oc0 ak0 rfl rfl (Nat.le_of_ble_eq_true rfl) (Nat.le_of_ble_eq_true rfl) rfl).trans (if_pos (show 6 < 700 from by decide))) (rfl))))))) (rfl))))))) (rfl))))))) (rfl)))))))
theorem L_law_733 (h : mm_M) (a3 : Int) (s0 : Int) : mm_ev mL_law 700 733 [some (vR 110), some (vR 0), some (vR 47), some (vI a3)] [vL s0] h = if 0 ≤ (w32 (a3 + 1)) ∧ (w32 (a3 + 1)) < h 110 (-1) then if 0 ≤ (w32 (a3 + 2)) ∧ (w32 (a3 + 2)) < h 110 (-1) then if 0 ≤ (w32 (a3 + 3)) ∧ (w32 (a3 + 3)) < h 110 (-1) then if 0 ≤ (w32 (a3 + 4)) ∧ (w32 (a3 + 4)) < h 110 (-1) then (mm_call mX10_right [vR 47, vI (h 110 (w32 (a3 + 1))), vI (h 110 (w32 (a3 + 2))), vI (h 110 (w32 (a3 + 3))), vI (h 110 (w32 (a3 + 4)))] h).bind (fun w => mm_ev mL_law 700 757 [some (vR 110), some (vR 0), some (vR 47), some (vI a3)] (w.1 ++ [vL s0]) w.2) else none else none else none else none := (ev_aload_n 734 dL_law_733 rfl rfl).trans ((ev_aload_n 735 dL_law_734 rfl rfl).trans ((ev_iload_n 736 dL_law_735 rfl rfl).trans ((ev_iconst 737 (v := 1) dL_law_736 rfl rfl).trans ((ev_iadd 738 dL_law_737 rfl).trans ((ev_ialdS 739 dL_law_738 rfl).trans (mm_ite ((ev_aload_n 740 dL_law_739 rfl rfl).trans ((ev_iload_n 741 dL_law_740 rfl rfl).trans ((ev_iconst 742 (v := 2) dL_law_741 rfl rfl).trans ((ev_iadd 743 dL_law_742 rfl).trans ((ev_ialdS 744 dL_law_743 rfl).trans (mm_ite ((ev_aload_n 745 dL_law_744 rfl rfl).trans ((ev_iload_n 746 dL_law_745 rfl rfl).trans ((ev_iconst 747 (v := 3) dL_law_746 rfl rfl).trans ((ev_iadd 748 dL_law_747 rfl).trans ((ev_ialdS 749 dL_law_748 rfl).trans (mm_ite ((ev_aload_n 750 dL_law_749 rfl rfl).trans ((ev_iload_n 751 dL_law_750 rfl rfl).trans ((ev_iconst 752 (v := 4) dL_law_751 rfl rfl).trans ((ev_iadd 753 dL_law_752 rfl).trans ((ev_ialdS 754 dL_law_753 rfl).trans (mm_ite ((ev_callv mX10_right [vR 47, vI (h 110 (w32 (a3 + 1))), vI (h 110 (w32 (a3 + 2))), vI (h 110 (w32 (a3 + 3))), vI (h 110 (w32 (a3 + 4)))] [vL s0] 757 dL_law_754 ml_12_81 k217 rfl oc47 ak47 rfl rfl (Nat.le_of_ble_eq_true rfl) (Nat.le_of_ble_eq_true rfl) rfl).trans (if_pos (show 7 < 700 from by decide))) (rfl))))))) (rfl))))))) (rfl))))))) (rfl)))))))
theorem L_law_757 (h : mm_M) (a3 : Int) (s0 : Int) (s1 : Int) : mm_ev mL_law 700 757 [some (vR 110), some (vR 0), some (vR 47), some (vI a3)] [vL s0, vL s1] h = if (lCmp s1 s0) = 0 then mm_ev mL_law 700 1651 [some (vR 110), some (vR 0), some (vR 47), some (vI a3)] [] h else some ([vI 0], h) := (ev_lcmp 758 dL_law_757 rfl).trans ((ev_if_eq 1651 761 dL_law_758 rfl rfl).trans (mm_ite (rfl) ((ev_iconst 762 (v := 0) dL_law_761 rfl rfl).trans (ev_zret0 dL_law_762 rfl))))
theorem L_law_763 (h : mm_M) (a3 : Int) : mm_ev mL_law 700 763 [some (vR 110), some (vR 0), some (vR 47), some (vI a3)] [] h = if 0 ≤ (w32 (a3 + 1)) ∧ (w32 (a3 + 1)) < h 110 (-1) then if 0 ≤ (w32 (a3 + 2)) ∧ (w32 (a3 + 2)) < h 110 (-1) then if 0 ≤ (w32 (a3 + 3)) ∧ (w32 (a3 + 3)) < h 110 (-1) then (mm_call mX9_twice [vR 0, vI (h 110 (w32 (a3 + 1))), vI (h 110 (w32 (a3 + 2))), vI (h 110 (w32 (a3 + 3)))] h).bind (fun w => mm_ev mL_law 700 782 [some (vR 110), some (vR 0), some (vR 47), some (vI a3)] (w.1 ++ []) w.2) else none else none else none := (ev_aload_n 764 dL_law_763 rfl rfl).trans ((ev_aload_n 765 dL_law_764 rfl rfl).trans ((ev_iload_n 766 dL_law_765 rfl rfl).trans ((ev_iconst 767 (v := 1) dL_law_766 rfl rfl).trans ((ev_iadd 768 dL_law_767 rfl).trans ((ev_ialdS 769 dL_law_768 rfl).trans (mm_ite ((ev_aload_n 770 dL_law_769 rfl rfl).trans ((ev_iload_n 771 dL_law_770 rfl rfl).trans ((ev_iconst 772 (v := 2) dL_law_771 rfl rfl).trans ((ev_iadd 773 dL_law_772 rfl).trans ((ev_ialdS 774 dL_law_773 rfl).trans (mm_ite ((ev_aload_n 775 dL_law_774 rfl rfl).trans ((ev_iload_n 776 dL_law_775 rfl rfl).trans ((ev_iconst 777 (v := 3) dL_law_776 rfl rfl).trans ((ev_iadd 778 dL_law_777 rfl).trans ((ev_ialdS 779 dL_law_778 rfl).trans (mm_ite ((ev_callv mX9_twice [vR 0, vI (h 110 (w32 (a3 + 1))), vI (h 110 (w32 (a3 + 2))), vI (h 110 (w32 (a3 + 3)))] [] 782 dL_law_779 ml_12_82 k103 rfl oc0 ak0 rfl rfl (Nat.le_of_ble_eq_true rfl) (Nat.le_of_ble_eq_true rfl) rfl).trans (if_pos (show 6 < 700 from by decide))) (rfl))))))) (rfl))))))) (rfl)))))))
theorem L_law_782 (h : mm_M) (a3 : Int) (s0 : Int) : mm_ev mL_law 700 782 [some (vR 110), some (vR 0), some (vR 47), some (vI a3)] [vL s0] h = if 0 ≤ (w32 (a3 + 1)) ∧ (w32 (a3 + 1)) < h 110 (-1) then if 0 ≤ (w32 (a3 + 2)) ∧ (w32 (a3 + 2)) < h 110 (-1) then if 0 ≤ (w32 (a3 + 3)) ∧ (w32 (a3 + 3)) < h 110 (-1) then (mm_call mX10_twice [vR 47, vI (h 110 (w32 (a3 + 1))), vI (h 110 (w32 (a3 + 2))), vI (h 110 (w32 (a3 + 3)))] h).bind (fun w => mm_ev mL_law 700 801 [some (vR 110), some (vR 0), some (vR 47), some (vI a3)] (w.1 ++ [vL s0]) w.2) else none else none else none := (ev_aload_n 783 dL_law_782 rfl rfl).trans ((ev_aload_n 784 dL_law_783 rfl rfl).trans ((ev_iload_n 785 dL_law_784 rfl rfl).trans ((ev_iconst 786 (v := 1) dL_law_785 rfl rfl).trans ((ev_iadd 787 dL_law_786 rfl).trans ((ev_ialdS 788 dL_law_787 rfl).trans (mm_ite ((ev_aload_n 789 dL_law_788 rfl rfl).trans ((ev_iload_n 790 dL_law_789 rfl rfl).trans ((ev_iconst 791 (v := 2) dL_law_790 rfl rfl).trans ((ev_iadd 792 dL_law_791 rfl).trans ((ev_ialdS 793 dL_law_792 rfl).trans (mm_ite ((ev_aload_n 794 dL_law_793 rfl rfl).trans ((ev_iload_n 795 dL_law_794 rfl rfl).trans ((ev_iconst 796 (v := 3) dL_law_795 rfl rfl).trans ((ev_iadd 797 dL_law_796 rfl).trans ((ev_ialdS 798 dL_law_797 rfl).trans (mm_ite ((ev_callv mX10_twice [vR 47, vI (h 110 (w32 (a3 + 1))), vI (h 110 (w32 (a3 + 2))), vI (h 110 (w32 (a3 + 3)))] [vL s0] 801 dL_law_798 ml_12_86 k218 rfl oc47 ak47 rfl rfl (Nat.le_of_ble_eq_true rfl) (Nat.le_of_ble_eq_true rfl) rfl).trans (if_pos (show 7 < 700 from by decide))) (rfl))))))) (rfl))))))) (rfl)))))))
theorem L_law_801 (h : mm_M) (a3 : Int) (s0 : Int) (s1 : Int) : mm_ev mL_law 700 801 [some (vR 110), some (vR 0), some (vR 47), some (vI a3)] [vL s0, vL s1] h = if (lCmp s1 s0) = 0 then mm_ev mL_law 700 1651 [some (vR 110), some (vR 0), some (vR 47), some (vI a3)] [] h else some ([vI 0], h) := (ev_lcmp 802 dL_law_801 rfl).trans ((ev_if_eq 1651 805 dL_law_802 rfl rfl).trans (mm_ite (rfl) ((ev_iconst 806 (v := 0) dL_law_805 rfl rfl).trans (ev_zret0 dL_law_806 rfl))))
theorem L_law_807 (h : mm_M) (a3 : Int) : mm_ev mL_law 700 807 [some (vR 110), some (vR 0), some (vR 47), some (vI a3)] [] h = if 0 ≤ (w32 (a3 + 1)) ∧ (w32 (a3 + 1)) < h 110 (-1) then (mm_call mX9_word [vR 0, vI (h 110 (w32 (a3 + 1)))] h).bind (fun w => mm_ev mL_law 700 816 [some (vR 110), some (vR 0), some (vR 47), some (vI a3)] (w.1 ++ []) w.2) else none := (ev_aload_n 808 dL_law_807 rfl rfl).trans ((ev_aload_n 809 dL_law_808 rfl rfl).trans ((ev_iload_n 810 dL_law_809 rfl rfl).trans ((ev_iconst 811 (v := 1) dL_law_810 rfl rfl).trans ((ev_iadd 812 dL_law_811 rfl).trans ((ev_ialdS 813 dL_law_812 rfl).trans (mm_ite ((ev_callv mX9_word [vR 0, vI (h 110 (w32 (a3 + 1)))] [] 816 dL_law_813 ml_12_87 k104 rfl oc0 ak0 rfl rfl (Nat.le_of_ble_eq_true rfl) (Nat.le_of_ble_eq_true rfl) rfl).trans (if_pos (show 6 < 700 from by decide))) (rfl)))))))
theorem L_law_816 (h : mm_M) (a3 : Int) (s0 : Int) : mm_ev mL_law 700 816 [some (vR 110), some (vR 0), some (vR 47), some (vI a3)] [vI s0] h = if 0 ≤ (w32 (a3 + 1)) ∧ (w32 (a3 + 1)) < h 110 (-1) then (mm_call mX10_word [vR 47, vI (h 110 (w32 (a3 + 1)))] h).bind (fun w => mm_ev mL_law 700 825 [some (vR 110), some (vR 0), some (vR 47), some (vI a3)] (w.1 ++ [vI s0]) w.2) else none := (ev_aload_n 817 dL_law_816 rfl rfl).trans ((ev_aload_n 818 dL_law_817 rfl rfl).trans ((ev_iload_n 819 dL_law_818 rfl rfl).trans ((ev_iconst 820 (v := 1) dL_law_819 rfl rfl).trans ((ev_iadd 821 dL_law_820 rfl).trans ((ev_ialdS 822 dL_law_821 rfl).trans (mm_ite ((ev_callv mX10_word [vR 47, vI (h 110 (w32 (a3 + 1)))] [vI s0] 825 dL_law_822 ml_12_90 k219 rfl oc47 ak47 rfl rfl (Nat.le_of_ble_eq_true rfl) (Nat.le_of_ble_eq_true rfl) rfl).trans (if_pos (show 7 < 700 from by decide))) (rfl)))))))
theorem L_law_825 (h : mm_M) (a3 : Int) (s0 : Int) (s1 : Int) : mm_ev mL_law 700 825 [some (vR 110), some (vR 0), some (vR 47), some (vI a3)] [vI s0, vI s1] h = if s1 = s0 then mm_ev mL_law 700 1651 [some (vR 110), some (vR 0), some (vR 47), some (vI a3)] [] h else some ([vI 0], h) := (ev_ic_eq 1651 828 dL_law_825 rfl rfl).trans (mm_ite (rfl) ((ev_iconst 829 (v := 0) dL_law_828 rfl rfl).trans (ev_zret0 dL_law_829 rfl)))
theorem L_law_830 (h : mm_M) (a3 : Int) : mm_ev mL_law 700 830 [some (vR 110), some (vR 0), some (vR 47), some (vI a3)] [] h = if 0 ≤ (w32 (a3 + 1)) ∧ (w32 (a3 + 1)) < h 110 (-1) then if 0 ≤ (w32 (a3 + 2)) ∧ (w32 (a3 + 2)) < h 110 (-1) then if 0 ≤ (w32 (a3 + 3)) ∧ (w32 (a3 + 3)) < h 110 (-1) then (mm_call mX9_odds [vR 0, vI (h 110 (w32 (a3 + 1))), vI (h 110 (w32 (a3 + 2))), vI (h 110 (w32 (a3 + 3)))] h).bind (fun w => mm_ev mL_law 700 849 [some (vR 110), some (vR 0), some (vR 47), some (vI a3)] (w.1 ++ []) w.2) else none else none else none := (ev_aload_n 831 dL_law_830 rfl rfl).trans ((ev_aload_n 832 dL_law_831 rfl rfl).trans ((ev_iload_n 833 dL_law_832 rfl rfl).trans ((ev_iconst 834 (v := 1) dL_law_833 rfl rfl).trans ((ev_iadd 835 dL_law_834 rfl).trans ((ev_ialdS 836 dL_law_835 rfl).trans (mm_ite ((ev_aload_n 837 dL_law_836 rfl rfl).trans ((ev_iload_n 838 dL_law_837 rfl rfl).trans ((ev_iconst 839 (v := 2) dL_law_838 rfl rfl).trans ((ev_iadd 840 dL_law_839 rfl).trans ((ev_ialdS 841 dL_law_840 rfl).trans (mm_ite ((ev_aload_n 842 dL_law_841 rfl rfl).trans ((ev_iload_n 843 dL_law_842 rfl rfl).trans ((ev_iconst 844 (v := 3) dL_law_843 rfl rfl).trans ((ev_iadd 845 dL_law_844 rfl).trans ((ev_ialdS 846 dL_law_845 rfl).trans (mm_ite ((ev_callv mX9_odds [vR 0, vI (h 110 (w32 (a3 + 1))), vI (h 110 (w32 (a3 + 2))), vI (h 110 (w32 (a3 + 3)))] [] 849 dL_law_846 ml_12_91 k105 rfl oc0 ak0 rfl rfl (Nat.le_of_ble_eq_true rfl) (Nat.le_of_ble_eq_true rfl) rfl).trans (if_pos (show 6 < 700 from by decide))) (rfl))))))) (rfl))))))) (rfl)))))))
theorem L_law_849 (h : mm_M) (a3 : Int) (s0 : Int) : mm_ev mL_law 700 849 [some (vR 110), some (vR 0), some (vR 47), some (vI a3)] [vL s0] h = if 0 ≤ (w32 (a3 + 1)) ∧ (w32 (a3 + 1)) < h 110 (-1) then if 0 ≤ (w32 (a3 + 2)) ∧ (w32 (a3 + 2)) < h 110 (-1) then if 0 ≤ (w32 (a3 + 3)) ∧ (w32 (a3 + 3)) < h 110 (-1) then (mm_call mX10_odds [vR 47, vI (h 110 (w32 (a3 + 1))), vI (h 110 (w32 (a3 + 2))), vI (h 110 (w32 (a3 + 3)))] h).bind (fun w => mm_ev mL_law 700 868 [some (vR 110), some (vR 0), some (vR 47), some (vI a3)] (w.1 ++ [vL s0]) w.2) else none else none else none := (ev_aload_n 850 dL_law_849 rfl rfl).trans ((ev_aload_n 851 dL_law_850 rfl rfl).trans ((ev_iload_n 852 dL_law_851 rfl rfl).trans ((ev_iconst 853 (v := 1) dL_law_852 rfl rfl).trans ((ev_iadd 854 dL_law_853 rfl).trans ((ev_ialdS 855 dL_law_854 rfl).trans (mm_ite ((ev_aload_n 856 dL_law_855 rfl rfl).trans ((ev_iload_n 857 dL_law_856 rfl rfl).trans ((ev_iconst 858 (v := 2) dL_law_857 rfl rfl).trans ((ev_iadd 859 dL_law_858 rfl).trans ((ev_ialdS 860 dL_law_859 rfl).trans (mm_ite ((ev_aload_n 861 dL_law_860 rfl rfl).trans ((ev_iload_n 862 dL_law_861 rfl rfl).trans ((ev_iconst 863 (v := 3) dL_law_862 rfl rfl).trans ((ev_iadd 864 dL_law_863 rfl).trans ((ev_ialdS 865 dL_law_864 rfl).trans (mm_ite ((ev_callv mX10_odds [vR 47, vI (h 110 (w32 (a3 + 1))), vI (h 110 (w32 (a3 + 2))), vI (h 110 (w32 (a3 + 3)))] [vL s0] 868 dL_law_865 ml_12_94 k221 rfl oc47 ak47 rfl rfl (Nat.le_of_ble_eq_true rfl) (Nat.le_of_ble_eq_true rfl) rfl).trans (if_pos (show 6 < 700 from by decide))) (rfl))))))) (rfl))))))) (rfl)))))))
theorem L_law_868 (h : mm_M) (a3 : Int) (s0 : Int) (s1 : Int) : mm_ev mL_law 700 868 [some (vR 110), some (vR 0), some (vR 47), some (vI a3)] [vL s0, vL s1] h = if (lCmp s1 s0) = 0 then mm_ev mL_law 700 1651 [some (vR 110), some (vR 0), some (vR 47), some (vI a3)] [] h else some ([vI 0], h) := (ev_lcmp 869 dL_law_868 rfl).trans ((ev_if_eq 1651 872 dL_law_869 rfl rfl).trans (mm_ite (rfl) ((ev_iconst 873 (v := 0) dL_law_872 rfl rfl).trans (ev_zret0 dL_law_873 rfl))))
theorem L_law_874 (h : mm_M) (a3 : Int) : mm_ev mL_law 700 874 [some (vR 110), some (vR 0), some (vR 47), some (vI a3)] [] h = if 0 ≤ (w32 (a3 + 1)) ∧ (w32 (a3 + 1)) < h 110 (-1) then if 0 ≤ (w32 (a3 + 2)) ∧ (w32 (a3 + 2)) < h 110 (-1) then if 0 ≤ (w32 (a3 + 3)) ∧ (w32 (a3 + 3)) < h 110 (-1) then if 0 ≤ (w32 (a3 + 4)) ∧ (w32 (a3 + 4)) < h 110 (-1) then (mm_call mX9_guess [vR 0, vI (h 110 (w32 (a3 + 1))), vI (h 110 (w32 (a3 + 2))), vI (h 110 (w32 (a3 + 3))), vI (h 110 (w32 (a3 + 4)))] h).bind (fun w => mm_ev mL_law 700 898 [some (vR 110), some (vR 0), some (vR 47), some (vI a3)] (w.1 ++ []) w.2) else none else none else none else none := (ev_aload_n 875 dL_law_874 rfl rfl).trans ((ev_aload_n 876 dL_law_875 rfl rfl).trans ((ev_iload_n 877 dL_law_876 rfl rfl).trans ((ev_iconst 878 (v := 1) dL_law_877 rfl rfl).trans ((ev_iadd 879 dL_law_878 rfl).trans ((ev_ialdS 880 dL_law_879 rfl).trans (mm_ite ((ev_aload_n 881 dL_law_880 rfl rfl).trans ((ev_iload_n 882 dL_law_881 rfl rfl).trans ((ev_iconst 883 (v := 2) dL_law_882 rfl rfl).trans ((ev_iadd 884 dL_law_883 rfl).trans ((ev_ialdS 885 dL_law_884 rfl).trans (mm_ite ((ev_aload_n 886 dL_law_885 rfl rfl).trans ((ev_iload_n 887 dL_law_886 rfl rfl).trans ((ev_iconst 888 (v := 3) dL_law_887 rfl rfl).trans ((ev_iadd 889 dL_law_888 rfl).trans ((ev_ialdS 890 dL_law_889 rfl).trans (mm_ite ((ev_aload_n 891 dL_law_890 rfl rfl).trans ((ev_iload_n 892 dL_law_891 rfl rfl).trans ((ev_iconst 893 (v := 4) dL_law_892 rfl rfl).trans ((ev_iadd 894 dL_law_893 rfl).trans ((ev_ialdS 895 dL_law_894 rfl).trans (mm_ite ((ev_callv mX9_guess [vR 0, vI (h 110 (w32 (a3 + 1))), vI (h 110 (w32 (a3 + 2))), vI (h 110 (w32 (a3 + 3))), vI (h 110 (w32 (a3 + 4)))] [] 898 dL_law_895 ml_12_95 k106 rfl oc0 ak0 rfl rfl (Nat.le_of_ble_eq_true rfl) (Nat.le_of_ble_eq_true rfl) rfl).trans (if_pos (show 6 < 700 from by decide))) (rfl))))))) (rfl))))))) (rfl))))))) (rfl)))))))
theorem L_law_898 (h : mm_M) (a3 : Int) (s0 : Int) : mm_ev mL_law 700 898 [some (vR 110), some (vR 0), some (vR 47), some (vI a3)] [vL s0] h = if 0 ≤ (w32 (a3 + 1)) ∧ (w32 (a3 + 1)) < h 110 (-1) then if 0 ≤ (w32 (a3 + 2)) ∧ (w32 (a3 + 2)) < h 110 (-1) then if 0 ≤ (w32 (a3 + 3)) ∧ (w32 (a3 + 3)) < h 110 (-1) then if 0 ≤ (w32 (a3 + 4)) ∧ (w32 (a3 + 4)) < h 110 (-1) then (mm_call mX10_guess [vR 47, vI (h 110 (w32 (a3 + 1))), vI (h 110 (w32 (a3 + 2))), vI (h 110 (w32 (a3 + 3))), vI (h 110 (w32 (a3 + 4)))] h).bind (fun w => mm_ev mL_law 700 922 [some (vR 110), some (vR 0), some (vR 47), some (vI a3)] (w.1 ++ [vL s0]) w.2) else none else none else none else none := (ev_aload_n 899 dL_law_898 rfl rfl).trans ((ev_aload_n 900 dL_law_899 rfl rfl).trans ((ev_iload_n 901 dL_law_900 rfl rfl).trans ((ev_iconst 902 (v := 1) dL_law_901 rfl rfl).trans ((ev_iadd 903 dL_law_902 rfl).trans ((ev_ialdS 904 dL_law_903 rfl).trans (mm_ite ((ev_aload_n 905 dL_law_904 rfl rfl).trans ((ev_iload_n 906 dL_law_905 rfl rfl).trans ((ev_iconst 907 (v := 2) dL_law_906 rfl rfl).trans ((ev_iadd 908 dL_law_907 rfl).trans ((ev_ialdS 909 dL_law_908 rfl).trans (mm_ite ((ev_aload_n 910 dL_law_909 rfl rfl).trans ((ev_iload_n 911 dL_law_910 rfl rfl).trans ((ev_iconst 912 (v := 3) dL_law_911 rfl rfl).trans ((ev_iadd 913 dL_law_912 rfl).trans ((ev_ialdS 914 dL_law_913 rfl).trans (mm_ite ((ev_aload_n 915 dL_law_914 rfl rfl).trans ((ev_iload_n 916 dL_law_915 rfl rfl).trans ((ev_iconst 917 (v := 4) dL_law_916 rfl rfl).trans ((ev_iadd 918 dL_law_917 rfl).trans ((ev_ialdS 919 dL_law_918 rfl).trans (mm_ite ((ev_callv mX10_guess [vR 47, vI (h 110 (w32 (a3 + 1))), vI (h 110 (w32 (a3 + 2))), vI (h 110 (w32 (a3 + 3))), vI (h 110 (w32 (a3 + 4)))] [vL s0] 922 dL_law_919 ml_12_98 k223 rfl oc47 ak47 rfl rfl (Nat.le_of_ble_eq_true rfl) (Nat.le_of_ble_eq_true rfl) rfl).trans (if_pos (show 6 < 700 from by decide))) (rfl))))))) (rfl))))))) (rfl))))))) (rfl)))))))
theorem L_law_922 (h : mm_M) (a3 : Int) (s0 : Int) (s1 : Int) : mm_ev mL_law 700 922 [some (vR 110), some (vR 0), some (vR 47), some (vI a3)] [vL s0, vL s1] h = if (lCmp s1 s0) = 0 then mm_ev mL_law 700 1651 [some (vR 110), some (vR 0), some (vR 47), some (vI a3)] [] h else some ([vI 0], h) := (ev_lcmp 923 dL_law_922 rfl).trans ((ev_if_eq 1651 926 dL_law_923 rfl rfl).trans (mm_ite (rfl) ((ev_iconst 927 (v := 0) dL_law_926 rfl rfl).trans (ev_zret0 dL_law_927 rfl))))
theorem L_law_928 (h : mm_M) (a3 : Int) : mm_ev mL_law 700 928 [some (vR 110), some (vR 0), some (vR 47), some (vI a3)] [] h = if 0 ≤ (w32 (a3 + 1)) ∧ (w32 (a3 + 1)) < h 110 (-1) then (mm_call mX9_judge [vR 0, vI (h 110 (w32 (a3 + 1)))] h).bind (fun w => mm_ev mL_law 700 937 [some (vR 110), some (vR 0), some (vR 47), some (vI a3)] (w.1 ++ []) w.2) else none := (ev_aload_n 929 dL_law_928 rfl rfl).trans ((ev_aload_n 930 dL_law_929 rfl rfl).trans ((ev_iload_n 931 dL_law_930 rfl rfl).trans ((ev_iconst 932 (v := 1) dL_law_931 rfl rfl).trans ((ev_iadd 933 dL_law_932 rfl).trans ((ev_ialdS 934 dL_law_933 rfl).trans (mm_ite ((ev_callv mX9_judge [vR 0, vI (h 110 (w32 (a3 + 1)))] [] 937 dL_law_934 ml_12_99 k107 rfl oc0 ak0 rfl rfl (Nat.le_of_ble_eq_true rfl) (Nat.le_of_ble_eq_true rfl) rfl).trans (if_pos (show 6 < 700 from by decide))) (rfl)))))))
theorem L_law_937 (h : mm_M) (a3 : Int) (s0 : Int) : mm_ev mL_law 700 937 [some (vR 110), some (vR 0), some (vR 47), some (vI a3)] [vI s0] h = if 0 ≤ (w32 (a3 + 1)) ∧ (w32 (a3 + 1)) < h 110 (-1) then (mm_call mX10_judge [vR 47, vI (h 110 (w32 (a3 + 1)))] h).bind (fun w => mm_ev mL_law 700 946 [some (vR 110), some (vR 0), some (vR 47), some (vI a3)] (w.1 ++ [vI s0]) w.2) else none := (ev_aload_n 938 dL_law_937 rfl rfl).trans ((ev_aload_n 939 dL_law_938 rfl rfl).trans ((ev_iload_n 940 dL_law_939 rfl rfl).trans ((ev_iconst 941 (v := 1) dL_law_940 rfl rfl).trans ((ev_iadd 942 dL_law_941 rfl).trans ((ev_ialdS 943 dL_law_942 rfl).trans (mm_ite ((ev_callv mX10_judge [vR 47, vI (h 110 (w32 (a3 + 1)))] [vI s0] 946 dL_law_943 ml_12_102 k227 rfl oc47 ak47 rfl rfl (Nat.le_of_ble_eq_true rfl) (Nat.le_of_ble_eq_true rfl) rfl).trans (if_pos (show 6 < 700 from by decide))) (rfl)))))))
theorem L_law_946 (h : mm_M) (a3 : Int) (s0 : Int) (s1 : Int) : mm_ev mL_law 700 946 [some (vR 110), some (vR 0), some (vR 47), some (vI a3)] [vI s0, vI s1] h = if s1 = s0 then mm_ev mL_law 700 1651 [some (vR 110), some (vR 0), some (vR 47), some (vI a3)] [] h else some ([vI 0], h) := (ev_ic_eq 1651 949 dL_law_946 rfl rfl).trans (mm_ite (rfl) ((ev_iconst 950 (v := 0) dL_law_949 rfl rfl).trans (ev_zret0 dL_law_950 rfl)))
theorem L_law_951 (h : mm_M) (a3 : Int) : mm_ev mL_law 700 951 [some (vR 110), some (vR 0), some (vR 47), some (vI a3)] [] h = if 0 ≤ (w32 (a3 + 1)) ∧ (w32 (a3 + 1)) < h 110 (-1) then if 0 ≤ (w32 (a3 + 2)) ∧ (w32 (a3 + 2)) < h 110 (-1) then (mm_call mX9_which [vR 0, vI (h 110 (w32 (a3 + 1))), vI (h 110 (w32 (a3 + 2)))] h).bind (fun w => mm_ev mL_law 700 965 [some (vR 110), some (vR 0), some (vR 47), some (vI a3)] (w.1 ++ []) w.2) else none else none := (ev_aload_n 952 dL_law_951 rfl rfl).trans ((ev_aload_n 953 dL_law_952 rfl rfl).trans ((ev_iload_n 954 dL_law_953 rfl rfl).trans ((ev_iconst 955 (v := 1) dL_law_954 rfl rfl).trans ((ev_iadd 956 dL_law_955 rfl).trans ((ev_ialdS 957 dL_law_956 rfl).trans (mm_ite ((ev_aload_n 958 dL_law_957 rfl rfl).trans ((ev_iload_n 959 dL_law_958 rfl rfl).trans ((ev_iconst 960 (v := 2) dL_law_959 rfl rfl).trans ((ev_iadd 961 dL_law_960 rfl).trans ((ev_ialdS 962 dL_law_961 rfl).trans (mm_ite ((ev_callv mX9_which [vR 0, vI (h 110 (w32 (a3 + 1))), vI (h 110 (w32 (a3 + 2)))] [] 965 dL_law_962 ml_12_103 k108 rfl oc0 ak0 rfl rfl (Nat.le_of_ble_eq_true rfl) (Nat.le_of_ble_eq_true rfl) rfl).trans (if_pos (show 22 < 700 from by decide))) (rfl))))))) (rfl)))))))
theorem L_law_965 (h : mm_M) (a3 : Int) (s0 : Int) : mm_ev mL_law 700 965 [some (vR 110), some (vR 0), some (vR 47), some (vI a3)] [vI s0] h = if 0 ≤ (w32 (a3 + 1)) ∧ (w32 (a3 + 1)) < h 110 (-1) then if 0 ≤ (w32 (a3 + 2)) ∧ (w32 (a3 + 2)) < h 110 (-1) then (mm_call mX10_which [vR 47, vI (h 110 (w32 (a3 + 1))), vI (h 110 (w32 (a3 + 2)))] h).bind (fun w => mm_ev mL_law 700 979 [some (vR 110), some (vR 0), some (vR 47), some (vI a3)] (w.1 ++ [vI s0]) w.2) else none else none := (ev_aload_n 966 dL_law_965 rfl rfl).trans ((ev_aload_n 967 dL_law_966 rfl rfl).trans ((ev_iload_n 968 dL_law_967 rfl rfl).trans ((ev_iconst 969 (v := 1) dL_law_968 rfl rfl).trans ((ev_iadd 970 dL_law_969 rfl).trans ((ev_ialdS 971 dL_law_970 rfl).trans (mm_ite ((ev_aload_n 972 dL_law_971 rfl rfl).trans ((ev_iload_n 973 dL_law_972 rfl rfl).trans ((ev_iconst 974 (v := 2) dL_law_973 rfl rfl).trans ((ev_iadd 975 dL_law_974 rfl).trans ((ev_ialdS 976 dL_law_975 rfl).trans (mm_ite ((ev_callv mX10_which [vR 47, vI (h 110 (w32 (a3 + 1))), vI (h 110 (w32 (a3 + 2)))] [vI s0] 979 dL_law_976 ml_12_106 k228 rfl oc47 ak47 rfl rfl (Nat.le_of_ble_eq_true rfl) (Nat.le_of_ble_eq_true rfl) rfl).trans (if_pos (show 42 < 700 from by decide))) (rfl))))))) (rfl)))))))
theorem L_law_979 (h : mm_M) (a3 : Int) (s0 : Int) (s1 : Int) : mm_ev mL_law 700 979 [some (vR 110), some (vR 0), some (vR 47), some (vI a3)] [vI s0, vI s1] h = if s1 = s0 then mm_ev mL_law 700 1651 [some (vR 110), some (vR 0), some (vR 47), some (vI a3)] [] h else some ([vI 0], h) := (ev_ic_eq 1651 982 dL_law_979 rfl rfl).trans (mm_ite (rfl) ((ev_iconst 983 (v := 0) dL_law_982 rfl rfl).trans (ev_zret0 dL_law_983 rfl)))
theorem L_law_984 (h : mm_M) (a3 : Int) : mm_ev mL_law 700 984 [some (vR 110), some (vR 0), some (vR 47), some (vI a3)] [] h = if 0 ≤ (w32 (a3 + 1)) ∧ (w32 (a3 + 1)) < h 110 (-1) then (mm_call mX9_when [vR 0, vI (h 110 (w32 (a3 + 1)))] h).bind (fun w => mm_ev mL_law 700 993 [some (vR 110), some (vR 0), some (vR 47), some (vI a3)] (w.1 ++ []) w.2) else none := (ev_aload_n 985 dL_law_984 rfl rfl).trans ((ev_aload_n 986 dL_law_985 rfl rfl).trans ((ev_iload_n 987 dL_law_986 rfl rfl).trans ((ev_iconst 988 (v := 1) dL_law_987 rfl rfl).trans ((ev_iadd 989 dL_law_988 rfl).trans ((ev_ialdS 990 dL_law_989 rfl).trans (mm_ite ((ev_callv mX9_when [vR 0, vI (h 110 (w32 (a3 + 1)))] [] 993 dL_law_990 ml_12_107 k109 rfl oc0 ak0 rfl rfl (Nat.le_of_ble_eq_true rfl) (Nat.le_of_ble_eq_true rfl) rfl).trans (if_pos (show 6 < 700 from by decide))) (rfl)))))))
theorem L_law_993 (h : mm_M) (a3 : Int) (s0 : Int) : mm_ev mL_law 700 993 [some (vR 110), some (vR 0), some (vR 47), some (vI a3)] [vI s0] h = if 0 ≤ (w32 (a3 + 1)) ∧ (w32 (a3 + 1)) < h 110 (-1) then (mm_call mX10_when [vR 47, vI (h 110 (w32 (a3 + 1)))] h).bind (fun w => mm_ev mL_law 700 1002 [some (vR 110), some (vR 0), some (vR 47), some (vI a3)] (w.1 ++ [vI s0]) w.2) else none := (ev_aload_n 994 dL_law_993 rfl rfl).trans ((ev_aload_n 995 dL_law_994 rfl rfl).trans ((ev_iload_n 996 dL_law_995 rfl rfl).trans ((ev_iconst 997 (v := 1) dL_law_996 rfl rfl).trans ((ev_iadd 998 dL_law_997 rfl).trans ((ev_ialdS 999 dL_law_998 rfl).trans (mm_ite ((ev_callv mX10_when [vR 47, vI (h 110 (w32 (a3 + 1)))] [vI s0] 1002 dL_law_999 ml_12_110 k229 rfl oc47 ak47 rfl rfl (Nat.le_of_ble_eq_true rfl) (Nat.le_of_ble_eq_true rfl) rfl).trans (if_pos (show 6 < 700 from by decide))) (rfl)))))))
theorem L_law_1002 (h : mm_M) (a3 : Int) (s0 : Int) (s1 : Int) : mm_ev mL_law 700 1002 [some (vR 110), some (vR 0), some (vR 47), some (vI a3)] [vI s0, vI s1] h = if s1 = s0 then mm_ev mL_law 700 1651 [some (vR 110), some (vR 0), some (vR 47), some (vI a3)] [] h else some ([vI 0], h) := (ev_ic_eq 1651 1005 dL_law_1002 rfl rfl).trans (mm_ite (rfl) ((ev_iconst 1006 (v := 0) dL_law_1005 rfl rfl).trans (ev_zret0 dL_law_1006 rfl)))
theorem L_law_1007 (h : mm_M) (a3 : Int) : mm_ev mL_law 700 1007 [some (vR 110), some (vR 0), some (vR 47), some (vI a3)] [] h = if 0 ≤ (w32 (a3 + 1)) ∧ (w32 (a3 + 1)) < h 110 (-1) then (mm_call mX9_oddWord [vR 0, vI (h 110 (w32 (a3 + 1)))] h).bind (fun w => mm_ev mL_law 700 1016 [some (vR 110), some (vR 0), some (vR 47), some (vI a3)] (w.1 ++ []) w.2) else none := (ev_aload_n 1008 dL_law_1007 rfl rfl).trans ((ev_aload_n 1009 dL_law_1008 rfl rfl).trans ((ev_iload_n 1010 dL_law_1009 rfl rfl).trans ((ev_iconst 1011 (v := 1) dL_law_1010 rfl rfl).trans ((ev_iadd 1012 dL_law_1011 rfl).trans ((ev_ialdS 1013 dL_law_1012 rfl).trans (mm_ite ((ev_callv mX9_oddWord [vR 0, vI (h 110 (w32 (a3 + 1)))] [] 1016 dL_law_1013 ml_12_111 k110 rfl oc0 ak0 rfl rfl (Nat.le_of_ble_eq_true rfl) (Nat.le_of_ble_eq_true rfl) rfl).trans (if_pos (show 6 < 700 from by decide))) (rfl)))))))
theorem L_law_1016 (h : mm_M) (a3 : Int) (s0 : Int) : mm_ev mL_law 700 1016 [some (vR 110), some (vR 0), some (vR 47), some (vI a3)] [vI s0] h = if 0 ≤ (w32 (a3 + 1)) ∧ (w32 (a3 + 1)) < h 110 (-1) then (mm_call mX10_oddWord [vR 47, vI (h 110 (w32 (a3 + 1)))] h).bind (fun w => mm_ev mL_law 700 1025 [some (vR 110), some (vR 0), some (vR 47), some (vI a3)] (w.1 ++ [vI s0]) w.2) else none := (ev_aload_n 1017 dL_law_1016 rfl rfl).trans ((ev_aload_n 1018 dL_law_1017 rfl rfl).trans ((ev_iload_n 1019 dL_law_1018 rfl rfl).trans ((ev_iconst 1020 (v := 1) dL_law_1019 rfl rfl).trans ((ev_iadd 1021 dL_law_1020 rfl).trans ((ev_ialdS 1022 dL_law_1021 rfl).trans (mm_ite ((ev_callv mX10_oddWord [vR 47, vI (h 110 (w32 (a3 + 1)))] [vI s0] 1025 dL_law_1022 ml_12_114 k230 rfl oc47 ak47 rfl rfl (Nat.le_of_ble_eq_true rfl) (Nat.le_of_ble_eq_true rfl) rfl).trans (if_pos (show 6 < 700 from by decide))) (rfl)))))))
theorem L_law_1025 (h : mm_M) (a3 : Int) (s0 : Int) (s1 : Int) : mm_ev mL_law 700 1025 [some (vR 110), some (vR 0), some (vR 47), some (vI a3)] [vI s0, vI s1] h = if s1 = s0 then mm_ev mL_law 700 1651 [some (vR 110), some (vR 0), some (vR 47), some (vI a3)] [] h else some ([vI 0], h) := (ev_ic_eq 1651 1028 dL_law_1025 rfl rfl).trans (mm_ite (rfl) ((ev_iconst 1029 (v := 0) dL_law_1028 rfl rfl).trans (ev_zret0 dL_law_1029 rfl)))
theorem L_law_1030 (h : mm_M) (a3 : Int) : mm_ev mL_law 700 1030 [some (vR 110), some (vR 0), some (vR 47), some (vI a3)] [] h = if 0 ≤ (w32 (a3 + 1)) ∧ (w32 (a3 + 1)) < h 110 (-1) then if 0 ≤ (w32 (a3 + 2)) ∧ (w32 (a3 + 2)) < h 110 (-1) then if 0 ≤ (w32 (a3 + 3)) ∧ (w32 (a3 + 3)) < h 110 (-1) then if 0 ≤ (w32 (a3 + 4)) ∧ (w32 (a3 + 4)) < h 110 (-1) then (mm_call mX9_drawn [vR 0, vI (h 110 (w32 (a3 + 1))), vI (h 110 (w32 (a3 + 2))), vI (h 110 (w32 (a3 + 3))), vI (h 110 (w32 (a3 + 4)))] h).bind (fun w => mm_ev mL_law 700 1054 [some (vR 110), some (vR 0), some (vR 47), some (vI a3)] (w.1 ++ []) w.2) else none else none else none else none := (ev_aload_n 1031 dL_law_1030 rfl rfl).trans ((ev_aload_n 1032 dL_law_1031 rfl rfl).trans ((ev_iload_n 1033 dL_law_1032 rfl rfl).trans ((ev_iconst 1034 (v := 1) dL_law_1033 rfl rfl).trans ((ev_iadd 1035 dL_law_1034 rfl).trans ((ev_ialdS 1036 dL_law_1035 rfl).trans (mm_ite ((ev_aload_n 1037 dL_law_1036 rfl rfl).trans ((ev_iload_n 1038 dL_law_1037 rfl rfl).trans ((ev_iconst 1039 (v := 2) dL_law_1038 rfl rfl).trans ((ev_iadd 1040 dL_law_1039 rfl).trans ((ev_ialdS 1041 dL_law_1040 rfl).trans (mm_ite ((ev_aload_n 1042 dL_law_1041 rfl rfl).trans ((ev_iload_n 1043 dL_law_1042 rfl rfl).trans ((ev_iconst 1044 (v := 3) dL_law_1043 rfl rfl).trans ((ev_iadd 1045 dL_law_1044 rfl).trans ((ev_ialdS 1046 dL_law_1045 rfl).trans (mm_ite ((ev_aload_n 1047 dL_law_1046 rfl rfl).trans ((ev_iload_n 1048 dL_law_1047 rfl rfl).trans ((ev_iconst 1049 (v := 4) dL_law_1048 rfl rfl).trans ((ev_iadd 1050 dL_law_1049 rfl).trans ((ev_ialdS 1051 dL_law_1050 rfl).trans (mm_ite ((ev_callv mX9_drawn [vR 0, vI (h 110 (w32 (a3 + 1))), vI (h 110 (w32 (a3 + 2))), vI (h 110 (w32 (a3 + 3))), vI (h 110 (w32 (a3 + 4)))] [] 1054 dL_law_1051 ml_12_115 k111 rfl oc0 ak0 rfl rfl (Nat.le_of_ble_eq_true rfl) (Nat.le_of_ble_eq_true rfl) rfl).trans (if_pos (show 6 < 700 from by decide))) (rfl))))))) (rfl))))))) (rfl))))))) (rfl)))))))
theorem L_law_1054 (h : mm_M) (a3 : Int) (s0 : Int) : mm_ev mL_law 700 1054 [some (vR 110), some (vR 0), some (vR 47), some (vI a3)] [vI s0] h = if 0 ≤ (w32 (a3 + 1)) ∧ (w32 (a3 + 1)) < h 110 (-1) then if 0 ≤ (w32 (a3 + 2)) ∧ (w32 (a3 + 2)) < h 110 (-1) then if 0 ≤ (w32 (a3 + 3)) ∧ (w32 (a3 + 3)) < h 110 (-1) then if 0 ≤ (w32 (a3 + 4)) ∧ (w32 (a3 + 4)) < h 110 (-1) then (mm_call mX10_drawn [vR 47, vI (h 110 (w32 (a3 + 1))), vI (h 110 (w32 (a3 + 2))), vI (h 110 (w32 (a3 + 3))), vI (h 110 (w32 (a3 + 4)))] h).bind (fun w => mm_ev mL_law 700 1078 [some (vR 110), some (vR 0), some (vR 47), some (vI a3)] (w.1 ++ [vI s0]) w.2) else none else none else none else none := (ev_aload_n 1055 dL_law_1054 rfl rfl).trans ((ev_aload_n 1056 dL_law_1055 rfl rfl).trans ((ev_iload_n 1057 dL_law_1056 rfl rfl).trans ((ev_iconst 1058 (v := 1) dL_law_1057 rfl rfl).trans ((ev_iadd 1059 dL_law_1058 rfl).trans ((ev_ialdS 1060 dL_law_1059 rfl).trans (mm_ite ((ev_aload_n 1061 dL_law_1060 rfl rfl).trans ((ev_iload_n 1062 dL_law_1061 rfl rfl).trans ((ev_iconst 1063 (v := 2) dL_law_1062 rfl rfl).trans ((ev_iadd 1064 dL_law_1063 rfl).trans ((ev_ialdS 1065 dL_law_1064 rfl).trans (mm_ite ((ev_aload_n 1066 dL_law_1065 rfl rfl).trans ((ev_iload_n 1067 dL_law_1066 rfl rfl).trans ((ev_iconst 1068 (v := 3) dL_law_1067 rfl rfl).trans ((ev_iadd 1069 dL_law_1068 rfl).trans ((ev_ialdS 1070 dL_law_1069 rfl).trans (mm_ite ((ev_aload_n 1071 dL_law_1070 rfl rfl).trans ((ev_iload_n 1072 dL_law_1071 rfl rfl).trans ((ev_iconst 1073 (v := 4) dL_law_1072 rfl rfl).trans ((ev_iadd 1074 dL_law_1073 rfl).trans ((ev_ialdS 1075 dL_law_1074 rfl).trans (mm_ite ((ev_callv mX10_drawn [vR 47, vI (h 110 (w32 (a3 + 1))), vI (h 110 (w32 (a3 + 2))), vI (h 110 (w32 (a3 + 3))), vI (h 110 (w32 (a3 + 4)))] [vI s0] 1078 dL_law_1075 ml_12_119 k231 rfl oc47 ak47 rfl rfl (Nat.le_of_ble_eq_true rfl) (Nat.le_of_ble_eq_true rfl) rfl).trans (if_pos (show 6 < 700 from by decide))) (rfl))))))) (rfl))))))) (rfl))))))) (rfl)))))))
theorem L_law_1078 (h : mm_M) (a3 : Int) (s0 : Int) (s1 : Int) : mm_ev mL_law 700 1078 [some (vR 110), some (vR 0), some (vR 47), some (vI a3)] [vI s0, vI s1] h = if s1 = s0 then mm_ev mL_law 700 1651 [some (vR 110), some (vR 0), some (vR 47), some (vI a3)] [] h else some ([vI 0], h) := (ev_ic_eq 1651 1081 dL_law_1078 rfl rfl).trans (mm_ite (rfl) ((ev_iconst 1082 (v := 0) dL_law_1081 rfl rfl).trans (ev_zret0 dL_law_1082 rfl)))
theorem L_law_1083 (h : mm_M) (a3 : Int) : mm_ev mL_law 700 1083 [some (vR 110), some (vR 0), some (vR 47), some (vI a3)] [] h = if 0 ≤ (w32 (a3 + 1)) ∧ (w32 (a3 + 1)) < h 110 (-1) then (mm_call mX9_change [vR 0, vI (h 110 (w32 (a3 + 1)))] h).bind (fun w => mm_ev mL_law 700 1092 [some (vR 110), some (vR 0), some (vR 47), some (vI a3)] (w.1 ++ []) w.2) else none := (ev_aload_n 1084 dL_law_1083 rfl rfl).trans ((ev_aload_n 1085 dL_law_1084 rfl rfl).trans ((ev_iload_n 1086 dL_law_1085 rfl rfl).trans ((ev_iconst 1087 (v := 1) dL_law_1086 rfl rfl).trans ((ev_iadd 1088 dL_law_1087 rfl).trans ((ev_ialdS 1089 dL_law_1088 rfl).trans (mm_ite ((ev_callv mX9_change [vR 0, vI (h 110 (w32 (a3 + 1)))] [] 1092 dL_law_1089 ml_12_120 k112 rfl oc0 ak0 rfl rfl (Nat.le_of_ble_eq_true rfl) (Nat.le_of_ble_eq_true rfl) rfl).trans (if_pos (show 2 < 700 from by decide))) (rfl)))))))
theorem L_law_1092 (h : mm_M) (a3 : Int) (s0 : Int) : mm_ev mL_law 700 1092 [some (vR 110), some (vR 0), some (vR 47), some (vI a3)] [vI s0] h = if 0 ≤ (w32 (a3 + 1)) ∧ (w32 (a3 + 1)) < h 110 (-1) then (mm_call mX10_change [vR 47, vI (h 110 (w32 (a3 + 1)))] h).bind (fun w => mm_ev mL_law 700 1101 [some (vR 110), some (vR 0), some (vR 47), some (vI a3)] (w.1 ++ [vI s0]) w.2) else none := (ev_aload_n 1093 dL_law_1092 rfl rfl).trans ((ev_aload_n 1094 dL_law_1093 rfl rfl).trans ((ev_iload_n 1095 dL_law_1094 rfl rfl).trans ((ev_iconst 1096 (v := 1) dL_law_1095 rfl rfl).trans ((ev_iadd 1097 dL_law_1096 rfl).trans ((ev_ialdS 1098 dL_law_1097 rfl).trans (mm_ite ((ev_callv mX10_change [vR 47, vI (h 110 (w32 (a3 + 1)))] [vI s0] 1101 dL_law_1098 ml_12_123 k233 rfl oc47 ak47 rfl rfl (Nat.le_of_ble_eq_true rfl) (Nat.le_of_ble_eq_true rfl) rfl).trans (if_pos (show 3 < 700 from by decide))) (rfl)))))))
theorem L_law_1101 (h : mm_M) (a3 : Int) (s0 : Int) (s1 : Int) : mm_ev mL_law 700 1101 [some (vR 110), some (vR 0), some (vR 47), some (vI a3)] [vI s0, vI s1] h = if s1 = s0 then mm_ev mL_law 700 1651 [some (vR 110), some (vR 0), some (vR 47), some (vI a3)] [] h else some ([vI 0], h) := (ev_ic_eq 1651 1104 dL_law_1101 rfl rfl).trans (mm_ite (rfl) ((ev_iconst 1105 (v := 0) dL_law_1104 rfl rfl).trans (ev_zret0 dL_law_1105 rfl)))
theorem L_law_1106 (h : mm_M) (a3 : Int) : mm_ev mL_law 700 1106 [some (vR 110), some (vR 0), some (vR 47), some (vI a3)] [] h = if 0 ≤ (w32 (a3 + 1)) ∧ (w32 (a3 + 1)) < h 110 (-1) then (mm_call mX9_tell [vR 0, vI (h 110 (w32 (a3 + 1)))] h).bind (fun w => mm_ev mL_law 700 1115 [some (vR 110), some (vR 0), some (vR 47), some (vI a3)] (w.1 ++ []) w.2) else none := (ev_aload_n 1107 dL_law_1106 rfl rfl).trans ((ev_aload_n 1108 dL_law_1107 rfl rfl).trans ((ev_iload_n 1109 dL_law_1108 rfl rfl).trans ((ev_iconst 1110 (v := 1) dL_law_1109 rfl rfl).trans ((ev_iadd 1111 dL_law_1110 rfl).trans ((ev_ialdS 1112 dL_law_1111 rfl).trans (mm_ite ((ev_callv mX9_tell [vR 0, vI (h 110 (w32 (a3 + 1)))] [] 1115 dL_law_1112 ml_12_124 k113 rfl oc0 ak0 rfl rfl (Nat.le_of_ble_eq_true rfl) (Nat.le_of_ble_eq_true rfl) rfl).trans (if_pos (show 2 < 700 from by decide))) (rfl)))))))
theorem L_law_1115 (h : mm_M) (a3 : Int) (s0 : Int) : mm_ev mL_law 700 1115 [some (vR 110), some (vR 0), some (vR 47), some (vI a3)] [vI s0] h = if 0 ≤ (w32 (a3 + 1)) ∧ (w32 (a3 + 1)) < h 110 (-1) then (mm_call mX10_tell [vR 47, vI (h 110 (w32 (a3 + 1)))] h).bind (fun w => mm_ev mL_law 700 1124 [some (vR 110), some (vR 0), some (vR 47), some (vI a3)] (w.1 ++ [vI s0]) w.2) else none := (ev_aload_n 1116 dL_law_1115 rfl rfl).trans ((ev_aload_n 1117 dL_law_1116 rfl rfl).trans ((ev_iload_n 1118 dL_law_1117 rfl rfl).trans ((ev_iconst 1119 (v := 1) dL_law_1118 rfl rfl).trans ((ev_iadd 1120 dL_law_1119 rfl).trans ((ev_ialdS 1121 dL_law_1120 rfl).trans (mm_ite ((ev_callv mX10_tell [vR 47, vI (h 110 (w32 (a3 + 1)))] [vI s0] 1124 dL_law_1121 ml_12_127 k234 rfl oc47 ak47 rfl rfl (Nat.le_of_ble_eq_true rfl) (Nat.le_of_ble_eq_true rfl) rfl).trans (if_pos (show 3 < 700 from by decide))) (rfl)))))))
theorem L_law_1124 (h : mm_M) (a3 : Int) (s0 : Int) (s1 : Int) : mm_ev mL_law 700 1124 [some (vR 110), some (vR 0), some (vR 47), some (vI a3)] [vI s0, vI s1] h = if s1 = s0 then mm_ev mL_law 700 1651 [some (vR 110), some (vR 0), some (vR 47), some (vI a3)] [] h else some ([vI 0], h) := (ev_ic_eq 1651 1127 dL_law_1124 rfl rfl).trans (mm_ite (rfl) ((ev_iconst 1128 (v := 0) dL_law_1127 rfl rfl).trans (ev_zret0 dL_law_1128 rfl)))
theorem L_law_1129 (h : mm_M) (a3 : Int) : mm_ev mL_law 700 1129 [some (vR 110), some (vR 0), some (vR 47), some (vI a3)] [] h = if 0 ≤ (w32 (a3 + 1)) ∧ (w32 (a3 + 1)) < h 110 (-1) then (mm_call mX9_stay [vR 0, vI (h 110 (w32 (a3 + 1)))] h).bind (fun w => mm_ev mL_law 700 1138 [some (vR 110), some (vR 0), some (vR 47), some (vI a3)] (w.1 ++ []) w.2) else none := (ev_aload_n 1130 dL_law_1129 rfl rfl).trans ((ev_aload_n 1131 dL_law_1130 rfl rfl).trans ((ev_iload_n 1132 dL_law_1131 rfl rfl).trans ((ev_iconst 1133 (v := 1) dL_law_1132 rfl rfl).trans ((ev_iadd 1134 dL_law_1133 rfl).trans ((ev_ialdS 1135 dL_law_1134 rfl).trans (mm_ite ((ev_callv mX9_stay [vR 0, vI (h 110 (w32 (a3 + 1)))] [] 1138 dL_law_1135 ml_12_128 k114 rfl oc0 ak0 rfl rfl (Nat.le_of_ble_eq_true rfl) (Nat.le_of_ble_eq_true rfl) rfl).trans (if_pos (show 1 < 700 from by decide))) (rfl)))))))
theorem L_law_1138 (h : mm_M) (a3 : Int) (s0 : Int) : mm_ev mL_law 700 1138 [some (vR 110), some (vR 0), some (vR 47), some (vI a3)] [vI s0] h = if 0 ≤ (w32 (a3 + 1)) ∧ (w32 (a3 + 1)) < h 110 (-1) then (mm_call mX10_stay [vR 47, vI (h 110 (w32 (a3 + 1)))] h).bind (fun w => mm_ev mL_law 700 1147 [some (vR 110), some (vR 0), some (vR 47), some (vI a3)] (w.1 ++ [vI s0]) w.2) else none := (ev_aload_n 1139 dL_law_1138 rfl rfl).trans ((ev_aload_n 1140 dL_law_1139 rfl rfl).trans ((ev_iload_n 1141 dL_law_1140 rfl rfl).trans ((ev_iconst 1142 (v := 1) dL_law_1141 rfl rfl).trans ((ev_iadd 1143 dL_law_1142 rfl).trans ((ev_ialdS 1144 dL_law_1143 rfl).trans (mm_ite ((ev_callv mX10_stay [vR 47, vI (h 110 (w32 (a3 + 1)))] [vI s0] 1147 dL_law_1144 ml_12_131 k235 rfl oc47 ak47 rfl rfl (Nat.le_of_ble_eq_true rfl) (Nat.le_of_ble_eq_true rfl) rfl).trans (if_pos (show 2 < 700 from by decide))) (rfl)))))))
theorem L_law_1147 (h : mm_M) (a3 : Int) (s0 : Int) (s1 : Int) : mm_ev mL_law 700 1147 [some (vR 110), some (vR 0), some (vR 47), some (vI a3)] [vI s0, vI s1] h = if s1 = s0 then mm_ev mL_law 700 1651 [some (vR 110), some (vR 0), some (vR 47), some (vI a3)] [] h else some ([vI 0], h) := (ev_ic_eq 1651 1150 dL_law_1147 rfl rfl).trans (mm_ite (rfl) ((ev_iconst 1151 (v := 0) dL_law_1150 rfl rfl).trans (ev_zret0 dL_law_1151 rfl)))
theorem L_law_1152 (h : mm_M) (a3 : Int) : mm_ev mL_law 700 1152 [some (vR 110), some (vR 0), some (vR 47), some (vI a3)] [] h = if 0 ≤ (w32 (a3 + 1)) ∧ (w32 (a3 + 1)) < h 110 (-1) then if 0 ≤ (w32 (a3 + 2)) ∧ (w32 (a3 + 2)) < h 110 (-1) then (mm_call mX9_ask [vR 0, vI (h 110 (w32 (a3 + 1))), vI (h 110 (w32 (a3 + 2)))] h).bind (fun w => mm_ev mL_law 700 1166 [some (vR 110), some (vR 0), some (vR 47), some (vI a3)] (w.1 ++ []) w.2) else none else none := (ev_aload_n 1153 dL_law_1152 rfl rfl).trans ((ev_aload_n 1154 dL_law_1153 rfl rfl).trans ((ev_iload_n 1155 dL_law_1154 rfl rfl).trans ((ev_iconst 1156 (v := 1) dL_law_1155 rfl rfl).trans ((ev_iadd 1157 dL_law_1156 rfl).trans ((ev_ialdS 1158 dL_law_1157 rfl).trans (mm_ite ((ev_aload_n 1159 dL_law_1158 rfl rfl).trans ((ev_iload_n 1160 dL_law_1159 rfl rfl).trans ((ev_iconst 1161 (v := 2) dL_law_1160 rfl rfl).trans ((ev_iadd 1162 dL_law_1161 rfl).trans ((ev_ialdS 1163 dL_law_1162 rfl).trans (mm_ite ((ev_callv mX9_ask [vR 0, vI (h 110 (w32 (a3 + 1))), vI (h 110 (w32 (a3 + 2)))] [] 1166 dL_law_1163 ml_12_132 k115 rfl oc0 ak0 rfl rfl (Nat.le_of_ble_eq_true rfl) (Nat.le_of_ble_eq_true rfl) rfl).trans (if_pos (show 2 < 700 from by decide))) (rfl))))))) (rfl)))))))
theorem L_law_1166 (h : mm_M) (a3 : Int) (s0 : Int) : mm_ev mL_law 700 1166 [some (vR 110), some (vR 0), some (vR 47), some (vI a3)] [vI s0] h = if 0 ≤ (w32 (a3 + 1)) ∧ (w32 (a3 + 1)) < h 110 (-1) then if 0 ≤ (w32 (a3 + 2)) ∧ (w32 (a3 + 2)) < h 110 (-1) then (mm_call mX10_ask [vR 47, vI (h 110 (w32 (a3 + 1))), vI (h 110 (w32 (a3 + 2)))] h).bind (fun w => mm_ev mL_law 700 1180 [some (vR 110), some (vR 0), some (vR 47), some (vI a3)] (w.1 ++ [vI s0]) w.2) else none else none := (ev_aload_n 1167 dL_law_1166 rfl rfl).trans ((ev_aload_n 1168 dL_law_1167 rfl rfl).trans ((ev_iload_n 1169 dL_law_1168 rfl rfl).trans ((ev_iconst 1170 (v := 1) dL_law_1169 rfl rfl).trans ((ev_iadd 1171 dL_law_1170 rfl).trans ((ev_ialdS 1172 dL_law_1171 rfl).trans (mm_ite ((ev_aload_n 1173 dL_law_1172 rfl rfl).trans ((ev_iload_n 1174 dL_law_1173 rfl rfl).trans ((ev_iconst 1175 (v := 2) dL_law_1174 rfl rfl).trans ((ev_iadd 1176 dL_law_1175 rfl).trans ((ev_ialdS 1177 dL_law_1176 rfl).trans (mm_ite ((ev_callv mX10_ask [vR 47, vI (h 110 (w32 (a3 + 1))), vI (h 110 (w32 (a3 + 2)))] [vI s0] 1180 dL_law_1177 ml_12_135 k236 rfl oc47 ak47 rfl rfl (Nat.le_of_ble_eq_true rfl) (Nat.le_of_ble_eq_true rfl) rfl).trans (if_pos (show 3 < 700 from by decide))) (rfl))))))) (rfl)))))))
theorem L_law_1180 (h : mm_M) (a3 : Int) (s0 : Int) (s1 : Int) : mm_ev mL_law 700 1180 [some (vR 110), some (vR 0), some (vR 47), some (vI a3)] [vI s0, vI s1] h = if s1 = s0 then mm_ev mL_law 700 1651 [some (vR 110), some (vR 0), some (vR 47), some (vI a3)] [] h else some ([vI 0], h) := (ev_ic_eq 1651 1183 dL_law_1180 rfl rfl).trans (mm_ite (rfl) ((ev_iconst 1184 (v := 0) dL_law_1183 rfl rfl).trans (ev_zret0 dL_law_1184 rfl)))
theorem L_law_1185 (h : mm_M) (a3 : Int) : mm_ev mL_law 700 1185 [some (vR 110), some (vR 0), some (vR 47), some (vI a3)] [] h = if 0 ≤ (w32 (a3 + 1)) ∧ (w32 (a3 + 1)) < h 110 (-1) then (mm_call mX9_led [vR 0, vI (h 110 (w32 (a3 + 1)))] h).bind (fun w => mm_ev mL_law 700 1194 [some (vR 110), some (vR 0), some (vR 47), some (vI a3)] (w.1 ++ []) w.2) else none := (ev_aload_n 1186 dL_law_1185 rfl rfl).trans ((ev_aload_n 1187 dL_law_1186 rfl rfl).trans ((ev_iload_n 1188 dL_law_1187 rfl rfl).trans ((ev_iconst 1189 (v := 1) dL_law_1188 rfl rfl).trans ((ev_iadd 1190 dL_law_1189 rfl).trans ((ev_ialdS 1191 dL_law_1190 rfl).trans (mm_ite ((ev_callv mX9_led [vR 0, vI (h 110 (w32 (a3 + 1)))] [] 1194 dL_law_1191 ml_12_136 k116 rfl oc0 ak0 rfl rfl (Nat.le_of_ble_eq_true rfl) (Nat.le_of_ble_eq_true rfl) rfl).trans (if_pos (show 1 < 700 from by decide))) (rfl)))))))
theorem L_law_1194 (h : mm_M) (a3 : Int) (s0 : Int) : mm_ev mL_law 700 1194 [some (vR 110), some (vR 0), some (vR 47), some (vI a3)] [vI s0] h = if 0 ≤ (w32 (a3 + 1)) ∧ (w32 (a3 + 1)) < h 110 (-1) then (mm_call mX10_led [vR 47, vI (h 110 (w32 (a3 + 1)))] h).bind (fun w => mm_ev mL_law 700 1203 [some (vR 110), some (vR 0), some (vR 47), some (vI a3)] (w.1 ++ [vI s0]) w.2) else none := (ev_aload_n 1195 dL_law_1194 rfl rfl).trans ((ev_aload_n 1196 dL_law_1195 rfl rfl).trans ((ev_iload_n 1197 dL_law_1196 rfl rfl).trans ((ev_iconst 1198 (v := 1) dL_law_1197 rfl rfl).trans ((ev_iadd 1199 dL_law_1198 rfl).trans ((ev_ialdS 1200 dL_law_1199 rfl).trans (mm_ite ((ev_callv mX10_led [vR 47, vI (h 110 (w32 (a3 + 1)))] [vI s0] 1203 dL_law_1200 ml_12_139 k237 rfl oc47 ak47 rfl rfl (Nat.le_of_ble_eq_true rfl) (Nat.le_of_ble_eq_true rfl) rfl).trans (if_pos (show 2 < 700 from by decide))) (rfl)))))))
theorem L_law_1203 (h : mm_M) (a3 : Int) (s0 : Int) (s1 : Int) : mm_ev mL_law 700 1203 [some (vR 110), some (vR 0), some (vR 47), some (vI a3)] [vI s0, vI s1] h = if s1 = s0 then mm_ev mL_law 700 1651 [some (vR 110), some (vR 0), some (vR 47), some (vI a3)] [] h else some ([vI 0], h) := (ev_ic_eq 1651 1206 dL_law_1203 rfl rfl).trans (mm_ite (rfl) ((ev_iconst 1207 (v := 0) dL_law_1206 rfl rfl).trans (ev_zret0 dL_law_1207 rfl)))
theorem L_law_1208 (h : mm_M) (a3 : Int) : mm_ev mL_law 700 1208 [some (vR 110), some (vR 0), some (vR 47), some (vI a3)] [] h = (mm_call mX9_image [vR 0] h).bind (fun w => mm_ev mL_law 700 1212 [some (vR 110), some (vR 0), some (vR 47), some (vI a3)] (w.1 ++ []) w.2) := (ev_aload_n 1209 dL_law_1208 rfl rfl).trans ((ev_callv mX9_image [vR 0] [] 1212 dL_law_1209 ml_12_140 k117 rfl oc0 ak0 rfl rfl (Nat.le_of_ble_eq_true rfl) (Nat.le_of_ble_eq_true rfl) rfl).trans (if_pos (show 2 < 700 from by decide)))
theorem L_law_1212 (h : mm_M) (a3 : Int) (s0 : Int) : mm_ev mL_law 700 1212 [some (vR 110), some (vR 0), some (vR 47), some (vI a3)] [vI s0] h = (mm_call mX10_image [vR 47] h).bind (fun w => mm_ev mL_law 700 1216 [some (vR 110), some (vR 0), some (vR 47), some (vI a3)] (w.1 ++ [vI s0]) w.2) := (ev_aload_n 1213 dL_law_1212 rfl rfl).trans ((ev_callv mX10_image [vR 47] [vI s0] 1216 dL_law_1213 ml_12_143 k238 rfl oc47 ak47 rfl rfl (Nat.le_of_ble_eq_true rfl) (Nat.le_of_ble_eq_true rfl) rfl).trans (if_pos (show 1 < 700 from by decide)))
theorem L_law_1216 (h : mm_M) (a3 : Int) (s0 : Int) (s1 : Int) : mm_ev mL_law 700 1216 [some (vR 110), some (vR 0), some (vR 47), some (vI a3)] [vI s0, vI s1] h = if s1 = s0 then mm_ev mL_law 700 1651 [some (vR 110), some (vR 0), some (vR 47), some (vI a3)] [] h else some ([vI 0], h) := (ev_ic_eq 1651 1219 dL_law_1216 rfl rfl).trans (mm_ite (rfl) ((ev_iconst 1220 (v := 0) dL_law_1219 rfl rfl).trans (ev_zret0 dL_law_1220 rfl)))
theorem L_law_1221 (h : mm_M) (a3 : Int) : mm_ev mL_law 700 1221 [some (vR 110), some (vR 0), some (vR 47), some (vI a3)] [] h = (mm_call mX9_back [vR 0] h).bind (fun w => mm_ev mL_law 700 1225 [some (vR 110), some (vR 0), some (vR 47), some (vI a3)] (w.1 ++ []) w.2) := (ev_aload_n 1222 dL_law_1221 rfl rfl).trans ((ev_callv mX9_back [vR 0] [] 1225 dL_law_1222 ml_12_144 k118 rfl oc0 ak0 rfl rfl (Nat.le_of_ble_eq_true rfl) (Nat.le_of_ble_eq_true rfl) rfl).trans (if_pos (show 3 < 700 from by decide)))
theorem L_law_1225 (h : mm_M) (a3 : Int) (s0 : Int) : mm_ev mL_law 700 1225 [some (vR 110), some (vR 0), some (vR 47), some (vI a3)] [vI s0] h = (mm_call mX10_back [vR 47] h).bind (fun w => mm_ev mL_law 700 1229 [some (vR 110), some (vR 0), some (vR 47), some (vI a3)] (w.1 ++ [vI s0]) w.2) := (ev_aload_n 1226 dL_law_1225 rfl rfl).trans ((ev_callv mX10_back [vR 47] [vI s0] 1229 dL_law_1226 ml_12_147 k239 rfl oc47 ak47 rfl rfl (Nat.le_of_ble_eq_true rfl) (Nat.le_of_ble_eq_true rfl) rfl).trans (if_pos (show 1 < 700 from by decide)))
theorem L_law_1229 (h : mm_M) (a3 : Int) (s0 : Int) (s1 : Int) : mm_ev mL_law 700 1229 [some (vR 110), some (vR 0), some (vR 47), some (vI a3)] [vI s0, vI s1] h = if s1 = s0 then mm_ev mL_law 700 1651 [some (vR 110), some (vR 0), some (vR 47), some (vI a3)] [] h else some ([vI 0], h) := (ev_ic_eq 1651 1232 dL_law_1229 rfl rfl).trans (mm_ite (rfl) ((ev_iconst 1233 (v := 0) dL_law_1232 rfl rfl).trans (ev_zret0 dL_law_1233 rfl)))
theorem L_law_1234 (h : mm_M) (a3 : Int) : mm_ev mL_law 700 1234 [some (vR 110), some (vR 0), some (vR 47), some (vI a3)] [] h = (mm_call mX9_undo [vR 0] h).bind (fun w => mm_ev mL_law 700 1238 [some (vR 110), some (vR 0), some (vR 47), some (vI a3)] (w.1 ++ []) w.2) := (ev_aload_n 1235 dL_law_1234 rfl rfl).trans ((ev_callv mX9_undo [vR 0] [] 1238 dL_law_1235 ml_12_148 k119 rfl oc0 ak0 rfl rfl (Nat.le_of_ble_eq_true rfl) (Nat.le_of_ble_eq_true rfl) rfl).trans (if_pos (show 2 < 700 from by decide)))
theorem L_law_1238 (h : mm_M) (a3 : Int) (s0 : Int) : mm_ev mL_law 700 1238 [some (vR 110), some (vR 0), some (vR 47), some (vI a3)] [vI s0] h = (mm_call mX10_undo [vR 47] h).bind (fun w => mm_ev mL_law 700 1242 [some (vR 110), some (vR 0), some (vR 47), some (vI a3)] (w.1 ++ [vI s0]) w.2) := (ev_aload_n 1239 dL_law_1238 rfl rfl).trans ((ev_callv mX10_undo [vR 47] [vI s0] 1242 dL_law_1239 ml_12_151 k153 rfl oc47 ak47 rfl rfl (Nat.le_of_ble_eq_true rfl) (Nat.le_of_ble_eq_true rfl) rfl).trans (if_pos (show 2 < 700 from by decide)))
theorem L_law_1242 (h : mm_M) (a3 : Int) (s0 : Int) (s1 : Int) : mm_ev mL_law 700 1242 [some (vR 110), some (vR 0), some (vR 47), some (vI a3)] [vI s0, vI s1] h = if s1 = s0 then mm_ev mL_law 700 1651 [some (vR 110), some (vR 0), some (vR 47), some (vI a3)] [] h else some ([vI 0], h) := (ev_ic_eq 1651 1245 dL_law_1242 rfl rfl).trans (mm_ite (rfl) ((ev_iconst 1246 (v := 0) dL_law_1245 rfl rfl).trans (ev_zret0 dL_law_1246 rfl)))
theorem L_law_1247 (h : mm_M) (a3 : Int) : mm_ev mL_law 700 1247 [some (vR 110), some (vR 0), some (vR 47), some (vI a3)] [] h = (mm_call mX9_redo [vR 0] h).bind (fun w => mm_ev mL_law 700 1251 [some (vR 110), some (vR 0), some (vR 47), some (vI a3)] (w.1 ++ []) w.2) := (ev_aload_n 1248 dL_law_1247 rfl rfl).trans ((ev_callv mX9_redo [vR 0] [] 1251 dL_law_1248 ml_12_152 k120 rfl oc0 ak0 rfl rfl (Nat.le_of_ble_eq_true rfl) (Nat.le_of_ble_eq_true rfl) rfl).trans (if_pos (show 2 < 700 from by decide)))
theorem L_law_1251 (h : mm_M) (a3 : Int) (s0 : Int) : mm_ev mL_law 700 1251 [some (vR 110), some (vR 0), some (vR 47), some (vI a3)] [vI s0] h = (mm_call mX10_redo [vR 47] h).bind (fun w => mm_ev mL_law 700 1255 [some (vR 110), some (vR 0), some (vR 47), some (vI a3)] (w.1 ++ [vI s0]) w.2) := (ev_aload_n 1252 dL_law_1251 rfl rfl).trans ((ev_callv mX10_redo [vR 47] [vI s0] 1255 dL_law_1252 ml_12_155 k154 rfl oc47 ak47 rfl rfl (Nat.le_of_ble_eq_true rfl) (Nat.le_of_ble_eq_true rfl) rfl).trans (if_pos (show 2 < 700 from by decide)))
theorem L_law_1255 (h : mm_M) (a3 : Int) (s0 : Int) (s1 : Int) : mm_ev mL_law 700 1255 [some (vR 110), some (vR 0), some (vR 47), some (vI a3)] [vI s0, vI s1] h = if s1 = s0 then mm_ev mL_law 700 1651 [some (vR 110), some (vR 0), some (vR 47), some (vI a3)] [] h else some ([vI 0], h) := (ev_ic_eq 1651 1258 dL_law_1255 rfl rfl).trans (mm_ite (rfl) ((ev_iconst 1259 (v := 0) dL_law_1258 rfl rfl).trans (ev_zret0 dL_law_1259 rfl)))
theorem L_law_1260 (h : mm_M) (a3 : Int) : mm_ev mL_law 700 1260 [some (vR 110), some (vR 0), some (vR 47), some (vI a3)] [] h = if 0 ≤ (w32 (a3 + 1)) ∧ (w32 (a3 + 1)) < h 110 (-1) then (mm_call mX9_body [vR 0, vI (h 110 (w32 (a3 + 1)))] h).bind (fun w => mm_ev mL_law 700 1269 [some (vR 110), some (vR 0), some (vR 47), some (vI a3)] (w.1 ++ []) w.2) else none := (ev_aload_n 1261 dL_law_1260 rfl rfl).trans ((ev_aload_n 1262 dL_law_1261 rfl rfl).trans ((ev_iload_n 1263 dL_law_1262 rfl rfl).trans ((ev_iconst 1264 (v := 1) dL_law_1263 rfl rfl).trans ((ev_iadd 1265 dL_law_1264 rfl).trans ((ev_ialdS 1266 dL_law_1265 rfl).trans (mm_ite ((ev_callv mX9_body [vR 0, vI (h 110 (w32 (a3 + 1)))] [] 1269 dL_law_1266 ml_12_156 k121 rfl oc0 ak0 rfl rfl (Nat.le_of_ble_eq_true rfl) (Nat.le_of_ble_eq_true rfl) rfl).trans (if_pos (show 2 < 700 from by decide))) (rfl)))))))
theorem L_law_1269 (h : mm_M) (a3 : Int) (s0 : Int) : mm_ev mL_law 700 1269 [some (vR 110), some (vR 0), some (vR 47), some (vI a3)] [vI s0] h = if 0 ≤ (w32 (a3 + 1)) ∧ (w32 (a3 + 1)) < h 110 (-1) then (mm_call mX10_body [vR 47, vI (h 110 (w32 (a3 + 1)))] h).bind (fun w => mm_ev mL_law 700 1278 [some (vR 110), some (vR 0), some (vR 47), some (vI a3)] (w.1 ++ [vI s0]) w.2) else none := (ev_aload_n 1270 dL_law_1269 rfl rfl).trans ((ev_aload_n 1271 dL_law_1270 rfl rfl).trans ((ev_iload_n 1272 dL_law_1271 rfl rfl).trans ((ev_iconst 1273 (v := 1) dL_law_1272 rfl rfl).trans ((ev_iadd 1274 dL_law_1273 rfl).trans ((ev_ialdS 1275 dL_law_1274 rfl).trans (mm_ite ((ev_callv mX10_body [vR 47, vI (h 110 (w32 (a3 + 1)))] [vI s0] 1278 dL_law_1275 ml_12_159 k243 rfl oc47 ak47 rfl rfl (Nat.le_of_ble_eq_true rfl) (Nat.le_of_ble_eq_true rfl) rfl).trans (if_pos (show 2 < 700 from by decide))) (rfl)))))))
theorem L_law_1278 (h : mm_M) (a3 : Int) (s0 : Int) (s1 : Int) : mm_ev mL_law 700 1278 [some (vR 110), some (vR 0), some (vR 47), some (vI a3)] [vI s0, vI s1] h = if s1 = s0 then mm_ev mL_law 700 1651 [some (vR 110), some (vR 0), some (vR 47), some (vI a3)] [] h else some ([vI 0], h) := (ev_ic_eq 1651 1281 dL_law_1278 rfl rfl).trans (mm_ite (rfl) ((ev_iconst 1282 (v := 0) dL_law_1281 rfl rfl).trans (ev_zret0 dL_law_1282 rfl)))
theorem L_law_1283 (h : mm_M) (a3 : Int) : mm_ev mL_law 700 1283 [some (vR 110), some (vR 0), some (vR 47), some (vI a3)] [] h = if 0 ≤ (w32 (a3 + 1)) ∧ (w32 (a3 + 1)) < h 110 (-1) then if 0 ≤ (w32 (a3 + 2)) ∧ (w32 (a3 + 2)) < h 110 (-1) then if 0 ≤ (w32 (a3 + 3)) ∧ (w32 (a3 + 3)) < h 110 (-1) then (mm_call mX9_act [vR 0, vI (h 110 (w32 (a3 + 1))), vI (h 110 (w32 (a3 + 2))), vI (h 110 (w32 (a3 + 3)))] h).bind (fun w => mm_ev mL_law 700 1302 [some (vR 110), some (vR 0), some (vR 47), some (vI a3)] (w.1 ++ []) w.2) else none else none else none := (ev_aload_n 1284 dL_law_1283 rfl rfl).trans ((ev_aload_n 1285 dL_law_1284 rfl rfl).trans ((ev_iload_n 1286 dL_law_1285 rfl rfl).trans ((ev_iconst 1287 (v := 1) dL_law_1286 rfl rfl).trans ((ev_iadd 1288 dL_law_1287 rfl).trans ((ev_ialdS 1289 dL_law_1288 rfl).trans (mm_ite ((ev_aload_n 1290 dL_law_1289 rfl rfl).trans ((ev_iload_n 1291 dL_law_1290 rfl rfl).trans ((ev_iconst 1292 (v := 2) dL_law_1291 rfl rfl).trans ((ev_iadd 1293 dL_law_1292 rfl).trans ((ev_ialdS 1294 dL_law_1293 rfl).trans (mm_ite ((ev_aload_n 1295 dL_law_1294 rfl rfl).trans ((ev_iload_n 1296 dL_law_1295 rfl rfl).trans ((ev_iconst 1297 (v := 3) dL_law_1296 rfl rfl).trans ((ev_iadd 1298 dL_law_1297 rfl).trans ((ev_ialdS 1299 dL_law_1298 rfl).trans (mm_ite ((ev_callv mX9_act [vR 0, vI (h 110 (w32 (a3 + 1))), vI (h 110 (w32 (a3 + 2))), vI (h 110 (w32 (a3 + 3)))] [] 1302 dL_law_1299 ml_12_160 k122 rfl oc0 ak0 rfl rfl (Nat.le_of_ble_eq_true rfl) (Nat.le_of_ble_eq_true rfl) rfl).trans (if_pos (show 162 < 700 from by decide))) (rfl))))))) (rfl))))))) (rfl)))))))
theorem L_law_1302 (h : mm_M) (a3 : Int) (s0 : Int) : mm_ev mL_law 700 1302 [some (vR 110), some (vR 0), some (vR 47), some (vI a3)] [vI s0] h = if 0 ≤ (w32 (a3 + 1)) ∧ (w32 (a3 + 1)) < h 110 (-1) then if 0 ≤ (w32 (a3 + 2)) ∧ (w32 (a3 + 2)) < h 110 (-1) then if 0 ≤ (w32 (a3 + 3)) ∧ (w32 (a3 + 3)) < h 110 (-1) then (mm_call mX10_act [vR 47, vI (h 110 (w32 (a3 + 1))), vI (h 110 (w32 (a3 + 2))), vI (h 110 (w32 (a3 + 3)))] h).bind (fun w => mm_ev mL_law 700 1321 [some (vR 110), some (vR 0), some (vR 47), some (vI a3)] (w.1 ++ [vI s0]) w.2) else none else none else none := (ev_aload_n 1303 dL_law_1302 rfl rfl).trans ((ev_aload_n 1304 dL_law_1303 rfl rfl).trans ((ev_iload_n 1305 dL_law_1304 rfl rfl).trans ((ev_iconst 1306 (v := 1) dL_law_1305 rfl rfl).trans ((ev_iadd 1307 dL_law_1306 rfl).trans ((ev_ialdS 1308 dL_law_1307 rfl).trans (mm_ite ((ev_aload_n 1309 dL_law_1308 rfl rfl).trans ((ev_iload_n 1310 dL_law_1309 rfl rfl).trans ((ev_iconst 1311 (v := 2) dL_law_1310 rfl rfl).trans ((ev_iadd 1312 dL_law_1311 rfl).trans ((ev_ialdS 1313 dL_law_1312 rfl).trans (mm_ite ((ev_aload_n 1314 dL_law_1313 rfl rfl).trans ((ev_iload_n 1315 dL_law_1314 rfl rfl).trans ((ev_iconst 1316 (v := 3) dL_law_1315 rfl rfl).trans ((ev_iadd 1317 dL_law_1316 rfl).trans ((ev_ialdS 1318 dL_law_1317 rfl).trans (mm_ite ((ev_callv mX10_act [vR 47, vI (h 110 (w32 (a3 + 1))), vI (h 110 (w32 (a3 + 2))), vI (h 110 (w32 (a3 + 3)))] [vI s0] 1321 dL_law_1318 ml_12_163 k256 rfl oc47 ak47 rfl rfl (Nat.le_of_ble_eq_true rfl) (Nat.le_of_ble_eq_true rfl) rfl).trans (if_pos (show 10 < 700 from by decide))) (rfl))))))) (rfl))))))) (rfl)))))))
theorem L_law_1321 (h : mm_M) (a3 : Int) (s0 : Int) (s1 : Int) : mm_ev mL_law 700 1321 [some (vR 110), some (vR 0), some (vR 47), some (vI a3)] [vI s0, vI s1] h = if s1 = s0 then mm_ev mL_law 700 1651 [some (vR 110), some (vR 0), some (vR 47), some (vI a3)] [] h else some ([vI 0], h) := (ev_ic_eq 1651 1324 dL_law_1321 rfl rfl).trans (mm_ite (rfl) ((ev_iconst 1325 (v := 0) dL_law_1324 rfl rfl).trans (ev_zret0 dL_law_1325 rfl)))
theorem L_law_1326 (h : mm_M) (a3 : Int) : mm_ev mL_law 700 1326 [some (vR 110), some (vR 0), some (vR 47), some (vI a3)] [] h = if 0 ≤ (w32 (a3 + 1)) ∧ (w32 (a3 + 1)) < h 110 (-1) then (mm_call mX9_trace [vR 0, vI (h 110 (w32 (a3 + 1)))] h).bind (fun w => mm_ev mL_law 700 1335 [some (vR 110), some (vR 0), some (vR 47), some (vI a3)] (w.1 ++ []) w.2) else none := (ev_aload_n 1327 dL_law_1326 rfl rfl).trans ((ev_aload_n 1328 dL_law_1327 rfl rfl).trans ((ev_iload_n 1329 dL_law_1328 rfl rfl).trans ((ev_iconst 1330 (v := 1) dL_law_1329 rfl rfl).trans ((ev_iadd 1331 dL_law_1330 rfl).trans ((ev_ialdS 1332 dL_law_1331 rfl).trans (mm_ite ((ev_callv mX9_trace [vR 0, vI (h 110 (w32 (a3 + 1)))] [] 1335 dL_law_1332 ml_12_164 k123 rfl oc0 ak0 rfl rfl (Nat.le_of_ble_eq_true rfl) (Nat.le_of_ble_eq_true rfl) rfl).trans (if_pos (show 1 < 700 from by decide))) (rfl)))))))
theorem L_law_1335 (h : mm_M) (a3 : Int) (s0 : Int) : mm_ev mL_law 700 1335 [some (vR 110), some (vR 0), some (vR 47), some (vI a3)] [vI s0] h = if 0 ≤ (w32 (a3 + 1)) ∧ (w32 (a3 + 1)) < h 110 (-1) then (mm_call mX10_trace [vR 47, vI (h 110 (w32 (a3 + 1)))] h).bind (fun w => mm_ev mL_law 700 1344 [some (vR 110), some (vR 0), some (vR 47), some (vI a3)] (w.1 ++ [vI s0]) w.2) else none := (ev_aload_n 1336 dL_law_1335 rfl rfl).trans ((ev_aload_n 1337 dL_law_1336 rfl rfl).trans ((ev_iload_n 1338 dL_law_1337 rfl rfl).trans ((ev_iconst 1339 (v := 1) dL_law_1338 rfl rfl).trans ((ev_iadd 1340 dL_law_1339 rfl).trans ((ev_ialdS 1341 dL_law_1340 rfl).trans (mm_ite ((ev_callv mX10_trace [vR 47, vI (h 110 (w32 (a3 + 1)))] [vI s0] 1344 dL_law_1341 ml_12_167 k242 rfl oc47 ak47 rfl rfl (Nat.le_of_ble_eq_true rfl) (Nat.le_of_ble_eq_true rfl) rfl).trans (if_pos (show 1 < 700 from by decide))) (rfl)))))))
theorem L_law_1344 (h : mm_M) (a3 : Int) (s0 : Int) (s1 : Int) : mm_ev mL_law 700 1344 [some (vR 110), some (vR 0), some (vR 47), some (vI a3)] [vI s0, vI s1] h = if s1 = s0 then mm_ev mL_law 700 1651 [some (vR 110), some (vR 0), some (vR 47), some (vI a3)] [] h else some ([vI 0], h) := (ev_ic_eq 1651 1347 dL_law_1344 rfl rfl).trans (mm_ite (rfl) ((ev_iconst 1348 (v := 0) dL_law_1347 rfl rfl).trans (ev_zret0 dL_law_1348 rfl)))
theorem L_law_1349 (h : mm_M) (a3 : Int) : mm_ev mL_law 700 1349 [some (vR 110), some (vR 0), some (vR 47), some (vI a3)] [] h = if 0 ≤ (w32 (a3 + 1)) ∧ (w32 (a3 + 1)) < h 110 (-1) then if 0 ≤ (w32 (a3 + 2)) ∧ (w32 (a3 + 2)) < h 110 (-1) then (mm_call mX9_keep [vR 0, vI (h 110 (w32 (a3 + 1))), vI (h 110 (w32 (a3 + 2)))] h).bind (fun w => mm_ev mL_law 700 1363 [some (vR 110), some (vR 0), some (vR 47), some (vI a3)] (w.1 ++ []) w.2) else none else none := (ev_aload_n 1350 dL_law_1349 rfl rfl).trans ((ev_aload_n 1351 dL_law_1350 rfl rfl).trans ((ev_iload_n 1352 dL_law_1351 rfl rfl).trans ((ev_iconst 1353 (v := 1) dL_law_1352 rfl rfl).trans ((ev_iadd 1354 dL_law_1353 rfl).trans ((ev_ialdS 1355 dL_law_1354 rfl).trans (mm_ite ((ev_aload_n 1356 dL_law_1355 rfl rfl).trans ((ev_iload_n 1357 dL_law_1356 rfl rfl).trans ((ev_iconst 1358 (v := 2) dL_law_1357 rfl rfl).trans ((ev_iadd 1359 dL_law_1358 rfl).trans ((ev_ialdS 1360 dL_law_1359 rfl).trans (mm_ite ((ev_callv mX9_keep [vR 0, vI (h 110 (w32 (a3 + 1))), vI (h 110 (w32 (a3 + 2)))] [] 1363 dL_law_1360 ml_12_168 k124 rfl oc0 ak0 rfl rfl (Nat.le_of_ble_eq_true rfl) (Nat.le_of_ble_eq_true rfl) rfl).trans (if_pos (show 2 < 700 from by decide))) (rfl))))))) (rfl)))))))
theorem L_law_1363 (h : mm_M) (a3 : Int) (s0 : Int) : mm_ev mL_law 700 1363 [some (vR 110), some (vR 0), some (vR 47), some (vI a3)] [vI s0] h = if 0 ≤ (w32 (a3 + 1)) ∧ (w32 (a3 + 1)) < h 110 (-1) then if 0 ≤ (w32 (a3 + 2)) ∧ (w32 (a3 + 2)) < h 110 (-1) then (mm_call mX10_keep [vR 47, vI (h 110 (w32 (a3 + 1))), vI (h 110 (w32 (a3 + 2)))] h).bind (fun w => mm_ev mL_law 700 1377 [some (vR 110), some (vR 0), some (vR 47), some (vI a3)] (w.1 ++ [vI s0]) w.2) else none else none := (ev_aload_n 1364 dL_law_1363 rfl rfl).trans ((ev_aload_n 1365 dL_law_1364 rfl rfl).trans ((ev_iload_n 1366 dL_law_1365 rfl rfl).trans ((ev_iconst 1367 (v := 1) dL_law_1366 rfl rfl).trans ((ev_iadd 1368 dL_law_1367 rfl).trans ((ev_ialdS 1369 dL_law_1368 rfl).trans (mm_ite ((ev_aload_n 1370 dL_law_1369 rfl rfl).trans ((ev_iload_n 1371 dL_law_1370 rfl rfl).trans ((ev_iconst 1372 (v := 2) dL_law_1371 rfl rfl).trans ((ev_iadd 1373 dL_law_1372 rfl).trans ((ev_ialdS 1374 dL_law_1373 rfl).trans (mm_ite ((ev_callv mX10_keep [vR 47, vI (h 110 (w32 (a3 + 1))), vI (h 110 (w32 (a3 + 2)))] [vI s0] 1377 dL_law_1374 ml_12_171 k259 rfl oc47 ak47 rfl rfl (Nat.le_of_ble_eq_true rfl) (Nat.le_of_ble_eq_true rfl) rfl).trans (if_pos (show 3 < 700 from by decide))) (rfl))))))) (rfl)))))))
theorem L_law_1377 (h : mm_M) (a3 : Int) (s0 : Int) (s1 : Int) : mm_ev mL_law 700 1377 [some (vR 110), some (vR 0), some (vR 47), some (vI a3)] [vI s0, vI s1] h = if s1 = s0 then mm_ev mL_law 700 1651 [some (vR 110), some (vR 0), some (vR 47), some (vI a3)] [] h else some ([vI 0], h) := (ev_ic_eq 1651 1380 dL_law_1377 rfl rfl).trans (mm_ite (rfl) ((ev_iconst 1381 (v := 0) dL_law_1380 rfl rfl).trans (ev_zret0 dL_law_1381 rfl)))
theorem L_law_1382 (h : mm_M) (a3 : Int) : mm_ev mL_law 700 1382 [some (vR 110), some (vR 0), some (vR 47), some (vI a3)] [] h = if 0 ≤ (w32 (a3 + 1)) ∧ (w32 (a3 + 1)) < h 110 (-1) then if 0 ≤ (w32 (a3 + 2)) ∧ (w32 (a3 + 2)) < h 110 (-1) then if 0 ≤ (w32 (a3 + 3)) ∧ (w32 (a3 + 3)) < h 110 (-1) then (mm_call mX9_row [vR 0, vI (h 110 (w32 (a3 + 1))), vI (h 110 (w32 (a3 + 2))), vI (h 110 (w32 (a3 + 3)))] h).bind (fun w => mm_ev mL_law 700 1401 [some (vR 110), some (vR 0), some (vR 47), some (vI a3)] (w.1 ++ []) w.2) else none else none else none := (ev_aload_n 1383 dL_law_1382 rfl rfl).trans ((ev_aload_n 1384 dL_law_1383 rfl rfl).trans ((ev_iload_n 1385 dL_law_1384 rfl rfl).trans ((ev_iconst 1386 (v := 1) dL_law_1385 rfl rfl).trans ((ev_iadd 1387 dL_law_1386 rfl).trans ((ev_ialdS 1388 dL_law_1387 rfl).trans (mm_ite ((ev_aload_n 1389 dL_law_1388 rfl rfl).trans ((ev_iload_n 1390 dL_law_1389 rfl rfl).trans ((ev_iconst 1391 (v := 2) dL_law_1390 rfl rfl).trans ((ev_iadd 1392 dL_law_1391 rfl).trans ((ev_ialdS 1393 dL_law_1392 rfl).trans (mm_ite ((ev_aload_n 1394 dL_law_1393 rfl rfl).trans ((ev_iload_n 1395 dL_law_1394 rfl rfl).trans ((ev_iconst 1396 (v := 3) dL_law_1395 rfl rfl).trans ((ev_iadd 1397 dL_law_1396 rfl).trans ((ev_ialdS 1398 dL_law_1397 rfl).trans (mm_ite ((ev_callv mX9_row [vR 0, vI (h 110 (w32 (a3 + 1))), vI (h 110 (w32 (a3 + 2))), vI (h 110 (w32 (a3 + 3)))] [] 1401 dL_law_1398 ml_12_172 k125 rfl oc0 ak0 rfl rfl (Nat.le_of_ble_eq_true rfl) (Nat.le_of_ble_eq_true rfl) rfl).trans (if_pos (show 2 < 700 from by decide))) (rfl))))))) (rfl))))))) (rfl)))))))
theorem L_law_1401 (h : mm_M) (a3 : Int) (s0 : Int) : mm_ev mL_law 700 1401 [some (vR 110), some (vR 0), some (vR 47), some (vI a3)] [vI s0] h = if 0 ≤ (w32 (a3 + 1)) ∧ (w32 (a3 + 1)) < h 110 (-1) then if 0 ≤ (w32 (a3 + 2)) ∧ (w32 (a3 + 2)) < h 110 (-1) then if 0 ≤ (w32 (a3 + 3)) ∧ (w32 (a3 + 3)) < h 110 (-1) then (mm_call mX10_row [vR 47, vI (h 110 (w32 (a3 + 1))), vI (h 110 (w32 (a3 + 2))), vI (h 110 (w32 (a3 + 3)))] h).bind (fun w => mm_ev mL_law 700 1420 [some (vR 110), some (vR 0), some (vR 47), some (vI a3)] (w.1 ++ [vI s0]) w.2) else none else none else none := (ev_aload_n 1402 dL_law_1401 rfl rfl).trans ((ev_aload_n 1403 dL_law_1402 rfl rfl).trans ((ev_iload_n 1404 dL_law_1403 rfl rfl).trans ((ev_iconst 1405 (v := 1) dL_law_1404 rfl rfl).trans ((ev_iadd 1406 dL_law_1405 rfl).trans ((ev_ialdS 1407 dL_law_1406 rfl).trans (mm_ite ((ev_aload_n 1408 dL_law_1407 rfl rfl).trans ((ev_iload_n 1409 dL_law_1408 rfl rfl).trans ((ev_iconst 1410 (v := 2) dL_law_1409 rfl rfl).trans ((ev_iadd 1411 dL_law_1410 rfl).trans ((ev_ialdS 1412 dL_law_1411 rfl).trans (mm_ite ((ev_aload_n 1413 dL_law_1412 rfl rfl).trans ((ev_iload_n 1414 dL_law_1413 rfl rfl).trans ((ev_iconst 1415 (v := 3) dL_law_1414 rfl rfl).trans ((ev_iadd 1416 dL_law_1415 rfl).trans ((ev_ialdS 1417 dL_law_1416 rfl).trans (mm_ite ((ev_callv mX10_row [vR 47, vI (h 110 (w32 (a3 + 1))), vI (h 110 (w32 (a3 + 2))), vI (h 110 (w32 (a3 + 3)))] [vI s0] 1420 dL_law_1417 ml_12_175 k260 rfl oc47 ak47 rfl rfl (Nat.le_of_ble_eq_true rfl) (Nat.le_of_ble_eq_true rfl) rfl).trans (if_pos (show 3 < 700 from by decide))) (rfl))))))) (rfl))))))) (rfl)))))))
theorem L_law_1420 (h : mm_M) (a3 : Int) (s0 : Int) (s1 : Int) : mm_ev mL_law 700 1420 [some (vR 110), some (vR 0), some (vR 47), some (vI a3)] [vI s0, vI s1] h = if s1 = s0 then mm_ev mL_law 700 1651 [some (vR 110), some (vR 0), some (vR 47), some (vI a3)] [] h else some ([vI 0], h) := (ev_ic_eq 1651 1423 dL_law_1420 rfl rfl).trans (mm_ite (rfl) ((ev_iconst 1424 (v := 0) dL_law_1423 rfl rfl).trans (ev_zret0 dL_law_1424 rfl)))
theorem L_law_1425 (h : mm_M) (a3 : Int) : mm_ev mL_law 700 1425 [some (vR 110), some (vR 0), some (vR 47), some (vI a3)] [] h = if 0 ≤ (w32 (a3 + 1)) ∧ (w32 (a3 + 1)) < h 110 (-1) then if 0 ≤ (w32 (a3 + 2)) ∧ (w32 (a3 + 2)) < h 110 (-1) then if 0 ≤ (w32 (a3 + 3)) ∧ (w32 (a3 + 3)) < h 110 (-1) then if 0 ≤ (w32 (a3 + 4)) ∧ (w32 (a3 + 4)) < h 110 (-1) then (mm_call mX9_put [vR 0, vI (h 110 (w32 (a3 + 1))), vI (h 110 (w32 (a3 + 2))), vL (lOr (lShl (h 110 (w32 (a3 + 3))) 32) (lAnd (h 110 (w32 (a3 + 4))) 4294967295))] h).bind (fun w => mm_ev mL_law 700 1459 [some (vR 110), some (vR 0), some (vR 47), some (vI a3)] (w.1 ++ []) w.2) else none else none else none else none := (ev_aload_n 1426 dL_law_1425 rfl rfl).trans ((ev_aload_n 1427 dL_law_1426 rfl rfl).trans ((ev_iload_n 1428 dL_law_1427 rfl rfl).trans ((ev_iconst 1429 (v := 1) dL_law_1428 rfl rfl).trans ((ev_iadd 1430 dL_law_1429 rfl).trans ((ev_ialdS 1431 dL_law_1430 rfl).trans (mm_ite ((ev_aload_n 1432 dL_law_1431 rfl rfl).trans ((ev_iload_n 1433 dL_law_1432 rfl rfl).trans ((ev_iconst 1434 (v := 2) dL_law_1433 rfl rfl).trans ((ev_iadd 1435 dL_law_1434 rfl).trans ((ev_ialdS 1436 dL_law_1435 rfl).trans (mm_ite ((ev_aload_n 1437 dL_law_1436 rfl rfl).trans ((ev_iload_n 1438 dL_law_1437 rfl rfl).trans ((ev_iconst 1439 (v := 3) dL_law_1438 rfl rfl).trans ((ev_iadd 1440 dL_law_1439 rfl).trans ((ev_ialdS 1441 dL_law_1440 rfl).trans (mm_ite ((ev_i2l 1442 dL_law_1441 rfl).trans ((ev_bipush 1444 (v := 32) dL_law_1442 rfl rfl).trans ((ev_lshl 1445 dL_law_1444 rfl).trans ((ev_aload_n 1446 dL_law_1445 rfl rfl).trans ((ev_iload_n 1447 dL_law_1446 rfl rfl).trans ((ev_iconst 1448 (v := 4) dL_law_1447 rfl rfl).trans ((ev_iadd 1449 dL_law_1448 rfl).trans ((ev_ialdS 1450 dL_law_1449 rfl).trans (mm_ite ((ev_i2l 1451 dL_law_1450 rfl).trans ((ev_ldc2_w 1454 dL_law_1451 cL_12_176 rfl).trans ((ev_land 1455 dL_law_1454 rfl).trans ((ev_lor 1456 dL_law_1455 rfl).trans ((ev_callv mX9_put [vR 0, vI (h 110 (w32 (a3 + 1))), vI (h 110 (w32 (a3 + 2))), vL (lOr (lShl (h 110 (w32 (a3 + 3))) 32) (lAnd (h 110 (w32 (a3 + 4))) 4294967295))] [] 1459 dL_law_1456 ml_12_178 k126 rfl oc0 ak0 rfl rfl (Nat.le_of_ble_eq_true rfl) (Nat.le_of_ble_eq_true rfl) rfl).trans (if_pos (show 4 < 700 from by decide))))))) (rfl)))))))))) (rfl))))))) (rfl))))))) (rfl)))))))
theorem L_law_1459 (h : mm_M) (a3 : Int) (s0 : Int) : mm_ev mL_law 700 1459 [some (vR 110), some (vR 0), some (vR 47), some (vI a3)] [vI s0] h = if 0 ≤ (w32 (a3 + 1)) ∧ (w32 (a3 + 1)) < h 110 (-1) then if 0 ≤ (w32 (a3 + 2)) ∧ (w32 (a3 + 2)) < h 110 (-1) then if 0 ≤ (w32 (a3 + 3)) ∧ (w32 (a3 + 3)) < h 110 (-1) then if 0 ≤ (w32 (a3 + 4)) ∧ (w32 (a3 + 4)) < h 110 (-1) then (mm_call mX10_put [vR 47, vI (h 110 (w32 (a3 + 1))), vI (h 110 (w32 (a3 + 2))), vL (lOr (lShl (h 110 (w32 (a3 + 3))) 32) (lAnd (h 110 (w32 (a3 + 4))) 4294967295))] h).bind (fun w => mm_ev mL_law 700 1493 [some (vR 110), some (vR 0), some (vR 47), some (vI a3)] (w.1 ++ [vI s0]) w.2) else none else none else none else none := (ev_aload_n 1460 dL_law_1459 rfl rfl).trans ((ev_aload_n 1461 dL_law_1460 rfl rfl).trans ((ev_iload_n 1462 dL_law_1461 rfl rfl).trans ((ev_iconst 1463 (v := 1) dL_law_1462 rfl rfl).trans ((ev_iadd 1464 dL_law_1463 rfl).trans ((ev_ialdS 1465 dL_law_1464 rfl).trans (mm_ite ((ev_aload_n 1466 dL_law_1465 rfl rfl).trans ((ev_iload_n 1467 dL_law_1466 rfl rfl).trans ((ev_iconst 1468 (v := 2) dL_law_1467 rfl rfl).trans ((ev_iadd 1469 dL_law_1468 rfl).trans ((ev_ialdS 1470 dL_law_1469 rfl).trans (mm_ite ((ev_aload_n 1471 dL_law_1470 rfl rfl).trans ((ev_iload_n 1472 dL_law_1471 rfl rfl).trans ((ev_iconst 1473 (v := 3) dL_law_1472 rfl rfl).trans ((ev_iadd 1474 dL_law_1473 rfl).trans ((ev_ialdS 1475 dL_law_1474 rfl).trans (mm_ite ((ev_i2l 1476 dL_law_1475 rfl).trans ((ev_bipush 1478 (v := 32) dL_law_1476 rfl rfl).trans ((ev_lshl 1479 dL_law_1478 rfl).trans ((ev_aload_n 1480 dL_law_1479 rfl rfl).trans ((ev_iload_n 1481 dL_law_1480 rfl rfl).trans ((ev_iconst 1482 (v := 4) dL_law_1481 rfl rfl).trans ((ev_iadd 1483 dL_law_1482 rfl).trans ((ev_ialdS 1484 dL_law_1483 rfl).trans (mm_ite ((ev_i2l 1485 dL_law_1484 rfl).trans ((ev_ldc2_w 1488 dL_law_1485 cL_12_176 rfl).trans ((ev_land 1489 dL_law_1488 rfl).trans ((ev_lor 1490 dL_law_1489 rfl).trans ((ev_callv mX10_put [vR 47, vI (h 110 (w32 (a3 + 1))), vI (h 110 (w32 (a3 + 2))), vL (lOr (lShl (h 110 (w32 (a3 + 3))) 32) (lAnd (h 110 (w32 (a3 + 4))) 4294967295))] [vI s0] 1493 dL_law_1490 ml_12_182 k262 rfl oc47 ak47 rfl rfl (Nat.le_of_ble_eq_true rfl) (Nat.le_of_ble_eq_true rfl) rfl).trans (if_pos (show 4 < 700 from by decide))))))) (rfl)))))))))) (rfl))))))) (rfl))))))) (rfl)))))))
theorem L_law_1493 (h : mm_M) (a3 : Int) (s0 : Int) (s1 : Int) : mm_ev mL_law 700 1493 [some (vR 110), some (vR 0), some (vR 47), some (vI a3)] [vI s0, vI s1] h = if s1 = s0 then mm_ev mL_law 700 1651 [some (vR 110), some (vR 0), some (vR 47), some (vI a3)] [] h else some ([vI 0], h) := (ev_ic_eq 1651 1496 dL_law_1493 rfl rfl).trans (mm_ite (rfl) ((ev_iconst 1497 (v := 0) dL_law_1496 rfl rfl).trans (ev_zret0 dL_law_1497 rfl)))
theorem L_law_1498 (h : mm_M) (a3 : Int) : mm_ev mL_law 700 1498 [some (vR 110), some (vR 0), some (vR 47), some (vI a3)] [] h = if 0 ≤ (w32 (a3 + 1)) ∧ (w32 (a3 + 1)) < h 110 (-1) then if 0 ≤ (w32 (a3 + 2)) ∧ (w32 (a3 + 2)) < h 110 (-1) then (mm_call mX9_element [vR 0, vI (h 110 (w32 (a3 + 1))), vI (h 110 (w32 (a3 + 2)))] h).bind (fun w => mm_ev mL_law 700 1512 [some (vR 110), some (vR 0), some (vR 47), some (vI a3)] (w.1 ++ []) w.2) else none else none := (ev_aload_n 1499 dL_law_1498 rfl rfl).trans ((ev_aload_n 1500 dL_law_1499 rfl rfl).trans ((ev_iload_n 1501 dL_law_1500 rfl rfl).trans ((ev_iconst 1502 (v := 1) dL_law_1501 rfl rfl).trans ((ev_iadd 1503 dL_law_1502 rfl).trans ((ev_ialdS 1504 dL_law_1503 rfl).trans (mm_ite ((ev_aload_n 1505 dL_law_1504 rfl rfl).trans ((ev_iload_n 1506 dL_law_1505 rfl rfl).trans ((ev_iconst 1507 (v := 2) dL_law_1506 rfl rfl).trans ((ev_iadd 1508 dL_law_1507 rfl).trans ((ev_ialdS 1509 dL_law_1508 rfl).trans (mm_ite ((ev_callv mX9_element [vR 0, vI (h 110 (w32 (a3 + 1))), vI (h 110 (w32 (a3 + 2)))] [] 1512 dL_law_1509 ml_12_183 k127 rfl oc0 ak0 rfl rfl (Nat.le_of_ble_eq_true rfl) (Nat.le_of_ble_eq_true rfl) rfl).trans (if_pos (show 4 < 700 from by decide))) (rfl))))))) (rfl)))))))
theorem L_law_1512 (h : mm_M) (a3 : Int) (s0 : Int) : mm_ev mL_law 700 1512 [some (vR 110), some (vR 0), some (vR 47), some (vI a3)] [vL s0] h = if 0 ≤ (w32 (a3 + 1)) ∧ (w32 (a3 + 1)) < h 110 (-1) then if 0 ≤ (w32 (a3 + 2)) ∧ (w32 (a3 + 2)) < h 110 (-1) then (mm_call mX10_element [vR 47, vI (h 110 (w32 (a3 + 1))), vI (h 110 (w32 (a3 + 2)))] h).bind (fun w => mm_ev mL_law 700 1526 [some (vR 110), some (vR 0), some (vR 47), some (vI a3)] (w.1 ++ [vL s0]) w.2) else none else none := (ev_aload_n 1513 dL_law_1512 rfl rfl).trans ((ev_aload_n 1514 dL_law_1513 rfl rfl).trans ((ev_iload_n 1515 dL_law_1514 rfl rfl).trans ((ev_iconst 1516 (v := 1) dL_law_1515 rfl rfl).trans ((ev_iadd 1517 dL_law_1516 rfl).trans ((ev_ialdS 1518 dL_law_1517 rfl).trans (mm_ite ((ev_aload_n 1519 dL_law_1518 rfl rfl).trans ((ev_iload_n 1520 dL_law_1519 rfl rfl).trans ((ev_iconst 1521 (v := 2) dL_law_1520 rfl rfl).trans ((ev_iadd 1522 dL_law_1521 rfl).trans ((ev_ialdS 1523 dL_law_1522 rfl).trans (mm_ite ((ev_callv mX10_element [vR 47, vI (h 110 (w32 (a3 + 1))), vI (h 110 (w32 (a3 + 2)))] [vL s0] 1526 dL_law_1523 ml_12_187 k263 rfl oc47 ak47 rfl rfl (Nat.le_of_ble_eq_true rfl) (Nat.le_of_ble_eq_true rfl) rfl).trans (if_pos (show 4 < 700 from by decide))) (rfl))))))) (rfl)))))))
theorem L_law_1526 (h : mm_M) (a3 : Int) (s0 : Int) (s1 : Int) : mm_ev mL_law 700 1526 [some (vR 110), some (vR 0), some (vR 47), some (vI a3)] [vL s0, vL s1] h = if (lCmp s1 s0) = 0 then mm_ev mL_law 700 1651 [some (vR 110), some (vR 0), some (vR 47), some (vI a3)] [] h else some ([vI 0], h) := (ev_lcmp 1527 dL_law_1526 rfl).trans ((ev_if_eq 1651 1530 dL_law_1527 rfl rfl).trans (mm_ite (rfl) ((ev_iconst 1531 (v := 0) dL_law_1530 rfl rfl).trans (ev_zret0 dL_law_1531 rfl))))
theorem L_law_1532 (h : mm_M) (a3 : Int) : mm_ev mL_law 700 1532 [some (vR 110), some (vR 0), some (vR 47), some (vI a3)] [] h = if 0 ≤ (w32 (a3 + 1)) ∧ (w32 (a3 + 1)) < h 110 (-1) then if 0 ≤ (w32 (a3 + 2)) ∧ (w32 (a3 + 2)) < h 110 (-1) then if 0 ≤ (w32 (a3 + 3)) ∧ (w32 (a3 + 3)) < h 110 (-1) then if 0 ≤ (w32 (a3 + 4)) ∧ (w32 (a3 + 4)) < h 110 (-1) then if 0 ≤ (w32 (a3 + 5)) ∧ (w32 (a3 + 5)) < h 110 (-1) then (mm_call mX9_shift [vR 0, vI (h 110 (w32 (a3 + 1))), vI (h 110 (w32 (a3 + 2))), vI (h 110 (w32 (a3 + 3))), vI (h 110 (w32 (a3 + 4))), vI (h 110 (w32 (a3 + 5)))] h).bind (fun w => mm_ev mL_law 700 1561 [some (vR 110), some (vR 0), some (vR 47), some (vI a3)] (w.1 ++ []) w.2) else none else none else none else none else none := (ev_aload_n 1533 dL_law_1532 rfl rfl).trans ((ev_aload_n 1534 dL_law_1533 rfl rfl).trans ((ev_iload_n 1535 dL_law_1534 rfl rfl).trans ((ev_iconst 1536 (v := 1) dL_law_1535 rfl rfl).trans ((ev_iadd 1537 dL_law_1536 rfl).trans ((ev_ialdS 1538 dL_law_1537 rfl).trans (mm_ite ((ev_aload_n 1539 dL_law_1538 rfl rfl).trans ((ev_iload_n 1540 dL_law_1539 rfl rfl).trans ((ev_iconst 1541 (v := 2) dL_law_1540 rfl rfl).trans ((ev_iadd 1542 dL_law_1541 rfl).trans ((ev_ialdS 1543 dL_law_1542 rfl).trans (mm_ite ((ev_aload_n 1544 dL_law_1543 rfl rfl).trans ((ev_iload_n 1545 dL_law_1544 rfl rfl).trans ((ev_iconst 1546 (v := 3) dL_law_1545 rfl rfl).trans ((ev_iadd 1547 dL_law_1546 rfl).trans ((ev_ialdS 1548 dL_law_1547 rfl).trans (mm_ite ((ev_aload_n 1549 dL_law_1548 rfl rfl).trans ((ev_iload_n 1550 dL_law_1549 rfl rfl).trans ((ev_iconst 1551 (v := 4) dL_law_1550 rfl rfl).trans ((ev_iadd 1552 dL_law_1551 rfl).trans ((ev_ialdS 1553 dL_law_1552 rfl).trans (mm_ite ((ev_aload_n 1554 dL_law_1553 rfl rfl).trans ((ev_iload_n 1555 dL_law_1554 rfl rfl).trans ((ev_iconst 1556 (v := 5) dL_law_1555 rfl rfl).trans ((ev_iadd 1557 dL_law_1556 rfl).trans ((ev_ialdS 1558 dL_law_1557 rfl).trans (mm_ite ((ev_callv mX9_shift [vR 0, vI (h 110 (w32 (a3 + 1))), vI (h 110 (w32 (a3 + 2))), vI (h 110 (w32 (a3 + 3))), vI (h 110 (w32 (a3 + 4))), vI (h 110 (w32 (a3 + 5)))] [] 1561 dL_law_1558 ml_12_188 k128 rfl oc0 ak0 rfl rfl (Nat.le_of_ble_eq_true rfl) (Nat.le_of_ble_eq_true rfl) rfl).trans (if_pos (show 2 < 700 from by decide))) (rfl))))))) (rfl))))))) (rfl))))))) (rfl))))))) (rfl)))))))
theorem L_law_1561 (h : mm_M) (a3 : Int) (s0 : Int) : mm_ev mL_law 700 1561 [some (vR 110), some (vR 0), some (vR 47), some (vI a3)] [vI s0] h = if 0 ≤ (w32 (a3 + 1)) ∧ (w32 (a3 + 1)) < h 110 (-1) then if 0 ≤ (w32 (a3 + 2)) ∧ (w32 (a3 + 2)) < h 110 (-1) then if 0 ≤ (w32 (a3 + 3)) ∧ (w32 (a3 + 3)) < h 110 (-1) then if 0 ≤ (w32 (a3 + 4)) ∧ (w32 (a3 + 4)) < h 110 (-1) then if 0 ≤ (w32 (a3 + 5)) ∧ (w32 (a3 + 5)) < h 110 (-1) then (mm_call mX10_shift [vR 47, vI (h 110 (w32 (a3 + 1))), vI (h 110 (w32 (a3 + 2))), vI (h 110 (w32 (a3 + 3))), vI (h 110 (w32 (a3 + 4))), vI (h 110 (w32 (a3 + 5)))] h).bind (fun w => mm_ev mL_law 700 1590 [some (vR 110), some (vR 0), some (vR 47), some (vI a3)] (w.1 ++ [vI s0]) w.2) else none else none else none else none else none := (ev_aload_n 1562 dL_law_1561 rfl rfl).trans ((ev_aload_n 1563 dL_law_1562 rfl rfl).trans ((ev_iload_n 1564 dL_law_1563 rfl rfl).trans ((ev_iconst 1565 (v := 1) dL_law_1564 rfl rfl).trans ((ev_iadd 1566 dL_law_1565 rfl).trans ((ev_ialdS 1567 dL_law_1566 rfl).trans (mm_ite ((ev_aload_n 1568 dL_law_1567 rfl rfl).trans ((ev_iload_n 1569 dL_law_1568 rfl rfl).trans ((ev_iconst 1570 (v := 2) dL_law_1569 rfl rfl).trans ((ev_iadd 1571 dL_law_1570 rfl).trans ((ev_ialdS 1572 dL_law_1571 rfl).trans (mm_ite ((ev_aload_n 1573 dL_law_1572 rfl rfl).trans ((ev_iload_n 1574 dL_law_1573 rfl rfl).trans ((ev_iconst 1575 (v := 3) dL_law_1574 rfl rfl).trans ((ev_iadd 1576 dL_law_1575 rfl).trans ((ev_ialdS 1577 dL_law_1576 rfl).trans (mm_ite ((ev_aload_n 1578 dL_law_1577 rfl rfl).trans ((ev_iload_n 1579 dL_law_1578 rfl rfl).trans ((ev_iconst 1580 (v := 4) dL_law_1579 rfl rfl).trans ((ev_iadd 1581 dL_law_1580 rfl).trans ((ev_ialdS 1582 dL_law_1581 rfl).trans (mm_ite ((ev_aload_n 1583 dL_law_1582 rfl rfl).trans ((ev_iload_n 1584 dL_law_1583 rfl rfl).trans ((ev_iconst 1585 (v := 5) dL_law_1584 rfl rfl).trans ((ev_iadd 1586 dL_law_1585 rfl).trans ((ev_ialdS 1587 dL_law_1586 rfl).trans (mm_ite ((ev_callv mX10_shift [vR 47, vI (h 110 (w32 (a3 + 1))), vI (h 110 (w32 (a3 + 2))), vI (h 110 (w32 (a3 + 3))), vI (h 110 (w32 (a3 + 4))), vI (h 110 (w32 (a3 + 5)))] [vI s0] 1590 dL_law_1587 ml_12_192 k264 rfl oc47 ak47 rfl rfl (Nat.le_of_ble_eq_true rfl) (Nat.le_of_ble_eq_true rfl) rfl).trans (if_pos (show 3 < 700 from by decide))) (rfl))))))) (rfl))))))) (rfl))))))) (rfl))))))) (rfl)))))))
theorem L_law_1590 (h : mm_M) (a3 : Int) (s0 : Int) (s1 : Int) : mm_ev mL_law 700 1590 [some (vR 110), some (vR 0), some (vR 47), some (vI a3)] [vI s0, vI s1] h = if s1 = s0 then mm_ev mL_law 700 1651 [some (vR 110), some (vR 0), some (vR 47), some (vI a3)] [] h else some ([vI 0], h) := (ev_ic_eq 1651 1593 dL_law_1590 rfl rfl).trans (mm_ite (rfl) ((ev_iconst 1594 (v := 0) dL_law_1593 rfl rfl).trans (ev_zret0 dL_law_1594 rfl)))
theorem L_law_1595 (h : mm_M) (a3 : Int) : mm_ev mL_law 700 1595 [some (vR 110), some (vR 0), some (vR 47), some (vI a3)] [] h = if 0 ≤ (w32 (a3 + 1)) ∧ (w32 (a3 + 1)) < h 110 (-1) then if 0 ≤ (w32 (a3 + 2)) ∧ (w32 (a3 + 2)) < h 110 (-1) then (mm_call mX9_taken [vR 0, vI (h 110 (w32 (a3 + 1))), vI (h 110 (w32 (a3 + 2)))] h).bind (fun w => mm_ev mL_law 700 1609 [some (vR 110), some (vR 0), some (vR 47), some (vI a3)] (w.1 ++ []) w.2) else none else none := (ev_aload_n 1596 dL_law_1595 rfl rfl).trans ((ev_aload_n 1597 dL_law_1596 rfl rfl).trans ((ev_iload_n 1598 dL_law_1597 rfl rfl).trans ((ev_iconst 1599 (v := 1) dL_law_1598 rfl rfl).trans ((ev_iadd 1600 dL_law_1599 rfl).trans ((ev_ialdS 1601 dL_law_1600 rfl).trans (mm_ite ((ev_aload_n 1602 dL_law_1601 rfl rfl).trans ((ev_iload_n 1603 dL_law_1602 rfl rfl).trans ((ev_iconst 1604 (v := 2) dL_law_1603 rfl rfl).trans ((ev_iadd 1605 dL_law_1604 rfl).trans ((ev_ialdS 1606 dL_law_1605 rfl).trans (mm_ite ((ev_callv mX9_taken [vR 0, vI (h 110 (w32 (a3 + 1))), vI (h 110 (w32 (a3 + 2)))] [] 1609 dL_law_1606 ml_12_193 k129 rfl oc0 ak0 rfl rfl (Nat.le_of_ble_eq_true rfl) (Nat.le_of_ble_eq_true rfl) rfl).trans (if_pos (show 2 < 700 from by decide))) (rfl))))))) (rfl)))))))
theorem L_law_1609 (h : mm_M) (a3 : Int) (s0 : Int) : mm_ev mL_law 700 1609 [some (vR 110), some (vR 0), some (vR 47), some (vI a3)] [vI s0] h = if 0 ≤ (w32 (a3 + 1)) ∧ (w32 (a3 + 1)) < h 110 (-1) then if 0 ≤ (w32 (a3 + 2)) ∧ (w32 (a3 + 2)) < h 110 (-1) then (mm_call mX10_taken [vR 47, vI (h 110 (w32 (a3 + 1))), vI (h 110 (w32 (a3 + 2)))] h).bind (fun w => mm_ev mL_law 700 1623 [some (vR 110), some (vR 0), some (vR 47), some (vI a3)] (w.1 ++ [vI s0]) w.2) else none else none := (ev_aload_n 1610 dL_law_1609 rfl rfl).trans ((ev_aload_n 1611 dL_law_1610 rfl rfl).trans ((ev_iload_n 1612 dL_law_1611 rfl rfl).trans ((ev_iconst 1613 (v := 1) dL_law_1612 rfl rfl).trans ((ev_iadd 1614 dL_law_1613 rfl).trans ((ev_ialdS 1615 dL_law_1614 rfl).trans (mm_ite ((ev_aload_n 1616 dL_law_1615 rfl rfl).trans ((ev_iload_n 1617 dL_law_1616 rfl rfl).trans ((ev_iconst 1618 (v := 2) dL_law_1617 rfl rfl).trans ((ev_iadd 1619 dL_law_1618 rfl).trans ((ev_ialdS 1620 dL_law_1619 rfl).trans (mm_ite ((ev_callv mX10_taken [vR 47, vI (h 110 (w32 (a3 + 1))), vI (h 110 (w32 (a3 + 2)))] [vI s0] 1623 dL_law_1620 ml_12_196 k265 rfl oc47 ak47 rfl rfl (Nat.le_of_ble_eq_true rfl) (Nat.le_of_ble_eq_true rfl) rfl).trans (if_pos (show 3 < 700 from by decide))) (rfl))))))) (rfl)))))))
theorem L_law_1623 (h : mm_M) (a3 : Int) (s0 : Int) (s1 : Int) : mm_ev mL_law 700 1623 [some (vR 110), some (vR 0), some (vR 47), some (vI a3)] [vI s0, vI s1] h = if s1 = s0 then mm_ev mL_law 700 1651 [some (vR 110), some (vR 0), some (vR 47), some (vI a3)] [] h else some ([vI 0], h) := (ev_ic_eq 1651 1626 dL_law_1623 rfl rfl).trans (mm_ite (rfl) ((ev_iconst 1627 (v := 0) dL_law_1626 rfl rfl).trans (ev_zret0 dL_law_1627 rfl)))
theorem L_law_1628 (h : mm_M) (a3 : Int) : mm_ev mL_law 700 1628 [some (vR 110), some (vR 0), some (vR 47), some (vI a3)] [] h = if 0 ≤ (w32 (a3 + 1)) ∧ (w32 (a3 + 1)) < h 110 (-1) then (mm_call mX9_count [vR 0, vI (h 110 (w32 (a3 + 1)))] h).bind (fun w => mm_ev mL_law 700 1637 [some (vR 110), some (vR 0), some (vR 47), some (vI a3)] (w.1 ++ []) w.2) else none := (ev_aload_n 1629 dL_law_1628 rfl rfl).trans ((ev_aload_n 1630 dL_law_1629 rfl rfl).trans ((ev_iload_n 1631 dL_law_1630 rfl rfl).trans ((ev_iconst 1632 (v := 1) dL_law_1631 rfl rfl).trans ((ev_iadd 1633 dL_law_1632 rfl).trans ((ev_ialdS 1634 dL_law_1633 rfl).trans (mm_ite ((ev_callv mX9_count [vR 0, vI (h 110 (w32 (a3 + 1)))] [] 1637 dL_law_1634 ml_12_197 k130 rfl oc0 ak0 rfl rfl (Nat.le_of_ble_eq_true rfl) (Nat.le_of_ble_eq_true rfl) rfl).trans (if_pos (show 1 < 700 from by decide))) (rfl)))))))
theorem L_law_1637 (h : mm_M) (a3 : Int) (s0 : Int) : mm_ev mL_law 700 1637 [some (vR 110), some (vR 0), some (vR 47), some (vI a3)] [vI s0] h = if 0 ≤ (w32 (a3 + 1)) ∧ (w32 (a3 + 1)) < h 110 (-1) then (mm_call mX10_count [vR 47, vI (h 110 (w32 (a3 + 1)))] h).bind (fun w => mm_ev mL_law 700 1646 [some (vR 110), some (vR 0), some (vR 47), some (vI a3)] (w.1 ++ [vI s0]) w.2) else none := (ev_aload_n 1638 dL_law_1637 rfl rfl).trans ((ev_aload_n 1639 dL_law_1638 rfl rfl).trans ((ev_iload_n 1640 dL_law_1639 rfl rfl).trans ((ev_iconst 1641 (v := 1) dL_law_1640 rfl rfl).trans ((ev_iadd 1642 dL_law_1641 rfl).trans ((ev_ialdS 1643 dL_law_1642 rfl).trans (mm_ite ((ev_callv mX10_count [vR 47, vI (h 110 (w32 (a3 + 1)))] [vI s0] 1646 dL_law_1643 ml_12_200 k257 rfl oc47 ak47 rfl rfl (Nat.le_of_ble_eq_true rfl) (Nat.le_of_ble_eq_true rfl) rfl).trans (if_pos (show 1 < 700 from by decide))) (rfl)))))))
theorem L_law_1646 (h : mm_M) (a3 : Int) (s0 : Int) (s1 : Int) : mm_ev mL_law 700 1646 [some (vR 110), some (vR 0), some (vR 47), some (vI a3)] [vI s0, vI s1] h = if s1 = s0 then mm_ev mL_law 700 1651 [some (vR 110), some (vR 0), some (vR 47), some (vI a3)] [] h else some ([vI 0], h) := (ev_ic_eq 1651 1649 dL_law_1646 rfl rfl).trans (mm_ite (rfl) ((ev_iconst 1650 (v := 0) dL_law_1649 rfl rfl).trans (ev_zret0 dL_law_1650 rfl)))
theorem L_law_1651 (h : mm_M) (a3 : Int) : mm_ev mL_law 700 1651 [some (vR 110), some (vR 0), some (vR 47), some (vI a3)] [] h = mm_ev mL_law 700 18 [some (vR 110), some (vR 0), some (vR 47), some (vI (w32 (a3 + 6)))] [] h := (ev_iinc 1654 [some (vR 110), some (vR 0), some (vR 47), some (vI (w32 (a3 + 6)))] dL_law_1651 rfl rfl rfl).trans (ev_goto 18 dL_law_1654 rfl)
