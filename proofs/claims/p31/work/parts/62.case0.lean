theorem dL_law_192 : decode cL_law 192 = .ok (.aload_n 1, 1) := by decide +kernel
theorem dL_law_193 : decode cL_law 193 = .ok (.aload_n 0, 1) := by decide +kernel
theorem dL_law_194 : decode cL_law 194 = .ok (.iload_n 3, 1) := by decide +kernel
theorem dL_law_195 : decode cL_law 195 = .ok (.iconst 1, 1) := by decide +kernel
theorem dL_law_196 : decode cL_law 196 = .ok (.iadd, 1) := by decide +kernel
theorem dL_law_197 : decode cL_law 197 = .ok (.iaload, 1) := by decide +kernel
theorem dL_law_198 : decode cL_law 198 = .ok (.aload_n 0, 1) := by decide +kernel
theorem dL_law_199 : decode cL_law 199 = .ok (.iload_n 3, 1) := by decide +kernel
theorem dL_law_200 : decode cL_law 200 = .ok (.iconst 2, 1) := by decide +kernel
theorem dL_law_201 : decode cL_law 201 = .ok (.iadd, 1) := by decide +kernel
theorem dL_law_202 : decode cL_law 202 = .ok (.iaload, 1) := by decide +kernel
theorem dL_law_203 : decode cL_law 203 = .ok (.aload_n 0, 1) := by decide +kernel
theorem dL_law_204 : decode cL_law 204 = .ok (.iload_n 3, 1) := by decide +kernel
theorem dL_law_205 : decode cL_law 205 = .ok (.iconst 3, 1) := by decide +kernel
theorem dL_law_206 : decode cL_law 206 = .ok (.iadd, 1) := by decide +kernel
theorem dL_law_207 : decode cL_law 207 = .ok (.iaload, 1) := by decide +kernel
theorem dL_law_208 : decode cL_law 208 = .ok (.aload_n 0, 1) := by decide +kernel
theorem dL_law_209 : decode cL_law 209 = .ok (.iload_n 3, 1) := by decide +kernel
theorem dL_law_210 : decode cL_law 210 = .ok (.iconst 4, 1) := by decide +kernel
theorem dL_law_211 : decode cL_law 211 = .ok (.iadd, 1) := by decide +kernel
theorem dL_law_212 : decode cL_law 212 = .ok (.iaload, 1) := by decide +kernel
theorem dL_law_213 : decode cL_law 213 = .ok (.aload_n 0, 1) := by decide +kernel
theorem dL_law_214 : decode cL_law 214 = .ok (.iload_n 3, 1) := by decide +kernel
theorem dL_law_215 : decode cL_law 215 = .ok (.iconst 5, 1) := by decide +kernel
theorem dL_law_216 : decode cL_law 216 = .ok (.iadd, 1) := by decide +kernel
theorem dL_law_217 : decode cL_law 217 = .ok (.iaload, 1) := by decide +kernel
theorem dL_law_218 : decode cL_law 218 = .ok (.invokevirtual 13, 3) := by decide +kernel
theorem dL_law_221 : decode cL_law 221 = .ok (.pop, 1) := by decide +kernel
theorem dL_law_222 : decode cL_law 222 = .ok (.aload_n 2, 1) := by decide +kernel
theorem dL_law_223 : decode cL_law 223 = .ok (.aload_n 0, 1) := by decide +kernel
theorem dL_law_224 : decode cL_law 224 = .ok (.iload_n 3, 1) := by decide +kernel
theorem dL_law_225 : decode cL_law 225 = .ok (.iconst 1, 1) := by decide +kernel
theorem dL_law_226 : decode cL_law 226 = .ok (.iadd, 1) := by decide +kernel
theorem dL_law_227 : decode cL_law 227 = .ok (.iaload, 1) := by decide +kernel
theorem dL_law_228 : decode cL_law 228 = .ok (.aload_n 0, 1) := by decide +kernel
theorem dL_law_229 : decode cL_law 229 = .ok (.iload_n 3, 1) := by decide +kernel
theorem dL_law_230 : decode cL_law 230 = .ok (.iconst 2, 1) := by decide +kernel
theorem dL_law_231 : decode cL_law 231 = .ok (.iadd, 1) := by decide +kernel
theorem dL_law_232 : decode cL_law 232 = .ok (.iaload, 1) := by decide +kernel
theorem dL_law_233 : decode cL_law 233 = .ok (.aload_n 0, 1) := by decide +kernel
theorem dL_law_234 : decode cL_law 234 = .ok (.iload_n 3, 1) := by decide +kernel
theorem dL_law_235 : decode cL_law 235 = .ok (.iconst 3, 1) := by decide +kernel
theorem dL_law_236 : decode cL_law 236 = .ok (.iadd, 1) := by decide +kernel
theorem dL_law_237 : decode cL_law 237 = .ok (.iaload, 1) := by decide +kernel
theorem dL_law_238 : decode cL_law 238 = .ok (.aload_n 0, 1) := by decide +kernel
theorem dL_law_239 : decode cL_law 239 = .ok (.iload_n 3, 1) := by decide +kernel
theorem dL_law_240 : decode cL_law 240 = .ok (.iconst 4, 1) := by decide +kernel
theorem dL_law_241 : decode cL_law 241 = .ok (.iadd, 1) := by decide +kernel
theorem dL_law_242 : decode cL_law 242 = .ok (.iaload, 1) := by decide +kernel
theorem dL_law_243 : decode cL_law 243 = .ok (.aload_n 0, 1) := by decide +kernel
theorem dL_law_244 : decode cL_law 244 = .ok (.iload_n 3, 1) := by decide +kernel
theorem dL_law_245 : decode cL_law 245 = .ok (.iconst 5, 1) := by decide +kernel
theorem dL_law_246 : decode cL_law 246 = .ok (.iadd, 1) := by decide +kernel
theorem dL_law_247 : decode cL_law 247 = .ok (.iaload, 1) := by decide +kernel
theorem dL_law_248 : decode cL_law 248 = .ok (.invokevirtual 17, 3) := by decide +kernel
theorem dL_law_251 : decode cL_law 251 = .ok (.pop, 1) := by decide +kernel
theorem dL_law_252 : decode cL_law 252 = .ok (.goto 804, 3) := by decide +kernel
theorem dL_law_255 : decode cL_law 255 = .ok (.aload_n 1, 1) := by decide +kernel
theorem dL_law_256 : decode cL_law 256 = .ok (.aload_n 0, 1) := by decide +kernel
theorem dL_law_257 : decode cL_law 257 = .ok (.iload_n 3, 1) := by decide +kernel
theorem dL_law_258 : decode cL_law 258 = .ok (.iconst 1, 1) := by decide +kernel
theorem dL_law_259 : decode cL_law 259 = .ok (.iadd, 1) := by decide +kernel
theorem dL_law_260 : decode cL_law 260 = .ok (.iaload, 1) := by decide +kernel
theorem dL_law_261 : decode cL_law 261 = .ok (.invokevirtual 18, 3) := by decide +kernel
theorem dL_law_264 : decode cL_law 264 = .ok (.pop, 1) := by decide +kernel
theorem dL_law_265 : decode cL_law 265 = .ok (.aload_n 2, 1) := by decide +kernel
theorem dL_law_266 : decode cL_law 266 = .ok (.aload_n 0, 1) := by decide +kernel
theorem dL_law_267 : decode cL_law 267 = .ok (.iload_n 3, 1) := by decide +kernel
theorem dL_law_268 : decode cL_law 268 = .ok (.iconst 1, 1) := by decide +kernel
theorem dL_law_269 : decode cL_law 269 = .ok (.iadd, 1) := by decide +kernel
theorem dL_law_270 : decode cL_law 270 = .ok (.iaload, 1) := by decide +kernel
theorem dL_law_271 : decode cL_law 271 = .ok (.invokevirtual 22, 3) := by decide +kernel
theorem dL_law_274 : decode cL_law 274 = .ok (.pop, 1) := by decide +kernel
theorem dL_law_275 : decode cL_law 275 = .ok (.goto 781, 3) := by decide +kernel
theorem dL_law_278 : decode cL_law 278 = .ok (.aload_n 1, 1) := by decide +kernel
theorem dL_law_279 : decode cL_law 279 = .ok (.invokevirtual 23, 3) := by decide +kernel
theorem dL_law_282 : decode cL_law 282 = .ok (.pop, 1) := by decide +kernel
theorem dL_law_283 : decode cL_law 283 = .ok (.aload_n 2, 1) := by decide +kernel
theorem dL_law_284 : decode cL_law 284 = .ok (.invokevirtual 27, 3) := by decide +kernel
theorem dL_law_287 : decode cL_law 287 = .ok (.pop, 1) := by decide +kernel
theorem dL_law_288 : decode cL_law 288 = .ok (.goto 768, 3) := by decide +kernel
theorem dL_law_291 : decode cL_law 291 = .ok (.aload_n 1, 1) := by decide +kernel
theorem dL_law_292 : decode cL_law 292 = .ok (.aload_n 0, 1) := by decide +kernel
theorem dL_law_293 : decode cL_law 293 = .ok (.iload_n 3, 1) := by decide +kernel
theorem dL_law_294 : decode cL_law 294 = .ok (.iconst 1, 1) := by decide +kernel
theorem dL_law_295 : decode cL_law 295 = .ok (.iadd, 1) := by decide +kernel
theorem dL_law_296 : decode cL_law 296 = .ok (.iaload, 1) := by decide +kernel
theorem dL_law_297 : decode cL_law 297 = .ok (.invokevirtual 28, 3) := by decide +kernel
theorem dL_law_300 : decode cL_law 300 = .ok (.pop, 1) := by decide +kernel
theorem dL_law_301 : decode cL_law 301 = .ok (.aload_n 2, 1) := by decide +kernel
theorem dL_law_302 : decode cL_law 302 = .ok (.aload_n 0, 1) := by decide +kernel
theorem dL_law_303 : decode cL_law 303 = .ok (.iload_n 3, 1) := by decide +kernel
theorem dL_law_304 : decode cL_law 304 = .ok (.iconst 1, 1) := by decide +kernel
theorem dL_law_305 : decode cL_law 305 = .ok (.iadd, 1) := by decide +kernel
theorem dL_law_306 : decode cL_law 306 = .ok (.iaload, 1) := by decide +kernel
theorem dL_law_307 : decode cL_law 307 = .ok (.invokevirtual 31, 3) := by decide +kernel
theorem dL_law_310 : decode cL_law 310 = .ok (.pop, 1) := by decide +kernel
theorem dL_law_311 : decode cL_law 311 = .ok (.goto 745, 3) := by decide +kernel
theorem dL_law_314 : decode cL_law 314 = .ok (.aload_n 1, 1) := by decide +kernel
theorem dL_law_315 : decode cL_law 315 = .ok (.aload_n 0, 1) := by decide +kernel
theorem dL_law_316 : decode cL_law 316 = .ok (.iload_n 3, 1) := by decide +kernel
theorem dL_law_317 : decode cL_law 317 = .ok (.iconst 1, 1) := by decide +kernel
theorem dL_law_318 : decode cL_law 318 = .ok (.iadd, 1) := by decide +kernel
theorem dL_law_319 : decode cL_law 319 = .ok (.iaload, 1) := by decide +kernel
theorem dL_law_320 : decode cL_law 320 = .ok (.invokevirtual 32, 3) := by decide +kernel
theorem dL_law_323 : decode cL_law 323 = .ok (.pop, 1) := by decide +kernel
theorem dL_law_324 : decode cL_law 324 = .ok (.aload_n 2, 1) := by decide +kernel
theorem dL_law_325 : decode cL_law 325 = .ok (.aload_n 0, 1) := by decide +kernel
theorem dL_law_326 : decode cL_law 326 = .ok (.iload_n 3, 1) := by decide +kernel
theorem dL_law_327 : decode cL_law 327 = .ok (.iconst 1, 1) := by decide +kernel
theorem dL_law_328 : decode cL_law 328 = .ok (.iadd, 1) := by decide +kernel
theorem dL_law_329 : decode cL_law 329 = .ok (.iaload, 1) := by decide +kernel
theorem dL_law_330 : decode cL_law 330 = .ok (.invokevirtual 35, 3) := by decide +kernel
theorem dL_law_333 : decode cL_law 333 = .ok (.pop, 1) := by decide +kernel
theorem dL_law_334 : decode cL_law 334 = .ok (.goto 722, 3) := by decide +kernel
theorem dL_law_337 : decode cL_law 337 = .ok (.aload_n 1, 1) := by decide +kernel
theorem dL_law_338 : decode cL_law 338 = .ok (.invokevirtual 36, 3) := by decide +kernel
theorem dL_law_341 : decode cL_law 341 = .ok (.pop, 1) := by decide +kernel
theorem dL_law_342 : decode cL_law 342 = .ok (.aload_n 2, 1) := by decide +kernel
theorem dL_law_343 : decode cL_law 343 = .ok (.invokevirtual 39, 3) := by decide +kernel
theorem dL_law_346 : decode cL_law 346 = .ok (.pop, 1) := by decide +kernel
theorem dL_law_347 : decode cL_law 347 = .ok (.goto 709, 3) := by decide +kernel
theorem dL_law_350 : decode cL_law 350 = .ok (.aload_n 1, 1) := by decide +kernel
theorem dL_law_351 : decode cL_law 351 = .ok (.aload_n 0, 1) := by decide +kernel
theorem dL_law_352 : decode cL_law 352 = .ok (.iload_n 3, 1) := by decide +kernel
theorem dL_law_353 : decode cL_law 353 = .ok (.iconst 1, 1) := by decide +kernel
theorem dL_law_354 : decode cL_law 354 = .ok (.iadd, 1) := by decide +kernel
theorem dL_law_355 : decode cL_law 355 = .ok (.iaload, 1) := by decide +kernel
theorem dL_law_356 : decode cL_law 356 = .ok (.invokevirtual 40, 3) := by decide +kernel
theorem dL_law_359 : decode cL_law 359 = .ok (.pop, 1) := by decide +kernel
theorem dL_law_360 : decode cL_law 360 = .ok (.aload_n 2, 1) := by decide +kernel
theorem dL_law_361 : decode cL_law 361 = .ok (.aload_n 0, 1) := by decide +kernel
theorem dL_law_362 : decode cL_law 362 = .ok (.iload_n 3, 1) := by decide +kernel
theorem dL_law_363 : decode cL_law 363 = .ok (.iconst 1, 1) := by decide +kernel
theorem dL_law_364 : decode cL_law 364 = .ok (.iadd, 1) := by decide +kernel
theorem dL_law_365 : decode cL_law 365 = .ok (.iaload, 1) := by decide +kernel
theorem dL_law_366 : decode cL_law 366 = .ok (.invokevirtual 43, 3) := by decide +kernel
theorem dL_law_369 : decode cL_law 369 = .ok (.pop, 1) := by decide +kernel
theorem dL_law_370 : decode cL_law 370 = .ok (.goto 686, 3) := by decide +kernel
theorem dL_law_373 : decode cL_law 373 = .ok (.aload_n 1, 1) := by decide +kernel
theorem dL_law_374 : decode cL_law 374 = .ok (.invokevirtual 44, 3) := by decide +kernel
theorem dL_law_377 : decode cL_law 377 = .ok (.pop, 1) := by decide +kernel
theorem dL_law_378 : decode cL_law 378 = .ok (.aload_n 2, 1) := by decide +kernel
theorem dL_law_379 : decode cL_law 379 = .ok (.invokevirtual 47, 3) := by decide +kernel
theorem dL_law_382 : decode cL_law 382 = .ok (.pop, 1) := by decide +kernel
theorem dL_law_383 : decode cL_law 383 = .ok (.goto 673, 3) := by decide +kernel
theorem dL_law_386 : decode cL_law 386 = .ok (.aload_n 1, 1) := by decide +kernel
theorem dL_law_387 : decode cL_law 387 = .ok (.aload_n 0, 1) := by decide +kernel
theorem dL_law_388 : decode cL_law 388 = .ok (.iload_n 3, 1) := by decide +kernel
theorem dL_law_389 : decode cL_law 389 = .ok (.iconst 1, 1) := by decide +kernel
theorem dL_law_390 : decode cL_law 390 = .ok (.iadd, 1) := by decide +kernel
theorem dL_law_391 : decode cL_law 391 = .ok (.iaload, 1) := by decide +kernel
theorem dL_law_392 : decode cL_law 392 = .ok (.aload_n 0, 1) := by decide +kernel
theorem dL_law_393 : decode cL_law 393 = .ok (.iload_n 3, 1) := by decide +kernel
theorem dL_law_394 : decode cL_law 394 = .ok (.iconst 2, 1) := by decide +kernel
theorem dL_law_395 : decode cL_law 395 = .ok (.iadd, 1) := by decide +kernel
theorem dL_law_396 : decode cL_law 396 = .ok (.iaload, 1) := by decide +kernel
theorem dL_law_397 : decode cL_law 397 = .ok (.invokevirtual 48, 3) := by decide +kernel
theorem dL_law_400 : decode cL_law 400 = .ok (.pop, 1) := by decide +kernel
theorem dL_law_401 : decode cL_law 401 = .ok (.aload_n 2, 1) := by decide +kernel
theorem dL_law_402 : decode cL_law 402 = .ok (.aload_n 0, 1) := by decide +kernel
theorem dL_law_403 : decode cL_law 403 = .ok (.iload_n 3, 1) := by decide +kernel
theorem dL_law_404 : decode cL_law 404 = .ok (.iconst 1, 1) := by decide +kernel
theorem dL_law_405 : decode cL_law 405 = .ok (.iadd, 1) := by decide +kernel
theorem dL_law_406 : decode cL_law 406 = .ok (.iaload, 1) := by decide +kernel
theorem dL_law_407 : decode cL_law 407 = .ok (.aload_n 0, 1) := by decide +kernel
theorem dL_law_408 : decode cL_law 408 = .ok (.iload_n 3, 1) := by decide +kernel
theorem dL_law_409 : decode cL_law 409 = .ok (.iconst 2, 1) := by decide +kernel
theorem dL_law_410 : decode cL_law 410 = .ok (.iadd, 1) := by decide +kernel
theorem dL_law_411 : decode cL_law 411 = .ok (.iaload, 1) := by decide +kernel
theorem dL_law_412 : decode cL_law 412 = .ok (.invokevirtual 52, 3) := by decide +kernel
theorem dL_law_415 : decode cL_law 415 = .ok (.pop, 1) := by decide +kernel
theorem dL_law_416 : decode cL_law 416 = .ok (.goto 640, 3) := by decide +kernel
theorem dL_law_419 : decode cL_law 419 = .ok (.aload_n 1, 1) := by decide +kernel
theorem dL_law_420 : decode cL_law 420 = .ok (.aload_n 0, 1) := by decide +kernel
theorem dL_law_421 : decode cL_law 421 = .ok (.iload_n 3, 1) := by decide +kernel
theorem dL_law_422 : decode cL_law 422 = .ok (.iconst 1, 1) := by decide +kernel
theorem dL_law_423 : decode cL_law 423 = .ok (.iadd, 1) := by decide +kernel
theorem dL_law_424 : decode cL_law 424 = .ok (.iaload, 1) := by decide +kernel
theorem dL_law_425 : decode cL_law 425 = .ok (.aload_n 0, 1) := by decide +kernel
theorem dL_law_426 : decode cL_law 426 = .ok (.iload_n 3, 1) := by decide +kernel
theorem dL_law_427 : decode cL_law 427 = .ok (.iconst 2, 1) := by decide +kernel
theorem dL_law_428 : decode cL_law 428 = .ok (.iadd, 1) := by decide +kernel
theorem dL_law_429 : decode cL_law 429 = .ok (.iaload, 1) := by decide +kernel
theorem dL_law_430 : decode cL_law 430 = .ok (.invokevirtual 53, 3) := by decide +kernel
theorem dL_law_433 : decode cL_law 433 = .ok (.pop, 1) := by decide +kernel
theorem dL_law_434 : decode cL_law 434 = .ok (.aload_n 2, 1) := by decide +kernel
theorem dL_law_435 : decode cL_law 435 = .ok (.aload_n 0, 1) := by decide +kernel
theorem dL_law_436 : decode cL_law 436 = .ok (.iload_n 3, 1) := by decide +kernel
theorem dL_law_437 : decode cL_law 437 = .ok (.iconst 1, 1) := by decide +kernel
theorem dL_law_438 : decode cL_law 438 = .ok (.iadd, 1) := by decide +kernel
theorem dL_law_439 : decode cL_law 439 = .ok (.iaload, 1) := by decide +kernel
theorem dL_law_440 : decode cL_law 440 = .ok (.aload_n 0, 1) := by decide +kernel
theorem dL_law_441 : decode cL_law 441 = .ok (.iload_n 3, 1) := by decide +kernel
theorem dL_law_442 : decode cL_law 442 = .ok (.iconst 2, 1) := by decide +kernel
theorem dL_law_443 : decode cL_law 443 = .ok (.iadd, 1) := by decide +kernel
theorem dL_law_444 : decode cL_law 444 = .ok (.iaload, 1) := by decide +kernel
theorem dL_law_445 : decode cL_law 445 = .ok (.invokevirtual 56, 3) := by decide +kernel
theorem dL_law_448 : decode cL_law 448 = .ok (.pop, 1) := by decide +kernel
theorem dL_law_449 : decode cL_law 449 = .ok (.goto 607, 3) := by decide +kernel
theorem dL_law_452 : decode cL_law 452 = .ok (.aload_n 1, 1) := by decide +kernel
theorem dL_law_453 : decode cL_law 453 = .ok (.aload_n 0, 1) := by decide +kernel
theorem dL_law_454 : decode cL_law 454 = .ok (.iload_n 3, 1) := by decide +kernel
theorem dL_law_455 : decode cL_law 455 = .ok (.iconst 1, 1) := by decide +kernel
theorem dL_law_456 : decode cL_law 456 = .ok (.iadd, 1) := by decide +kernel
theorem dL_law_457 : decode cL_law 457 = .ok (.iaload, 1) := by decide +kernel
theorem dL_law_458 : decode cL_law 458 = .ok (.ifCond .eq 7, 3) := by decide +kernel
theorem dL_law_461 : decode cL_law 461 = .ok (.iconst 1, 1) := by decide +kernel
theorem dL_law_462 : decode cL_law 462 = .ok (.goto 4, 3) := by decide +kernel
theorem dL_law_465 : decode cL_law 465 = .ok (.iconst 0, 1) := by decide +kernel
theorem dL_law_466 : decode cL_law 466 = .ok (.invokevirtual 57, 3) := by decide +kernel
theorem dL_law_469 : decode cL_law 469 = .ok (.pop, 1) := by decide +kernel
theorem dL_law_470 : decode cL_law 470 = .ok (.aload_n 2, 1) := by decide +kernel
theorem dL_law_471 : decode cL_law 471 = .ok (.aload_n 0, 1) := by decide +kernel
theorem dL_law_472 : decode cL_law 472 = .ok (.iload_n 3, 1) := by decide +kernel
theorem dL_law_473 : decode cL_law 473 = .ok (.iconst 1, 1) := by decide +kernel
theorem dL_law_474 : decode cL_law 474 = .ok (.iadd, 1) := by decide +kernel
theorem dL_law_475 : decode cL_law 475 = .ok (.iaload, 1) := by decide +kernel
theorem dL_law_476 : decode cL_law 476 = .ok (.ifCond .eq 7, 3) := by decide +kernel
theorem dL_law_479 : decode cL_law 479 = .ok (.iconst 1, 1) := by decide +kernel
theorem dL_law_480 : decode cL_law 480 = .ok (.goto 4, 3) := by decide +kernel
theorem dL_law_483 : decode cL_law 483 = .ok (.iconst 0, 1) := by decide +kernel
theorem dL_law_484 : decode cL_law 484 = .ok (.invokevirtual 61, 3) := by decide +kernel
theorem dL_law_487 : decode cL_law 487 = .ok (.pop, 1) := by decide +kernel
theorem dL_law_488 : decode cL_law 488 = .ok (.goto 568, 3) := by decide +kernel
theorem dL_law_491 : decode cL_law 491 = .ok (.aload_n 1, 1) := by decide +kernel
theorem dL_law_492 : decode cL_law 492 = .ok (.invokevirtual 62, 3) := by decide +kernel
theorem dL_law_495 : decode cL_law 495 = .ok (.pop, 1) := by decide +kernel
theorem dL_law_496 : decode cL_law 496 = .ok (.aload_n 2, 1) := by decide +kernel
theorem dL_law_497 : decode cL_law 497 = .ok (.invokevirtual 65, 3) := by decide +kernel
theorem dL_law_500 : decode cL_law 500 = .ok (.pop, 1) := by decide +kernel
theorem dL_law_501 : decode cL_law 501 = .ok (.goto 555, 3) := by decide +kernel
theorem dL_law_1056 : decode cL_law 1056 = .ok (.iinc 3 6, 3) := by decide +kernel
theorem dL_law_1059 : decode cL_law 1059 = .ok (.goto (-1041), 3) := by decide +kernel
set_option maxRecDepth 100000 in
def LI (cB cI cJ cS cZ cO : ClassId) (D : va_G) (s : State) (A : Nat → Prop) (b o mo L : Nat) (n cl sl : Nat) (H : Heap) (locs : List Jvm.Loc) (ls : Array Slot) : Prop := ∃ (i : Nat) (wc wm : va_W) (tm : Int32) (ph : Nat), n = L - i ∧ okC cB cI cJ cS cZ cO o tm ph wc ∧ okM cB cI cJ cS cZ cO mo tm wm ∧ va_P D vwCl (wc ++ wm) H ∧ va_D A (wc ++ wm) ∧ va_S A s.heap H locs ∧ lv_has ls 4 [(0, .ref b), (1, .ref o), (2, .ref mo), (3, .int (nI i))] ∧ i ≤ L + 6 ∧ cl ≤ 1000 + i ∧ sl ≤ 1000000 + 2 * ph
set_option maxHeartbeats 4000000 in
set_option maxRecDepth 100000 in
theorem lc_none {p : Program} {l : Launch} {e : Env} {s : State} {m : MethodId} {below : List Frame} {meth : Method} {c : Code} {b L : Nat} {xs : Nat → Int32} {D : va_G} {cB cI cJ cS cZ cO : ClassId} {A : Nat → Prop} {adK adV : Nat → Nat} {o mo i ph cl sl : Nat} {tm : Int32} {wc wm : va_W} {H : Heap} {locs : List Jvm.Loc} {ls : Array Slot} (C0 : lw_At p s m meth c b L xs) (hL : L ≤ 3072) (hi6 : i + 6 ≤ L) (hK : va_K D vwCl (tyL cB cI cJ cS cZ cO) s) (hN : nwA s) (hE : strE adK adV A s s.heap) (hR : strR adK s) (hA : ∀ q : Nat, s.heap.size ≤ q → A q) (hAf : ∀ q : Nat, A q → s.heap.size ≤ q) (hC : okC cB cI cJ cS cZ cO o tm ph wc) (hM : okM cB cI cJ cS cZ cO mo tm wm) (hP : va_P D vwCl (wc ++ wm) H) (hD : va_D A (wc ++ wm)) (hS : va_S A s.heap H locs) (hl : lv_has ls 4 [(0, .ref b), (1, .ref o), (2, .ref mo), (3, .int (nI i))]) (hcl : cl ≤ 1000 + i) (hsl : sl ≤ 1000000 + 2 * ph) (kk : ∀ (cl2 sl2 : Nat) (H2 : Heap) (locs2 : List Jvm.Loc) (ls2 : Array Slot), LI cB cI cJ cS cZ cO D s A b o mo L (L - (i + 6)) cl2 sl2 H2 locs2 ls2 → W p l e room_1 s m #[Value.ref b] below meth c H2 locs2 cl2 sl2 (lw_Z below #[Value.ref b] s) (F0 m 18 ls2 [])) : W p l e room_1 s m #[Value.ref b] below meth c H locs cl sl (lw_Z below #[Value.ref b] s) (F0 m 1056 ls []) := by
  obtain ⟨hx, hb, hr, hml, hown, hts0, hX, hbl, hlocks, hgv⟩ := id C0
  have hts := fun w h => hts0 w (wsL_law_in w h)
  have hbA : ¬ A b := fun h => absurd (hAf b h) (Nat.not_le.mpr hbl)
  refine lv_iinc (v := nI (i + 6)) (lv' := [(3, .int (nI (i + 6))), (0, .ref b), (1, .ref o), (2, .ref mo)]) hx hb dL_law_1056 hl (k := 3) rfl (nI_add i 6) (by decide) rfl (fun ls hl => ?_)
  refine lv_goto (tgt := 18) hx hb dL_law_1059 (by decide) ?_
  exact kk _ _ _ _ _ ⟨i + 6, wc, wm, tm, ph, rfl, hC, hM, hP, hD, hS, lv_sub hl [1, 2, 3, 0] rfl, by omega, by omega, by omega⟩

set_option maxHeartbeats 4000000 in
set_option maxRecDepth 100000 in
theorem lc_feed {p : Program} {l : Launch} {e : Env} {s : State} {m : MethodId} {below : List Frame} {meth : Method} {c : Code} {b L : Nat} {xs : Nat → Int32} {D : va_G} {cB cI cJ cS cZ cO : ClassId} {A : Nat → Prop} {adK adV : Nat → Nat} {o mo i ph cl sl : Nat} {tm : Int32} {wc wm : va_W} {H : Heap} {locs : List Jvm.Loc} {ls : Array Slot} (C0 : lw_At p s m meth c b L xs) (hL : L ≤ 3072) (hi6 : i + 6 ≤ L) (hK : va_K D vwCl (tyL cB cI cJ cS cZ cO) s) (hN : nwA s) (hE : strE adK adV A s s.heap) (hR : strR adK s) (hA : ∀ q : Nat, s.heap.size ≤ q → A q) (hAf : ∀ q : Nat, A q → s.heap.size ≤ q) (hC : okC cB cI cJ cS cZ cO o tm ph wc) (hM : okM cB cI cJ cS cZ cO mo tm wm) (hP : va_P D vwCl (wc ++ wm) H) (hD : va_D A (wc ++ wm)) (hS : va_S A s.heap H locs) (hl : lv_has ls 4 [(0, .ref b), (1, .ref o), (2, .ref mo), (3, .int (nI i))]) (hcl : cl ≤ 1000 + i) (hsl : sl ≤ 1000000 + 2 * ph) (kk : ∀ (cl2 sl2 : Nat) (H2 : Heap) (locs2 : List Jvm.Loc) (ls2 : Array Slot), LI cB cI cJ cS cZ cO D s A b o mo L (L - (i + 6)) cl2 sl2 H2 locs2 ls2 → W p l e room_1 s m #[Value.ref b] below meth c H2 locs2 cl2 sl2 (lw_Z below #[Value.ref b] s) (F0 m 18 ls2 [])) : W p l e room_1 s m #[Value.ref b] below meth c H locs cl sl (lw_Z below #[Value.ref b] s) (F0 m 192 ls []) := by
  obtain ⟨hx, hb, hr, hml, hown, hts0, hX, hbl, hlocks, hgv⟩ := id C0
  have hts := fun w h => hts0 w (wsL_law_in w h)
  have hbA : ¬ A b := fun h => absurd (hAf b h) (Nat.not_le.mpr hbl)
  refine lv_aload_n hx hb dL_law_192 rfl (lv_at hl 1 rfl) ?_
  refine lv_aload_n hx hb dL_law_193 rfl (lv_at hl 0 rfl) ?_
  refine lv_iload_n hx hb dL_law_194 rfl (lv_at hl 3 rfl) ?_
  refine lv_iconst (v := 1) hx hb dL_law_195 (by decide) ?_
  refine lv_iadd hx hb dL_law_196 ?_
  refine xb_top (y := nI (i + 1)) (nI_add i 1) ?_
  refine va_sld hx hb hX hbl hbA hS (vp_in_nI (by omega) (by omega)) dL_law_197 ?_
  refine xb_top (y := xs (i + 1)) (by rw [nI_clamp (by omega)]) ?_
  refine lv_aload_n hx hb dL_law_198 rfl (lv_at hl 0 rfl) ?_
  refine lv_iload_n hx hb dL_law_199 rfl (lv_at hl 3 rfl) ?_
  refine lv_iconst (v := 2) hx hb dL_law_200 (by decide) ?_
  refine lv_iadd hx hb dL_law_201 ?_
  refine xb_top (y := nI (i + 2)) (nI_add i 2) ?_
  refine va_sld hx hb hX hbl hbA hS (vp_in_nI (by omega) (by omega)) dL_law_202 ?_
  refine xb_top (y := xs (i + 2)) (by rw [nI_clamp (by omega)]) ?_
  refine lv_aload_n hx hb dL_law_203 rfl (lv_at hl 0 rfl) ?_
  refine lv_iload_n hx hb dL_law_204 rfl (lv_at hl 3 rfl) ?_
  refine lv_iconst (v := 3) hx hb dL_law_205 (by decide) ?_
  refine lv_iadd hx hb dL_law_206 ?_
  refine xb_top (y := nI (i + 3)) (nI_add i 3) ?_
  refine va_sld hx hb hX hbl hbA hS (vp_in_nI (by omega) (by omega)) dL_law_207 ?_
  refine xb_top (y := xs (i + 3)) (by rw [nI_clamp (by omega)]) ?_
  refine lv_aload_n hx hb dL_law_208 rfl (lv_at hl 0 rfl) ?_
  refine lv_iload_n hx hb dL_law_209 rfl (lv_at hl 3 rfl) ?_
  refine lv_iconst (v := 4) hx hb dL_law_210 (by decide) ?_
  refine lv_iadd hx hb dL_law_211 ?_
  refine xb_top (y := nI (i + 4)) (nI_add i 4) ?_
  refine va_sld hx hb hX hbl hbA hS (vp_in_nI (by omega) (by omega)) dL_law_212 ?_
  refine xb_top (y := xs (i + 4)) (by rw [nI_clamp (by omega)]) ?_
  refine lv_aload_n hx hb dL_law_213 rfl (lv_at hl 0 rfl) ?_
  refine lv_iload_n hx hb dL_law_214 rfl (lv_at hl 3 rfl) ?_
  refine lv_iconst (v := 5) hx hb dL_law_215 (by decide) ?_
  refine lv_iadd hx hb dL_law_216 ?_
  refine xb_top (y := nI (i + 5)) (nI_add i 5) ?_
  refine va_sld hx hb hX hbl hbA hS (vp_in_nI (by omega) (by omega)) dL_law_217 ?_
  refine xb_top (y := xs (i + 5)) (by rw [nI_clamp (by omega)]) ?_
  obtain ⟨⟨fs, hfs⟩, hph⟩ := okC_o hC
  obtain ⟨ms, hml7, hmet⟩ := p_X10_feed l D cB cI cJ cS cZ cO H.size o tm ph wc (xs (i + 1)) (xs (i + 2)) (xs (i + 3)) (xs (i + 4)) (xs (i + 5)) hC
  refine xAi hP hD hS hA (va_runV (As := [.int (xs (i + 1)), .int (xs (i + 2)), .int (xs (i + 3)), .int (xs (i + 4)), .int (xs (i + 5))]) (rest := []) ⟨hx, hb, hml, hown, hts⟩ hmet (cwV 5 hts0 gl_X10_feed rfl rfl rfl (by decide +kernel) ⟨Nat.le_of_ble_eq_true rfl, Nat.le_of_ble_eq_true rfl⟩) (xPreVA hN hK hP hD hfs rfl rfl) rfl rfl hl.1 rfl (lv_room (Nat.le_of_ble_eq_true rfl)) dL_law_218 ⟨show cl + 0 ≤ 600000 by omega, show sl + ms ≤ 7302250 by omega⟩) (fun r_1 wc H locs hw hP hD hS => ?_)
  obtain ⟨ph2, hC, hms⟩ := hw
  refine lv_pop hx hb dL_law_221 rfl ?_
  refine lv_aload_n hx hb dL_law_222 rfl (lv_at hl 2 rfl) ?_
  refine lv_aload_n hx hb dL_law_223 rfl (lv_at hl 0 rfl) ?_
  refine lv_iload_n hx hb dL_law_224 rfl (lv_at hl 3 rfl) ?_
  refine lv_iconst (v := 1) hx hb dL_law_225 (by decide) ?_
  refine lv_iadd hx hb dL_law_226 ?_
  refine xb_top (y := nI (i + 1)) (nI_add i 1) ?_
  refine va_sld hx hb hX hbl hbA hS (vp_in_nI (by omega) (by omega)) dL_law_227 ?_
  refine xb_top (y := xs (i + 1)) (by rw [nI_clamp (by omega)]) ?_
  refine lv_aload_n hx hb dL_law_228 rfl (lv_at hl 0 rfl) ?_
  refine lv_iload_n hx hb dL_law_229 rfl (lv_at hl 3 rfl) ?_
  refine lv_iconst (v := 2) hx hb dL_law_230 (by decide) ?_
  refine lv_iadd hx hb dL_law_231 ?_
  refine xb_top (y := nI (i + 2)) (nI_add i 2) ?_
  refine va_sld hx hb hX hbl hbA hS (vp_in_nI (by omega) (by omega)) dL_law_232 ?_
  refine xb_top (y := xs (i + 2)) (by rw [nI_clamp (by omega)]) ?_
  refine lv_aload_n hx hb dL_law_233 rfl (lv_at hl 0 rfl) ?_
  refine lv_iload_n hx hb dL_law_234 rfl (lv_at hl 3 rfl) ?_
  refine lv_iconst (v := 3) hx hb dL_law_235 (by decide) ?_
  refine lv_iadd hx hb dL_law_236 ?_
  refine xb_top (y := nI (i + 3)) (nI_add i 3) ?_
  refine va_sld hx hb hX hbl hbA hS (vp_in_nI (by omega) (by omega)) dL_law_237 ?_
  refine xb_top (y := xs (i + 3)) (by rw [nI_clamp (by omega)]) ?_
  refine lv_aload_n hx hb dL_law_238 rfl (lv_at hl 0 rfl) ?_
  refine lv_iload_n hx hb dL_law_239 rfl (lv_at hl 3 rfl) ?_
  refine lv_iconst (v := 4) hx hb dL_law_240 (by decide) ?_
  refine lv_iadd hx hb dL_law_241 ?_
  refine xb_top (y := nI (i + 4)) (nI_add i 4) ?_
  refine va_sld hx hb hX hbl hbA hS (vp_in_nI (by omega) (by omega)) dL_law_242 ?_
  refine xb_top (y := xs (i + 4)) (by rw [nI_clamp (by omega)]) ?_
  refine lv_aload_n hx hb dL_law_243 rfl (lv_at hl 0 rfl) ?_
  refine lv_iload_n hx hb dL_law_244 rfl (lv_at hl 3 rfl) ?_
  refine lv_iconst (v := 5) hx hb dL_law_245 (by decide) ?_
  refine lv_iadd hx hb dL_law_246 ?_
  refine xb_top (y := nI (i + 5)) (nI_add i 5) ?_
  refine va_sld hx hb hX hbl hbA hS (vp_in_nI (by omega) (by omega)) dL_law_247 ?_
  refine xb_top (y := xs (i + 5)) (by rw [nI_clamp (by omega)]) ?_
  obtain ⟨fs2, hfs2⟩ := okM_o hM
  have hP := P_swap hP
  have hD := D_swap hD
  have hmet2 := p_X11_feed l D cB cI cJ cS cZ cO H.size mo tm wm (xs (i + 1)) (xs (i + 2)) (xs (i + 3)) (xs (i + 4)) (xs (i + 5)) hM
  refine xAi hP hD hS hA (va_runV (As := [.int (xs (i + 1)), .int (xs (i + 2)), .int (xs (i + 3)), .int (xs (i + 4)), .int (xs (i + 5))]) (rest := []) ⟨hx, hb, hml, hown, hts⟩ hmet2 (cwV 5 hts0 gl_X11_feed rfl rfl rfl (by decide +kernel) ⟨Nat.le_of_ble_eq_true rfl, Nat.le_of_ble_eq_true rfl⟩) (xPreVA hN hK hP hD hfs2 rfl rfl) rfl rfl hl.1 rfl (lv_room (Nat.le_of_ble_eq_true rfl)) dL_law_248 ⟨show cl + 0 + 0 ≤ 600000 by omega, show sl + ms + 0 ≤ 7302250 by omega⟩) (fun r_2 wm H locs hM hP hD hS => ?_)
  have hP := P_swap hP
  have hD := D_swap hD
  refine lv_pop hx hb dL_law_251 rfl ?_
  refine lv_goto (tgt := 1056) hx hb dL_law_252 (by decide) ?_
  refine lv_iinc (v := nI (i + 6)) (lv' := [(3, .int (nI (i + 6))), (0, .ref b), (1, .ref o), (2, .ref mo)]) hx hb dL_law_1056 hl (k := 3) rfl (nI_add i 6) (by decide) rfl (fun ls hl => ?_)
  refine lv_goto (tgt := 18) hx hb dL_law_1059 (by decide) ?_
  exact kk _ _ _ _ _ ⟨i + 6, wc, wm, _, ph2, rfl, hC, hM, hP, hD, hS, lv_sub hl [1, 2, 3, 0] rfl, by omega, by omega, by omega⟩

set_option maxHeartbeats 4000000 in
set_option maxRecDepth 100000 in
theorem lc_end {p : Program} {l : Launch} {e : Env} {s : State} {m : MethodId} {below : List Frame} {meth : Method} {c : Code} {b L : Nat} {xs : Nat → Int32} {D : va_G} {cB cI cJ cS cZ cO : ClassId} {A : Nat → Prop} {adK adV : Nat → Nat} {o mo i ph cl sl : Nat} {tm : Int32} {wc wm : va_W} {H : Heap} {locs : List Jvm.Loc} {ls : Array Slot} (C0 : lw_At p s m meth c b L xs) (hL : L ≤ 3072) (hi6 : i + 6 ≤ L) (hK : va_K D vwCl (tyL cB cI cJ cS cZ cO) s) (hN : nwA s) (hE : strE adK adV A s s.heap) (hR : strR adK s) (hA : ∀ q : Nat, s.heap.size ≤ q → A q) (hAf : ∀ q : Nat, A q → s.heap.size ≤ q) (hC : okC cB cI cJ cS cZ cO o tm ph wc) (hM : okM cB cI cJ cS cZ cO mo tm wm) (hP : va_P D vwCl (wc ++ wm) H) (hD : va_D A (wc ++ wm)) (hS : va_S A s.heap H locs) (hl : lv_has ls 4 [(0, .ref b), (1, .ref o), (2, .ref mo), (3, .int (nI i))]) (hcl : cl ≤ 1000 + i) (hsl : sl ≤ 1000000 + 2 * ph) (kk : ∀ (cl2 sl2 : Nat) (H2 : Heap) (locs2 : List Jvm.Loc) (ls2 : Array Slot), LI cB cI cJ cS cZ cO D s A b o mo L (L - (i + 6)) cl2 sl2 H2 locs2 ls2 → W p l e room_1 s m #[Value.ref b] below meth c H2 locs2 cl2 sl2 (lw_Z below #[Value.ref b] s) (F0 m 18 ls2 [])) : W p l e room_1 s m #[Value.ref b] below meth c H locs cl sl (lw_Z below #[Value.ref b] s) (F0 m 255 ls []) := by
  obtain ⟨hx, hb, hr, hml, hown, hts0, hX, hbl, hlocks, hgv⟩ := id C0
  have hts := fun w h => hts0 w (wsL_law_in w h)
  have hbA : ¬ A b := fun h => absurd (hAf b h) (Nat.not_le.mpr hbl)
  refine lv_aload_n hx hb dL_law_255 rfl (lv_at hl 1 rfl) ?_
  refine lv_aload_n hx hb dL_law_256 rfl (lv_at hl 0 rfl) ?_
  refine lv_iload_n hx hb dL_law_257 rfl (lv_at hl 3 rfl) ?_
  refine lv_iconst (v := 1) hx hb dL_law_258 (by decide) ?_
  refine lv_iadd hx hb dL_law_259 ?_
  refine xb_top (y := nI (i + 1)) (nI_add i 1) ?_
  refine va_sld hx hb hX hbl hbA hS (vp_in_nI (by omega) (by omega)) dL_law_260 ?_
  refine xb_top (y := xs (i + 1)) (by rw [nI_clamp (by omega)]) ?_
  obtain ⟨⟨fs, hfs⟩, hph⟩ := okC_o hC
  obtain ⟨ms, hml7, hmet⟩ := p_X10_end l D cB cI cJ cS cZ cO H.size o tm ph wc (xs (i + 1)) hC
  refine xAi hP hD hS hA (va_runV (As := [.int (xs (i + 1))]) (rest := []) ⟨hx, hb, hml, hown, hts⟩ hmet (cwV 1 hts0 gl_X10_end rfl rfl rfl (by decide +kernel) ⟨Nat.le_of_ble_eq_true rfl, Nat.le_of_ble_eq_true rfl⟩) (xPreVA hN hK hP hD hfs rfl rfl) rfl rfl hl.1 rfl (lv_room (Nat.le_of_ble_eq_true rfl)) dL_law_261 ⟨show cl + 0 ≤ 600000 by omega, show sl + ms ≤ 7302250 by omega⟩) (fun r_1 wc H locs hw hP hD hS => ?_)
  obtain ⟨ph2, hC, hms⟩ := hw
  refine lv_pop hx hb dL_law_264 rfl ?_
  refine lv_aload_n hx hb dL_law_265 rfl (lv_at hl 2 rfl) ?_
  refine lv_aload_n hx hb dL_law_266 rfl (lv_at hl 0 rfl) ?_
  refine lv_iload_n hx hb dL_law_267 rfl (lv_at hl 3 rfl) ?_
  refine lv_iconst (v := 1) hx hb dL_law_268 (by decide) ?_
  refine lv_iadd hx hb dL_law_269 ?_
  refine xb_top (y := nI (i + 1)) (nI_add i 1) ?_
  refine va_sld hx hb hX hbl hbA hS (vp_in_nI (by omega) (by omega)) dL_law_270 ?_
  refine xb_top (y := xs (i + 1)) (by rw [nI_clamp (by omega)]) ?_
  obtain ⟨fs2, hfs2⟩ := okM_o hM
  have hP := P_swap hP
  have hD := D_swap hD
  have hmet2 := p_X11_end l D cB cI cJ cS cZ cO H.size mo tm wm (xs (i + 1)) hM
  refine xAi hP hD hS hA (va_runV (As := [.int (xs (i + 1))]) (rest := []) ⟨hx, hb, hml, hown, hts⟩ hmet2 (cwV 1 hts0 gl_X11_end rfl rfl rfl (by decide +kernel) ⟨Nat.le_of_ble_eq_true rfl, Nat.le_of_ble_eq_true rfl⟩) (xPreVA hN hK hP hD hfs2 rfl rfl) rfl rfl hl.1 rfl (lv_room (Nat.le_of_ble_eq_true rfl)) dL_law_271 ⟨show cl + 0 + 0 ≤ 600000 by omega, show sl + ms + 0 ≤ 7302250 by omega⟩) (fun r_2 wm H locs hM hP hD hS => ?_)
  have hP := P_swap hP
  have hD := D_swap hD
  refine lv_pop hx hb dL_law_274 rfl ?_
  refine lv_goto (tgt := 1056) hx hb dL_law_275 (by decide) ?_
  refine lv_iinc (v := nI (i + 6)) (lv' := [(3, .int (nI (i + 6))), (0, .ref b), (1, .ref o), (2, .ref mo)]) hx hb dL_law_1056 hl (k := 3) rfl (nI_add i 6) (by decide) rfl (fun ls hl => ?_)
  refine lv_goto (tgt := 18) hx hb dL_law_1059 (by decide) ?_
  exact kk _ _ _ _ _ ⟨i + 6, wc, wm, _, ph2, rfl, hC, hM, hP, hD, hS, lv_sub hl [1, 2, 3, 0] rfl, by omega, by omega, by omega⟩

set_option maxHeartbeats 4000000 in
set_option maxRecDepth 100000 in
theorem lc_tongue {p : Program} {l : Launch} {e : Env} {s : State} {m : MethodId} {below : List Frame} {meth : Method} {c : Code} {b L : Nat} {xs : Nat → Int32} {D : va_G} {cB cI cJ cS cZ cO : ClassId} {A : Nat → Prop} {adK adV : Nat → Nat} {o mo i ph cl sl : Nat} {tm : Int32} {wc wm : va_W} {H : Heap} {locs : List Jvm.Loc} {ls : Array Slot} (C0 : lw_At p s m meth c b L xs) (hL : L ≤ 3072) (hi6 : i + 6 ≤ L) (hK : va_K D vwCl (tyL cB cI cJ cS cZ cO) s) (hN : nwA s) (hE : strE adK adV A s s.heap) (hR : strR adK s) (hA : ∀ q : Nat, s.heap.size ≤ q → A q) (hAf : ∀ q : Nat, A q → s.heap.size ≤ q) (hC : okC cB cI cJ cS cZ cO o tm ph wc) (hM : okM cB cI cJ cS cZ cO mo tm wm) (hP : va_P D vwCl (wc ++ wm) H) (hD : va_D A (wc ++ wm)) (hS : va_S A s.heap H locs) (hl : lv_has ls 4 [(0, .ref b), (1, .ref o), (2, .ref mo), (3, .int (nI i))]) (hcl : cl ≤ 1000 + i) (hsl : sl ≤ 1000000 + 2 * ph) (kk : ∀ (cl2 sl2 : Nat) (H2 : Heap) (locs2 : List Jvm.Loc) (ls2 : Array Slot), LI cB cI cJ cS cZ cO D s A b o mo L (L - (i + 6)) cl2 sl2 H2 locs2 ls2 → W p l e room_1 s m #[Value.ref b] below meth c H2 locs2 cl2 sl2 (lw_Z below #[Value.ref b] s) (F0 m 18 ls2 [])) : W p l e room_1 s m #[Value.ref b] below meth c H locs cl sl (lw_Z below #[Value.ref b] s) (F0 m 278 ls []) := by
  obtain ⟨hx, hb, hr, hml, hown, hts0, hX, hbl, hlocks, hgv⟩ := id C0
  have hts := fun w h => hts0 w (wsL_law_in w h)
  have hbA : ¬ A b := fun h => absurd (hAf b h) (Nat.not_le.mpr hbl)
  refine lv_aload_n hx hb dL_law_278 rfl (lv_at hl 1 rfl) ?_
  obtain ⟨⟨fs, hfs⟩, hph⟩ := okC_o hC
  obtain ⟨ms, hml7, hmet⟩ := p_X10_tongue l D cB cI cJ cS cZ cO H.size o tm ph wc  A adK adV hC
  refine xAi hP hD hS hA (va_runV (As := []) (rest := []) ⟨hx, hb, hml, hown, hts⟩ hmet (cwV 0 hts0 gl_X10_tongue rfl rfl rfl (by decide +kernel) ⟨Nat.le_of_ble_eq_true rfl, Nat.le_of_ble_eq_true rfl⟩) (xPreVAB hN hK hP hD hA hS hE hR hfs rfl rfl) rfl rfl hl.1 rfl (lv_room (Nat.le_of_ble_eq_true rfl)) dL_law_279 ⟨show cl + 0 ≤ 600000 by omega, show sl + ms ≤ 7302250 by omega⟩) (fun r_1 wc H locs hw hP hD hS => ?_)
  obtain ⟨ph2, hC, hms⟩ := hw
  refine lv_pop hx hb dL_law_282 rfl ?_
  refine lv_aload_n hx hb dL_law_283 rfl (lv_at hl 2 rfl) ?_
  obtain ⟨fs2, hfs2⟩ := okM_o hM
  have hP := P_swap hP
  have hD := D_swap hD
  have hmet2 := p_X11_tongue l D cB cI cJ cS cZ cO H.size mo tm wm  hM
  refine xAi hP hD hS hA (va_runV (As := []) (rest := []) ⟨hx, hb, hml, hown, hts⟩ hmet2 (cwV 0 hts0 gl_X11_tongue rfl rfl rfl (by decide +kernel) ⟨Nat.le_of_ble_eq_true rfl, Nat.le_of_ble_eq_true rfl⟩) (xPreVA hN hK hP hD hfs2 rfl rfl) rfl rfl hl.1 rfl (lv_room (Nat.le_of_ble_eq_true rfl)) dL_law_284 ⟨show cl + 0 + 0 ≤ 600000 by omega, show sl + ms + 0 ≤ 7302250 by omega⟩) (fun r_2 wm H locs hM hP hD hS => ?_)
  have hP := P_swap hP
  have hD := D_swap hD
  refine lv_pop hx hb dL_law_287 rfl ?_
  refine lv_goto (tgt := 1056) hx hb dL_law_288 (by decide) ?_
  refine lv_iinc (v := nI (i + 6)) (lv' := [(3, .int (nI (i + 6))), (0, .ref b), (1, .ref o), (2, .ref mo)]) hx hb dL_law_1056 hl (k := 3) rfl (nI_add i 6) (by decide) rfl (fun ls hl => ?_)
  refine lv_goto (tgt := 18) hx hb dL_law_1059 (by decide) ?_
  exact kk _ _ _ _ _ ⟨i + 6, wc, wm, _, ph2, rfl, hC, hM, hP, hD, hS, lv_sub hl [1, 2, 3, 0] rfl, by omega, by omega, by omega⟩

set_option maxHeartbeats 4000000 in
set_option maxRecDepth 100000 in
theorem lc_fault {p : Program} {l : Launch} {e : Env} {s : State} {m : MethodId} {below : List Frame} {meth : Method} {c : Code} {b L : Nat} {xs : Nat → Int32} {D : va_G} {cB cI cJ cS cZ cO : ClassId} {A : Nat → Prop} {adK adV : Nat → Nat} {o mo i ph cl sl : Nat} {tm : Int32} {wc wm : va_W} {H : Heap} {locs : List Jvm.Loc} {ls : Array Slot} (C0 : lw_At p s m meth c b L xs) (hL : L ≤ 3072) (hi6 : i + 6 ≤ L) (hK : va_K D vwCl (tyL cB cI cJ cS cZ cO) s) (hN : nwA s) (hE : strE adK adV A s s.heap) (hR : strR adK s) (hA : ∀ q : Nat, s.heap.size ≤ q → A q) (hAf : ∀ q : Nat, A q → s.heap.size ≤ q) (hC : okC cB cI cJ cS cZ cO o tm ph wc) (hM : okM cB cI cJ cS cZ cO mo tm wm) (hP : va_P D vwCl (wc ++ wm) H) (hD : va_D A (wc ++ wm)) (hS : va_S A s.heap H locs) (hl : lv_has ls 4 [(0, .ref b), (1, .ref o), (2, .ref mo), (3, .int (nI i))]) (hcl : cl ≤ 1000 + i) (hsl : sl ≤ 1000000 + 2 * ph) (kk : ∀ (cl2 sl2 : Nat) (H2 : Heap) (locs2 : List Jvm.Loc) (ls2 : Array Slot), LI cB cI cJ cS cZ cO D s A b o mo L (L - (i + 6)) cl2 sl2 H2 locs2 ls2 → W p l e room_1 s m #[Value.ref b] below meth c H2 locs2 cl2 sl2 (lw_Z below #[Value.ref b] s) (F0 m 18 ls2 [])) : W p l e room_1 s m #[Value.ref b] below meth c H locs cl sl (lw_Z below #[Value.ref b] s) (F0 m 291 ls []) := by
  obtain ⟨hx, hb, hr, hml, hown, hts0, hX, hbl, hlocks, hgv⟩ := id C0
  have hts := fun w h => hts0 w (wsL_law_in w h)
  have hbA : ¬ A b := fun h => absurd (hAf b h) (Nat.not_le.mpr hbl)
  refine lv_aload_n hx hb dL_law_291 rfl (lv_at hl 1 rfl) ?_
  refine lv_aload_n hx hb dL_law_292 rfl (lv_at hl 0 rfl) ?_
  refine lv_iload_n hx hb dL_law_293 rfl (lv_at hl 3 rfl) ?_
  refine lv_iconst (v := 1) hx hb dL_law_294 (by decide) ?_
  refine lv_iadd hx hb dL_law_295 ?_
  refine xb_top (y := nI (i + 1)) (nI_add i 1) ?_
  refine va_sld hx hb hX hbl hbA hS (vp_in_nI (by omega) (by omega)) dL_law_296 ?_
  refine xb_top (y := xs (i + 1)) (by rw [nI_clamp (by omega)]) ?_
  obtain ⟨⟨fs, hfs⟩, hph⟩ := okC_o hC
  obtain ⟨ms, hml7, hmet⟩ := p_X10_fault l D cB cI cJ cS cZ cO H.size o tm ph wc (xs (i + 1)) hC
  refine xAi hP hD hS hA (va_runV (As := [.int (xs (i + 1))]) (rest := []) ⟨hx, hb, hml, hown, hts⟩ hmet (cwV 1 hts0 gl_X10_fault rfl rfl rfl (by decide +kernel) ⟨Nat.le_of_ble_eq_true rfl, Nat.le_of_ble_eq_true rfl⟩) (xPreVA hN hK hP hD hfs rfl rfl) rfl rfl hl.1 rfl (lv_room (Nat.le_of_ble_eq_true rfl)) dL_law_297 ⟨show cl + 0 ≤ 600000 by omega, show sl + ms ≤ 7302250 by omega⟩) (fun r_1 wc H locs hw hP hD hS => ?_)
  obtain ⟨ph2, hC, hms⟩ := hw
  refine lv_pop hx hb dL_law_300 rfl ?_
  refine lv_aload_n hx hb dL_law_301 rfl (lv_at hl 2 rfl) ?_
  refine lv_aload_n hx hb dL_law_302 rfl (lv_at hl 0 rfl) ?_
  refine lv_iload_n hx hb dL_law_303 rfl (lv_at hl 3 rfl) ?_
  refine lv_iconst (v := 1) hx hb dL_law_304 (by decide) ?_
  refine lv_iadd hx hb dL_law_305 ?_
  refine xb_top (y := nI (i + 1)) (nI_add i 1) ?_
  refine va_sld hx hb hX hbl hbA hS (vp_in_nI (by omega) (by omega)) dL_law_306 ?_
  refine xb_top (y := xs (i + 1)) (by rw [nI_clamp (by omega)]) ?_
  obtain ⟨fs2, hfs2⟩ := okM_o hM
  have hP := P_swap hP
  have hD := D_swap hD
  have hmet2 := p_X11_fault l D cB cI cJ cS cZ cO H.size mo tm wm (xs (i + 1)) hM
  refine xAi hP hD hS hA (va_runV (As := [.int (xs (i + 1))]) (rest := []) ⟨hx, hb, hml, hown, hts⟩ hmet2 (cwV 1 hts0 gl_X11_fault rfl rfl rfl (by decide +kernel) ⟨Nat.le_of_ble_eq_true rfl, Nat.le_of_ble_eq_true rfl⟩) (xPreVA hN hK hP hD hfs2 rfl rfl) rfl rfl hl.1 rfl (lv_room (Nat.le_of_ble_eq_true rfl)) dL_law_307 ⟨show cl + 0 + 0 ≤ 600000 by omega, show sl + ms + 0 ≤ 7302250 by omega⟩) (fun r_2 wm H locs hM hP hD hS => ?_)
  have hP := P_swap hP
  have hD := D_swap hD
  refine lv_pop hx hb dL_law_310 rfl ?_
  refine lv_goto (tgt := 1056) hx hb dL_law_311 (by decide) ?_
  refine lv_iinc (v := nI (i + 6)) (lv' := [(3, .int (nI (i + 6))), (0, .ref b), (1, .ref o), (2, .ref mo)]) hx hb dL_law_1056 hl (k := 3) rfl (nI_add i 6) (by decide) rfl (fun ls hl => ?_)
  refine lv_goto (tgt := 18) hx hb dL_law_1059 (by decide) ?_
  exact kk _ _ _ _ _ ⟨i + 6, wc, wm, _, ph2, rfl, hC, hM, hP, hD, hS, lv_sub hl [1, 2, 3, 0] rfl, by omega, by omega, by omega⟩

set_option maxHeartbeats 4000000 in
set_option maxRecDepth 100000 in
theorem lc_follow {p : Program} {l : Launch} {e : Env} {s : State} {m : MethodId} {below : List Frame} {meth : Method} {c : Code} {b L : Nat} {xs : Nat → Int32} {D : va_G} {cB cI cJ cS cZ cO : ClassId} {A : Nat → Prop} {adK adV : Nat → Nat} {o mo i ph cl sl : Nat} {tm : Int32} {wc wm : va_W} {H : Heap} {locs : List Jvm.Loc} {ls : Array Slot} (C0 : lw_At p s m meth c b L xs) (hL : L ≤ 3072) (hi6 : i + 6 ≤ L) (hK : va_K D vwCl (tyL cB cI cJ cS cZ cO) s) (hN : nwA s) (hE : strE adK adV A s s.heap) (hR : strR adK s) (hA : ∀ q : Nat, s.heap.size ≤ q → A q) (hAf : ∀ q : Nat, A q → s.heap.size ≤ q) (hC : okC cB cI cJ cS cZ cO o tm ph wc) (hM : okM cB cI cJ cS cZ cO mo tm wm) (hP : va_P D vwCl (wc ++ wm) H) (hD : va_D A (wc ++ wm)) (hS : va_S A s.heap H locs) (hl : lv_has ls 4 [(0, .ref b), (1, .ref o), (2, .ref mo), (3, .int (nI i))]) (hcl : cl ≤ 1000 + i) (hsl : sl ≤ 1000000 + 2 * ph) (kk : ∀ (cl2 sl2 : Nat) (H2 : Heap) (locs2 : List Jvm.Loc) (ls2 : Array Slot), LI cB cI cJ cS cZ cO D s A b o mo L (L - (i + 6)) cl2 sl2 H2 locs2 ls2 → W p l e room_1 s m #[Value.ref b] below meth c H2 locs2 cl2 sl2 (lw_Z below #[Value.ref b] s) (F0 m 18 ls2 [])) : W p l e room_1 s m #[Value.ref b] below meth c H locs cl sl (lw_Z below #[Value.ref b] s) (F0 m 314 ls []) := by
  obtain ⟨hx, hb, hr, hml, hown, hts0, hX, hbl, hlocks, hgv⟩ := id C0
  have hts := fun w h => hts0 w (wsL_law_in w h)
  have hbA : ¬ A b := fun h => absurd (hAf b h) (Nat.not_le.mpr hbl)
  refine lv_aload_n hx hb dL_law_314 rfl (lv_at hl 1 rfl) ?_
  refine lv_aload_n hx hb dL_law_315 rfl (lv_at hl 0 rfl) ?_
  refine lv_iload_n hx hb dL_law_316 rfl (lv_at hl 3 rfl) ?_
  refine lv_iconst (v := 1) hx hb dL_law_317 (by decide) ?_
  refine lv_iadd hx hb dL_law_318 ?_
  refine xb_top (y := nI (i + 1)) (nI_add i 1) ?_
  refine va_sld hx hb hX hbl hbA hS (vp_in_nI (by omega) (by omega)) dL_law_319 ?_
  refine xb_top (y := xs (i + 1)) (by rw [nI_clamp (by omega)]) ?_
  obtain ⟨⟨fs, hfs⟩, hph⟩ := okC_o hC
  obtain ⟨ms, hml7, hmet⟩ := p_X10_follow l D cB cI cJ cS cZ cO H.size o tm ph wc (xs (i + 1)) hC
  refine xAi hP hD hS hA (va_runV (As := [.int (xs (i + 1))]) (rest := []) ⟨hx, hb, hml, hown, hts⟩ hmet (cwV 1 hts0 gl_X10_follow rfl rfl rfl (by decide +kernel) ⟨Nat.le_of_ble_eq_true rfl, Nat.le_of_ble_eq_true rfl⟩) (xPreVA hN hK hP hD hfs rfl rfl) rfl rfl hl.1 rfl (lv_room (Nat.le_of_ble_eq_true rfl)) dL_law_320 ⟨show cl + 0 ≤ 600000 by omega, show sl + ms ≤ 7302250 by omega⟩) (fun r_1 wc H locs hw hP hD hS => ?_)
  obtain ⟨ph2, hC, hms⟩ := hw
  refine lv_pop hx hb dL_law_323 rfl ?_
  refine lv_aload_n hx hb dL_law_324 rfl (lv_at hl 2 rfl) ?_
  refine lv_aload_n hx hb dL_law_325 rfl (lv_at hl 0 rfl) ?_
  refine lv_iload_n hx hb dL_law_326 rfl (lv_at hl 3 rfl) ?_
  refine lv_iconst (v := 1) hx hb dL_law_327 (by decide) ?_
  refine lv_iadd hx hb dL_law_328 ?_
  refine xb_top (y := nI (i + 1)) (nI_add i 1) ?_
  refine va_sld hx hb hX hbl hbA hS (vp_in_nI (by omega) (by omega)) dL_law_329 ?_
  refine xb_top (y := xs (i + 1)) (by rw [nI_clamp (by omega)]) ?_
  obtain ⟨fs2, hfs2⟩ := okM_o hM
  have hP := P_swap hP
  have hD := D_swap hD
  have hmet2 := p_X11_follow l D cB cI cJ cS cZ cO H.size mo tm wm (xs (i + 1)) hM
  refine xAi hP hD hS hA (va_runV (As := [.int (xs (i + 1))]) (rest := []) ⟨hx, hb, hml, hown, hts⟩ hmet2 (cwV 1 hts0 gl_X11_follow rfl rfl rfl (by decide +kernel) ⟨Nat.le_of_ble_eq_true rfl, Nat.le_of_ble_eq_true rfl⟩) (xPreVA hN hK hP hD hfs2 rfl rfl) rfl rfl hl.1 rfl (lv_room (Nat.le_of_ble_eq_true rfl)) dL_law_330 ⟨show cl + 0 + 0 ≤ 600000 by omega, show sl + ms + 0 ≤ 7302250 by omega⟩) (fun r_2 wm H locs hM hP hD hS => ?_)
  have hP := P_swap hP
  have hD := D_swap hD
  refine lv_pop hx hb dL_law_333 rfl ?_
  refine lv_goto (tgt := 1056) hx hb dL_law_334 (by decide) ?_
  refine lv_iinc (v := nI (i + 6)) (lv' := [(3, .int (nI (i + 6))), (0, .ref b), (1, .ref o), (2, .ref mo)]) hx hb dL_law_1056 hl (k := 3) rfl (nI_add i 6) (by decide) rfl (fun ls hl => ?_)
  refine lv_goto (tgt := 18) hx hb dL_law_1059 (by decide) ?_
  exact kk _ _ _ _ _ ⟨i + 6, wc, wm, _, ph2, rfl, hC, hM, hP, hD, hS, lv_sub hl [1, 2, 3, 0] rfl, by omega, by omega, by omega⟩

set_option maxHeartbeats 4000000 in
set_option maxRecDepth 100000 in
theorem lc_may {p : Program} {l : Launch} {e : Env} {s : State} {m : MethodId} {below : List Frame} {meth : Method} {c : Code} {b L : Nat} {xs : Nat → Int32} {D : va_G} {cB cI cJ cS cZ cO : ClassId} {A : Nat → Prop} {adK adV : Nat → Nat} {o mo i ph cl sl : Nat} {tm : Int32} {wc wm : va_W} {H : Heap} {locs : List Jvm.Loc} {ls : Array Slot} (C0 : lw_At p s m meth c b L xs) (hL : L ≤ 3072) (hi6 : i + 6 ≤ L) (hK : va_K D vwCl (tyL cB cI cJ cS cZ cO) s) (hN : nwA s) (hE : strE adK adV A s s.heap) (hR : strR adK s) (hA : ∀ q : Nat, s.heap.size ≤ q → A q) (hAf : ∀ q : Nat, A q → s.heap.size ≤ q) (hC : okC cB cI cJ cS cZ cO o tm ph wc) (hM : okM cB cI cJ cS cZ cO mo tm wm) (hP : va_P D vwCl (wc ++ wm) H) (hD : va_D A (wc ++ wm)) (hS : va_S A s.heap H locs) (hl : lv_has ls 4 [(0, .ref b), (1, .ref o), (2, .ref mo), (3, .int (nI i))]) (hcl : cl ≤ 1000 + i) (hsl : sl ≤ 1000000 + 2 * ph) (kk : ∀ (cl2 sl2 : Nat) (H2 : Heap) (locs2 : List Jvm.Loc) (ls2 : Array Slot), LI cB cI cJ cS cZ cO D s A b o mo L (L - (i + 6)) cl2 sl2 H2 locs2 ls2 → W p l e room_1 s m #[Value.ref b] below meth c H2 locs2 cl2 sl2 (lw_Z below #[Value.ref b] s) (F0 m 18 ls2 [])) : W p l e room_1 s m #[Value.ref b] below meth c H locs cl sl (lw_Z below #[Value.ref b] s) (F0 m 337 ls []) := by
  obtain ⟨hx, hb, hr, hml, hown, hts0, hX, hbl, hlocks, hgv⟩ := id C0
  have hts := fun w h => hts0 w (wsL_law_in w h)
  have hbA : ¬ A b := fun h => absurd (hAf b h) (Nat.not_le.mpr hbl)
  refine lv_aload_n hx hb dL_law_337 rfl (lv_at hl 1 rfl) ?_
  obtain ⟨⟨fs, hfs⟩, hph⟩ := okC_o hC
  obtain ⟨ms, hml7, hmet⟩ := p_X10_may l D cB cI cJ cS cZ cO H.size o tm ph wc  hC
  refine xAi hP hD hS hA (va_runV (As := []) (rest := []) ⟨hx, hb, hml, hown, hts⟩ hmet (cwV 0 hts0 gl_X10_may rfl rfl rfl (by decide +kernel) ⟨Nat.le_of_ble_eq_true rfl, Nat.le_of_ble_eq_true rfl⟩) (xPreVA hN hK hP hD hfs rfl rfl) rfl rfl hl.1 rfl (lv_room (Nat.le_of_ble_eq_true rfl)) dL_law_338 ⟨show cl + 0 ≤ 600000 by omega, show sl + ms ≤ 7302250 by omega⟩) (fun r_1 wc H locs hw hP hD hS => ?_)
  obtain ⟨ph2, hC, hms⟩ := hw
  refine lv_pop hx hb dL_law_341 rfl ?_
  refine lv_aload_n hx hb dL_law_342 rfl (lv_at hl 2 rfl) ?_
  obtain ⟨fs2, hfs2⟩ := okM_o hM
  have hP := P_swap hP
  have hD := D_swap hD
  have hmet2 := p_X11_may l D cB cI cJ cS cZ cO H.size mo tm wm  hM
  refine xAi hP hD hS hA (va_runV (As := []) (rest := []) ⟨hx, hb, hml, hown, hts⟩ hmet2 (cwV 0 hts0 gl_X11_may rfl rfl rfl (by decide +kernel) ⟨Nat.le_of_ble_eq_true rfl, Nat.le_of_ble_eq_true rfl⟩) (xPreVA hN hK hP hD hfs2 rfl rfl) rfl rfl hl.1 rfl (lv_room (Nat.le_of_ble_eq_true rfl)) dL_law_343 ⟨show cl + 0 + 0 ≤ 600000 by omega, show sl + ms + 0 ≤ 7302250 by omega⟩) (fun r_2 wm H locs hM hP hD hS => ?_)
  have hP := P_swap hP
  have hD := D_swap hD
  refine lv_pop hx hb dL_law_346 rfl ?_
  refine lv_goto (tgt := 1056) hx hb dL_law_347 (by decide) ?_
  refine lv_iinc (v := nI (i + 6)) (lv' := [(3, .int (nI (i + 6))), (0, .ref b), (1, .ref o), (2, .ref mo)]) hx hb dL_law_1056 hl (k := 3) rfl (nI_add i 6) (by decide) rfl (fun ls hl => ?_)
  refine lv_goto (tgt := 18) hx hb dL_law_1059 (by decide) ?_
  exact kk _ _ _ _ _ ⟨i + 6, wc, wm, _, ph2, rfl, hC, hM, hP, hD, hS, lv_sub hl [1, 2, 3, 0] rfl, by omega, by omega, by omega⟩

set_option maxHeartbeats 4000000 in
set_option maxRecDepth 100000 in
theorem lc_say {p : Program} {l : Launch} {e : Env} {s : State} {m : MethodId} {below : List Frame} {meth : Method} {c : Code} {b L : Nat} {xs : Nat → Int32} {D : va_G} {cB cI cJ cS cZ cO : ClassId} {A : Nat → Prop} {adK adV : Nat → Nat} {o mo i ph cl sl : Nat} {tm : Int32} {wc wm : va_W} {H : Heap} {locs : List Jvm.Loc} {ls : Array Slot} (C0 : lw_At p s m meth c b L xs) (hL : L ≤ 3072) (hi6 : i + 6 ≤ L) (hK : va_K D vwCl (tyL cB cI cJ cS cZ cO) s) (hN : nwA s) (hE : strE adK adV A s s.heap) (hR : strR adK s) (hA : ∀ q : Nat, s.heap.size ≤ q → A q) (hAf : ∀ q : Nat, A q → s.heap.size ≤ q) (hC : okC cB cI cJ cS cZ cO o tm ph wc) (hM : okM cB cI cJ cS cZ cO mo tm wm) (hP : va_P D vwCl (wc ++ wm) H) (hD : va_D A (wc ++ wm)) (hS : va_S A s.heap H locs) (hl : lv_has ls 4 [(0, .ref b), (1, .ref o), (2, .ref mo), (3, .int (nI i))]) (hcl : cl ≤ 1000 + i) (hsl : sl ≤ 1000000 + 2 * ph) (kk : ∀ (cl2 sl2 : Nat) (H2 : Heap) (locs2 : List Jvm.Loc) (ls2 : Array Slot), LI cB cI cJ cS cZ cO D s A b o mo L (L - (i + 6)) cl2 sl2 H2 locs2 ls2 → W p l e room_1 s m #[Value.ref b] below meth c H2 locs2 cl2 sl2 (lw_Z below #[Value.ref b] s) (F0 m 18 ls2 [])) : W p l e room_1 s m #[Value.ref b] below meth c H locs cl sl (lw_Z below #[Value.ref b] s) (F0 m 350 ls []) := by
  obtain ⟨hx, hb, hr, hml, hown, hts0, hX, hbl, hlocks, hgv⟩ := id C0
  have hts := fun w h => hts0 w (wsL_law_in w h)
  have hbA : ¬ A b := fun h => absurd (hAf b h) (Nat.not_le.mpr hbl)
  refine lv_aload_n hx hb dL_law_350 rfl (lv_at hl 1 rfl) ?_
  refine lv_aload_n hx hb dL_law_351 rfl (lv_at hl 0 rfl) ?_
  refine lv_iload_n hx hb dL_law_352 rfl (lv_at hl 3 rfl) ?_
  refine lv_iconst (v := 1) hx hb dL_law_353 (by decide) ?_
  refine lv_iadd hx hb dL_law_354 ?_
  refine xb_top (y := nI (i + 1)) (nI_add i 1) ?_
  refine va_sld hx hb hX hbl hbA hS (vp_in_nI (by omega) (by omega)) dL_law_355 ?_
  refine xb_top (y := xs (i + 1)) (by rw [nI_clamp (by omega)]) ?_
  obtain ⟨⟨fs, hfs⟩, hph⟩ := okC_o hC
  obtain ⟨ms, hml7, hmet⟩ := p_X10_say l D cB cI cJ cS cZ cO H.size o tm ph wc (xs (i + 1)) hC
  refine xAi hP hD hS hA (va_runV (As := [.int (xs (i + 1))]) (rest := []) ⟨hx, hb, hml, hown, hts⟩ hmet (cwV 1 hts0 gl_X10_say rfl rfl rfl (by decide +kernel) ⟨Nat.le_of_ble_eq_true rfl, Nat.le_of_ble_eq_true rfl⟩) (xPreVA hN hK hP hD hfs rfl rfl) rfl rfl hl.1 rfl (lv_room (Nat.le_of_ble_eq_true rfl)) dL_law_356 ⟨show cl + 0 ≤ 600000 by omega, show sl + ms ≤ 7302250 by omega⟩) (fun r_1 wc H locs hw hP hD hS => ?_)
  obtain ⟨ph2, hC, hms⟩ := hw
  refine lv_pop hx hb dL_law_359 rfl ?_
  refine lv_aload_n hx hb dL_law_360 rfl (lv_at hl 2 rfl) ?_
  refine lv_aload_n hx hb dL_law_361 rfl (lv_at hl 0 rfl) ?_
  refine lv_iload_n hx hb dL_law_362 rfl (lv_at hl 3 rfl) ?_
  refine lv_iconst (v := 1) hx hb dL_law_363 (by decide) ?_
  refine lv_iadd hx hb dL_law_364 ?_
  refine xb_top (y := nI (i + 1)) (nI_add i 1) ?_
  refine va_sld hx hb hX hbl hbA hS (vp_in_nI (by omega) (by omega)) dL_law_365 ?_
  refine xb_top (y := xs (i + 1)) (by rw [nI_clamp (by omega)]) ?_
  obtain ⟨fs2, hfs2⟩ := okM_o hM
  have hP := P_swap hP
  have hD := D_swap hD
  have hmet2 := p_X11_say l D cB cI cJ cS cZ cO H.size mo tm wm (xs (i + 1)) hM
  refine xAi hP hD hS hA (va_runV (As := [.int (xs (i + 1))]) (rest := []) ⟨hx, hb, hml, hown, hts⟩ hmet2 (cwV 1 hts0 gl_X11_say rfl rfl rfl (by decide +kernel) ⟨Nat.le_of_ble_eq_true rfl, Nat.le_of_ble_eq_true rfl⟩) (xPreVA hN hK hP hD hfs2 rfl rfl) rfl rfl hl.1 rfl (lv_room (Nat.le_of_ble_eq_true rfl)) dL_law_366 ⟨show cl + 0 + 0 ≤ 600000 by omega, show sl + ms + 0 ≤ 7302250 by omega⟩) (fun r_2 wm H locs hM hP hD hS => ?_)
  have hP := P_swap hP
  have hD := D_swap hD
  refine lv_pop hx hb dL_law_369 rfl ?_
  refine lv_goto (tgt := 1056) hx hb dL_law_370 (by decide) ?_
  refine lv_iinc (v := nI (i + 6)) (lv' := [(3, .int (nI (i + 6))), (0, .ref b), (1, .ref o), (2, .ref mo)]) hx hb dL_law_1056 hl (k := 3) rfl (nI_add i 6) (by decide) rfl (fun ls hl => ?_)
  refine lv_goto (tgt := 18) hx hb dL_law_1059 (by decide) ?_
  exact kk _ _ _ _ _ ⟨i + 6, wc, wm, _, ph2, rfl, hC, hM, hP, hD, hS, lv_sub hl [1, 2, 3, 0] rfl, by omega, by omega, by omega⟩

set_option maxHeartbeats 4000000 in
set_option maxRecDepth 100000 in
theorem lc_silence {p : Program} {l : Launch} {e : Env} {s : State} {m : MethodId} {below : List Frame} {meth : Method} {c : Code} {b L : Nat} {xs : Nat → Int32} {D : va_G} {cB cI cJ cS cZ cO : ClassId} {A : Nat → Prop} {adK adV : Nat → Nat} {o mo i ph cl sl : Nat} {tm : Int32} {wc wm : va_W} {H : Heap} {locs : List Jvm.Loc} {ls : Array Slot} (C0 : lw_At p s m meth c b L xs) (hL : L ≤ 3072) (hi6 : i + 6 ≤ L) (hK : va_K D vwCl (tyL cB cI cJ cS cZ cO) s) (hN : nwA s) (hE : strE adK adV A s s.heap) (hR : strR adK s) (hA : ∀ q : Nat, s.heap.size ≤ q → A q) (hAf : ∀ q : Nat, A q → s.heap.size ≤ q) (hC : okC cB cI cJ cS cZ cO o tm ph wc) (hM : okM cB cI cJ cS cZ cO mo tm wm) (hP : va_P D vwCl (wc ++ wm) H) (hD : va_D A (wc ++ wm)) (hS : va_S A s.heap H locs) (hl : lv_has ls 4 [(0, .ref b), (1, .ref o), (2, .ref mo), (3, .int (nI i))]) (hcl : cl ≤ 1000 + i) (hsl : sl ≤ 1000000 + 2 * ph) (kk : ∀ (cl2 sl2 : Nat) (H2 : Heap) (locs2 : List Jvm.Loc) (ls2 : Array Slot), LI cB cI cJ cS cZ cO D s A b o mo L (L - (i + 6)) cl2 sl2 H2 locs2 ls2 → W p l e room_1 s m #[Value.ref b] below meth c H2 locs2 cl2 sl2 (lw_Z below #[Value.ref b] s) (F0 m 18 ls2 [])) : W p l e room_1 s m #[Value.ref b] below meth c H locs cl sl (lw_Z below #[Value.ref b] s) (F0 m 373 ls []) := by
  obtain ⟨hx, hb, hr, hml, hown, hts0, hX, hbl, hlocks, hgv⟩ := id C0
  have hts := fun w h => hts0 w (wsL_law_in w h)
  have hbA : ¬ A b := fun h => absurd (hAf b h) (Nat.not_le.mpr hbl)
  refine lv_aload_n hx hb dL_law_373 rfl (lv_at hl 1 rfl) ?_
  obtain ⟨⟨fs, hfs⟩, hph⟩ := okC_o hC
  obtain ⟨ms, hml7, hmet⟩ := p_X10_silence l D cB cI cJ cS cZ cO H.size o tm ph wc  hC
  refine xAi hP hD hS hA (va_runV (As := []) (rest := []) ⟨hx, hb, hml, hown, hts⟩ hmet (cwV 0 hts0 gl_X10_silence rfl rfl rfl (by decide +kernel) ⟨Nat.le_of_ble_eq_true rfl, Nat.le_of_ble_eq_true rfl⟩) (xPreVA hN hK hP hD hfs rfl rfl) rfl rfl hl.1 rfl (lv_room (Nat.le_of_ble_eq_true rfl)) dL_law_374 ⟨show cl + 0 ≤ 600000 by omega, show sl + ms ≤ 7302250 by omega⟩) (fun r_1 wc H locs hw hP hD hS => ?_)
  obtain ⟨ph2, hC, hms⟩ := hw
  refine lv_pop hx hb dL_law_377 rfl ?_
  refine lv_aload_n hx hb dL_law_378 rfl (lv_at hl 2 rfl) ?_
  obtain ⟨fs2, hfs2⟩ := okM_o hM
  have hP := P_swap hP
  have hD := D_swap hD
  have hmet2 := p_X11_silence l D cB cI cJ cS cZ cO H.size mo tm wm  hM
  refine xAi hP hD hS hA (va_runV (As := []) (rest := []) ⟨hx, hb, hml, hown, hts⟩ hmet2 (cwV 0 hts0 gl_X11_silence rfl rfl rfl (by decide +kernel) ⟨Nat.le_of_ble_eq_true rfl, Nat.le_of_ble_eq_true rfl⟩) (xPreVA hN hK hP hD hfs2 rfl rfl) rfl rfl hl.1 rfl (lv_room (Nat.le_of_ble_eq_true rfl)) dL_law_379 ⟨show cl + 0 + 0 ≤ 600000 by omega, show sl + ms + 0 ≤ 7302250 by omega⟩) (fun r_2 wm H locs hM hP hD hS => ?_)
  have hP := P_swap hP
  have hD := D_swap hD
  refine lv_pop hx hb dL_law_382 rfl ?_
  refine lv_goto (tgt := 1056) hx hb dL_law_383 (by decide) ?_
  refine lv_iinc (v := nI (i + 6)) (lv' := [(3, .int (nI (i + 6))), (0, .ref b), (1, .ref o), (2, .ref mo)]) hx hb dL_law_1056 hl (k := 3) rfl (nI_add i 6) (by decide) rfl (fun ls hl => ?_)
  refine lv_goto (tgt := 18) hx hb dL_law_1059 (by decide) ?_
  exact kk _ _ _ _ _ ⟨i + 6, wc, wm, _, ph2, rfl, hC, hM, hP, hD, hS, lv_sub hl [1, 2, 3, 0] rfl, by omega, by omega, by omega⟩

set_option maxHeartbeats 4000000 in
set_option maxRecDepth 100000 in
theorem lc_talk {p : Program} {l : Launch} {e : Env} {s : State} {m : MethodId} {below : List Frame} {meth : Method} {c : Code} {b L : Nat} {xs : Nat → Int32} {D : va_G} {cB cI cJ cS cZ cO : ClassId} {A : Nat → Prop} {adK adV : Nat → Nat} {o mo i ph cl sl : Nat} {tm : Int32} {wc wm : va_W} {H : Heap} {locs : List Jvm.Loc} {ls : Array Slot} (C0 : lw_At p s m meth c b L xs) (hL : L ≤ 3072) (hi6 : i + 6 ≤ L) (hK : va_K D vwCl (tyL cB cI cJ cS cZ cO) s) (hN : nwA s) (hE : strE adK adV A s s.heap) (hR : strR adK s) (hA : ∀ q : Nat, s.heap.size ≤ q → A q) (hAf : ∀ q : Nat, A q → s.heap.size ≤ q) (hC : okC cB cI cJ cS cZ cO o tm ph wc) (hM : okM cB cI cJ cS cZ cO mo tm wm) (hP : va_P D vwCl (wc ++ wm) H) (hD : va_D A (wc ++ wm)) (hS : va_S A s.heap H locs) (hl : lv_has ls 4 [(0, .ref b), (1, .ref o), (2, .ref mo), (3, .int (nI i))]) (hcl : cl ≤ 1000 + i) (hsl : sl ≤ 1000000 + 2 * ph) (kk : ∀ (cl2 sl2 : Nat) (H2 : Heap) (locs2 : List Jvm.Loc) (ls2 : Array Slot), LI cB cI cJ cS cZ cO D s A b o mo L (L - (i + 6)) cl2 sl2 H2 locs2 ls2 → W p l e room_1 s m #[Value.ref b] below meth c H2 locs2 cl2 sl2 (lw_Z below #[Value.ref b] s) (F0 m 18 ls2 [])) : W p l e room_1 s m #[Value.ref b] below meth c H locs cl sl (lw_Z below #[Value.ref b] s) (F0 m 386 ls []) := by
  obtain ⟨hx, hb, hr, hml, hown, hts0, hX, hbl, hlocks, hgv⟩ := id C0
  have hts := fun w h => hts0 w (wsL_law_in w h)
  have hbA : ¬ A b := fun h => absurd (hAf b h) (Nat.not_le.mpr hbl)
  refine lv_aload_n hx hb dL_law_386 rfl (lv_at hl 1 rfl) ?_
  refine lv_aload_n hx hb dL_law_387 rfl (lv_at hl 0 rfl) ?_
  refine lv_iload_n hx hb dL_law_388 rfl (lv_at hl 3 rfl) ?_
  refine lv_iconst (v := 1) hx hb dL_law_389 (by decide) ?_
  refine lv_iadd hx hb dL_law_390 ?_
  refine xb_top (y := nI (i + 1)) (nI_add i 1) ?_
  refine va_sld hx hb hX hbl hbA hS (vp_in_nI (by omega) (by omega)) dL_law_391 ?_
  refine xb_top (y := xs (i + 1)) (by rw [nI_clamp (by omega)]) ?_
  refine lv_aload_n hx hb dL_law_392 rfl (lv_at hl 0 rfl) ?_
  refine lv_iload_n hx hb dL_law_393 rfl (lv_at hl 3 rfl) ?_
  refine lv_iconst (v := 2) hx hb dL_law_394 (by decide) ?_
  refine lv_iadd hx hb dL_law_395 ?_
  refine xb_top (y := nI (i + 2)) (nI_add i 2) ?_
  refine va_sld hx hb hX hbl hbA hS (vp_in_nI (by omega) (by omega)) dL_law_396 ?_
  refine xb_top (y := xs (i + 2)) (by rw [nI_clamp (by omega)]) ?_
  obtain ⟨⟨fs, hfs⟩, hph⟩ := okC_o hC
  obtain ⟨ms, hml7, hmet⟩ := p_X10_talk l D cB cI cJ cS cZ cO H.size o tm ph wc (xs (i + 1)) (xs (i + 2)) hC
  refine xAi hP hD hS hA (va_runV (As := [.int (xs (i + 1)), .int (xs (i + 2))]) (rest := []) ⟨hx, hb, hml, hown, hts⟩ hmet (cwV 2 hts0 gl_X10_talk rfl rfl rfl (by decide +kernel) ⟨Nat.le_of_ble_eq_true rfl, Nat.le_of_ble_eq_true rfl⟩) (xPreVA hN hK hP hD hfs rfl rfl) rfl rfl hl.1 rfl (lv_room (Nat.le_of_ble_eq_true rfl)) dL_law_397 ⟨show cl + 0 ≤ 600000 by omega, show sl + ms ≤ 7302250 by omega⟩) (fun r_1 wc H locs hw hP hD hS => ?_)
  obtain ⟨ph2, hC, hms⟩ := hw
  refine lv_pop hx hb dL_law_400 rfl ?_
  refine lv_aload_n hx hb dL_law_401 rfl (lv_at hl 2 rfl) ?_
  refine lv_aload_n hx hb dL_law_402 rfl (lv_at hl 0 rfl) ?_
  refine lv_iload_n hx hb dL_law_403 rfl (lv_at hl 3 rfl) ?_
  refine lv_iconst (v := 1) hx hb dL_law_404 (by decide) ?_
  refine lv_iadd hx hb dL_law_405 ?_
  refine xb_top (y := nI (i + 1)) (nI_add i 1) ?_
  refine va_sld hx hb hX hbl hbA hS (vp_in_nI (by omega) (by omega)) dL_law_406 ?_
  refine xb_top (y := xs (i + 1)) (by rw [nI_clamp (by omega)]) ?_
  refine lv_aload_n hx hb dL_law_407 rfl (lv_at hl 0 rfl) ?_
  refine lv_iload_n hx hb dL_law_408 rfl (lv_at hl 3 rfl) ?_
  refine lv_iconst (v := 2) hx hb dL_law_409 (by decide) ?_
  refine lv_iadd hx hb dL_law_410 ?_
  refine xb_top (y := nI (i + 2)) (nI_add i 2) ?_
  refine va_sld hx hb hX hbl hbA hS (vp_in_nI (by omega) (by omega)) dL_law_411 ?_
  refine xb_top (y := xs (i + 2)) (by rw [nI_clamp (by omega)]) ?_
  obtain ⟨fs2, hfs2⟩ := okM_o hM
  have hP := P_swap hP
  have hD := D_swap hD
  have hmet2 := p_X11_talk l D cB cI cJ cS cZ cO H.size mo tm wm (xs (i + 1)) (xs (i + 2)) hM
  refine xAi hP hD hS hA (va_runV (As := [.int (xs (i + 1)), .int (xs (i + 2))]) (rest := []) ⟨hx, hb, hml, hown, hts⟩ hmet2 (cwV 2 hts0 gl_X11_talk rfl rfl rfl (by decide +kernel) ⟨Nat.le_of_ble_eq_true rfl, Nat.le_of_ble_eq_true rfl⟩) (xPreVA hN hK hP hD hfs2 rfl rfl) rfl rfl hl.1 rfl (lv_room (Nat.le_of_ble_eq_true rfl)) dL_law_412 ⟨show cl + 0 + 0 ≤ 600000 by omega, show sl + ms + 0 ≤ 7302250 by omega⟩) (fun r_2 wm H locs hM hP hD hS => ?_)
  have hP := P_swap hP
  have hD := D_swap hD
  refine lv_pop hx hb dL_law_415 rfl ?_
  refine lv_goto (tgt := 1056) hx hb dL_law_416 (by decide) ?_
  refine lv_iinc (v := nI (i + 6)) (lv' := [(3, .int (nI (i + 6))), (0, .ref b), (1, .ref o), (2, .ref mo)]) hx hb dL_law_1056 hl (k := 3) rfl (nI_add i 6) (by decide) rfl (fun ls hl => ?_)
  refine lv_goto (tgt := 18) hx hb dL_law_1059 (by decide) ?_
  exact kk _ _ _ _ _ ⟨i + 6, wc, wm, _, ph2, rfl, hC, hM, hP, hD, hS, lv_sub hl [1, 2, 3, 0] rfl, by omega, by omega, by omega⟩

set_option maxHeartbeats 4000000 in
set_option maxRecDepth 100000 in
theorem lc_word {p : Program} {l : Launch} {e : Env} {s : State} {m : MethodId} {below : List Frame} {meth : Method} {c : Code} {b L : Nat} {xs : Nat → Int32} {D : va_G} {cB cI cJ cS cZ cO : ClassId} {A : Nat → Prop} {adK adV : Nat → Nat} {o mo i ph cl sl : Nat} {tm : Int32} {wc wm : va_W} {H : Heap} {locs : List Jvm.Loc} {ls : Array Slot} (C0 : lw_At p s m meth c b L xs) (hL : L ≤ 3072) (hi6 : i + 6 ≤ L) (hK : va_K D vwCl (tyL cB cI cJ cS cZ cO) s) (hN : nwA s) (hE : strE adK adV A s s.heap) (hR : strR adK s) (hA : ∀ q : Nat, s.heap.size ≤ q → A q) (hAf : ∀ q : Nat, A q → s.heap.size ≤ q) (hC : okC cB cI cJ cS cZ cO o tm ph wc) (hM : okM cB cI cJ cS cZ cO mo tm wm) (hP : va_P D vwCl (wc ++ wm) H) (hD : va_D A (wc ++ wm)) (hS : va_S A s.heap H locs) (hl : lv_has ls 4 [(0, .ref b), (1, .ref o), (2, .ref mo), (3, .int (nI i))]) (hcl : cl ≤ 1000 + i) (hsl : sl ≤ 1000000 + 2 * ph) (kk : ∀ (cl2 sl2 : Nat) (H2 : Heap) (locs2 : List Jvm.Loc) (ls2 : Array Slot), LI cB cI cJ cS cZ cO D s A b o mo L (L - (i + 6)) cl2 sl2 H2 locs2 ls2 → W p l e room_1 s m #[Value.ref b] below meth c H2 locs2 cl2 sl2 (lw_Z below #[Value.ref b] s) (F0 m 18 ls2 [])) : W p l e room_1 s m #[Value.ref b] below meth c H locs cl sl (lw_Z below #[Value.ref b] s) (F0 m 419 ls []) := by
  obtain ⟨hx, hb, hr, hml, hown, hts0, hX, hbl, hlocks, hgv⟩ := id C0
  have hts := fun w h => hts0 w (wsL_law_in w h)
  have hbA : ¬ A b := fun h => absurd (hAf b h) (Nat.not_le.mpr hbl)
  refine lv_aload_n hx hb dL_law_419 rfl (lv_at hl 1 rfl) ?_
  refine lv_aload_n hx hb dL_law_420 rfl (lv_at hl 0 rfl) ?_
  refine lv_iload_n hx hb dL_law_421 rfl (lv_at hl 3 rfl) ?_
  refine lv_iconst (v := 1) hx hb dL_law_422 (by decide) ?_
  refine lv_iadd hx hb dL_law_423 ?_
  refine xb_top (y := nI (i + 1)) (nI_add i 1) ?_
  refine va_sld hx hb hX hbl hbA hS (vp_in_nI (by omega) (by omega)) dL_law_424 ?_
  refine xb_top (y := xs (i + 1)) (by rw [nI_clamp (by omega)]) ?_
  refine lv_aload_n hx hb dL_law_425 rfl (lv_at hl 0 rfl) ?_
  refine lv_iload_n hx hb dL_law_426 rfl (lv_at hl 3 rfl) ?_
  refine lv_iconst (v := 2) hx hb dL_law_427 (by decide) ?_
  refine lv_iadd hx hb dL_law_428 ?_
  refine xb_top (y := nI (i + 2)) (nI_add i 2) ?_
  refine va_sld hx hb hX hbl hbA hS (vp_in_nI (by omega) (by omega)) dL_law_429 ?_
  refine xb_top (y := xs (i + 2)) (by rw [nI_clamp (by omega)]) ?_
  obtain ⟨⟨fs, hfs⟩, hph⟩ := okC_o hC
  obtain ⟨ms, hml7, hmet⟩ := p_X10_word l D cB cI cJ cS cZ cO H.size o tm ph wc (xs (i + 1)) (xs (i + 2)) hC
  refine xAi hP hD hS hA (va_runV (As := [.int (xs (i + 1)), .int (xs (i + 2))]) (rest := []) ⟨hx, hb, hml, hown, hts⟩ hmet (cwV 2 hts0 gl_X10_word rfl rfl rfl (by decide +kernel) ⟨Nat.le_of_ble_eq_true rfl, Nat.le_of_ble_eq_true rfl⟩) (xPreVA hN hK hP hD hfs rfl rfl) rfl rfl hl.1 rfl (lv_room (Nat.le_of_ble_eq_true rfl)) dL_law_430 ⟨show cl + 0 ≤ 600000 by omega, show sl + ms ≤ 7302250 by omega⟩) (fun r_1 wc H locs hw hP hD hS => ?_)
  obtain ⟨ph2, hC, hms⟩ := hw
  refine lv_pop hx hb dL_law_433 rfl ?_
  refine lv_aload_n hx hb dL_law_434 rfl (lv_at hl 2 rfl) ?_
  refine lv_aload_n hx hb dL_law_435 rfl (lv_at hl 0 rfl) ?_
  refine lv_iload_n hx hb dL_law_436 rfl (lv_at hl 3 rfl) ?_
  refine lv_iconst (v := 1) hx hb dL_law_437 (by decide) ?_
  refine lv_iadd hx hb dL_law_438 ?_
  refine xb_top (y := nI (i + 1)) (nI_add i 1) ?_
  refine va_sld hx hb hX hbl hbA hS (vp_in_nI (by omega) (by omega)) dL_law_439 ?_
  refine xb_top (y := xs (i + 1)) (by rw [nI_clamp (by omega)]) ?_
  refine lv_aload_n hx hb dL_law_440 rfl (lv_at hl 0 rfl) ?_
  refine lv_iload_n hx hb dL_law_441 rfl (lv_at hl 3 rfl) ?_
  refine lv_iconst (v := 2) hx hb dL_law_442 (by decide) ?_
  refine lv_iadd hx hb dL_law_443 ?_
  refine xb_top (y := nI (i + 2)) (nI_add i 2) ?_
  refine va_sld hx hb hX hbl hbA hS (vp_in_nI (by omega) (by omega)) dL_law_444 ?_
  refine xb_top (y := xs (i + 2)) (by rw [nI_clamp (by omega)]) ?_
  obtain ⟨fs2, hfs2⟩ := okM_o hM
  have hP := P_swap hP
  have hD := D_swap hD
  have hmet2 := p_X11_word l D cB cI cJ cS cZ cO H.size mo tm wm (xs (i + 1)) (xs (i + 2)) hM
  refine xAi hP hD hS hA (va_runV (As := [.int (xs (i + 1)), .int (xs (i + 2))]) (rest := []) ⟨hx, hb, hml, hown, hts⟩ hmet2 (cwV 2 hts0 gl_X11_word rfl rfl rfl (by decide +kernel) ⟨Nat.le_of_ble_eq_true rfl, Nat.le_of_ble_eq_true rfl⟩) (xPreVA hN hK hP hD hfs2 rfl rfl) rfl rfl hl.1 rfl (lv_room (Nat.le_of_ble_eq_true rfl)) dL_law_445 ⟨show cl + 0 + 0 ≤ 600000 by omega, show sl + ms + 0 ≤ 7302250 by omega⟩) (fun r_2 wm H locs hM hP hD hS => ?_)
  have hP := P_swap hP
  have hD := D_swap hD
  refine lv_pop hx hb dL_law_448 rfl ?_
  refine lv_goto (tgt := 1056) hx hb dL_law_449 (by decide) ?_
  refine lv_iinc (v := nI (i + 6)) (lv' := [(3, .int (nI (i + 6))), (0, .ref b), (1, .ref o), (2, .ref mo)]) hx hb dL_law_1056 hl (k := 3) rfl (nI_add i 6) (by decide) rfl (fun ls hl => ?_)
  refine lv_goto (tgt := 18) hx hb dL_law_1059 (by decide) ?_
  exact kk _ _ _ _ _ ⟨i + 6, wc, wm, _, ph2, rfl, hC, hM, hP, hD, hS, lv_sub hl [1, 2, 3, 0] rfl, by omega, by omega, by omega⟩

set_option maxHeartbeats 4000000 in
set_option maxRecDepth 100000 in
theorem lc_all {p : Program} {l : Launch} {e : Env} {s : State} {m : MethodId} {below : List Frame} {meth : Method} {c : Code} {b L : Nat} {xs : Nat → Int32} {D : va_G} {cB cI cJ cS cZ cO : ClassId} {A : Nat → Prop} {adK adV : Nat → Nat} {o mo i ph cl sl : Nat} {tm : Int32} {wc wm : va_W} {H : Heap} {locs : List Jvm.Loc} {ls : Array Slot} (C0 : lw_At p s m meth c b L xs) (hL : L ≤ 3072) (hi6 : i + 6 ≤ L) (hK : va_K D vwCl (tyL cB cI cJ cS cZ cO) s) (hN : nwA s) (hE : strE adK adV A s s.heap) (hR : strR adK s) (hA : ∀ q : Nat, s.heap.size ≤ q → A q) (hAf : ∀ q : Nat, A q → s.heap.size ≤ q) (hC : okC cB cI cJ cS cZ cO o tm ph wc) (hM : okM cB cI cJ cS cZ cO mo tm wm) (hP : va_P D vwCl (wc ++ wm) H) (hD : va_D A (wc ++ wm)) (hS : va_S A s.heap H locs) (hl : lv_has ls 4 [(0, .ref b), (1, .ref o), (2, .ref mo), (3, .int (nI i))]) (hcl : cl ≤ 1000 + i) (hsl : sl ≤ 1000000 + 2 * ph) (kk : ∀ (cl2 sl2 : Nat) (H2 : Heap) (locs2 : List Jvm.Loc) (ls2 : Array Slot), LI cB cI cJ cS cZ cO D s A b o mo L (L - (i + 6)) cl2 sl2 H2 locs2 ls2 → W p l e room_1 s m #[Value.ref b] below meth c H2 locs2 cl2 sl2 (lw_Z below #[Value.ref b] s) (F0 m 18 ls2 [])) : W p l e room_1 s m #[Value.ref b] below meth c H locs cl sl (lw_Z below #[Value.ref b] s) (F0 m 452 ls []) := by
  obtain ⟨hx, hb, hr, hml, hown, hts0, hX, hbl, hlocks, hgv⟩ := id C0
  have hts := fun w h => hts0 w (wsL_law_in w h)
  have hbA : ¬ A b := fun h => absurd (hAf b h) (Nat.not_le.mpr hbl)
  refine lv_aload_n hx hb dL_law_452 rfl (lv_at hl 1 rfl) ?_
  refine lv_aload_n hx hb dL_law_453 rfl (lv_at hl 0 rfl) ?_
  refine lv_iload_n hx hb dL_law_454 rfl (lv_at hl 3 rfl) ?_
  refine lv_iconst (v := 1) hx hb dL_law_455 (by decide) ?_
  refine lv_iadd hx hb dL_law_456 ?_
  refine xb_top (y := nI (i + 1)) (nI_add i 1) ?_
  refine va_sld hx hb hX hbl hbA hS (vp_in_nI (by omega) (by omega)) dL_law_457 ?_
  refine xb_top (y := xs (i + 1)) (by rw [nI_clamp (by omega)]) ?_
  refine lv_if_eq (tgt := 465) hx hb dL_law_458 (by decide) (fun c_1 => ?_) (fun c_1 => ?_)
  · refine lv_iconst (v := 0) hx hb dL_law_465 (by decide) ?_
    obtain ⟨⟨fs, hfs⟩, hph⟩ := okC_o hC
    obtain ⟨ms, hml7, hmet⟩ := p_X10_all_0 l D cB cI cJ cS cZ cO H.size o tm ph wc  hC
    refine xAi hP hD hS hA (va_runV (As := [.int 0]) (rest := []) ⟨hx, hb, hml, hown, hts⟩ hmet (cwV 1 hts0 gl_X10_all rfl rfl rfl (by decide +kernel) ⟨Nat.le_of_ble_eq_true rfl, Nat.le_of_ble_eq_true rfl⟩) (xPreVA hN hK hP hD hfs rfl rfl) rfl rfl hl.1 rfl (lv_room (Nat.le_of_ble_eq_true rfl)) dL_law_466 ⟨show cl + 6 ≤ 600000 by omega, show sl + ms ≤ 7302250 by omega⟩) (fun r_2 wc H locs hw hP hD hS => ?_)
    obtain ⟨ph2, hC, hms⟩ := hw
    refine lv_pop hx hb dL_law_469 rfl ?_
    refine lv_aload_n hx hb dL_law_470 rfl (lv_at hl 2 rfl) ?_
    refine lv_aload_n hx hb dL_law_471 rfl (lv_at hl 0 rfl) ?_
    refine lv_iload_n hx hb dL_law_472 rfl (lv_at hl 3 rfl) ?_
    refine lv_iconst (v := 1) hx hb dL_law_473 (by decide) ?_
    refine lv_iadd hx hb dL_law_474 ?_
    refine xb_top (y := nI (i + 1)) (nI_add i 1) ?_
    refine va_sld hx hb hX hbl hbA hS (vp_in_nI (by omega) (by omega)) dL_law_475 ?_
    refine xb_top (y := xs (i + 1)) (by rw [nI_clamp (by omega)]) ?_
    refine lv_if_eq (tgt := 483) hx hb dL_law_476 (by decide) (fun c_3 => ?_) (fun c_3 => ?_)
    · refine lv_iconst (v := 0) hx hb dL_law_483 (by decide) ?_
      obtain ⟨fs2, hfs2⟩ := okM_o hM
      have hP := P_swap hP
      have hD := D_swap hD
      have hmet2 := p_X11_all_0 l D cB cI cJ cS cZ cO H.size mo tm wm  hM
      refine xAi hP hD hS hA (va_runV (As := [.int 0]) (rest := []) ⟨hx, hb, hml, hown, hts⟩ hmet2 (cwV 1 hts0 gl_X11_all rfl rfl rfl (by decide +kernel) ⟨Nat.le_of_ble_eq_true rfl, Nat.le_of_ble_eq_true rfl⟩) (xPreVA hN hK hP hD hfs2 rfl rfl) rfl rfl hl.1 rfl (lv_room (Nat.le_of_ble_eq_true rfl)) dL_law_484 ⟨show cl + 6 + 0 ≤ 600000 by omega, show sl + ms + 0 ≤ 7302250 by omega⟩) (fun r_4 wm H locs hM hP hD hS => ?_)
      have hP := P_swap hP
      have hD := D_swap hD
      refine lv_pop hx hb dL_law_487 rfl ?_
      refine lv_goto (tgt := 1056) hx hb dL_law_488 (by decide) ?_
      refine lv_iinc (v := nI (i + 6)) (lv' := [(3, .int (nI (i + 6))), (0, .ref b), (1, .ref o), (2, .ref mo)]) hx hb dL_law_1056 hl (k := 3) rfl (nI_add i 6) (by decide) rfl (fun ls hl => ?_)
      refine lv_goto (tgt := 18) hx hb dL_law_1059 (by decide) ?_
      exact kk _ _ _ _ _ ⟨i + 6, wc, wm, _, ph2, rfl, hC, hM, hP, hD, hS, lv_sub hl [1, 2, 3, 0] rfl, by omega, by omega, by omega⟩
    · refine lv_iconst (v := 1) hx hb dL_law_479 (by decide) ?_
      refine lv_goto (tgt := 484) hx hb dL_law_480 (by decide) ?_
      obtain ⟨fs2, hfs2⟩ := okM_o hM
      have hP := P_swap hP
      have hD := D_swap hD
      have hmet2 := p_X11_all_1 l D cB cI cJ cS cZ cO H.size mo tm wm  hM
      refine xAi hP hD hS hA (va_runV (As := [.int 1]) (rest := []) ⟨hx, hb, hml, hown, hts⟩ hmet2 (cwV 1 hts0 gl_X11_all rfl rfl rfl (by decide +kernel) ⟨Nat.le_of_ble_eq_true rfl, Nat.le_of_ble_eq_true rfl⟩) (xPreVA hN hK hP hD hfs2 rfl rfl) rfl rfl hl.1 rfl (lv_room (Nat.le_of_ble_eq_true rfl)) dL_law_484 ⟨show cl + 6 + 0 ≤ 600000 by omega, show sl + ms + 0 ≤ 7302250 by omega⟩) (fun r_5 wm H locs hM hP hD hS => ?_)
      have hP := P_swap hP
      have hD := D_swap hD
      refine lv_pop hx hb dL_law_487 rfl ?_
      refine lv_goto (tgt := 1056) hx hb dL_law_488 (by decide) ?_
      refine lv_iinc (v := nI (i + 6)) (lv' := [(3, .int (nI (i + 6))), (0, .ref b), (1, .ref o), (2, .ref mo)]) hx hb dL_law_1056 hl (k := 3) rfl (nI_add i 6) (by decide) rfl (fun ls hl => ?_)
      refine lv_goto (tgt := 18) hx hb dL_law_1059 (by decide) ?_
      exact kk _ _ _ _ _ ⟨i + 6, wc, wm, _, ph2, rfl, hC, hM, hP, hD, hS, lv_sub hl [1, 2, 3, 0] rfl, by omega, by omega, by omega⟩
  · refine lv_iconst (v := 1) hx hb dL_law_461 (by decide) ?_
    refine lv_goto (tgt := 466) hx hb dL_law_462 (by decide) ?_
    obtain ⟨⟨fs, hfs⟩, hph⟩ := okC_o hC
    obtain ⟨ms, hml7, hmet⟩ := p_X10_all_1 l D cB cI cJ cS cZ cO H.size o tm ph wc  hC
    refine xAi hP hD hS hA (va_runV (As := [.int 1]) (rest := []) ⟨hx, hb, hml, hown, hts⟩ hmet (cwV 1 hts0 gl_X10_all rfl rfl rfl (by decide +kernel) ⟨Nat.le_of_ble_eq_true rfl, Nat.le_of_ble_eq_true rfl⟩) (xPreVA hN hK hP hD hfs rfl rfl) rfl rfl hl.1 rfl (lv_room (Nat.le_of_ble_eq_true rfl)) dL_law_466 ⟨show cl + 1 ≤ 600000 by omega, show sl + ms ≤ 7302250 by omega⟩) (fun r_6 wc H locs hw hP hD hS => ?_)
    obtain ⟨ph2, hC, hms⟩ := hw
    refine lv_pop hx hb dL_law_469 rfl ?_
    refine lv_aload_n hx hb dL_law_470 rfl (lv_at hl 2 rfl) ?_
    refine lv_aload_n hx hb dL_law_471 rfl (lv_at hl 0 rfl) ?_
    refine lv_iload_n hx hb dL_law_472 rfl (lv_at hl 3 rfl) ?_
    refine lv_iconst (v := 1) hx hb dL_law_473 (by decide) ?_
    refine lv_iadd hx hb dL_law_474 ?_
    refine xb_top (y := nI (i + 1)) (nI_add i 1) ?_
    refine va_sld hx hb hX hbl hbA hS (vp_in_nI (by omega) (by omega)) dL_law_475 ?_
    refine xb_top (y := xs (i + 1)) (by rw [nI_clamp (by omega)]) ?_
    refine lv_if_eq (tgt := 483) hx hb dL_law_476 (by decide) (fun c_7 => ?_) (fun c_7 => ?_)
    · refine lv_iconst (v := 0) hx hb dL_law_483 (by decide) ?_
      obtain ⟨fs2, hfs2⟩ := okM_o hM
      have hP := P_swap hP
      have hD := D_swap hD
      have hmet2 := p_X11_all_0 l D cB cI cJ cS cZ cO H.size mo tm wm  hM
      refine xAi hP hD hS hA (va_runV (As := [.int 0]) (rest := []) ⟨hx, hb, hml, hown, hts⟩ hmet2 (cwV 1 hts0 gl_X11_all rfl rfl rfl (by decide +kernel) ⟨Nat.le_of_ble_eq_true rfl, Nat.le_of_ble_eq_true rfl⟩) (xPreVA hN hK hP hD hfs2 rfl rfl) rfl rfl hl.1 rfl (lv_room (Nat.le_of_ble_eq_true rfl)) dL_law_484 ⟨show cl + 1 + 0 ≤ 600000 by omega, show sl + ms + 0 ≤ 7302250 by omega⟩) (fun r_8 wm H locs hM hP hD hS => ?_)
      have hP := P_swap hP
      have hD := D_swap hD
      refine lv_pop hx hb dL_law_487 rfl ?_
      refine lv_goto (tgt := 1056) hx hb dL_law_488 (by decide) ?_
      refine lv_iinc (v := nI (i + 6)) (lv' := [(3, .int (nI (i + 6))), (0, .ref b), (1, .ref o), (2, .ref mo)]) hx hb dL_law_1056 hl (k := 3) rfl (nI_add i 6) (by decide) rfl (fun ls hl => ?_)
      refine lv_goto (tgt := 18) hx hb dL_law_1059 (by decide) ?_
      exact kk _ _ _ _ _ ⟨i + 6, wc, wm, _, ph2, rfl, hC, hM, hP, hD, hS, lv_sub hl [1, 2, 3, 0] rfl, by omega, by omega, by omega⟩
    · refine lv_iconst (v := 1) hx hb dL_law_479 (by decide) ?_
      refine lv_goto (tgt := 484) hx hb dL_law_480 (by decide) ?_
      obtain ⟨fs2, hfs2⟩ := okM_o hM
      have hP := P_swap hP
      have hD := D_swap hD
      have hmet2 := p_X11_all_1 l D cB cI cJ cS cZ cO H.size mo tm wm  hM
      refine xAi hP hD hS hA (va_runV (As := [.int 1]) (rest := []) ⟨hx, hb, hml, hown, hts⟩ hmet2 (cwV 1 hts0 gl_X11_all rfl rfl rfl (by decide +kernel) ⟨Nat.le_of_ble_eq_true rfl, Nat.le_of_ble_eq_true rfl⟩) (xPreVA hN hK hP hD hfs2 rfl rfl) rfl rfl hl.1 rfl (lv_room (Nat.le_of_ble_eq_true rfl)) dL_law_484 ⟨show cl + 1 + 0 ≤ 600000 by omega, show sl + ms + 0 ≤ 7302250 by omega⟩) (fun r_9 wm H locs hM hP hD hS => ?_)
      have hP := P_swap hP
      have hD := D_swap hD
      refine lv_pop hx hb dL_law_487 rfl ?_
      refine lv_goto (tgt := 1056) hx hb dL_law_488 (by decide) ?_
      refine lv_iinc (v := nI (i + 6)) (lv' := [(3, .int (nI (i + 6))), (0, .ref b), (1, .ref o), (2, .ref mo)]) hx hb dL_law_1056 hl (k := 3) rfl (nI_add i 6) (by decide) rfl (fun ls hl => ?_)
      refine lv_goto (tgt := 18) hx hb dL_law_1059 (by decide) ?_
      exact kk _ _ _ _ _ ⟨i + 6, wc, wm, _, ph2, rfl, hC, hM, hP, hD, hS, lv_sub hl [1, 2, 3, 0] rfl, by omega, by omega, by omega⟩

set_option maxHeartbeats 4000000 in
set_option maxRecDepth 100000 in
theorem lc_longest {p : Program} {l : Launch} {e : Env} {s : State} {m : MethodId} {below : List Frame} {meth : Method} {c : Code} {b L : Nat} {xs : Nat → Int32} {D : va_G} {cB cI cJ cS cZ cO : ClassId} {A : Nat → Prop} {adK adV : Nat → Nat} {o mo i ph cl sl : Nat} {tm : Int32} {wc wm : va_W} {H : Heap} {locs : List Jvm.Loc} {ls : Array Slot} (C0 : lw_At p s m meth c b L xs) (hL : L ≤ 3072) (hi6 : i + 6 ≤ L) (hK : va_K D vwCl (tyL cB cI cJ cS cZ cO) s) (hN : nwA s) (hE : strE adK adV A s s.heap) (hR : strR adK s) (hA : ∀ q : Nat, s.heap.size ≤ q → A q) (hAf : ∀ q : Nat, A q → s.heap.size ≤ q) (hC : okC cB cI cJ cS cZ cO o tm ph wc) (hM : okM cB cI cJ cS cZ cO mo tm wm) (hP : va_P D vwCl (wc ++ wm) H) (hD : va_D A (wc ++ wm)) (hS : va_S A s.heap H locs) (hl : lv_has ls 4 [(0, .ref b), (1, .ref o), (2, .ref mo), (3, .int (nI i))]) (hcl : cl ≤ 1000 + i) (hsl : sl ≤ 1000000 + 2 * ph) (kk : ∀ (cl2 sl2 : Nat) (H2 : Heap) (locs2 : List Jvm.Loc) (ls2 : Array Slot), LI cB cI cJ cS cZ cO D s A b o mo L (L - (i + 6)) cl2 sl2 H2 locs2 ls2 → W p l e room_1 s m #[Value.ref b] below meth c H2 locs2 cl2 sl2 (lw_Z below #[Value.ref b] s) (F0 m 18 ls2 [])) : W p l e room_1 s m #[Value.ref b] below meth c H locs cl sl (lw_Z below #[Value.ref b] s) (F0 m 491 ls []) := by
  obtain ⟨hx, hb, hr, hml, hown, hts0, hX, hbl, hlocks, hgv⟩ := id C0
  have hts := fun w h => hts0 w (wsL_law_in w h)
  have hbA : ¬ A b := fun h => absurd (hAf b h) (Nat.not_le.mpr hbl)
  refine lv_aload_n hx hb dL_law_491 rfl (lv_at hl 1 rfl) ?_
  obtain ⟨⟨fs, hfs⟩, hph⟩ := okC_o hC
  obtain ⟨ms, hml7, hmet⟩ := p_X10_longest l D cB cI cJ cS cZ cO H.size o tm ph wc  hC
  refine xAi hP hD hS hA (va_runV (As := []) (rest := []) ⟨hx, hb, hml, hown, hts⟩ hmet (cwV 0 hts0 gl_X10_longest rfl rfl rfl (by decide +kernel) ⟨Nat.le_of_ble_eq_true rfl, Nat.le_of_ble_eq_true rfl⟩) (xPreVA hN hK hP hD hfs rfl rfl) rfl rfl hl.1 rfl (lv_room (Nat.le_of_ble_eq_true rfl)) dL_law_492 ⟨show cl + 3 ≤ 600000 by omega, show sl + ms ≤ 7302250 by omega⟩) (fun r_1 wc H locs hw hP hD hS => ?_)
  obtain ⟨ph2, hC, hms⟩ := hw
  refine lv_pop hx hb dL_law_495 rfl ?_
  refine lv_aload_n hx hb dL_law_496 rfl (lv_at hl 2 rfl) ?_
  obtain ⟨fs2, hfs2⟩ := okM_o hM
  have hP := P_swap hP
  have hD := D_swap hD
  have hmet2 := p_X11_longest l D cB cI cJ cS cZ cO H.size mo tm wm  hM
  refine xAi hP hD hS hA (va_runV (As := []) (rest := []) ⟨hx, hb, hml, hown, hts⟩ hmet2 (cwV 0 hts0 gl_X11_longest rfl rfl rfl (by decide +kernel) ⟨Nat.le_of_ble_eq_true rfl, Nat.le_of_ble_eq_true rfl⟩) (xPreVA hN hK hP hD hfs2 rfl rfl) rfl rfl hl.1 rfl (lv_room (Nat.le_of_ble_eq_true rfl)) dL_law_497 ⟨show cl + 3 + 0 ≤ 600000 by omega, show sl + ms + 0 ≤ 7302250 by omega⟩) (fun r_2 wm H locs hM hP hD hS => ?_)
  have hP := P_swap hP
  have hD := D_swap hD
  refine lv_pop hx hb dL_law_500 rfl ?_
  refine lv_goto (tgt := 1056) hx hb dL_law_501 (by decide) ?_
  refine lv_iinc (v := nI (i + 6)) (lv' := [(3, .int (nI (i + 6))), (0, .ref b), (1, .ref o), (2, .ref mo)]) hx hb dL_law_1056 hl (k := 3) rfl (nI_add i 6) (by decide) rfl (fun ls hl => ?_)
  refine lv_goto (tgt := 18) hx hb dL_law_1059 (by decide) ?_
  exact kk _ _ _ _ _ ⟨i + 6, wc, wm, _, ph2, rfl, hC, hM, hP, hD, hS, lv_sub hl [1, 2, 3, 0] rfl, by omega, by omega, by omega⟩
