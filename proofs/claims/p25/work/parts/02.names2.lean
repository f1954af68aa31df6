theorem dL_act_189 : decode cL_act 189 = .ok (.sipush 1296, 3) := by decide +kernel
theorem dL_act_192 : decode cL_act 192 = .ok (.invokestatic 15, 3) := by decide +kernel
theorem dL_act_195 : decode cL_act 195 = .ok (.invokestatic 24, 3) := by decide +kernel
theorem dL_act_198 : decode cL_act 198 = .ok (.putfield 28, 3) := by decide +kernel
theorem dL_act_201 : decode cL_act 201 = .ok (.aload_n 1, 1) := by decide +kernel
theorem dL_act_202 : decode cL_act 202 = .ok (.aload 7, 2) := by decide +kernel
theorem dL_act_204 : decode cL_act 204 = .ok (.putfield 9, 3) := by decide +kernel
theorem dL_act_207 : decode cL_act 207 = .ok (.aload_n 0, 1) := by decide +kernel
theorem dL_act_208 : decode cL_act 208 = .ok (.aload 7, 2) := by decide +kernel
theorem dL_act_210 : decode cL_act 210 = .ok (.iload_n 3, 1) := by decide +kernel
theorem dL_act_211 : decode cL_act 211 = .ok (.aaload, 1) := by decide +kernel
theorem dL_act_212 : decode cL_act 212 = .ok (.getfield 28, 3) := by decide +kernel
theorem dL_act_215 : decode cL_act 215 = .ok (.invokestatic 32, 3) := by decide +kernel
theorem dL_act_218 : decode cL_act 218 = .ok (.invokevirtual 35, 3) := by decide +kernel
theorem dL_act_221 : decode cL_act 221 = .ok (.iload_n 3, 1) := by decide +kernel
theorem dL_act_222 : decode cL_act 222 = .ok (.if_icmp .ne 7, 3) := by decide +kernel
theorem dL_act_225 : decode cL_act 225 = .ok (.iconst 1, 1) := by decide +kernel
theorem dL_act_226 : decode cL_act 226 = .ok (.goto 4, 3) := by decide +kernel
theorem dL_act_229 : decode cL_act 229 = .ok (.iconst 0, 1) := by decide +kernel
theorem dL_act_230 : decode cL_act 230 = .ok (.ireturn, 1) := by decide +kernel
theorem dL_act_231 : decode cL_act 231 = .ok (.iload_n 3, 1) := by decide +kernel
theorem dL_act_232 : decode cL_act 232 = .ok (.ifCond .ne 5, 3) := by decide +kernel
theorem dL_act_235 : decode cL_act 235 = .ok (.iconst 1, 1) := by decide +kernel
theorem dL_act_236 : decode cL_act 236 = .ok (.ireturn, 1) := by decide +kernel
theorem dL_act_237 : decode cL_act 237 = .ok (.iload_n 2, 1) := by decide +kernel
theorem dL_act_238 : decode cL_act 238 = .ok (.iconst 3, 1) := by decide +kernel
theorem dL_act_239 : decode cL_act 239 = .ok (.ishr, 1) := by decide +kernel
theorem dL_act_240 : decode cL_act 240 = .ok (.iconst 4, 1) := by decide +kernel
theorem dL_act_241 : decode cL_act 241 = .ok (.invokestatic 15, 3) := by decide +kernel
theorem dL_act_244 : decode cL_act 244 = .ok (.istore 8, 2) := by decide +kernel
theorem dL_act_246 : decode cL_act 246 = .ok (.iload_n 2, 1) := by decide +kernel
theorem dL_act_247 : decode cL_act 247 = .ok (.iconst 4, 1) := by decide +kernel
theorem dL_act_248 : decode cL_act 248 = .ok (.ishr, 1) := by decide +kernel
theorem dL_act_249 : decode cL_act 249 = .ok (.iconst 3, 1) := by decide +kernel
theorem dL_act_250 : decode cL_act 250 = .ok (.invokestatic 15, 3) := by decide +kernel
theorem dL_act_253 : decode cL_act 253 = .ok (.ifCond .ne 14, 3) := by decide +kernel
theorem dL_act_256 : decode cL_act 256 = .ok (.iload_n 2, 1) := by decide +kernel
theorem dL_act_257 : decode cL_act 257 = .ok (.iconst 1, 1) := by decide +kernel
theorem dL_act_258 : decode cL_act 258 = .ok (.ishr, 1) := by decide +kernel
theorem dL_act_259 : decode cL_act 259 = .ok (.bipush 6, 2) := by decide +kernel
theorem dL_act_261 : decode cL_act 261 = .ok (.invokestatic 15, 3) := by decide +kernel
theorem dL_act_264 : decode cL_act 264 = .ok (.goto 11, 3) := by decide +kernel
theorem dL_act_267 : decode cL_act 267 = .ok (.aload 5, 2) := by decide +kernel
theorem dL_act_269 : decode cL_act 269 = .ok (.getfield 28, 3) := by decide +kernel
theorem dL_act_272 : decode cL_act 272 = .ok (.iload 8, 2) := by decide +kernel
theorem dL_act_274 : decode cL_act 274 = .ok (.iaload, 1) := by decide +kernel
theorem dL_act_275 : decode cL_act 275 = .ok (.istore 9, 2) := by decide +kernel
theorem dL_act_277 : decode cL_act 277 = .ok (.aload 5, 2) := by decide +kernel
theorem dL_act_279 : decode cL_act 279 = .ok (.getfield 41, 3) := by decide +kernel
theorem dL_act_282 : decode cL_act 282 = .ok (.iload 8, 2) := by decide +kernel
theorem dL_act_284 : decode cL_act 284 = .ok (.iaload, 1) := by decide +kernel
theorem dL_act_285 : decode cL_act 285 = .ok (.iload 9, 2) := by decide +kernel
theorem dL_act_287 : decode cL_act 287 = .ok (.invokestatic 44, 3) := by decide +kernel
theorem dL_act_290 : decode cL_act 290 = .ok (.istore 10, 2) := by decide +kernel
theorem dL_act_292 : decode cL_act 292 = .ok (.aload 5, 2) := by decide +kernel
theorem dL_act_294 : decode cL_act 294 = .ok (.getfield 41, 3) := by decide +kernel
theorem dL_act_297 : decode cL_act 297 = .ok (.iload 8, 2) := by decide +kernel
theorem dL_act_299 : decode cL_act 299 = .ok (.iload 9, 2) := by decide +kernel
theorem dL_act_301 : decode cL_act 301 = .ok (.iastore, 1) := by decide +kernel
theorem dL_act_302 : decode cL_act 302 = .ok (.aload_n 1, 1) := by decide +kernel
theorem dL_act_303 : decode cL_act 303 = .ok (.dup, 1) := by decide +kernel
theorem dL_act_304 : decode cL_act 304 = .ok (.getfield 47, 3) := by decide +kernel
theorem dL_act_307 : decode cL_act 307 = .ok (.iload 10, 2) := by decide +kernel
theorem dL_act_309 : decode cL_act 309 = .ok (.iadd, 1) := by decide +kernel
theorem dL_act_310 : decode cL_act 310 = .ok (.putfield 47, 3) := by decide +kernel
theorem dL_act_313 : decode cL_act 313 = .ok (.aload_n 0, 1) := by decide +kernel
theorem dL_act_314 : decode cL_act 314 = .ok (.iload 4, 2) := by decide +kernel
theorem dL_act_316 : decode cL_act 316 = .ok (.iload 8, 2) := by decide +kernel
theorem dL_act_318 : decode cL_act 318 = .ok (.iload 9, 2) := by decide +kernel
theorem dL_act_320 : decode cL_act 320 = .ok (.invokevirtual 51, 3) := by decide +kernel
theorem dL_act_323 : decode cL_act 323 = .ok (.iload 10, 2) := by decide +kernel
theorem dL_act_325 : decode cL_act 325 = .ok (.if_icmp .ne 7, 3) := by decide +kernel
theorem dL_act_328 : decode cL_act 328 = .ok (.iconst 1, 1) := by decide +kernel
theorem dL_act_329 : decode cL_act 329 = .ok (.goto 4, 3) := by decide +kernel
theorem dL_act_332 : decode cL_act 332 = .ok (.iconst 0, 1) := by decide +kernel
theorem dL_act_333 : decode cL_act 333 = .ok (.ireturn, 1) := by decide +kernel
theorem dL_act_334 : decode cL_act 334 = .ok (.iload_n 3, 1) := by decide +kernel
theorem dL_act_335 : decode cL_act 335 = .ok (.ifCond .ne 5, 3) := by decide +kernel
theorem dL_act_338 : decode cL_act 338 = .ok (.iconst 1, 1) := by decide +kernel
theorem dL_act_339 : decode cL_act 339 = .ok (.ireturn, 1) := by decide +kernel
theorem dL_act_340 : decode cL_act 340 = .ok (.iconst 0, 1) := by decide +kernel
theorem dL_act_341 : decode cL_act 341 = .ok (.istore 11, 2) := by decide +kernel
theorem dL_act_343 : decode cL_act 343 = .ok (.iload 11, 2) := by decide +kernel
theorem dL_act_345 : decode cL_act 345 = .ok (.iconst 4, 1) := by decide +kernel
theorem dL_act_346 : decode cL_act 346 = .ok (.if_icmp .ge 90, 3) := by decide +kernel
theorem dL_act_349 : decode cL_act 349 = .ok (.iload_n 2, 1) := by decide +kernel
theorem dL_act_350 : decode cL_act 350 = .ok (.iconst 5, 1) := by decide +kernel
theorem dL_act_351 : decode cL_act 351 = .ok (.ishr, 1) := by decide +kernel
theorem dL_act_352 : decode cL_act 352 = .ok (.iconst 2, 1) := by decide +kernel
theorem dL_act_353 : decode cL_act 353 = .ok (.invokestatic 15, 3) := by decide +kernel
theorem dL_act_356 : decode cL_act 356 = .ok (.ifCond .ne 80, 3) := by decide +kernel
theorem dL_act_359 : decode cL_act 359 = .ok (.aload 5, 2) := by decide +kernel
theorem dL_act_361 : decode cL_act 361 = .ok (.getfield 41, 3) := by decide +kernel
theorem dL_act_364 : decode cL_act 364 = .ok (.iload 11, 2) := by decide +kernel
theorem dL_act_366 : decode cL_act 366 = .ok (.iaload, 1) := by decide +kernel
theorem dL_act_367 : decode cL_act 367 = .ok (.aload 5, 2) := by decide +kernel
theorem dL_act_369 : decode cL_act 369 = .ok (.getfield 28, 3) := by decide +kernel
theorem dL_act_372 : decode cL_act 372 = .ok (.iload 11, 2) := by decide +kernel
theorem dL_act_374 : decode cL_act 374 = .ok (.iaload, 1) := by decide +kernel
theorem dL_act_375 : decode cL_act 375 = .ok (.invokestatic 44, 3) := by decide +kernel
theorem dL_act_378 : decode cL_act 378 = .ok (.istore 12, 2) := by decide +kernel
theorem dL_act_380 : decode cL_act 380 = .ok (.aload_n 1, 1) := by decide +kernel
theorem dL_act_381 : decode cL_act 381 = .ok (.dup, 1) := by decide +kernel
theorem dL_act_382 : decode cL_act 382 = .ok (.getfield 47, 3) := by decide +kernel
theorem dL_act_385 : decode cL_act 385 = .ok (.iload 12, 2) := by decide +kernel
theorem dL_act_387 : decode cL_act 387 = .ok (.iadd, 1) := by decide +kernel
theorem dL_act_388 : decode cL_act 388 = .ok (.putfield 47, 3) := by decide +kernel
theorem dL_act_391 : decode cL_act 391 = .ok (.aload 5, 2) := by decide +kernel
theorem dL_act_393 : decode cL_act 393 = .ok (.getfield 41, 3) := by decide +kernel
theorem dL_act_396 : decode cL_act 396 = .ok (.iload 11, 2) := by decide +kernel
theorem dL_act_398 : decode cL_act 398 = .ok (.aload 5, 2) := by decide +kernel
theorem dL_act_400 : decode cL_act 400 = .ok (.getfield 28, 3) := by decide +kernel
theorem dL_act_403 : decode cL_act 403 = .ok (.iload 11, 2) := by decide +kernel
theorem dL_act_405 : decode cL_act 405 = .ok (.iaload, 1) := by decide +kernel
theorem dL_act_406 : decode cL_act 406 = .ok (.iastore, 1) := by decide +kernel
theorem dL_act_407 : decode cL_act 407 = .ok (.aload_n 0, 1) := by decide +kernel
theorem dL_act_408 : decode cL_act 408 = .ok (.iload 4, 2) := by decide +kernel
theorem dL_act_410 : decode cL_act 410 = .ok (.iload 11, 2) := by decide +kernel
theorem dL_act_412 : decode cL_act 412 = .ok (.aload 5, 2) := by decide +kernel
theorem dL_act_414 : decode cL_act 414 = .ok (.getfield 28, 3) := by decide +kernel
theorem dL_act_417 : decode cL_act 417 = .ok (.iload 11, 2) := by decide +kernel
theorem dL_act_419 : decode cL_act 419 = .ok (.iaload, 1) := by decide +kernel
theorem dL_act_420 : decode cL_act 420 = .ok (.invokevirtual 51, 3) := by decide +kernel
theorem dL_act_423 : decode cL_act 423 = .ok (.iload 12, 2) := by decide +kernel
theorem dL_act_425 : decode cL_act 425 = .ok (.if_icmp .eq 5, 3) := by decide +kernel
theorem dL_act_428 : decode cL_act 428 = .ok (.iconst 0, 1) := by decide +kernel
theorem dL_act_429 : decode cL_act 429 = .ok (.ireturn, 1) := by decide +kernel
theorem dL_act_430 : decode cL_act 430 = .ok (.iinc 11 1, 3) := by decide +kernel
theorem dL_act_433 : decode cL_act 433 = .ok (.goto (-90), 3) := by decide +kernel
theorem dL_act_436 : decode cL_act 436 = .ok (.aload 5, 2) := by decide +kernel
theorem dL_act_438 : decode cL_act 438 = .ok (.aload 5, 2) := by decide +kernel
theorem dL_act_440 : decode cL_act 440 = .ok (.getfield 55, 3) := by decide +kernel
theorem dL_act_443 : decode cL_act 443 = .ok (.ifCond .ne 22, 3) := by decide +kernel
theorem dL_act_446 : decode cL_act 446 = .ok (.aload 5, 2) := by decide +kernel
theorem dL_act_448 : decode cL_act 448 = .ok (.getfield 41, 3) := by decide +kernel
theorem dL_act_451 : decode cL_act 451 = .ok (.invokestatic 32, 3) := by decide +kernel
theorem dL_act_454 : decode cL_act 454 = .ok (.aload 5, 2) := by decide +kernel
theorem dL_act_456 : decode cL_act 456 = .ok (.getfield 28, 3) := by decide +kernel
theorem dL_act_459 : decode cL_act 459 = .ok (.invokestatic 32, 3) := by decide +kernel
theorem dL_act_462 : decode cL_act 462 = .ok (.if_icmp .ne 7, 3) := by decide +kernel
theorem dL_act_465 : decode cL_act 465 = .ok (.iconst 1, 1) := by decide +kernel
theorem dL_act_466 : decode cL_act 466 = .ok (.goto 4, 3) := by decide +kernel
theorem dL_act_469 : decode cL_act 469 = .ok (.iconst 0, 1) := by decide +kernel
theorem dL_act_470 : decode cL_act 470 = .ok (.putfield 55, 3) := by decide +kernel
theorem dL_act_473 : decode cL_act 473 = .ok (.aload_n 0, 1) := by decide +kernel
theorem dL_act_474 : decode cL_act 474 = .ok (.iload 4, 2) := by decide +kernel
theorem dL_act_476 : decode cL_act 476 = .ok (.invokevirtual 59, 3) := by decide +kernel
theorem dL_act_479 : decode cL_act 479 = .ok (.aload 5, 2) := by decide +kernel
theorem dL_act_481 : decode cL_act 481 = .ok (.getfield 55, 3) := by decide +kernel
theorem dL_act_484 : decode cL_act 484 = .ok (.if_icmp .ne 7, 3) := by decide +kernel
theorem dL_act_487 : decode cL_act 487 = .ok (.iconst 1, 1) := by decide +kernel
theorem dL_act_488 : decode cL_act 488 = .ok (.goto 4, 3) := by decide +kernel
theorem dL_act_491 : decode cL_act 491 = .ok (.iconst 0, 1) := by decide +kernel
theorem dL_act_492 : decode cL_act 492 = .ok (.ireturn, 1) := by decide +kernel
theorem dL_act_493 : decode cL_act 493 = .ok (.iload_n 3, 1) := by decide +kernel
theorem dL_act_494 : decode cL_act 494 = .ok (.ifCond .eq 11, 3) := by decide +kernel
theorem dL_act_497 : decode cL_act 497 = .ok (.aload 5, 2) := by decide +kernel
theorem dL_act_499 : decode cL_act 499 = .ok (.getfield 55, 3) := by decide +kernel
theorem dL_act_502 : decode cL_act 502 = .ok (.ifCond .ne 5, 3) := by decide +kernel
theorem dL_act_505 : decode cL_act 505 = .ok (.iconst 1, 1) := by decide +kernel
theorem dL_act_506 : decode cL_act 506 = .ok (.ireturn, 1) := by decide +kernel
theorem dL_act_507 : decode cL_act 507 = .ok (.aload 5, 2) := by decide +kernel
theorem dL_act_509 : decode cL_act 509 = .ok (.invokevirtual 63, 3) := by decide +kernel
theorem dL_act_512 : decode cL_act 512 = .ok (.aload_n 0, 1) := by decide +kernel
theorem dL_act_513 : decode cL_act 513 = .ok (.iload 4, 2) := by decide +kernel
theorem dL_act_515 : decode cL_act 515 = .ok (.invokevirtual 66, 3) := by decide +kernel
theorem dL_act_518 : decode cL_act 518 = .ok (.aload 5, 2) := by decide +kernel
theorem dL_act_520 : decode cL_act 520 = .ok (.getfield 41, 3) := by decide +kernel
theorem dL_act_523 : decode cL_act 523 = .ok (.invokestatic 32, 3) := by decide +kernel
theorem dL_act_526 : decode cL_act 526 = .ok (.if_icmp .ne 7, 3) := by decide +kernel
theorem dL_act_529 : decode cL_act 529 = .ok (.iconst 1, 1) := by decide +kernel
theorem dL_act_530 : decode cL_act 530 = .ok (.goto 4, 3) := by decide +kernel
theorem dL_act_533 : decode cL_act 533 = .ok (.iconst 0, 1) := by decide +kernel
theorem dL_act_534 : decode cL_act 534 = .ok (.ireturn, 1) := by decide +kernel
theorem dL_act_535 : decode cL_act 535 = .ok (.iload_n 3, 1) := by decide +kernel
theorem dL_act_536 : decode cL_act 536 = .ok (.ifCond .eq 11, 3) := by decide +kernel
theorem dL_act_539 : decode cL_act 539 = .ok (.aload 5, 2) := by decide +kernel
theorem dL_act_541 : decode cL_act 541 = .ok (.getfield 55, 3) := by decide +kernel
theorem dL_act_544 : decode cL_act 544 = .ok (.ifCond .ne 5, 3) := by decide +kernel
theorem dL_act_547 : decode cL_act 547 = .ok (.iconst 1, 1) := by decide +kernel
theorem dL_act_548 : decode cL_act 548 = .ok (.ireturn, 1) := by decide +kernel
theorem dL_act_549 : decode cL_act 549 = .ok (.aload 5, 2) := by decide +kernel
theorem dL_act_551 : decode cL_act 551 = .ok (.getfield 28, 3) := by decide +kernel
theorem dL_act_554 : decode cL_act 554 = .ok (.invokestatic 32, 3) := by decide +kernel
theorem dL_act_557 : decode cL_act 557 = .ok (.istore 11, 2) := by decide +kernel
theorem dL_act_559 : decode cL_act 559 = .ok (.aload 5, 2) := by decide +kernel
theorem dL_act_561 : decode cL_act 561 = .ok (.iload_n 2, 1) := by decide +kernel
theorem dL_act_562 : decode cL_act 562 = .ok (.iconst 3, 1) := by decide +kernel
theorem dL_act_563 : decode cL_act 563 = .ok (.ishr, 1) := by decide +kernel
theorem dL_act_564 : decode cL_act 564 = .ok (.sipush 1296, 3) := by decide +kernel
theorem dL_act_567 : decode cL_act 567 = .ok (.invokestatic 15, 3) := by decide +kernel
theorem dL_act_570 : decode cL_act 570 = .ok (.invokestatic 24, 3) := by decide +kernel
theorem dL_act_573 : decode cL_act 573 = .ok (.putfield 28, 3) := by decide +kernel
theorem dL_act_576 : decode cL_act 576 = .ok (.aload 5, 2) := by decide +kernel
theorem dL_act_578 : decode cL_act 578 = .ok (.iconst 0, 1) := by decide +kernel
theorem dL_act_579 : decode cL_act 579 = .ok (.putfield 68, 3) := by decide +kernel
theorem dL_act_582 : decode cL_act 582 = .ok (.aload_n 0, 1) := by decide +kernel
theorem dL_act_583 : decode cL_act 583 = .ok (.iload 4, 2) := by decide +kernel
theorem dL_act_585 : decode cL_act 585 = .ok (.aload 5, 2) := by decide +kernel
theorem dL_act_587 : decode cL_act 587 = .ok (.getfield 28, 3) := by decide +kernel
theorem dL_act_590 : decode cL_act 590 = .ok (.invokestatic 32, 3) := by decide +kernel
theorem dL_act_593 : decode cL_act 593 = .ok (.invokevirtual 71, 3) := by decide +kernel
theorem dL_act_596 : decode cL_act 596 = .ok (.iload 11, 2) := by decide +kernel
theorem dL_act_598 : decode cL_act 598 = .ok (.if_icmp .ne 7, 3) := by decide +kernel
theorem dL_act_601 : decode cL_act 601 = .ok (.iconst 1, 1) := by decide +kernel
theorem dL_act_602 : decode cL_act 602 = .ok (.goto 4, 3) := by decide +kernel
theorem dL_act_605 : decode cL_act 605 = .ok (.iconst 0, 1) := by decide +kernel
theorem dL_act_606 : decode cL_act 606 = .ok (.ireturn, 1) := by decide +kernel
theorem dL_act_607 : decode cL_act 607 = .ok (.iload_n 3, 1) := by decide +kernel
theorem dL_act_608 : decode cL_act 608 = .ok (.ifCond .ne 5, 3) := by decide +kernel
theorem dL_act_611 : decode cL_act 611 = .ok (.iconst 1, 1) := by decide +kernel
theorem dL_act_612 : decode cL_act 612 = .ok (.ireturn, 1) := by decide +kernel
theorem dL_act_613 : decode cL_act 613 = .ok (.aload 5, 2) := by decide +kernel
theorem dL_act_615 : decode cL_act 615 = .ok (.getfield 68, 3) := by decide +kernel
theorem dL_act_618 : decode cL_act 618 = .ok (.istore 12, 2) := by decide +kernel
theorem dL_act_620 : decode cL_act 620 = .ok (.aload 5, 2) := by decide +kernel
theorem dL_act_622 : decode cL_act 622 = .ok (.iload_n 2, 1) := by decide +kernel
theorem dL_act_623 : decode cL_act 623 = .ok (.iconst 3, 1) := by decide +kernel
theorem dL_act_624 : decode cL_act 624 = .ok (.ishr, 1) := by decide +kernel
theorem dL_act_625 : decode cL_act 625 = .ok (.iconst 2, 1) := by decide +kernel
theorem dL_act_626 : decode cL_act 626 = .ok (.invokestatic 15, 3) := by decide +kernel
theorem dL_act_629 : decode cL_act 629 = .ok (.ifCond .ne 7, 3) := by decide +kernel
theorem dL_act_632 : decode cL_act 632 = .ok (.iconst 1, 1) := by decide +kernel
theorem dL_act_633 : decode cL_act 633 = .ok (.goto 4, 3) := by decide +kernel
theorem dL_act_636 : decode cL_act 636 = .ok (.iconst 0, 1) := by decide +kernel
theorem dL_act_637 : decode cL_act 637 = .ok (.putfield 68, 3) := by decide +kernel
theorem dL_act_640 : decode cL_act 640 = .ok (.aload_n 0, 1) := by decide +kernel
theorem dL_act_641 : decode cL_act 641 = .ok (.iload 4, 2) := by decide +kernel
theorem dL_act_643 : decode cL_act 643 = .ok (.aload 5, 2) := by decide +kernel
theorem dL_act_645 : decode cL_act 645 = .ok (.getfield 68, 3) := by decide +kernel
theorem dL_act_648 : decode cL_act 648 = .ok (.invokevirtual 74, 3) := by decide +kernel
theorem dL_act_651 : decode cL_act 651 = .ok (.iload 12, 2) := by decide +kernel
theorem dL_act_653 : decode cL_act 653 = .ok (.if_icmp .ne 7, 3) := by decide +kernel
theorem dL_act_656 : decode cL_act 656 = .ok (.iconst 1, 1) := by decide +kernel
theorem dL_act_657 : decode cL_act 657 = .ok (.goto 4, 3) := by decide +kernel
theorem dL_act_660 : decode cL_act 660 = .ok (.iconst 0, 1) := by decide +kernel
theorem dL_act_661 : decode cL_act 661 = .ok (.ireturn, 1) := by decide +kernel
theorem dL_act_662 : decode cL_act 662 = .ok (.iconst 1, 1) := by decide +kernel
theorem dL_act_663 : decode cL_act 663 = .ok (.iload_n 2, 1) := by decide +kernel
theorem dL_act_664 : decode cL_act 664 = .ok (.iconst 3, 1) := by decide +kernel
theorem dL_act_665 : decode cL_act 665 = .ok (.ishr, 1) := by decide +kernel
theorem dL_act_666 : decode cL_act 666 = .ok (.bipush 6, 2) := by decide +kernel
theorem dL_act_668 : decode cL_act 668 = .ok (.invokestatic 15, 3) := by decide +kernel
theorem dL_act_671 : decode cL_act 671 = .ok (.iadd, 1) := by decide +kernel
theorem dL_act_672 : decode cL_act 672 = .ok (.istore 13, 2) := by decide +kernel
theorem dL_act_674 : decode cL_act 674 = .ok (.aload_n 1, 1) := by decide +kernel
theorem dL_act_675 : decode cL_act 675 = .ok (.iload 6, 2) := by decide +kernel
theorem dL_act_677 : decode cL_act 677 = .ok (.invokevirtual 78, 3) := by decide +kernel
theorem dL_act_680 : decode cL_act 680 = .ok (.iload 13, 2) := by decide +kernel
theorem dL_act_682 : decode cL_act 682 = .ok (.if_icmp .le 5, 3) := by decide +kernel
theorem dL_act_685 : decode cL_act 685 = .ok (.iconst 1, 1) := by decide +kernel
theorem dL_act_686 : decode cL_act 686 = .ok (.ireturn, 1) := by decide +kernel
theorem dL_act_687 : decode cL_act 687 = .ok (.aload_n 1, 1) := by decide +kernel
theorem dL_act_688 : decode cL_act 688 = .ok (.getfield 81, 3) := by decide +kernel
theorem dL_act_691 : decode cL_act 691 = .ok (.iload 6, 2) := by decide +kernel
theorem dL_act_693 : decode cL_act 693 = .ok (.aaload, 1) := by decide +kernel
theorem dL_act_694 : decode cL_act 694 = .ok (.iconst 0, 1) := by decide +kernel
theorem dL_act_695 : decode cL_act 695 = .ok (.iaload, 1) := by decide +kernel
theorem dL_act_696 : decode cL_act 696 = .ok (.istore 14, 2) := by decide +kernel
theorem dL_act_698 : decode cL_act 698 = .ok (.aload_n 1, 1) := by decide +kernel
theorem dL_act_699 : decode cL_act 699 = .ok (.getfield 81, 3) := by decide +kernel
theorem dL_act_702 : decode cL_act 702 = .ok (.iload 6, 2) := by decide +kernel
theorem dL_act_704 : decode cL_act 704 = .ok (.iconst 3, 1) := by decide +kernel
theorem dL_act_705 : decode cL_act 705 = .ok (.newarray .int, 2) := by decide +kernel
theorem dL_act_707 : decode cL_act 707 = .ok (.dup, 1) := by decide +kernel
theorem dL_act_708 : decode cL_act 708 = .ok (.iconst 0, 1) := by decide +kernel
theorem dL_act_709 : decode cL_act 709 = .ok (.iload 13, 2) := by decide +kernel
theorem dL_act_711 : decode cL_act 711 = .ok (.iastore, 1) := by decide +kernel
theorem dL_act_712 : decode cL_act 712 = .ok (.dup, 1) := by decide +kernel
theorem dL_act_713 : decode cL_act 713 = .ok (.iconst 1, 1) := by decide +kernel
theorem dL_act_714 : decode cL_act 714 = .ok (.aload_n 1, 1) := by decide +kernel
theorem dL_act_715 : decode cL_act 715 = .ok (.getfield 81, 3) := by decide +kernel
theorem dL_act_718 : decode cL_act 718 = .ok (.iload 6, 2) := by decide +kernel
theorem dL_act_720 : decode cL_act 720 = .ok (.aaload, 1) := by decide +kernel
theorem dL_act_721 : decode cL_act 721 = .ok (.iconst 1, 1) := by decide +kernel
theorem dL_act_722 : decode cL_act 722 = .ok (.iaload, 1) := by decide +kernel
theorem dL_act_723 : decode cL_act 723 = .ok (.iastore, 1) := by decide +kernel
theorem dL_act_724 : decode cL_act 724 = .ok (.dup, 1) := by decide +kernel
theorem dL_act_725 : decode cL_act 725 = .ok (.iconst 2, 1) := by decide +kernel
theorem dL_act_726 : decode cL_act 726 = .ok (.aload_n 1, 1) := by decide +kernel
theorem dL_act_727 : decode cL_act 727 = .ok (.getfield 81, 3) := by decide +kernel
theorem dL_act_730 : decode cL_act 730 = .ok (.iload 6, 2) := by decide +kernel
theorem dL_act_732 : decode cL_act 732 = .ok (.aaload, 1) := by decide +kernel
theorem dL_act_733 : decode cL_act 733 = .ok (.iconst 2, 1) := by decide +kernel
theorem dL_act_734 : decode cL_act 734 = .ok (.iaload, 1) := by decide +kernel
theorem dL_act_735 : decode cL_act 735 = .ok (.iastore, 1) := by decide +kernel
theorem dL_act_736 : decode cL_act 736 = .ok (.aastore, 1) := by decide +kernel
theorem dL_act_737 : decode cL_act 737 = .ok (.aload_n 0, 1) := by decide +kernel
theorem dL_act_738 : decode cL_act 738 = .ok (.iload 6, 2) := by decide +kernel
theorem dL_act_740 : decode cL_act 740 = .ok (.iload 13, 2) := by decide +kernel
theorem dL_act_742 : decode cL_act 742 = .ok (.invokevirtual 85, 3) := by decide +kernel
theorem dL_act_745 : decode cL_act 745 = .ok (.iload 14, 2) := by decide +kernel
theorem dL_act_747 : decode cL_act 747 = .ok (.if_icmp .ne 7, 3) := by decide +kernel
theorem dL_act_750 : decode cL_act 750 = .ok (.iconst 1, 1) := by decide +kernel
theorem dL_act_751 : decode cL_act 751 = .ok (.goto 4, 3) := by decide +kernel
theorem dL_act_754 : decode cL_act 754 = .ok (.iconst 0, 1) := by decide +kernel
theorem dL_act_755 : decode cL_act 755 = .ok (.ireturn, 1) := by decide +kernel
theorem dL_act_756 : decode cL_act 756 = .ok (.bipush 25, 2) := by decide +kernel
theorem dL_act_758 : decode cL_act 758 = .ok (.aload_n 1, 1) := by decide +kernel
theorem dL_act_759 : decode cL_act 759 = .ok (.getfield 81, 3) := by decide +kernel
theorem dL_act_762 : decode cL_act 762 = .ok (.iload 6, 2) := by decide +kernel
theorem dL_act_764 : decode cL_act 764 = .ok (.aaload, 1) := by decide +kernel
theorem dL_act_765 : decode cL_act 765 = .ok (.iconst 1, 1) := by decide +kernel
theorem dL_act_766 : decode cL_act 766 = .ok (.iaload, 1) := by decide +kernel
theorem dL_act_767 : decode cL_act 767 = .ok (.imul, 1) := by decide +kernel
theorem dL_act_768 : decode cL_act 768 = .ok (.aload_n 1, 1) := by decide +kernel
theorem dL_act_769 : decode cL_act 769 = .ok (.getfield 81, 3) := by decide +kernel
theorem dL_act_772 : decode cL_act 772 = .ok (.iload 6, 2) := by decide +kernel
theorem dL_act_774 : decode cL_act 774 = .ok (.aaload, 1) := by decide +kernel
theorem dL_act_775 : decode cL_act 775 = .ok (.iconst 2, 1) := by decide +kernel
theorem dL_act_776 : decode cL_act 776 = .ok (.iaload, 1) := by decide +kernel
theorem dL_act_777 : decode cL_act 777 = .ok (.iadd, 1) := by decide +kernel
theorem dL_act_778 : decode cL_act 778 = .ok (.istore 15, 2) := by decide +kernel
theorem dL_act_780 : decode cL_act 780 = .ok (.aload_n 1, 1) := by decide +kernel
theorem dL_act_781 : decode cL_act 781 = .ok (.getfield 81, 3) := by decide +kernel
theorem dL_act_784 : decode cL_act 784 = .ok (.iload 6, 2) := by decide +kernel
theorem dL_act_786 : decode cL_act 786 = .ok (.iconst 3, 1) := by decide +kernel
theorem dL_act_787 : decode cL_act 787 = .ok (.newarray .int, 2) := by decide +kernel
theorem dL_act_789 : decode cL_act 789 = .ok (.dup, 1) := by decide +kernel
theorem dL_act_790 : decode cL_act 790 = .ok (.iconst 0, 1) := by decide +kernel
theorem dL_act_791 : decode cL_act 791 = .ok (.aload_n 1, 1) := by decide +kernel
theorem dL_act_792 : decode cL_act 792 = .ok (.getfield 81, 3) := by decide +kernel
theorem dL_act_795 : decode cL_act 795 = .ok (.iload 6, 2) := by decide +kernel
theorem dL_act_797 : decode cL_act 797 = .ok (.aaload, 1) := by decide +kernel
theorem dL_act_798 : decode cL_act 798 = .ok (.iconst 0, 1) := by decide +kernel
theorem dL_act_799 : decode cL_act 799 = .ok (.iaload, 1) := by decide +kernel
theorem dL_act_800 : decode cL_act 800 = .ok (.iastore, 1) := by decide +kernel
theorem dL_act_801 : decode cL_act 801 = .ok (.dup, 1) := by decide +kernel
theorem dL_act_802 : decode cL_act 802 = .ok (.iconst 1, 1) := by decide +kernel
theorem dL_act_803 : decode cL_act 803 = .ok (.iload_n 2, 1) := by decide +kernel
theorem dL_act_804 : decode cL_act 804 = .ok (.iconst 3, 1) := by decide +kernel
theorem dL_act_805 : decode cL_act 805 = .ok (.ishr, 1) := by decide +kernel
theorem dL_act_806 : decode cL_act 806 = .ok (.bipush 24, 2) := by decide +kernel
theorem dL_act_808 : decode cL_act 808 = .ok (.invokestatic 15, 3) := by decide +kernel
theorem dL_act_811 : decode cL_act 811 = .ok (.iastore, 1) := by decide +kernel
theorem dL_act_812 : decode cL_act 812 = .ok (.dup, 1) := by decide +kernel
theorem dL_act_813 : decode cL_act 813 = .ok (.iconst 2, 1) := by decide +kernel
theorem dL_act_814 : decode cL_act 814 = .ok (.iload_n 2, 1) := by decide +kernel
theorem dL_act_815 : decode cL_act 815 = .ok (.iconst 4, 1) := by decide +kernel
theorem dL_act_816 : decode cL_act 816 = .ok (.ishr, 1) := by decide +kernel
theorem dL_act_817 : decode cL_act 817 = .ok (.bipush 25, 2) := by decide +kernel
theorem dL_act_819 : decode cL_act 819 = .ok (.invokestatic 15, 3) := by decide +kernel
theorem dL_act_822 : decode cL_act 822 = .ok (.iastore, 1) := by decide +kernel
theorem dL_act_823 : decode cL_act 823 = .ok (.aastore, 1) := by decide +kernel
theorem dL_act_824 : decode cL_act 824 = .ok (.aload_n 0, 1) := by decide +kernel
theorem dL_act_825 : decode cL_act 825 = .ok (.iload 6, 2) := by decide +kernel
theorem dL_act_827 : decode cL_act 827 = .ok (.aload_n 1, 1) := by decide +kernel
theorem dL_act_828 : decode cL_act 828 = .ok (.getfield 81, 3) := by decide +kernel
theorem dL_act_831 : decode cL_act 831 = .ok (.iload 6, 2) := by decide +kernel
theorem dL_act_833 : decode cL_act 833 = .ok (.aaload, 1) := by decide +kernel
theorem dL_act_834 : decode cL_act 834 = .ok (.iconst 1, 1) := by decide +kernel
theorem dL_act_835 : decode cL_act 835 = .ok (.iaload, 1) := by decide +kernel
theorem dL_act_836 : decode cL_act 836 = .ok (.aload_n 1, 1) := by decide +kernel
theorem dL_act_837 : decode cL_act 837 = .ok (.getfield 81, 3) := by decide +kernel
theorem dL_act_840 : decode cL_act 840 = .ok (.iload 6, 2) := by decide +kernel
theorem dL_act_842 : decode cL_act 842 = .ok (.aaload, 1) := by decide +kernel
theorem dL_act_843 : decode cL_act 843 = .ok (.iconst 2, 1) := by decide +kernel
theorem dL_act_844 : decode cL_act 844 = .ok (.iaload, 1) := by decide +kernel
theorem dL_act_845 : decode cL_act 845 = .ok (.invokevirtual 88, 3) := by decide +kernel
theorem dL_act_848 : decode cL_act 848 = .ok (.iload 15, 2) := by decide +kernel
theorem dL_act_850 : decode cL_act 850 = .ok (.if_icmp .ne 7, 3) := by decide +kernel
theorem dL_act_853 : decode cL_act 853 = .ok (.iconst 1, 1) := by decide +kernel
theorem dL_act_854 : decode cL_act 854 = .ok (.goto 4, 3) := by decide +kernel
theorem dL_act_857 : decode cL_act 857 = .ok (.iconst 0, 1) := by decide +kernel
theorem dL_act_858 : decode cL_act 858 = .ok (.ireturn, 1) := by decide +kernel
theorem dL_act_859 : decode cL_act 859 = .ok (.iload_n 3, 1) := by decide +kernel
theorem dL_act_860 : decode cL_act 860 = .ok (.ifCond .ne 5, 3) := by decide +kernel
theorem dL_act_863 : decode cL_act 863 = .ok (.iconst 1, 1) := by decide +kernel
theorem dL_act_864 : decode cL_act 864 = .ok (.ireturn, 1) := by decide +kernel
theorem dL_act_865 : decode cL_act 865 = .ok (.iload_n 2, 1) := by decide +kernel
theorem dL_act_866 : decode cL_act 866 = .ok (.iconst 3, 1) := by decide +kernel
theorem dL_act_867 : decode cL_act 867 = .ok (.ishr, 1) := by decide +kernel
theorem dL_act_868 : decode cL_act 868 = .ok (.iconst 5, 1) := by decide +kernel
theorem dL_act_869 : decode cL_act 869 = .ok (.invokestatic 15, 3) := by decide +kernel
theorem dL_act_872 : decode cL_act 872 = .ok (.ifCond .ne 7, 3) := by decide +kernel
theorem dL_act_875 : decode cL_act 875 = .ok (.iconst (-1), 1) := by decide +kernel
theorem dL_act_876 : decode cL_act 876 = .ok (.goto 5, 3) := by decide +kernel
theorem dL_act_879 : decode cL_act 879 = .ok (.iload 6, 2) := by decide +kernel
theorem dL_act_881 : decode cL_act 881 = .ok (.istore 16, 2) := by decide +kernel
theorem dL_act_883 : decode cL_act 883 = .ok (.iload 16, 2) := by decide +kernel
theorem dL_act_885 : decode cL_act 885 = .ok (.aload 5, 2) := by decide +kernel
theorem dL_act_887 : decode cL_act 887 = .ok (.getfield 91, 3) := by decide +kernel
theorem dL_act_890 : decode cL_act 890 = .ok (.if_icmp .eq 45, 3) := by decide +kernel
theorem dL_act_893 : decode cL_act 893 = .ok (.aload 5, 2) := by decide +kernel
theorem dL_act_895 : decode cL_act 895 = .ok (.getfield 55, 3) := by decide +kernel
theorem dL_act_898 : decode cL_act 898 = .ok (.ifCond .eq 35, 3) := by decide +kernel
theorem dL_act_901 : decode cL_act 901 = .ok (.iload 16, 2) := by decide +kernel
theorem dL_act_903 : decode cL_act 903 = .ok (.ifCond .lt 32, 3) := by decide +kernel
theorem dL_act_906 : decode cL_act 906 = .ok (.aload_n 1, 1) := by decide +kernel
theorem dL_act_907 : decode cL_act 907 = .ok (.iload 16, 2) := by decide +kernel
theorem dL_act_909 : decode cL_act 909 = .ok (.invokevirtual 94, 3) := by decide +kernel
theorem dL_act_912 : decode cL_act 912 = .ok (.ifCond .eq 21, 3) := by decide +kernel
theorem dL_act_915 : decode cL_act 915 = .ok (.aload_n 1, 1) := by decide +kernel
theorem dL_act_916 : decode cL_act 916 = .ok (.iload 16, 2) := by decide +kernel
theorem dL_act_918 : decode cL_act 918 = .ok (.invokevirtual 78, 3) := by decide +kernel
theorem dL_act_921 : decode cL_act 921 = .ok (.aload_n 1, 1) := by decide +kernel
theorem dL_act_922 : decode cL_act 922 = .ok (.getfield 81, 3) := by decide +kernel
theorem dL_act_925 : decode cL_act 925 = .ok (.iload 16, 2) := by decide +kernel
theorem dL_act_927 : decode cL_act 927 = .ok (.aaload, 1) := by decide +kernel
theorem dL_act_928 : decode cL_act 928 = .ok (.iconst 0, 1) := by decide +kernel
theorem dL_act_929 : decode cL_act 929 = .ok (.iaload, 1) := by decide +kernel
theorem dL_act_930 : decode cL_act 930 = .ok (.if_icmp .lt 5, 3) := by decide +kernel
theorem dL_act_933 : decode cL_act 933 = .ok (.iconst 1, 1) := by decide +kernel
theorem dL_act_934 : decode cL_act 934 = .ok (.ireturn, 1) := by decide +kernel
theorem dL_act_935 : decode cL_act 935 = .ok (.aload 5, 2) := by decide +kernel
theorem dL_act_937 : decode cL_act 937 = .ok (.getfield 91, 3) := by decide +kernel
theorem dL_act_940 : decode cL_act 940 = .ok (.istore 17, 2) := by decide +kernel
theorem dL_act_942 : decode cL_act 942 = .ok (.aload 5, 2) := by decide +kernel
theorem dL_act_944 : decode cL_act 944 = .ok (.iload 16, 2) := by decide +kernel
theorem dL_act_946 : decode cL_act 946 = .ok (.putfield 91, 3) := by decide +kernel
theorem dL_act_949 : decode cL_act 949 = .ok (.aload_n 0, 1) := by decide +kernel
theorem dL_act_950 : decode cL_act 950 = .ok (.iload 4, 2) := by decide +kernel
theorem dL_act_952 : decode cL_act 952 = .ok (.iload 16, 2) := by decide +kernel
theorem dL_act_954 : decode cL_act 954 = .ok (.invokevirtual 96, 3) := by decide +kernel
theorem dL_act_957 : decode cL_act 957 = .ok (.iload 17, 2) := by decide +kernel
theorem dL_act_959 : decode cL_act 959 = .ok (.if_icmp .ne 7, 3) := by decide +kernel
theorem dL_act_962 : decode cL_act 962 = .ok (.iconst 1, 1) := by decide +kernel
theorem dL_act_963 : decode cL_act 963 = .ok (.goto 4, 3) := by decide +kernel
theorem dL_act_966 : decode cL_act 966 = .ok (.iconst 0, 1) := by decide +kernel
theorem dL_act_967 : decode cL_act 967 = .ok (.ireturn, 1) := by decide +kernel
theorem dL_build_0 : decode cL_build 0 = .ok (.new 10, 3) := by decide +kernel
theorem dL_build_3 : decode cL_build 3 = .ok (.dup, 1) := by decide +kernel
theorem dL_build_4 : decode cL_build 4 = .ok (.invokespecial 99, 3) := by decide +kernel
theorem dL_build_7 : decode cL_build 7 = .ok (.astore_n 2, 1) := by decide +kernel
theorem dL_build_8 : decode cL_build 8 = .ok (.iconst 0, 1) := by decide +kernel
theorem dL_build_9 : decode cL_build 9 = .ok (.istore_n 3, 1) := by decide +kernel
theorem dL_build_10 : decode cL_build 10 = .ok (.iload_n 3, 1) := by decide +kernel
theorem dL_build_11 : decode cL_build 11 = .ok (.bipush 40, 2) := by decide +kernel
theorem dL_build_13 : decode cL_build 13 = .ok (.if_icmp .ge 84, 3) := by decide +kernel
theorem dL_build_16 : decode cL_build 16 = .ok (.aload_n 0, 1) := by decide +kernel
theorem dL_build_17 : decode cL_build 17 = .ok (.aload_n 2, 1) := by decide +kernel
theorem dL_build_18 : decode cL_build 18 = .ok (.aload_n 1, 1) := by decide +kernel
theorem dL_build_19 : decode cL_build 19 = .ok (.iload_n 3, 1) := by decide +kernel
theorem dL_build_20 : decode cL_build 20 = .ok (.bipush 16, 2) := by decide +kernel
theorem dL_build_22 : decode cL_build 22 = .ok (.irem, 1) := by decide +kernel
theorem dL_build_23 : decode cL_build 23 = .ok (.invokestatic 100, 3) := by decide +kernel
theorem dL_build_26 : decode cL_build 26 = .ok (.iload_n 3, 1) := by decide +kernel
theorem dL_build_27 : decode cL_build 27 = .ok (.bipush 16, 2) := by decide +kernel
theorem dL_build_29 : decode cL_build 29 = .ok (.idiv, 1) := by decide +kernel
theorem dL_build_30 : decode cL_build 30 = .ok (.iconst 4, 1) := by decide +kernel
theorem dL_build_31 : decode cL_build 31 = .ok (.imul, 1) := by decide +kernel
theorem dL_build_32 : decode cL_build 32 = .ok (.ishr, 1) := by decide +kernel
theorem dL_build_33 : decode cL_build 33 = .ok (.sipush 313, 3) := by decide +kernel
theorem dL_build_36 : decode cL_build 36 = .ok (.iload_n 3, 1) := by decide +kernel
theorem dL_build_37 : decode cL_build 37 = .ok (.imul, 1) := by decide +kernel
theorem dL_build_38 : decode cL_build 38 = .ok (.iadd, 1) := by decide +kernel
theorem dL_build_39 : decode cL_build 39 = .ok (.iload_n 3, 1) := by decide +kernel
theorem dL_build_40 : decode cL_build 40 = .ok (.bipush 6, 2) := by decide +kernel
theorem dL_build_42 : decode cL_build 42 = .ok (.if_icmp .ge 13, 3) := by decide +kernel
theorem dL_build_45 : decode cL_build 45 = .ok (.sipush 512, 3) := by decide +kernel
theorem dL_build_48 : decode cL_build 48 = .ok (.iload_n 3, 1) := by decide +kernel
theorem dL_build_49 : decode cL_build 49 = .ok (.iconst 2, 1) := by decide +kernel
theorem dL_build_50 : decode cL_build 50 = .ok (.irem, 1) := by decide +kernel
theorem dL_build_51 : decode cL_build 51 = .ok (.imul, 1) := by decide +kernel
theorem dL_build_52 : decode cL_build 52 = .ok (.goto 4, 3) := by decide +kernel
theorem dL_build_55 : decode cL_build 55 = .ok (.iconst 0, 1) := by decide +kernel
theorem dL_build_56 : decode cL_build 56 = .ok (.iadd, 1) := by decide +kernel
theorem dL_build_57 : decode cL_build 57 = .ok (.invokestatic 104, 3) := by decide +kernel
theorem dL_build_60 : decode cL_build 60 = .ok (.ifCond .ne 5, 3) := by decide +kernel
theorem dL_build_63 : decode cL_build 63 = .ok (.aconst_null, 1) := by decide +kernel
theorem dL_build_64 : decode cL_build 64 = .ok (.areturn, 1) := by decide +kernel
theorem dL_build_65 : decode cL_build 65 = .ok (.iload_n 3, 1) := by decide +kernel
theorem dL_build_66 : decode cL_build 66 = .ok (.bipush 9, 2) := by decide +kernel
theorem dL_build_68 : decode cL_build 68 = .ok (.if_icmp .le 23, 3) := by decide +kernel
theorem dL_build_71 : decode cL_build 71 = .ok (.iload_n 3, 1) := by decide +kernel
theorem dL_build_72 : decode cL_build 72 = .ok (.iconst 3, 1) := by decide +kernel
theorem dL_build_73 : decode cL_build 73 = .ok (.irem, 1) := by decide +kernel
theorem dL_build_74 : decode cL_build 74 = .ok (.ifCond .ne 17, 3) := by decide +kernel
theorem dL_build_77 : decode cL_build 77 = .ok (.aload_n 0, 1) := by decide +kernel
theorem dL_build_78 : decode cL_build 78 = .ok (.iconst 1, 1) := by decide +kernel
theorem dL_build_79 : decode cL_build 79 = .ok (.invokevirtual 108, 3) := by decide +kernel
theorem dL_build_82 : decode cL_build 82 = .ok (.aload_n 2, 1) := by decide +kernel
theorem dL_build_83 : decode cL_build 83 = .ok (.invokevirtual 111, 3) := by decide +kernel
theorem dL_build_86 : decode cL_build 86 = .ok (.if_icmp .eq 5, 3) := by decide +kernel
theorem dL_build_89 : decode cL_build 89 = .ok (.aconst_null, 1) := by decide +kernel
theorem dL_build_90 : decode cL_build 90 = .ok (.areturn, 1) := by decide +kernel
theorem dL_build_91 : decode cL_build 91 = .ok (.iinc 3 1, 3) := by decide +kernel
theorem dL_build_94 : decode cL_build 94 = .ok (.goto (-84), 3) := by decide +kernel
theorem dL_build_97 : decode cL_build 97 = .ok (.aload_n 2, 1) := by decide +kernel
theorem dL_build_98 : decode cL_build 98 = .ok (.areturn, 1) := by decide +kernel
theorem dL_law_0 : decode cL_law 0 = .ok (.new 36, 3) := by decide +kernel
theorem dL_law_3 : decode cL_law 3 = .ok (.dup, 1) := by decide +kernel
theorem dL_law_4 : decode cL_law 4 = .ok (.invokespecial 114, 3) := by decide +kernel
theorem dL_law_7 : decode cL_law 7 = .ok (.astore_n 1, 1) := by decide +kernel
theorem dL_law_8 : decode cL_law 8 = .ok (.aload_n 1, 1) := by decide +kernel
theorem dL_law_9 : decode cL_law 9 = .ok (.aload_n 0, 1) := by decide +kernel
theorem dL_law_10 : decode cL_law 10 = .ok (.invokestatic 115, 3) := by decide +kernel
theorem dL_law_13 : decode cL_law 13 = .ok (.astore_n 2, 1) := by decide +kernel
theorem dL_law_14 : decode cL_law 14 = .ok (.aload_n 2, 1) := by decide +kernel
theorem dL_law_15 : decode cL_law 15 = .ok (.ifnonnull 5, 3) := by decide +kernel
theorem dL_law_18 : decode cL_law 18 = .ok (.iconst 0, 1) := by decide +kernel
theorem dL_law_19 : decode cL_law 19 = .ok (.ireturn, 1) := by decide +kernel
theorem dL_law_20 : decode cL_law 20 = .ok (.iconst 0, 1) := by decide +kernel
theorem dL_law_21 : decode cL_law 21 = .ok (.istore_n 3, 1) := by decide +kernel
theorem dL_law_22 : decode cL_law 22 = .ok (.iload_n 3, 1) := by decide +kernel
theorem dL_law_23 : decode cL_law 23 = .ok (.bipush 40, 2) := by decide +kernel
theorem dL_law_25 : decode cL_law 25 = .ok (.if_icmp .ge 790, 3) := by decide +kernel
theorem dL_law_28 : decode cL_law 28 = .ok (.aload_n 0, 1) := by decide +kernel
theorem dL_law_29 : decode cL_law 29 = .ok (.iload_n 3, 1) := by decide +kernel
theorem dL_law_30 : decode cL_law 30 = .ok (.bipush 16, 2) := by decide +kernel
theorem dL_law_32 : decode cL_law 32 = .ok (.irem, 1) := by decide +kernel
theorem dL_law_33 : decode cL_law 33 = .ok (.invokestatic 100, 3) := by decide +kernel
theorem dL_law_36 : decode cL_law 36 = .ok (.iload_n 3, 1) := by decide +kernel
theorem dL_law_37 : decode cL_law 37 = .ok (.bipush 16, 2) := by decide +kernel
theorem dL_law_39 : decode cL_law 39 = .ok (.idiv, 1) := by decide +kernel
theorem dL_law_40 : decode cL_law 40 = .ok (.iconst 3, 1) := by decide +kernel
theorem dL_law_41 : decode cL_law 41 = .ok (.imul, 1) := by decide +kernel
theorem dL_law_42 : decode cL_law 42 = .ok (.ishr, 1) := by decide +kernel
theorem dL_law_43 : decode cL_law 43 = .ok (.sipush 313, 3) := by decide +kernel
theorem dL_law_46 : decode cL_law 46 = .ok (.iload_n 3, 1) := by decide +kernel
theorem dL_law_47 : decode cL_law 47 = .ok (.imul, 1) := by decide +kernel
theorem dL_law_48 : decode cL_law 48 = .ok (.iadd, 1) := by decide +kernel
theorem dL_law_49 : decode cL_law 49 = .ok (.istore 4, 2) := by decide +kernel
theorem dL_law_51 : decode cL_law 51 = .ok (.aload_n 1, 1) := by decide +kernel
theorem dL_law_52 : decode cL_law 52 = .ok (.aload_n 2, 1) := by decide +kernel
theorem dL_law_53 : decode cL_law 53 = .ok (.iload 4, 2) := by decide +kernel
theorem dL_law_55 : decode cL_law 55 = .ok (.invokestatic 104, 3) := by decide +kernel
theorem dL_law_58 : decode cL_law 58 = .ok (.ifCond .ne 5, 3) := by decide +kernel
theorem dL_law_61 : decode cL_law 61 = .ok (.iconst 0, 1) := by decide +kernel
theorem dL_law_62 : decode cL_law 62 = .ok (.ireturn, 1) := by decide +kernel
theorem dL_law_63 : decode cL_law 63 = .ok (.aload_n 1, 1) := by decide +kernel
theorem dL_law_64 : decode cL_law 64 = .ok (.iconst 1, 1) := by decide +kernel
theorem dL_law_65 : decode cL_law 65 = .ok (.invokevirtual 119, 3) := by decide +kernel
theorem dL_law_68 : decode cL_law 68 = .ok (.istore 5, 2) := by decide +kernel
theorem dL_law_70 : decode cL_law 70 = .ok (.iload 5, 2) := by decide +kernel
theorem dL_law_72 : decode cL_law 72 = .ok (.ifCond .ne 6, 3) := by decide +kernel
theorem dL_law_75 : decode cL_law 75 = .ok (.goto 734, 3) := by decide +kernel
theorem dL_law_78 : decode cL_law 78 = .ok (.iload 4, 2) := by decide +kernel
theorem dL_law_80 : decode cL_law 80 = .ok (.iconst 2, 1) := by decide +kernel
theorem dL_law_81 : decode cL_law 81 = .ok (.ishr, 1) := by decide +kernel
theorem dL_law_82 : decode cL_law 82 = .ok (.iload 5, 2) := by decide +kernel
theorem dL_law_84 : decode cL_law 84 = .ok (.invokestatic 15, 3) := by decide +kernel
theorem dL_law_87 : decode cL_law 87 = .ok (.istore 6, 2) := by decide +kernel
theorem dL_law_89 : decode cL_law 89 = .ok (.iload 4, 2) := by decide +kernel
theorem dL_law_91 : decode cL_law 91 = .ok (.iconst 3, 1) := by decide +kernel
theorem dL_law_92 : decode cL_law 92 = .ok (.ishr, 1) := by decide +kernel
theorem dL_law_93 : decode cL_law 93 = .ok (.iconst 4, 1) := by decide +kernel
theorem dL_law_94 : decode cL_law 94 = .ok (.invokestatic 15, 3) := by decide +kernel
theorem dL_law_97 : decode cL_law 97 = .ok (.istore 7, 2) := by decide +kernel
theorem dL_law_99 : decode cL_law 99 = .ok (.iload 4, 2) := by decide +kernel
theorem dL_law_101 : decode cL_law 101 = .ok (.iconst 4, 1) := by decide +kernel
theorem dL_law_102 : decode cL_law 102 = .ok (.ishr, 1) := by decide +kernel
theorem dL_law_103 : decode cL_law 103 = .ok (.bipush 6, 2) := by decide +kernel
theorem dL_law_105 : decode cL_law 105 = .ok (.invokestatic 15, 3) := by decide +kernel
theorem dL_law_108 : decode cL_law 108 = .ok (.istore 8, 2) := by decide +kernel
theorem dL_law_110 : decode cL_law 110 = .ok (.aload_n 1, 1) := by decide +kernel
theorem dL_law_111 : decode cL_law 111 = .ok (.iload 6, 2) := by decide +kernel
theorem dL_law_113 : decode cL_law 113 = .ok (.iconst 0, 1) := by decide +kernel
theorem dL_law_114 : decode cL_law 114 = .ok (.invokevirtual 122, 3) := by decide +kernel
theorem dL_law_117 : decode cL_law 117 = .ok (.istore 9, 2) := by decide +kernel
theorem dL_law_119 : decode cL_law 119 = .ok (.aload_n 2, 1) := by decide +kernel
theorem dL_law_120 : decode cL_law 120 = .ok (.getfield 9, 3) := by decide +kernel
theorem dL_law_123 : decode cL_law 123 = .ok (.iload 6, 2) := by decide +kernel
theorem dL_law_125 : decode cL_law 125 = .ok (.aaload, 1) := by decide +kernel
theorem dL_law_126 : decode cL_law 126 = .ok (.getfield 41, 3) := by decide +kernel
theorem dL_law_129 : decode cL_law 129 = .ok (.iload 7, 2) := by decide +kernel
theorem dL_law_131 : decode cL_law 131 = .ok (.iaload, 1) := by decide +kernel
theorem dL_law_132 : decode cL_law 132 = .ok (.istore 10, 2) := by decide +kernel
theorem dL_law_134 : decode cL_law 134 = .ok (.aload_n 1, 1) := by decide +kernel
theorem dL_law_135 : decode cL_law 135 = .ok (.iconst 5, 1) := by decide +kernel
theorem dL_law_136 : decode cL_law 136 = .ok (.invokevirtual 119, 3) := by decide +kernel
theorem dL_law_139 : decode cL_law 139 = .ok (.istore 11, 2) := by decide +kernel
theorem dL_law_141 : decode cL_law 141 = .ok (.aload_n 1, 1) := by decide +kernel
theorem dL_law_142 : decode cL_law 142 = .ok (.iload 6, 2) := by decide +kernel
theorem dL_law_144 : decode cL_law 144 = .ok (.iload 7, 2) := by decide +kernel
theorem dL_law_146 : decode cL_law 146 = .ok (.iload 8, 2) := by decide +kernel
theorem dL_law_148 : decode cL_law 148 = .ok (.invokevirtual 51, 3) := by decide +kernel
theorem dL_law_151 : decode cL_law 151 = .ok (.istore 12, 2) := by decide +kernel
theorem dL_law_153 : decode cL_law 153 = .ok (.aload_n 1, 1) := by decide +kernel
theorem dL_law_154 : decode cL_law 154 = .ok (.iload 6, 2) := by decide +kernel
theorem dL_law_156 : decode cL_law 156 = .ok (.iload 7, 2) := by decide +kernel
theorem dL_law_158 : decode cL_law 158 = .ok (.iload 10, 2) := by decide +kernel
theorem dL_law_160 : decode cL_law 160 = .ok (.invokevirtual 51, 3) := by decide +kernel
theorem dL_law_163 : decode cL_law 163 = .ok (.istore 13, 2) := by decide +kernel
theorem dL_law_165 : decode cL_law 165 = .ok (.aload_n 2, 1) := by decide +kernel
theorem dL_law_166 : decode cL_law 166 = .ok (.dup, 1) := by decide +kernel
theorem dL_law_167 : decode cL_law 167 = .ok (.getfield 47, 3) := by decide +kernel
theorem dL_law_170 : decode cL_law 170 = .ok (.iconst 2, 1) := by decide +kernel
theorem dL_law_171 : decode cL_law 171 = .ok (.iload 12, 2) := by decide +kernel
theorem dL_law_173 : decode cL_law 173 = .ok (.imul, 1) := by decide +kernel
theorem dL_law_174 : decode cL_law 174 = .ok (.iadd, 1) := by decide +kernel
theorem dL_law_175 : decode cL_law 175 = .ok (.putfield 47, 3) := by decide +kernel
theorem dL_law_178 : decode cL_law 178 = .ok (.iload 12, 2) := by decide +kernel
theorem dL_law_180 : decode cL_law 180 = .ok (.ifCond .lt 68, 3) := by decide +kernel
theorem dL_law_183 : decode cL_law 183 = .ok (.iload 12, 2) := by decide +kernel
theorem dL_law_185 : decode cL_law 185 = .ok (.iconst 3, 1) := by decide +kernel
theorem dL_law_186 : decode cL_law 186 = .ok (.if_icmp .gt 62, 3) := by decide +kernel
theorem dL_law_189 : decode cL_law 189 = .ok (.iload 12, 2) := by decide +kernel
theorem dL_law_191 : decode cL_law 191 = .ok (.iload 13, 2) := by decide +kernel
theorem dL_law_193 : decode cL_law 193 = .ok (.if_icmp .ne 55, 3) := by decide +kernel
theorem dL_law_196 : decode cL_law 196 = .ok (.iload 12, 2) := by decide +kernel
theorem dL_law_198 : decode cL_law 198 = .ok (.ifCond .ne 7, 3) := by decide +kernel
theorem dL_law_201 : decode cL_law 201 = .ok (.iconst 1, 1) := by decide +kernel
theorem dL_law_202 : decode cL_law 202 = .ok (.goto 4, 3) := by decide +kernel
theorem dL_law_205 : decode cL_law 205 = .ok (.iconst 0, 1) := by decide +kernel
theorem dL_law_206 : decode cL_law 206 = .ok (.iload 10, 2) := by decide +kernel
theorem dL_law_208 : decode cL_law 208 = .ok (.iload 8, 2) := by decide +kernel
theorem dL_law_210 : decode cL_law 210 = .ok (.if_icmp .ne 7, 3) := by decide +kernel
theorem dL_law_213 : decode cL_law 213 = .ok (.iconst 1, 1) := by decide +kernel
theorem dL_law_214 : decode cL_law 214 = .ok (.goto 4, 3) := by decide +kernel
theorem dL_law_217 : decode cL_law 217 = .ok (.iconst 0, 1) := by decide +kernel
theorem dL_law_218 : decode cL_law 218 = .ok (.if_icmp .ne 30, 3) := by decide +kernel
theorem dL_law_221 : decode cL_law 221 = .ok (.aload_n 1, 1) := by decide +kernel
theorem dL_law_222 : decode cL_law 222 = .ok (.iload 6, 2) := by decide +kernel
theorem dL_law_224 : decode cL_law 224 = .ok (.iconst 0, 1) := by decide +kernel
theorem dL_law_225 : decode cL_law 225 = .ok (.invokevirtual 122, 3) := by decide +kernel
theorem dL_law_228 : decode cL_law 228 = .ok (.iload 9, 2) := by decide +kernel
theorem dL_law_230 : decode cL_law 230 = .ok (.if_icmp .ne 18, 3) := by decide +kernel
theorem dL_law_233 : decode cL_law 233 = .ok (.aload_n 1, 1) := by decide +kernel
theorem dL_law_234 : decode cL_law 234 = .ok (.iconst 5, 1) := by decide +kernel
theorem dL_law_235 : decode cL_law 235 = .ok (.invokevirtual 119, 3) := by decide +kernel
theorem dL_law_238 : decode cL_law 238 = .ok (.iload 11, 2) := by decide +kernel
theorem dL_law_240 : decode cL_law 240 = .ok (.iconst 2, 1) := by decide +kernel
theorem dL_law_241 : decode cL_law 241 = .ok (.iload 12, 2) := by decide +kernel
theorem dL_law_243 : decode cL_law 243 = .ok (.imul, 1) := by decide +kernel
theorem dL_law_244 : decode cL_law 244 = .ok (.iadd, 1) := by decide +kernel
theorem dL_law_245 : decode cL_law 245 = .ok (.if_icmp .eq 5, 3) := by decide +kernel
theorem dL_law_248 : decode cL_law 248 = .ok (.iconst 0, 1) := by decide +kernel
theorem dL_law_249 : decode cL_law 249 = .ok (.ireturn, 1) := by decide +kernel
theorem dL_law_250 : decode cL_law 250 = .ok (.aload_n 1, 1) := by decide +kernel
theorem dL_law_251 : decode cL_law 251 = .ok (.iload 6, 2) := by decide +kernel
theorem dL_law_253 : decode cL_law 253 = .ok (.iconst 1, 1) := by decide +kernel
theorem dL_law_254 : decode cL_law 254 = .ok (.invokevirtual 122, 3) := by decide +kernel
theorem dL_law_257 : decode cL_law 257 = .ok (.iconst 1, 1) := by decide +kernel
theorem dL_law_258 : decode cL_law 258 = .ok (.if_icmp .ne 7, 3) := by decide +kernel
theorem dL_law_261 : decode cL_law 261 = .ok (.iconst 1, 1) := by decide +kernel
theorem dL_law_262 : decode cL_law 262 = .ok (.goto 4, 3) := by decide +kernel
theorem dL_law_265 : decode cL_law 265 = .ok (.iconst 0, 1) := by decide +kernel
theorem dL_law_266 : decode cL_law 266 = .ok (.istore 14, 2) := by decide +kernel
theorem dL_law_268 : decode cL_law 268 = .ok (.iload 9, 2) := by decide +kernel
theorem dL_law_270 : decode cL_law 270 = .ok (.aload_n 2, 1) := by decide +kernel
theorem dL_law_271 : decode cL_law 271 = .ok (.getfield 9, 3) := by decide +kernel
theorem dL_law_274 : decode cL_law 274 = .ok (.iload 6, 2) := by decide +kernel
theorem dL_law_276 : decode cL_law 276 = .ok (.aaload, 1) := by decide +kernel
theorem dL_law_277 : decode cL_law 277 = .ok (.getfield 28, 3) := by decide +kernel
theorem dL_law_280 : decode cL_law 280 = .ok (.invokestatic 32, 3) := by decide +kernel
theorem dL_law_283 : decode cL_law 283 = .ok (.if_icmp .ne 7, 3) := by decide +kernel
theorem dL_law_286 : decode cL_law 286 = .ok (.iconst 1, 1) := by decide +kernel
theorem dL_law_287 : decode cL_law 287 = .ok (.goto 4, 3) := by decide +kernel
theorem dL_law_290 : decode cL_law 290 = .ok (.iconst 0, 1) := by decide +kernel
theorem dL_law_291 : decode cL_law 291 = .ok (.istore 15, 2) := by decide +kernel
theorem dL_law_293 : decode cL_law 293 = .ok (.aload_n 1, 1) := by decide +kernel
theorem dL_law_294 : decode cL_law 294 = .ok (.iload 6, 2) := by decide +kernel
theorem dL_law_296 : decode cL_law 296 = .ok (.invokevirtual 59, 3) := by decide +kernel
theorem dL_law_299 : decode cL_law 299 = .ok (.iload 14, 2) := by decide +kernel
theorem dL_law_301 : decode cL_law 301 = .ok (.ifCond .ne 8, 3) := by decide +kernel
theorem dL_law_304 : decode cL_law 304 = .ok (.iload 15, 2) := by decide +kernel
theorem dL_law_306 : decode cL_law 306 = .ok (.ifCond .eq 7, 3) := by decide +kernel
theorem dL_law_309 : decode cL_law 309 = .ok (.iconst 1, 1) := by decide +kernel
theorem dL_law_310 : decode cL_law 310 = .ok (.goto 4, 3) := by decide +kernel
theorem dL_law_313 : decode cL_law 313 = .ok (.iconst 0, 1) := by decide +kernel
theorem dL_law_314 : decode cL_law 314 = .ok (.if_icmp .eq 5, 3) := by decide +kernel
theorem dL_law_317 : decode cL_law 317 = .ok (.iconst 0, 1) := by decide +kernel
theorem dL_law_318 : decode cL_law 318 = .ok (.ireturn, 1) := by decide +kernel
theorem dL_law_319 : decode cL_law 319 = .ok (.aload_n 2, 1) := by decide +kernel
theorem dL_law_320 : decode cL_law 320 = .ok (.getfield 9, 3) := by decide +kernel
theorem dL_law_323 : decode cL_law 323 = .ok (.iload 6, 2) := by decide +kernel
theorem dL_law_325 : decode cL_law 325 = .ok (.aaload, 1) := by decide +kernel
theorem dL_law_326 : decode cL_law 326 = .ok (.iload 14, 2) := by decide +kernel
theorem dL_law_328 : decode cL_law 328 = .ok (.ifCond .ne 8, 3) := by decide +kernel
theorem dL_law_331 : decode cL_law 331 = .ok (.iload 15, 2) := by decide +kernel
theorem dL_law_333 : decode cL_law 333 = .ok (.ifCond .eq 7, 3) := by decide +kernel
theorem dL_law_336 : decode cL_law 336 = .ok (.iconst 1, 1) := by decide +kernel
theorem dL_law_337 : decode cL_law 337 = .ok (.goto 4, 3) := by decide +kernel
theorem dL_law_340 : decode cL_law 340 = .ok (.iconst 0, 1) := by decide +kernel
theorem dL_law_341 : decode cL_law 341 = .ok (.putfield 55, 3) := by decide +kernel
theorem dL_law_344 : decode cL_law 344 = .ok (.aload_n 1, 1) := by decide +kernel
theorem dL_law_345 : decode cL_law 345 = .ok (.iload 6, 2) := by decide +kernel
theorem dL_law_347 : decode cL_law 347 = .ok (.aload_n 1, 1) := by decide +kernel
theorem dL_law_348 : decode cL_law 348 = .ok (.iload 6, 2) := by decide +kernel
theorem dL_law_350 : decode cL_law 350 = .ok (.iconst 4, 1) := by decide +kernel
theorem dL_law_351 : decode cL_law 351 = .ok (.invokevirtual 122, 3) := by decide +kernel
theorem dL_law_354 : decode cL_law 354 = .ok (.invokevirtual 125, 3) := by decide +kernel
theorem dL_law_357 : decode cL_law 357 = .ok (.iconst 1, 1) := by decide +kernel
theorem dL_law_358 : decode cL_law 358 = .ok (.if_icmp .ne 25, 3) := by decide +kernel
theorem dL_law_361 : decode cL_law 361 = .ok (.aload_n 1, 1) := by decide +kernel
theorem dL_law_362 : decode cL_law 362 = .ok (.iload 6, 2) := by decide +kernel
theorem dL_law_364 : decode cL_law 364 = .ok (.invokevirtual 128, 3) := by decide +kernel
theorem dL_law_367 : decode cL_law 367 = .ok (.iconst 1, 1) := by decide +kernel
theorem dL_law_368 : decode cL_law 368 = .ok (.if_icmp .lt 15, 3) := by decide +kernel
theorem dL_law_371 : decode cL_law 371 = .ok (.aload_n 1, 1) := by decide +kernel
theorem dL_law_372 : decode cL_law 372 = .ok (.iload 6, 2) := by decide +kernel
theorem dL_law_374 : decode cL_law 374 = .ok (.invokevirtual 128, 3) := by decide +kernel
theorem dL_law_377 : decode cL_law 377 = .ok (.sipush 1296, 3) := by decide +kernel
theorem dL_law_380 : decode cL_law 380 = .ok (.if_icmp .le 5, 3) := by decide +kernel
theorem dL_law_383 : decode cL_law 383 = .ok (.iconst 0, 1) := by decide +kernel
theorem dL_law_384 : decode cL_law 384 = .ok (.ireturn, 1) := by decide +kernel
theorem dL_law_385 : decode cL_law 385 = .ok (.iload 5, 2) := by decide +kernel
theorem dL_law_387 : decode cL_law 387 = .ok (.newarray .int, 2) := by decide +kernel
theorem dL_law_389 : decode cL_law 389 = .ok (.astore 16, 2) := by decide +kernel
theorem dL_law_391 : decode cL_law 391 = .ok (.iload 5, 2) := by decide +kernel
theorem dL_law_393 : decode cL_law 393 = .ok (.newarray .int, 2) := by decide +kernel
theorem dL_law_395 : decode cL_law 395 = .ok (.astore 17, 2) := by decide +kernel
theorem dL_law_397 : decode cL_law 397 = .ok (.aload_n 1, 1) := by decide +kernel
theorem dL_law_398 : decode cL_law 398 = .ok (.iconst 4, 1) := by decide +kernel
theorem dL_law_399 : decode cL_law 399 = .ok (.invokevirtual 119, 3) := by decide +kernel
theorem dL_law_402 : decode cL_law 402 = .ok (.istore 18, 2) := by decide +kernel
theorem dL_law_404 : decode cL_law 404 = .ok (.iconst 0, 1) := by decide +kernel
theorem dL_law_405 : decode cL_law 405 = .ok (.istore 19, 2) := by decide +kernel
theorem dL_law_407 : decode cL_law 407 = .ok (.iconst 0, 1) := by decide +kernel
theorem dL_law_408 : decode cL_law 408 = .ok (.istore 20, 2) := by decide +kernel
theorem dL_law_410 : decode cL_law 410 = .ok (.iconst 0, 1) := by decide +kernel
theorem dL_law_411 : decode cL_law 411 = .ok (.istore 21, 2) := by decide +kernel
theorem dL_law_413 : decode cL_law 413 = .ok (.iload 21, 2) := by decide +kernel
theorem dL_law_415 : decode cL_law 415 = .ok (.iload 5, 2) := by decide +kernel
theorem dL_law_417 : decode cL_law 417 = .ok (.if_icmp .ge 124, 3) := by decide +kernel
theorem dL_law_420 : decode cL_law 420 = .ok (.aload 16, 2) := by decide +kernel
theorem dL_law_422 : decode cL_law 422 = .ok (.iload 21, 2) := by decide +kernel
theorem dL_law_424 : decode cL_law 424 = .ok (.aload_n 1, 1) := by decide +kernel
theorem dL_law_425 : decode cL_law 425 = .ok (.iload 21, 2) := by decide +kernel
theorem dL_law_427 : decode cL_law 427 = .ok (.iconst 1, 1) := by decide +kernel
theorem dL_law_428 : decode cL_law 428 = .ok (.invokevirtual 122, 3) := by decide +kernel
theorem dL_law_431 : decode cL_law 431 = .ok (.iastore, 1) := by decide +kernel
theorem dL_law_432 : decode cL_law 432 = .ok (.aload 17, 2) := by decide +kernel
theorem dL_law_434 : decode cL_law 434 = .ok (.iload 21, 2) := by decide +kernel
theorem dL_law_436 : decode cL_law 436 = .ok (.aload_n 1, 1) := by decide +kernel
theorem dL_law_437 : decode cL_law 437 = .ok (.iload 21, 2) := by decide +kernel
theorem dL_law_439 : decode cL_law 439 = .ok (.iconst 0, 1) := by decide +kernel
theorem dL_law_440 : decode cL_law 440 = .ok (.invokevirtual 122, 3) := by decide +kernel
theorem dL_law_443 : decode cL_law 443 = .ok (.iastore, 1) := by decide +kernel
theorem dL_law_444 : decode cL_law 444 = .ok (.iload 19, 2) := by decide +kernel
theorem dL_law_446 : decode cL_law 446 = .ok (.aload 16, 2) := by decide +kernel
theorem dL_law_448 : decode cL_law 448 = .ok (.iload 21, 2) := by decide +kernel
theorem dL_law_450 : decode cL_law 450 = .ok (.iaload, 1) := by decide +kernel
theorem dL_law_451 : decode cL_law 451 = .ok (.ifCond .ne 7, 3) := by decide +kernel
theorem dL_law_454 : decode cL_law 454 = .ok (.iconst 4, 1) := by decide +kernel
theorem dL_law_455 : decode cL_law 455 = .ok (.goto 19, 3) := by decide +kernel
theorem dL_law_458 : decode cL_law 458 = .ok (.aload_n 1, 1) := by decide +kernel
theorem dL_law_459 : decode cL_law 459 = .ok (.iload 21, 2) := by decide +kernel
theorem dL_law_461 : decode cL_law 461 = .ok (.iconst 2, 1) := by decide +kernel
theorem dL_law_462 : decode cL_law 462 = .ok (.invokevirtual 122, 3) := by decide +kernel
theorem dL_law_465 : decode cL_law 465 = .ok (.ifCond .ge 7, 3) := by decide +kernel
theorem dL_law_468 : decode cL_law 468 = .ok (.iconst 0, 1) := by decide +kernel
theorem dL_law_469 : decode cL_law 469 = .ok (.goto 5, 3) := by decide +kernel
theorem dL_law_472 : decode cL_law 472 = .ok (.bipush 8, 2) := by decide +kernel
theorem dL_law_474 : decode cL_law 474 = .ok (.iadd, 1) := by decide +kernel
theorem dL_law_475 : decode cL_law 475 = .ok (.istore 19, 2) := by decide +kernel
theorem dL_law_477 : decode cL_law 477 = .ok (.iconst 0, 1) := by decide +kernel
theorem dL_law_478 : decode cL_law 478 = .ok (.istore 22, 2) := by decide +kernel
theorem dL_law_480 : decode cL_law 480 = .ok (.iload 22, 2) := by decide +kernel
theorem dL_law_482 : decode cL_law 482 = .ok (.iconst 4, 1) := by decide +kernel
theorem dL_law_483 : decode cL_law 483 = .ok (.if_icmp .ge 52, 3) := by decide +kernel
theorem dL_law_486 : decode cL_law 486 = .ok (.iconst 0, 1) := by decide +kernel
theorem dL_law_487 : decode cL_law 487 = .ok (.istore 23, 2) := by decide +kernel
theorem dL_law_489 : decode cL_law 489 = .ok (.iload 23, 2) := by decide +kernel
theorem dL_law_491 : decode cL_law 491 = .ok (.bipush 6, 2) := by decide +kernel
theorem dL_law_493 : decode cL_law 493 = .ok (.if_icmp .ge 36, 3) := by decide +kernel
theorem dL_law_496 : decode cL_law 496 = .ok (.iload 20, 2) := by decide +kernel
theorem dL_law_498 : decode cL_law 498 = .ok (.ifCond .ne 18, 3) := by decide +kernel
theorem dL_law_501 : decode cL_law 501 = .ok (.aload_n 1, 1) := by decide +kernel
theorem dL_law_502 : decode cL_law 502 = .ok (.iload 21, 2) := by decide +kernel
theorem dL_law_504 : decode cL_law 504 = .ok (.iload 22, 2) := by decide +kernel
theorem dL_law_506 : decode cL_law 506 = .ok (.iload 23, 2) := by decide +kernel
theorem dL_law_508 : decode cL_law 508 = .ok (.invokevirtual 131, 3) := by decide +kernel
theorem dL_law_511 : decode cL_law 511 = .ok (.bipush 97, 2) := by decide +kernel
theorem dL_law_513 : decode cL_law 513 = .ok (.if_icmp .le 7, 3) := by decide +kernel
theorem dL_law_516 : decode cL_law 516 = .ok (.iconst 1, 1) := by decide +kernel
theorem dL_law_517 : decode cL_law 517 = .ok (.goto 4, 3) := by decide +kernel
theorem dL_law_520 : decode cL_law 520 = .ok (.iconst 0, 1) := by decide +kernel
theorem dL_law_521 : decode cL_law 521 = .ok (.istore 20, 2) := by decide +kernel
theorem dL_law_523 : decode cL_law 523 = .ok (.iinc 23 1, 3) := by decide +kernel
theorem dL_law_526 : decode cL_law 526 = .ok (.goto (-37), 3) := by decide +kernel
theorem dL_law_529 : decode cL_law 529 = .ok (.iinc 22 1, 3) := by decide +kernel
theorem dL_law_532 : decode cL_law 532 = .ok (.goto (-52), 3) := by decide +kernel
theorem dL_law_535 : decode cL_law 535 = .ok (.iinc 21 1, 3) := by decide +kernel
theorem dL_law_538 : decode cL_law 538 = .ok (.goto (-125), 3) := by decide +kernel
theorem dL_law_541 : decode cL_law 541 = .ok (.iconst 3, 1) := by decide +kernel
theorem dL_law_542 : decode cL_law 542 = .ok (.newarray .int, 2) := by decide +kernel
theorem dL_law_544 : decode cL_law 544 = .ok (.dup, 1) := by decide +kernel
theorem dL_law_545 : decode cL_law 545 = .ok (.iconst 0, 1) := by decide +kernel
theorem dL_law_546 : decode cL_law 546 = .ok (.aload_n 1, 1) := by decide +kernel
theorem dL_law_547 : decode cL_law 547 = .ok (.iconst 0, 1) := by decide +kernel
theorem dL_law_548 : decode cL_law 548 = .ok (.iconst 2, 1) := by decide +kernel
theorem dL_law_549 : decode cL_law 549 = .ok (.invokevirtual 134, 3) := by decide +kernel
theorem dL_law_552 : decode cL_law 552 = .ok (.iastore, 1) := by decide +kernel
theorem dL_law_553 : decode cL_law 553 = .ok (.dup, 1) := by decide +kernel
theorem dL_law_554 : decode cL_law 554 = .ok (.iconst 1, 1) := by decide +kernel
theorem dL_law_555 : decode cL_law 555 = .ok (.aload_n 1, 1) := by decide +kernel
theorem dL_law_556 : decode cL_law 556 = .ok (.iconst 1, 1) := by decide +kernel
theorem dL_law_557 : decode cL_law 557 = .ok (.iconst 2, 1) := by decide +kernel
theorem dL_law_558 : decode cL_law 558 = .ok (.invokevirtual 134, 3) := by decide +kernel
theorem dL_law_561 : decode cL_law 561 = .ok (.iastore, 1) := by decide +kernel
theorem dL_law_562 : decode cL_law 562 = .ok (.dup, 1) := by decide +kernel
theorem dL_law_563 : decode cL_law 563 = .ok (.iconst 2, 1) := by decide +kernel
theorem dL_law_564 : decode cL_law 564 = .ok (.aload_n 1, 1) := by decide +kernel
theorem dL_law_565 : decode cL_law 565 = .ok (.iconst 2, 1) := by decide +kernel
theorem dL_law_566 : decode cL_law 566 = .ok (.iconst 2, 1) := by decide +kernel
theorem dL_law_567 : decode cL_law 567 = .ok (.invokevirtual 134, 3) := by decide +kernel
theorem dL_law_570 : decode cL_law 570 = .ok (.iastore, 1) := by decide +kernel
theorem dL_law_571 : decode cL_law 571 = .ok (.astore 21, 2) := by decide +kernel
theorem dL_law_573 : decode cL_law 573 = .ok (.aload_n 1, 1) := by decide +kernel
theorem dL_law_574 : decode cL_law 574 = .ok (.iconst 1, 1) := by decide +kernel
theorem dL_law_575 : decode cL_law 575 = .ok (.invokevirtual 108, 3) := by decide +kernel
theorem dL_law_578 : decode cL_law 578 = .ok (.istore 22, 2) := by decide +kernel
theorem dL_law_580 : decode cL_law 580 = .ok (.aload_n 2, 1) := by decide +kernel
theorem dL_law_581 : decode cL_law 581 = .ok (.invokevirtual 111, 3) := by decide +kernel
theorem dL_law_584 : decode cL_law 584 = .ok (.pop, 1) := by decide +kernel
theorem dL_law_585 : decode cL_law 585 = .ok (.iconst 0, 1) := by decide +kernel
theorem dL_law_586 : decode cL_law 586 = .ok (.istore 23, 2) := by decide +kernel
theorem dL_law_588 : decode cL_law 588 = .ok (.iconst 0, 1) := by decide +kernel
theorem dL_law_589 : decode cL_law 589 = .ok (.istore 24, 2) := by decide +kernel
theorem dL_law_591 : decode cL_law 591 = .ok (.iload 24, 2) := by decide +kernel
theorem dL_law_593 : decode cL_law 593 = .ok (.iload 5, 2) := by decide +kernel
theorem dL_law_595 : decode cL_law 595 = .ok (.if_icmp .ge 113, 3) := by decide +kernel
theorem dL_law_598 : decode cL_law 598 = .ok (.aload_n 1, 1) := by decide +kernel
theorem dL_law_599 : decode cL_law 599 = .ok (.iload 24, 2) := by decide +kernel
theorem dL_law_601 : decode cL_law 601 = .ok (.iconst 2, 1) := by decide +kernel
theorem dL_law_602 : decode cL_law 602 = .ok (.invokevirtual 122, 3) := by decide +kernel
theorem dL_law_605 : decode cL_law 605 = .ok (.istore 25, 2) := by decide +kernel
theorem dL_law_607 : decode cL_law 607 = .ok (.aload 16, 2) := by decide +kernel
theorem dL_law_609 : decode cL_law 609 = .ok (.iload 24, 2) := by decide +kernel
theorem dL_law_611 : decode cL_law 611 = .ok (.iaload, 1) := by decide +kernel
theorem dL_law_612 : decode cL_law 612 = .ok (.iconst 1, 1) := by decide +kernel
theorem dL_law_613 : decode cL_law 613 = .ok (.if_icmp .ne 20, 3) := by decide +kernel
theorem dL_law_616 : decode cL_law 616 = .ok (.iload 25, 2) := by decide +kernel
theorem dL_law_618 : decode cL_law 618 = .ok (.ifCond .lt 15, 3) := by decide +kernel
theorem dL_law_621 : decode cL_law 621 = .ok (.aload 21, 2) := by decide +kernel
theorem dL_law_623 : decode cL_law 623 = .ok (.iload 25, 2) := by decide +kernel
theorem dL_law_625 : decode cL_law 625 = .ok (.iaload, 1) := by decide +kernel
theorem dL_law_626 : decode cL_law 626 = .ok (.ifCond .ne 7, 3) := by decide +kernel
theorem dL_law_629 : decode cL_law 629 = .ok (.iconst 1, 1) := by decide +kernel
theorem dL_law_630 : decode cL_law 630 = .ok (.goto 4, 3) := by decide +kernel
theorem dL_law_633 : decode cL_law 633 = .ok (.iconst 0, 1) := by decide +kernel
theorem dL_law_634 : decode cL_law 634 = .ok (.istore 26, 2) := by decide +kernel
theorem dL_law_636 : decode cL_law 636 = .ok (.iload 23, 2) := by decide +kernel
theorem dL_law_638 : decode cL_law 638 = .ok (.iload 26, 2) := by decide +kernel
theorem dL_law_640 : decode cL_law 640 = .ok (.ifCond .eq 7, 3) := by decide +kernel
theorem dL_law_643 : decode cL_law 643 = .ok (.iconst 1, 1) := by decide +kernel
theorem dL_law_644 : decode cL_law 644 = .ok (.goto 4, 3) := by decide +kernel
theorem dL_law_647 : decode cL_law 647 = .ok (.iconst 0, 1) := by decide +kernel
theorem dL_law_648 : decode cL_law 648 = .ok (.iadd, 1) := by decide +kernel
theorem dL_law_649 : decode cL_law 649 = .ok (.istore 23, 2) := by decide +kernel
theorem dL_law_651 : decode cL_law 651 = .ok (.aload_n 1, 1) := by decide +kernel
theorem dL_law_652 : decode cL_law 652 = .ok (.iload 24, 2) := by decide +kernel
theorem dL_law_654 : decode cL_law 654 = .ok (.iconst 1, 1) := by decide +kernel
theorem dL_law_655 : decode cL_law 655 = .ok (.invokevirtual 122, 3) := by decide +kernel
theorem dL_law_658 : decode cL_law 658 = .ok (.iload 26, 2) := by decide +kernel
theorem dL_law_660 : decode cL_law 660 = .ok (.ifCond .eq 7, 3) := by decide +kernel
theorem dL_law_663 : decode cL_law 663 = .ok (.iconst 0, 1) := by decide +kernel
theorem dL_law_664 : decode cL_law 664 = .ok (.goto 8, 3) := by decide +kernel
theorem dL_law_667 : decode cL_law 667 = .ok (.aload 16, 2) := by decide +kernel
theorem dL_law_669 : decode cL_law 669 = .ok (.iload 24, 2) := by decide +kernel
theorem dL_law_671 : decode cL_law 671 = .ok (.iaload, 1) := by decide +kernel
theorem dL_law_672 : decode cL_law 672 = .ok (.if_icmp .ne 28, 3) := by decide +kernel
theorem dL_law_675 : decode cL_law 675 = .ok (.iload 26, 2) := by decide +kernel
theorem dL_law_677 : decode cL_law 677 = .ok (.aload_n 1, 1) := by decide +kernel
theorem dL_law_678 : decode cL_law 678 = .ok (.iload 24, 2) := by decide +kernel
theorem dL_law_680 : decode cL_law 680 = .ok (.iconst 0, 1) := by decide +kernel
theorem dL_law_681 : decode cL_law 681 = .ok (.invokevirtual 122, 3) := by decide +kernel
theorem dL_law_684 : decode cL_law 684 = .ok (.aload 17, 2) := by decide +kernel
theorem dL_law_686 : decode cL_law 686 = .ok (.iload 24, 2) := by decide +kernel
theorem dL_law_688 : decode cL_law 688 = .ok (.iaload, 1) := by decide +kernel
theorem dL_law_689 : decode cL_law 689 = .ok (.if_icmp .ne 7, 3) := by decide +kernel
theorem dL_law_692 : decode cL_law 692 = .ok (.iconst 1, 1) := by decide +kernel
theorem dL_law_693 : decode cL_law 693 = .ok (.goto 4, 3) := by decide +kernel
theorem dL_law_696 : decode cL_law 696 = .ok (.iconst 0, 1) := by decide +kernel
theorem dL_law_697 : decode cL_law 697 = .ok (.if_icmp .ne 5, 3) := by decide +kernel
theorem dL_law_700 : decode cL_law 700 = .ok (.iconst 0, 1) := by decide +kernel
theorem dL_law_701 : decode cL_law 701 = .ok (.ireturn, 1) := by decide +kernel
theorem dL_law_702 : decode cL_law 702 = .ok (.iinc 24 1, 3) := by decide +kernel
theorem dL_law_705 : decode cL_law 705 = .ok (.goto (-114), 3) := by decide +kernel
theorem dL_law_708 : decode cL_law 708 = .ok (.iload 23, 2) := by decide +kernel
theorem dL_law_710 : decode cL_law 710 = .ok (.iload 22, 2) := by decide +kernel
theorem dL_law_712 : decode cL_law 712 = .ok (.if_icmp .ne 44, 3) := by decide +kernel
theorem dL_law_715 : decode cL_law 715 = .ok (.aload_n 1, 1) := by decide +kernel
theorem dL_law_716 : decode cL_law 716 = .ok (.iconst 4, 1) := by decide +kernel
theorem dL_law_717 : decode cL_law 717 = .ok (.invokevirtual 119, 3) := by decide +kernel
theorem dL_law_720 : decode cL_law 720 = .ok (.iload 18, 2) := by decide +kernel
theorem dL_law_722 : decode cL_law 722 = .ok (.iload 19, 2) := by decide +kernel
theorem dL_law_724 : decode cL_law 724 = .ok (.iadd, 1) := by decide +kernel
theorem dL_law_725 : decode cL_law 725 = .ok (.if_icmp .gt 31, 3) := by decide +kernel
theorem dL_law_728 : decode cL_law 728 = .ok (.iload 20, 2) := by decide +kernel
theorem dL_law_730 : decode cL_law 730 = .ok (.ifCond .ne 16, 3) := by decide +kernel
theorem dL_law_733 : decode cL_law 733 = .ok (.aload_n 1, 1) := by decide +kernel
theorem dL_law_734 : decode cL_law 734 = .ok (.iconst 4, 1) := by decide +kernel
theorem dL_law_735 : decode cL_law 735 = .ok (.invokevirtual 119, 3) := by decide +kernel
theorem dL_law_738 : decode cL_law 738 = .ok (.iload 18, 2) := by decide +kernel
theorem dL_law_740 : decode cL_law 740 = .ok (.iload 19, 2) := by decide +kernel
theorem dL_law_742 : decode cL_law 742 = .ok (.iadd, 1) := by decide +kernel
theorem dL_law_743 : decode cL_law 743 = .ok (.if_icmp .ne 13, 3) := by decide +kernel
theorem dL_law_746 : decode cL_law 746 = .ok (.aload_n 1, 1) := by decide +kernel
theorem dL_law_747 : decode cL_law 747 = .ok (.iconst 4, 1) := by decide +kernel
theorem dL_law_748 : decode cL_law 748 = .ok (.invokevirtual 119, 3) := by decide +kernel
theorem dL_law_751 : decode cL_law 751 = .ok (.iload 18, 2) := by decide +kernel
theorem dL_law_753 : decode cL_law 753 = .ok (.if_icmp .ge 5, 3) := by decide +kernel
theorem dL_law_756 : decode cL_law 756 = .ok (.iconst 0, 1) := by decide +kernel
theorem dL_law_757 : decode cL_law 757 = .ok (.ireturn, 1) := by decide +kernel
theorem dL_law_758 : decode cL_law 758 = .ok (.iconst 0, 1) := by decide +kernel
theorem dL_law_759 : decode cL_law 759 = .ok (.istore 24, 2) := by decide +kernel
theorem dL_law_761 : decode cL_law 761 = .ok (.iload 24, 2) := by decide +kernel
theorem dL_law_763 : decode cL_law 763 = .ok (.iconst 3, 1) := by decide +kernel
theorem dL_law_764 : decode cL_law 764 = .ok (.if_icmp .ge 45, 3) := by decide +kernel
theorem dL_law_767 : decode cL_law 767 = .ok (.aload_n 1, 1) := by decide +kernel
theorem dL_law_768 : decode cL_law 768 = .ok (.iload 24, 2) := by decide +kernel
theorem dL_law_770 : decode cL_law 770 = .ok (.iconst 1, 1) := by decide +kernel
theorem dL_law_771 : decode cL_law 771 = .ok (.invokevirtual 134, 3) := by decide +kernel
theorem dL_law_774 : decode cL_law 774 = .ok (.aload_n 1, 1) := by decide +kernel
theorem dL_law_775 : decode cL_law 775 = .ok (.iload 24, 2) := by decide +kernel
theorem dL_law_777 : decode cL_law 777 = .ok (.iconst 0, 1) := by decide +kernel
theorem dL_law_778 : decode cL_law 778 = .ok (.invokevirtual 134, 3) := by decide +kernel
theorem dL_law_781 : decode cL_law 781 = .ok (.if_icmp .gt 20, 3) := by decide +kernel
theorem dL_law_784 : decode cL_law 784 = .ok (.aload_n 1, 1) := by decide +kernel
theorem dL_law_785 : decode cL_law 785 = .ok (.iload 24, 2) := by decide +kernel
theorem dL_law_787 : decode cL_law 787 = .ok (.iconst 3, 1) := by decide +kernel
theorem dL_law_788 : decode cL_law 788 = .ok (.invokevirtual 134, 3) := by decide +kernel
theorem dL_law_791 : decode cL_law 791 = .ok (.aload_n 1, 1) := by decide +kernel
theorem dL_law_792 : decode cL_law 792 = .ok (.iload 24, 2) := by decide +kernel
theorem dL_law_794 : decode cL_law 794 = .ok (.iconst 1, 1) := by decide +kernel
theorem dL_law_795 : decode cL_law 795 = .ok (.invokevirtual 134, 3) := by decide +kernel
theorem dL_law_798 : decode cL_law 798 = .ok (.if_icmp .le 5, 3) := by decide +kernel
theorem dL_law_801 : decode cL_law 801 = .ok (.iconst 0, 1) := by decide +kernel
theorem dL_law_802 : decode cL_law 802 = .ok (.ireturn, 1) := by decide +kernel
theorem dL_law_803 : decode cL_law 803 = .ok (.iinc 24 1, 3) := by decide +kernel
theorem dL_law_806 : decode cL_law 806 = .ok (.goto (-45), 3) := by decide +kernel
theorem dL_law_809 : decode cL_law 809 = .ok (.iinc 3 1, 3) := by decide +kernel
theorem dL_law_812 : decode cL_law 812 = .ok (.goto (-790), 3) := by decide +kernel
theorem dL_law_815 : decode cL_law 815 = .ok (.aload_n 2, 1) := by decide +kernel
theorem dL_law_816 : decode cL_law 816 = .ok (.aload_n 1, 1) := by decide +kernel
theorem dL_law_817 : decode cL_law 817 = .ok (.invokevirtual 136, 3) := by decide +kernel
theorem dL_law_820 : decode cL_law 820 = .ok (.ireturn, 1) := by decide +kernel
