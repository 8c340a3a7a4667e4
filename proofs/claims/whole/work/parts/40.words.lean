/-! words and decode rows of constructors and law -/
def RL : String := "LayeredTreeLaw"
abbrev cL_law : ByteArray := code
abbrev cL_cell : ByteArray := method_2_code
def yL_cell : MethodName := ⟨RL, "cell", "([II)I"⟩
abbrev wsL_cell : List Cond := .code yL_cell cL_cell 2 (some .int) :: tb_g
theorem lk_334 : Cond.initialized RL ∈ tb_g := tb_in 40 (by decide +kernel) (by decide +kernel)
theorem lk_335 : Cond.initialized "java/lang/Math" ∈ tb_g := tb_in 42 (by decide +kernel) (by decide +kernel)
theorem lk_336 : Cond.classLink RL 7 RX2 ∈ tb_g := tb_in 47 (by decide +kernel) (by decide +kernel)
theorem lk_337 : Cond.instantiable RX2 8 ∈ tb_g := tb_in 48 (by decide +kernel) (by decide +kernel)
theorem lk_338 : Cond.methodLink RL 15 yX2_init ∈ tb_g := tb_in 49 (by decide +kernel) (by decide +kernel)
theorem lk_339 : Cond.instanceMethod yX2_init ∈ tb_g := tb_in 50 (by decide +kernel) (by decide +kernel)
set_option maxRecDepth 100000 in
theorem lk_340 : Cond.code yX2_init cX2_init 3 none ∈ tb_g := tb_in 51 rfl (by decide +kernel)
theorem lk_341 : Cond.methodLink RX2 1 objectInit ∈ tb_g := tb_in 52 (by decide +kernel) (by decide +kernel)
theorem lk_342 : Cond.instanceMethod objectInit ∈ tb_g := tb_in 53 (by decide +kernel) (by decide +kernel)
set_option maxRecDepth 100000 in
theorem lk_343 : Cond.code objectInit ⟨#[0xb1]⟩ 1 none ∈ tb_g := tb_in 54 rfl (by decide +kernel)
theorem lk_344 : Cond.methodLink RX2 9 Lib.Math.min.name ∈ tb_g := tb_in 55 (by decide +kernel) (by decide +kernel)
theorem lk_345 : Cond.static Lib.Math.min.name ∈ tb_g := tb_in 56 (by decide +kernel) (by decide +kernel)
set_option maxRecDepth 100000 in
theorem lk_346 : Cond.code Lib.Math.min.name Lib.Math.min.code 2 (some .int) ∈ tb_g := tb_in 57 rfl (by decide +kernel)
theorem lk_347 : Cond.methodLink RX2 15 Lib.Math.max.name ∈ tb_g := tb_in 58 (by decide +kernel) (by decide +kernel)
theorem lk_348 : Cond.static Lib.Math.max.name ∈ tb_g := tb_in 59 (by decide +kernel) (by decide +kernel)
set_option maxRecDepth 100000 in
theorem lk_349 : Cond.code Lib.Math.max.name Lib.Math.max.code 2 (some .int) ∈ tb_g := tb_in 60 rfl (by decide +kernel)
theorem lk_350 : Cond.classLink RX2 22 RX0 ∈ tb_g := tb_in 61 (by decide +kernel) (by decide +kernel)
theorem lk_351 : Cond.instantiable RX0 3 ∈ tb_g := tb_in 63 (by decide +kernel) (by decide +kernel)
theorem lk_352 : Cond.instanceMethod yX0_init ∈ tb_g := tb_in 65 (by decide +kernel) (by decide +kernel)
set_option maxRecDepth 100000 in
theorem lk_353 : Cond.code yX0_init cX0_init 1 none ∈ tb_g := tb_in 66 rfl (by decide +kernel)
theorem lk_354 : Cond.methodLink RX0 3 objectInit ∈ tb_g := tb_in 67 (by decide +kernel) (by decide +kernel)
theorem lk_355 : Cond.arrayClass .int ∈ tb_g := tb_in 78 (by decide +kernel) (by decide +kernel)
theorem lk_356 : Cond.methodLink RL 21 yX2_put ∈ tb_g := tb_in 104 (by decide +kernel) (by decide +kernel)
theorem lk_357 : Cond.instanceMethod yX2_put ∈ tb_g := tb_in 105 (by decide +kernel) (by decide +kernel)
theorem lk_358 : Cond.selects RX2 yX2_put yX2_put ∈ tb_g := tb_in 106 (by decide +kernel) (by decide +kernel)
set_option maxRecDepth 100000 in
theorem lk_359 : Cond.code yX2_put cX2_put 7 (some .boolean) ∈ tb_g := tb_in 107 rfl (by decide +kernel)
theorem lk_360 : Cond.methodLink RL 26 yX2_mount ∈ tb_g := tb_in 152 (by decide +kernel) (by decide +kernel)
theorem lk_361 : Cond.instanceMethod yX2_mount ∈ tb_g := tb_in 153 (by decide +kernel) (by decide +kernel)
theorem lk_362 : Cond.selects RX2 yX2_mount yX2_mount ∈ tb_g := tb_in 154 (by decide +kernel) (by decide +kernel)
set_option maxRecDepth 100000 in
theorem lk_363 : Cond.code yX2_mount cX2_mount 1 (some .boolean) ∈ tb_g := tb_in 155 rfl (by decide +kernel)
theorem lk_364 : Cond.methodLink RL 31 yX2_kind ∈ tb_g := tb_in 156 (by decide +kernel) (by decide +kernel)
theorem lk_365 : Cond.instanceMethod yX2_kind ∈ tb_g := tb_in 157 (by decide +kernel) (by decide +kernel)
theorem lk_366 : Cond.selects RX2 yX2_kind yX2_kind ∈ tb_g := tb_in 158 (by decide +kernel) (by decide +kernel)
set_option maxRecDepth 100000 in
theorem lk_367 : Cond.code yX2_kind cX2_kind 4 (some .int) ∈ tb_g := tb_in 159 rfl (by decide +kernel)
theorem lk_368 : Cond.methodLink RL 36 yX2_read ∈ tb_g := tb_in 195 (by decide +kernel) (by decide +kernel)
theorem lk_369 : Cond.instanceMethod yX2_read ∈ tb_g := tb_in 196 (by decide +kernel) (by decide +kernel)
theorem lk_370 : Cond.selects RX2 yX2_read yX2_read ∈ tb_g := tb_in 197 (by decide +kernel) (by decide +kernel)
set_option maxRecDepth 100000 in
theorem lk_371 : Cond.code yX2_read cX2_read 4 (some .int) ∈ tb_g := tb_in 198 rfl (by decide +kernel)
theorem lk_372 : Cond.methodLink RL 40 yX2_size ∈ tb_g := tb_in 206 (by decide +kernel) (by decide +kernel)
theorem lk_373 : Cond.instanceMethod yX2_size ∈ tb_g := tb_in 207 (by decide +kernel) (by decide +kernel)
theorem lk_374 : Cond.selects RX2 yX2_size yX2_size ∈ tb_g := tb_in 208 (by decide +kernel) (by decide +kernel)
set_option maxRecDepth 100000 in
theorem lk_375 : Cond.code yX2_size cX2_size 3 (some .int) ∈ tb_g := tb_in 209 rfl (by decide +kernel)
theorem lk_376 : Cond.methodLink RL 44 yX2_name ∈ tb_g := tb_in 219 (by decide +kernel) (by decide +kernel)
theorem lk_377 : Cond.instanceMethod yX2_name ∈ tb_g := tb_in 220 (by decide +kernel) (by decide +kernel)
theorem lk_378 : Cond.selects RX2 yX2_name yX2_name ∈ tb_g := tb_in 221 (by decide +kernel) (by decide +kernel)
set_option maxRecDepth 100000 in
theorem lk_379 : Cond.code yX2_name cX2_name 7 (some .int) ∈ tb_g := tb_in 222 rfl (by decide +kernel)
theorem lk_380 : Cond.methodLink RL 49 yX2_objects ∈ tb_g := tb_in 223 (by decide +kernel) (by decide +kernel)
theorem lk_381 : Cond.instanceMethod yX2_objects ∈ tb_g := tb_in 224 (by decide +kernel) (by decide +kernel)
theorem lk_382 : Cond.selects RX2 yX2_objects yX2_objects ∈ tb_g := tb_in 225 (by decide +kernel) (by decide +kernel)
set_option maxRecDepth 100000 in
theorem lk_383 : Cond.code yX2_objects cX2_objects 1 (some .int) ∈ tb_g := tb_in 226 rfl (by decide +kernel)
theorem lk_384 : Cond.methodLink RL 54 yX2_origin ∈ tb_g := tb_in 231 (by decide +kernel) (by decide +kernel)
theorem lk_385 : Cond.instanceMethod yX2_origin ∈ tb_g := tb_in 232 (by decide +kernel) (by decide +kernel)
theorem lk_386 : Cond.selects RX2 yX2_origin yX2_origin ∈ tb_g := tb_in 233 (by decide +kernel) (by decide +kernel)
set_option maxRecDepth 100000 in
theorem lk_387 : Cond.code yX2_origin cX2_origin 4 (some .int) ∈ tb_g := tb_in 234 rfl (by decide +kernel)
theorem lk_388 : Cond.methodLink RL 58 yX2_makeDir ∈ tb_g := tb_in 243 (by decide +kernel) (by decide +kernel)
theorem lk_389 : Cond.instanceMethod yX2_makeDir ∈ tb_g := tb_in 244 (by decide +kernel) (by decide +kernel)
theorem lk_390 : Cond.selects RX2 yX2_makeDir yX2_makeDir ∈ tb_g := tb_in 245 (by decide +kernel) (by decide +kernel)
set_option maxRecDepth 100000 in
theorem lk_391 : Cond.code yX2_makeDir cX2_makeDir 3 (some .int) ∈ tb_g := tb_in 246 rfl (by decide +kernel)
theorem lk_392 : Cond.methodLink RL 62 yX2_write ∈ tb_g := tb_in 281 (by decide +kernel) (by decide +kernel)
theorem lk_393 : Cond.instanceMethod yX2_write ∈ tb_g := tb_in 282 (by decide +kernel) (by decide +kernel)
theorem lk_394 : Cond.selects RX2 yX2_write yX2_write ∈ tb_g := tb_in 283 (by decide +kernel) (by decide +kernel)
set_option maxRecDepth 100000 in
theorem lk_395 : Cond.code yX2_write cX2_write 5 (some .int) ∈ tb_g := tb_in 284 rfl (by decide +kernel)
theorem lk_396 : Cond.methodLink RL 66 yX2_remove ∈ tb_g := tb_in 285 (by decide +kernel) (by decide +kernel)
theorem lk_397 : Cond.instanceMethod yX2_remove ∈ tb_g := tb_in 286 (by decide +kernel) (by decide +kernel)
theorem lk_398 : Cond.selects RX2 yX2_remove yX2_remove ∈ tb_g := tb_in 287 (by decide +kernel) (by decide +kernel)
set_option maxRecDepth 100000 in
theorem lk_399 : Cond.code yX2_remove cX2_remove 4 (some .int) ∈ tb_g := tb_in 288 rfl (by decide +kernel)
theorem lk_400 : Cond.methodLink RL 70 yX2_rename ∈ tb_g := tb_in 297 (by decide +kernel) (by decide +kernel)
theorem lk_401 : Cond.instanceMethod yX2_rename ∈ tb_g := tb_in 298 (by decide +kernel) (by decide +kernel)
theorem lk_402 : Cond.selects RX2 yX2_rename yX2_rename ∈ tb_g := tb_in 299 (by decide +kernel) (by decide +kernel)
set_option maxRecDepth 100000 in
theorem lk_403 : Cond.code yX2_rename cX2_rename 6 (some .int) ∈ tb_g := tb_in 300 rfl (by decide +kernel)
theorem lk_404 : Cond.methodLink RL 74 yX2_entry ∈ tb_g := tb_in 328 (by decide +kernel) (by decide +kernel)
theorem lk_405 : Cond.instanceMethod yX2_entry ∈ tb_g := tb_in 329 (by decide +kernel) (by decide +kernel)
theorem lk_406 : Cond.selects RX2 yX2_entry yX2_entry ∈ tb_g := tb_in 330 (by decide +kernel) (by decide +kernel)
set_option maxRecDepth 100000 in
theorem lk_407 : Cond.code yX2_entry cX2_entry 4 (some .int) ∈ tb_g := tb_in 331 rfl (by decide +kernel)
theorem lk_408 : Cond.methodLink RL 78 yX2_entryValue ∈ tb_g := tb_in 332 (by decide +kernel) (by decide +kernel)
theorem lk_409 : Cond.instanceMethod yX2_entryValue ∈ tb_g := tb_in 333 (by decide +kernel) (by decide +kernel)
theorem lk_410 : Cond.selects RX2 yX2_entryValue yX2_entryValue ∈ tb_g := tb_in 334 (by decide +kernel) (by decide +kernel)
set_option maxRecDepth 100000 in
theorem lk_411 : Cond.code yX2_entryValue cX2_entryValue 4 (some .int) ∈ tb_g := tb_in 335 rfl (by decide +kernel)
theorem lk_412 : Cond.methodLink RL 82 yX2_entries ∈ tb_g := tb_in 336 (by decide +kernel) (by decide +kernel)
theorem lk_413 : Cond.instanceMethod yX2_entries ∈ tb_g := tb_in 337 (by decide +kernel) (by decide +kernel)
theorem lk_414 : Cond.selects RX2 yX2_entries yX2_entries ∈ tb_g := tb_in 338 (by decide +kernel) (by decide +kernel)
set_option maxRecDepth 100000 in
theorem lk_415 : Cond.code yX2_entries cX2_entries 2 (some .int) ∈ tb_g := tb_in 339 rfl (by decide +kernel)
theorem lk_416 : Cond.methodLink RL 86 yX2_whiteouts ∈ tb_g := tb_in 340 (by decide +kernel) (by decide +kernel)
theorem lk_417 : Cond.instanceMethod yX2_whiteouts ∈ tb_g := tb_in 341 (by decide +kernel) (by decide +kernel)
theorem lk_418 : Cond.selects RX2 yX2_whiteouts yX2_whiteouts ∈ tb_g := tb_in 342 (by decide +kernel) (by decide +kernel)
set_option maxRecDepth 100000 in
theorem lk_419 : Cond.code yX2_whiteouts cX2_whiteouts 1 (some .int) ∈ tb_g := tb_in 343 rfl (by decide +kernel)
theorem lk_420 : Cond.methodLink RL 90 yX2_copies ∈ tb_g := tb_in 348 (by decide +kernel) (by decide +kernel)
theorem lk_421 : Cond.instanceMethod yX2_copies ∈ tb_g := tb_in 349 (by decide +kernel) (by decide +kernel)
theorem lk_422 : Cond.selects RX2 yX2_copies yX2_copies ∈ tb_g := tb_in 350 (by decide +kernel) (by decide +kernel)
set_option maxRecDepth 100000 in
theorem lk_423 : Cond.code yX2_copies cX2_copies 1 (some .int) ∈ tb_g := tb_in 351 rfl (by decide +kernel)
theorem lk_424 : Cond.methodLink RL 9 yL_cell ∈ tb_g := tb_in 352 (by decide +kernel) (by decide +kernel)
theorem lk_425 : Cond.static yL_cell ∈ tb_g := tb_in 353 (by decide +kernel) (by decide +kernel)
set_option maxRecDepth 100000 in
theorem lk_426 : Cond.code yL_cell cL_cell 2 (some .int) ∈ tb_g := tb_in 354 rfl (by decide +kernel)
theorem lk_427 : Cond.classLink RL 18 RX3 ∈ tb_g := tb_in 355 (by decide +kernel) (by decide +kernel)
theorem lk_428 : Cond.instantiable RX3 15 ∈ tb_g := tb_in 356 (by decide +kernel) (by decide +kernel)
theorem lk_429 : Cond.methodLink RL 20 yX3_init ∈ tb_g := tb_in 357 (by decide +kernel) (by decide +kernel)
theorem lk_430 : Cond.instanceMethod yX3_init ∈ tb_g := tb_in 358 (by decide +kernel) (by decide +kernel)
set_option maxRecDepth 100000 in
theorem lk_431 : Cond.code yX3_init cX3_init 2 none ∈ tb_g := tb_in 359 rfl (by decide +kernel)
theorem lk_432 : Cond.methodLink RX3 1 objectInit ∈ tb_g := tb_in 360 (by decide +kernel) (by decide +kernel)
theorem lk_433 : Cond.methodLink RL 85 yX3_entries ∈ tb_g := tb_in 407 (by decide +kernel) (by decide +kernel)
theorem lk_434 : Cond.methodLink RL 25 yX3_put ∈ tb_g := tb_in 415 (by decide +kernel) (by decide +kernel)
theorem lk_435 : Cond.instanceMethod yX3_put ∈ tb_g := tb_in 416 (by decide +kernel) (by decide +kernel)
theorem lk_436 : Cond.selects RX3 yX3_put yX3_put ∈ tb_g := tb_in 417 (by decide +kernel) (by decide +kernel)
set_option maxRecDepth 100000 in
theorem lk_437 : Cond.code yX3_put cX3_put 8 (some .boolean) ∈ tb_g := tb_in 418 rfl (by decide +kernel)
theorem lk_438 : Cond.methodLink RL 30 yX3_mount ∈ tb_g := tb_in 427 (by decide +kernel) (by decide +kernel)
theorem lk_439 : Cond.instanceMethod yX3_mount ∈ tb_g := tb_in 428 (by decide +kernel) (by decide +kernel)
theorem lk_440 : Cond.selects RX3 yX3_mount yX3_mount ∈ tb_g := tb_in 429 (by decide +kernel) (by decide +kernel)
set_option maxRecDepth 100000 in
theorem lk_441 : Cond.code yX3_mount cX3_mount 2 (some .boolean) ∈ tb_g := tb_in 430 rfl (by decide +kernel)
theorem lk_442 : Cond.methodLink RL 77 yX3_entry ∈ tb_g := tb_in 431 (by decide +kernel) (by decide +kernel)
theorem lk_443 : Cond.methodLink RL 81 yX3_entryValue ∈ tb_g := tb_in 435 (by decide +kernel) (by decide +kernel)
theorem lk_444 : Cond.instanceMethod yX3_entryValue ∈ tb_g := tb_in 436 (by decide +kernel) (by decide +kernel)
theorem lk_445 : Cond.selects RX3 yX3_entryValue yX3_entryValue ∈ tb_g := tb_in 437 (by decide +kernel) (by decide +kernel)
set_option maxRecDepth 100000 in
theorem lk_446 : Cond.code yX3_entryValue cX3_entryValue 4 (some .int) ∈ tb_g := tb_in 438 rfl (by decide +kernel)
theorem lk_447 : Cond.methodLink RL 89 yX3_whiteouts ∈ tb_g := tb_in 440 (by decide +kernel) (by decide +kernel)
theorem lk_448 : Cond.instanceMethod yX3_whiteouts ∈ tb_g := tb_in 441 (by decide +kernel) (by decide +kernel)
theorem lk_449 : Cond.selects RX3 yX3_whiteouts yX3_whiteouts ∈ tb_g := tb_in 442 (by decide +kernel) (by decide +kernel)
set_option maxRecDepth 100000 in
theorem lk_450 : Cond.code yX3_whiteouts cX3_whiteouts 3 (some .int) ∈ tb_g := tb_in 443 rfl (by decide +kernel)
theorem lk_451 : Cond.methodLink RL 93 yX3_copies ∈ tb_g := tb_in 448 (by decide +kernel) (by decide +kernel)
theorem lk_452 : Cond.instanceMethod yX3_copies ∈ tb_g := tb_in 449 (by decide +kernel) (by decide +kernel)
theorem lk_453 : Cond.selects RX3 yX3_copies yX3_copies ∈ tb_g := tb_in 450 (by decide +kernel) (by decide +kernel)
set_option maxRecDepth 100000 in
theorem lk_454 : Cond.code yX3_copies cX3_copies 1 (some .int) ∈ tb_g := tb_in 451 rfl (by decide +kernel)
theorem lk_455 : Cond.methodLink RL 35 yX3_kind ∈ tb_g := tb_in 452 (by decide +kernel) (by decide +kernel)
theorem lk_456 : Cond.methodLink RL 39 yX3_read ∈ tb_g := tb_in 470 (by decide +kernel) (by decide +kernel)
theorem lk_457 : Cond.instanceMethod yX3_read ∈ tb_g := tb_in 471 (by decide +kernel) (by decide +kernel)
theorem lk_458 : Cond.selects RX3 yX3_read yX3_read ∈ tb_g := tb_in 472 (by decide +kernel) (by decide +kernel)
set_option maxRecDepth 100000 in
theorem lk_459 : Cond.code yX3_read cX3_read 3 (some .int) ∈ tb_g := tb_in 473 rfl (by decide +kernel)
theorem lk_460 : Cond.methodLink RL 43 yX3_size ∈ tb_g := tb_in 475 (by decide +kernel) (by decide +kernel)
theorem lk_461 : Cond.methodLink RL 48 yX3_name ∈ tb_g := tb_in 483 (by decide +kernel) (by decide +kernel)
theorem lk_462 : Cond.instanceMethod yX3_name ∈ tb_g := tb_in 484 (by decide +kernel) (by decide +kernel)
theorem lk_463 : Cond.selects RX3 yX3_name yX3_name ∈ tb_g := tb_in 485 (by decide +kernel) (by decide +kernel)
set_option maxRecDepth 100000 in
theorem lk_464 : Cond.code yX3_name cX3_name 7 (some .int) ∈ tb_g := tb_in 486 rfl (by decide +kernel)
theorem lk_465 : Cond.methodLink RL 53 yX3_objects ∈ tb_g := tb_in 488 (by decide +kernel) (by decide +kernel)
theorem lk_466 : Cond.instanceMethod yX3_objects ∈ tb_g := tb_in 489 (by decide +kernel) (by decide +kernel)
theorem lk_467 : Cond.selects RX3 yX3_objects yX3_objects ∈ tb_g := tb_in 490 (by decide +kernel) (by decide +kernel)
set_option maxRecDepth 100000 in
theorem lk_468 : Cond.code yX3_objects cX3_objects 4 (some .int) ∈ tb_g := tb_in 491 rfl (by decide +kernel)
theorem lk_469 : Cond.methodLink RL 57 yX3_origin ∈ tb_g := tb_in 495 (by decide +kernel) (by decide +kernel)
theorem lk_470 : Cond.instanceMethod yX3_origin ∈ tb_g := tb_in 496 (by decide +kernel) (by decide +kernel)
theorem lk_471 : Cond.selects RX3 yX3_origin yX3_origin ∈ tb_g := tb_in 497 (by decide +kernel) (by decide +kernel)
set_option maxRecDepth 100000 in
theorem lk_472 : Cond.code yX3_origin cX3_origin 3 (some .int) ∈ tb_g := tb_in 498 rfl (by decide +kernel)
theorem lk_473 : Cond.methodLink RL 61 yX3_makeDir ∈ tb_g := tb_in 499 (by decide +kernel) (by decide +kernel)
theorem lk_474 : Cond.instanceMethod yX3_makeDir ∈ tb_g := tb_in 500 (by decide +kernel) (by decide +kernel)
theorem lk_475 : Cond.selects RX3 yX3_makeDir yX3_makeDir ∈ tb_g := tb_in 501 (by decide +kernel) (by decide +kernel)
set_option maxRecDepth 100000 in
theorem lk_476 : Cond.code yX3_makeDir cX3_makeDir 4 (some .int) ∈ tb_g := tb_in 502 rfl (by decide +kernel)
theorem lk_477 : Cond.methodLink RL 65 yX3_write ∈ tb_g := tb_in 542 (by decide +kernel) (by decide +kernel)
theorem lk_478 : Cond.instanceMethod yX3_write ∈ tb_g := tb_in 543 (by decide +kernel) (by decide +kernel)
theorem lk_479 : Cond.selects RX3 yX3_write yX3_write ∈ tb_g := tb_in 544 (by decide +kernel) (by decide +kernel)
set_option maxRecDepth 100000 in
theorem lk_480 : Cond.code yX3_write cX3_write 6 (some .int) ∈ tb_g := tb_in 545 rfl (by decide +kernel)
theorem lk_481 : Cond.methodLink RL 69 yX3_remove ∈ tb_g := tb_in 546 (by decide +kernel) (by decide +kernel)
theorem lk_482 : Cond.instanceMethod yX3_remove ∈ tb_g := tb_in 547 (by decide +kernel) (by decide +kernel)
theorem lk_483 : Cond.selects RX3 yX3_remove yX3_remove ∈ tb_g := tb_in 548 (by decide +kernel) (by decide +kernel)
set_option maxRecDepth 100000 in
theorem lk_484 : Cond.code yX3_remove cX3_remove 4 (some .int) ∈ tb_g := tb_in 549 rfl (by decide +kernel)
theorem lk_485 : Cond.methodLink RL 73 yX3_rename ∈ tb_g := tb_in 554 (by decide +kernel) (by decide +kernel)
theorem lk_486 : Cond.instanceMethod yX3_rename ∈ tb_g := tb_in 555 (by decide +kernel) (by decide +kernel)
theorem lk_487 : Cond.selects RX3 yX3_rename yX3_rename ∈ tb_g := tb_in 556 (by decide +kernel) (by decide +kernel)
set_option maxRecDepth 100000 in
theorem lk_488 : Cond.code yX3_rename cX3_rename 14 (some .int) ∈ tb_g := tb_in 557 rfl (by decide +kernel)
theorem dL_law_0 : decode cL_law 0 = .ok (.new 7, 3) := by decide +kernel
theorem dL_law_3 : decode cL_law 3 = .ok (.dup, 1) := by decide +kernel
theorem dL_law_4 : decode cL_law 4 = .ok (.aload_n 0, 1) := by decide +kernel
theorem dL_law_5 : decode cL_law 5 = .ok (.iconst 0, 1) := by decide +kernel
theorem dL_law_6 : decode cL_law 6 = .ok (.invokestatic 9, 3) := by decide +kernel
theorem dL_law_9 : decode cL_law 9 = .ok (.invokespecial 15, 3) := by decide +kernel
theorem dL_law_12 : decode cL_law 12 = .ok (.astore_n 1, 1) := by decide +kernel
theorem dL_law_13 : decode cL_law 13 = .ok (.new 18, 3) := by decide +kernel
theorem dL_law_16 : decode cL_law 16 = .ok (.dup, 1) := by decide +kernel
theorem dL_law_17 : decode cL_law 17 = .ok (.aload_n 0, 1) := by decide +kernel
theorem dL_law_18 : decode cL_law 18 = .ok (.iconst 0, 1) := by decide +kernel
theorem dL_law_19 : decode cL_law 19 = .ok (.invokestatic 9, 3) := by decide +kernel
theorem dL_law_22 : decode cL_law 22 = .ok (.invokespecial 20, 3) := by decide +kernel
theorem dL_law_25 : decode cL_law 25 = .ok (.astore_n 2, 1) := by decide +kernel
theorem dL_law_26 : decode cL_law 26 = .ok (.iconst 1, 1) := by decide +kernel
theorem dL_law_27 : decode cL_law 27 = .ok (.istore_n 3, 1) := by decide +kernel
theorem dL_law_28 : decode cL_law 28 = .ok (.iload_n 3, 1) := by decide +kernel
theorem dL_law_29 : decode cL_law 29 = .ok (.aload_n 0, 1) := by decide +kernel
theorem dL_law_30 : decode cL_law 30 = .ok (.arraylength, 1) := by decide +kernel
theorem dL_law_31 : decode cL_law 31 = .ok (.iconst 5, 1) := by decide +kernel
theorem dL_law_32 : decode cL_law 32 = .ok (.isub, 1) := by decide +kernel
theorem dL_law_33 : decode cL_law 33 = .ok (.if_icmp .gt 528, 3) := by decide +kernel
theorem dL_law_36 : decode cL_law 36 = .ok (.aload_n 0, 1) := by decide +kernel
theorem dL_law_37 : decode cL_law 37 = .ok (.iload_n 3, 1) := by decide +kernel
theorem dL_law_38 : decode cL_law 38 = .ok (.iaload, 1) := by decide +kernel
theorem dL_law_39 : decode cL_law 39 = .ok (.bipush 31, 2) := by decide +kernel
theorem dL_law_41 : decode cL_law 41 = .ok (.iand, 1) := by decide +kernel
theorem dL_law_42 : decode cL_law 42 = .ok (.tableswitch 513 0 16 #[82, 135, 148, 171, 194, 217, 250, 263, 286, 309, 342, 365, 398, 431, 464, 487, 500], 82) := by decide +kernel
theorem dL_law_124 : decode cL_law 124 = .ok (.aload_n 1, 1) := by decide +kernel
theorem dL_law_125 : decode cL_law 125 = .ok (.aload_n 0, 1) := by decide +kernel
theorem dL_law_126 : decode cL_law 126 = .ok (.iload_n 3, 1) := by decide +kernel
theorem dL_law_127 : decode cL_law 127 = .ok (.iconst 1, 1) := by decide +kernel
theorem dL_law_128 : decode cL_law 128 = .ok (.iadd, 1) := by decide +kernel
theorem dL_law_129 : decode cL_law 129 = .ok (.iaload, 1) := by decide +kernel
theorem dL_law_130 : decode cL_law 130 = .ok (.aload_n 0, 1) := by decide +kernel
theorem dL_law_131 : decode cL_law 131 = .ok (.iload_n 3, 1) := by decide +kernel
theorem dL_law_132 : decode cL_law 132 = .ok (.iconst 2, 1) := by decide +kernel
theorem dL_law_133 : decode cL_law 133 = .ok (.iadd, 1) := by decide +kernel
theorem dL_law_134 : decode cL_law 134 = .ok (.iaload, 1) := by decide +kernel
theorem dL_law_135 : decode cL_law 135 = .ok (.aload_n 0, 1) := by decide +kernel
theorem dL_law_136 : decode cL_law 136 = .ok (.iload_n 3, 1) := by decide +kernel
theorem dL_law_137 : decode cL_law 137 = .ok (.iconst 3, 1) := by decide +kernel
theorem dL_law_138 : decode cL_law 138 = .ok (.iadd, 1) := by decide +kernel
theorem dL_law_139 : decode cL_law 139 = .ok (.iaload, 1) := by decide +kernel
theorem dL_law_140 : decode cL_law 140 = .ok (.aload_n 0, 1) := by decide +kernel
theorem dL_law_141 : decode cL_law 141 = .ok (.iload_n 3, 1) := by decide +kernel
theorem dL_law_142 : decode cL_law 142 = .ok (.iconst 4, 1) := by decide +kernel
theorem dL_law_143 : decode cL_law 143 = .ok (.iadd, 1) := by decide +kernel
theorem dL_law_144 : decode cL_law 144 = .ok (.iaload, 1) := by decide +kernel
theorem dL_law_145 : decode cL_law 145 = .ok (.invokevirtual 21, 3) := by decide +kernel
theorem dL_law_148 : decode cL_law 148 = .ok (.aload_n 2, 1) := by decide +kernel
theorem dL_law_149 : decode cL_law 149 = .ok (.aload_n 0, 1) := by decide +kernel
theorem dL_law_150 : decode cL_law 150 = .ok (.iload_n 3, 1) := by decide +kernel
theorem dL_law_151 : decode cL_law 151 = .ok (.iconst 1, 1) := by decide +kernel
theorem dL_law_152 : decode cL_law 152 = .ok (.iadd, 1) := by decide +kernel
theorem dL_law_153 : decode cL_law 153 = .ok (.iaload, 1) := by decide +kernel
theorem dL_law_154 : decode cL_law 154 = .ok (.aload_n 0, 1) := by decide +kernel
theorem dL_law_155 : decode cL_law 155 = .ok (.iload_n 3, 1) := by decide +kernel
theorem dL_law_156 : decode cL_law 156 = .ok (.iconst 2, 1) := by decide +kernel
theorem dL_law_157 : decode cL_law 157 = .ok (.iadd, 1) := by decide +kernel
theorem dL_law_158 : decode cL_law 158 = .ok (.iaload, 1) := by decide +kernel
theorem dL_law_159 : decode cL_law 159 = .ok (.aload_n 0, 1) := by decide +kernel
theorem dL_law_160 : decode cL_law 160 = .ok (.iload_n 3, 1) := by decide +kernel
theorem dL_law_161 : decode cL_law 161 = .ok (.iconst 3, 1) := by decide +kernel
theorem dL_law_162 : decode cL_law 162 = .ok (.iadd, 1) := by decide +kernel
theorem dL_law_163 : decode cL_law 163 = .ok (.iaload, 1) := by decide +kernel
theorem dL_law_164 : decode cL_law 164 = .ok (.aload_n 0, 1) := by decide +kernel
theorem dL_law_165 : decode cL_law 165 = .ok (.iload_n 3, 1) := by decide +kernel
theorem dL_law_166 : decode cL_law 166 = .ok (.iconst 4, 1) := by decide +kernel
theorem dL_law_167 : decode cL_law 167 = .ok (.iadd, 1) := by decide +kernel
theorem dL_law_168 : decode cL_law 168 = .ok (.iaload, 1) := by decide +kernel
theorem dL_law_169 : decode cL_law 169 = .ok (.invokevirtual 25, 3) := by decide +kernel
theorem dL_law_172 : decode cL_law 172 = .ok (.if_icmp .eq 383, 3) := by decide +kernel
theorem dL_law_175 : decode cL_law 175 = .ok (.iconst 0, 1) := by decide +kernel
theorem dL_law_176 : decode cL_law 176 = .ok (.ireturn, 1) := by decide +kernel
theorem dL_law_177 : decode cL_law 177 = .ok (.aload_n 1, 1) := by decide +kernel
theorem dL_law_178 : decode cL_law 178 = .ok (.invokevirtual 26, 3) := by decide +kernel
theorem dL_law_181 : decode cL_law 181 = .ok (.aload_n 2, 1) := by decide +kernel
theorem dL_law_182 : decode cL_law 182 = .ok (.invokevirtual 30, 3) := by decide +kernel
theorem dL_law_185 : decode cL_law 185 = .ok (.if_icmp .eq 370, 3) := by decide +kernel
theorem dL_law_188 : decode cL_law 188 = .ok (.iconst 0, 1) := by decide +kernel
theorem dL_law_189 : decode cL_law 189 = .ok (.ireturn, 1) := by decide +kernel
theorem dL_law_190 : decode cL_law 190 = .ok (.aload_n 1, 1) := by decide +kernel
theorem dL_law_191 : decode cL_law 191 = .ok (.aload_n 0, 1) := by decide +kernel
theorem dL_law_192 : decode cL_law 192 = .ok (.iload_n 3, 1) := by decide +kernel
theorem dL_law_193 : decode cL_law 193 = .ok (.iconst 1, 1) := by decide +kernel
theorem dL_law_194 : decode cL_law 194 = .ok (.iadd, 1) := by decide +kernel
theorem dL_law_195 : decode cL_law 195 = .ok (.iaload, 1) := by decide +kernel
theorem dL_law_196 : decode cL_law 196 = .ok (.invokevirtual 31, 3) := by decide +kernel
theorem dL_law_199 : decode cL_law 199 = .ok (.aload_n 2, 1) := by decide +kernel
theorem dL_law_200 : decode cL_law 200 = .ok (.aload_n 0, 1) := by decide +kernel
theorem dL_law_201 : decode cL_law 201 = .ok (.iload_n 3, 1) := by decide +kernel
theorem dL_law_202 : decode cL_law 202 = .ok (.iconst 1, 1) := by decide +kernel
theorem dL_law_203 : decode cL_law 203 = .ok (.iadd, 1) := by decide +kernel
theorem dL_law_204 : decode cL_law 204 = .ok (.iaload, 1) := by decide +kernel
theorem dL_law_205 : decode cL_law 205 = .ok (.invokevirtual 35, 3) := by decide +kernel
theorem dL_law_208 : decode cL_law 208 = .ok (.if_icmp .eq 347, 3) := by decide +kernel
theorem dL_law_211 : decode cL_law 211 = .ok (.iconst 0, 1) := by decide +kernel
theorem dL_law_212 : decode cL_law 212 = .ok (.ireturn, 1) := by decide +kernel
theorem dL_law_213 : decode cL_law 213 = .ok (.aload_n 1, 1) := by decide +kernel
theorem dL_law_214 : decode cL_law 214 = .ok (.aload_n 0, 1) := by decide +kernel
theorem dL_law_215 : decode cL_law 215 = .ok (.iload_n 3, 1) := by decide +kernel
theorem dL_law_216 : decode cL_law 216 = .ok (.iconst 1, 1) := by decide +kernel
theorem dL_law_217 : decode cL_law 217 = .ok (.iadd, 1) := by decide +kernel
theorem dL_law_218 : decode cL_law 218 = .ok (.iaload, 1) := by decide +kernel
theorem dL_law_219 : decode cL_law 219 = .ok (.invokevirtual 36, 3) := by decide +kernel
theorem dL_law_222 : decode cL_law 222 = .ok (.aload_n 2, 1) := by decide +kernel
theorem dL_law_223 : decode cL_law 223 = .ok (.aload_n 0, 1) := by decide +kernel
theorem dL_law_224 : decode cL_law 224 = .ok (.iload_n 3, 1) := by decide +kernel
theorem dL_law_225 : decode cL_law 225 = .ok (.iconst 1, 1) := by decide +kernel
theorem dL_law_226 : decode cL_law 226 = .ok (.iadd, 1) := by decide +kernel
theorem dL_law_227 : decode cL_law 227 = .ok (.iaload, 1) := by decide +kernel
theorem dL_law_228 : decode cL_law 228 = .ok (.invokevirtual 39, 3) := by decide +kernel
theorem dL_law_231 : decode cL_law 231 = .ok (.if_icmp .eq 324, 3) := by decide +kernel
theorem dL_law_234 : decode cL_law 234 = .ok (.iconst 0, 1) := by decide +kernel
theorem dL_law_235 : decode cL_law 235 = .ok (.ireturn, 1) := by decide +kernel
theorem dL_law_236 : decode cL_law 236 = .ok (.aload_n 1, 1) := by decide +kernel
theorem dL_law_237 : decode cL_law 237 = .ok (.aload_n 0, 1) := by decide +kernel
theorem dL_law_238 : decode cL_law 238 = .ok (.iload_n 3, 1) := by decide +kernel
theorem dL_law_239 : decode cL_law 239 = .ok (.iconst 1, 1) := by decide +kernel
theorem dL_law_240 : decode cL_law 240 = .ok (.iadd, 1) := by decide +kernel
theorem dL_law_241 : decode cL_law 241 = .ok (.iaload, 1) := by decide +kernel
theorem dL_law_242 : decode cL_law 242 = .ok (.invokevirtual 40, 3) := by decide +kernel
theorem dL_law_245 : decode cL_law 245 = .ok (.aload_n 2, 1) := by decide +kernel
theorem dL_law_246 : decode cL_law 246 = .ok (.aload_n 0, 1) := by decide +kernel
theorem dL_law_247 : decode cL_law 247 = .ok (.iload_n 3, 1) := by decide +kernel
theorem dL_law_248 : decode cL_law 248 = .ok (.iconst 1, 1) := by decide +kernel
theorem dL_law_249 : decode cL_law 249 = .ok (.iadd, 1) := by decide +kernel
theorem dL_law_250 : decode cL_law 250 = .ok (.iaload, 1) := by decide +kernel
theorem dL_law_251 : decode cL_law 251 = .ok (.invokevirtual 43, 3) := by decide +kernel
theorem dL_law_254 : decode cL_law 254 = .ok (.if_icmp .eq 301, 3) := by decide +kernel
theorem dL_law_257 : decode cL_law 257 = .ok (.iconst 0, 1) := by decide +kernel
theorem dL_law_258 : decode cL_law 258 = .ok (.ireturn, 1) := by decide +kernel
theorem dL_law_259 : decode cL_law 259 = .ok (.aload_n 1, 1) := by decide +kernel
theorem dL_law_260 : decode cL_law 260 = .ok (.aload_n 0, 1) := by decide +kernel
theorem dL_law_261 : decode cL_law 261 = .ok (.iload_n 3, 1) := by decide +kernel
theorem dL_law_262 : decode cL_law 262 = .ok (.iconst 1, 1) := by decide +kernel
theorem dL_law_263 : decode cL_law 263 = .ok (.iadd, 1) := by decide +kernel
theorem dL_law_264 : decode cL_law 264 = .ok (.iaload, 1) := by decide +kernel
theorem dL_law_265 : decode cL_law 265 = .ok (.aload_n 0, 1) := by decide +kernel
theorem dL_law_266 : decode cL_law 266 = .ok (.iload_n 3, 1) := by decide +kernel
theorem dL_law_267 : decode cL_law 267 = .ok (.iconst 2, 1) := by decide +kernel
theorem dL_law_268 : decode cL_law 268 = .ok (.iadd, 1) := by decide +kernel
theorem dL_law_269 : decode cL_law 269 = .ok (.iaload, 1) := by decide +kernel
theorem dL_law_270 : decode cL_law 270 = .ok (.invokevirtual 44, 3) := by decide +kernel
theorem dL_law_273 : decode cL_law 273 = .ok (.aload_n 2, 1) := by decide +kernel
theorem dL_law_274 : decode cL_law 274 = .ok (.aload_n 0, 1) := by decide +kernel
theorem dL_law_275 : decode cL_law 275 = .ok (.iload_n 3, 1) := by decide +kernel
theorem dL_law_276 : decode cL_law 276 = .ok (.iconst 1, 1) := by decide +kernel
theorem dL_law_277 : decode cL_law 277 = .ok (.iadd, 1) := by decide +kernel
theorem dL_law_278 : decode cL_law 278 = .ok (.iaload, 1) := by decide +kernel
theorem dL_law_279 : decode cL_law 279 = .ok (.aload_n 0, 1) := by decide +kernel
theorem dL_law_280 : decode cL_law 280 = .ok (.iload_n 3, 1) := by decide +kernel
theorem dL_law_281 : decode cL_law 281 = .ok (.iconst 2, 1) := by decide +kernel
theorem dL_law_282 : decode cL_law 282 = .ok (.iadd, 1) := by decide +kernel
theorem dL_law_283 : decode cL_law 283 = .ok (.iaload, 1) := by decide +kernel
theorem dL_law_284 : decode cL_law 284 = .ok (.invokevirtual 48, 3) := by decide +kernel
theorem dL_law_287 : decode cL_law 287 = .ok (.if_icmp .eq 268, 3) := by decide +kernel
theorem dL_law_290 : decode cL_law 290 = .ok (.iconst 0, 1) := by decide +kernel
theorem dL_law_291 : decode cL_law 291 = .ok (.ireturn, 1) := by decide +kernel
theorem dL_law_292 : decode cL_law 292 = .ok (.aload_n 1, 1) := by decide +kernel
theorem dL_law_293 : decode cL_law 293 = .ok (.invokevirtual 49, 3) := by decide +kernel
theorem dL_law_296 : decode cL_law 296 = .ok (.aload_n 2, 1) := by decide +kernel
theorem dL_law_297 : decode cL_law 297 = .ok (.invokevirtual 53, 3) := by decide +kernel
theorem dL_law_300 : decode cL_law 300 = .ok (.if_icmp .eq 255, 3) := by decide +kernel
theorem dL_law_303 : decode cL_law 303 = .ok (.iconst 0, 1) := by decide +kernel
theorem dL_law_304 : decode cL_law 304 = .ok (.ireturn, 1) := by decide +kernel
theorem dL_law_305 : decode cL_law 305 = .ok (.aload_n 1, 1) := by decide +kernel
theorem dL_law_306 : decode cL_law 306 = .ok (.aload_n 0, 1) := by decide +kernel
theorem dL_law_307 : decode cL_law 307 = .ok (.iload_n 3, 1) := by decide +kernel
theorem dL_law_308 : decode cL_law 308 = .ok (.iconst 1, 1) := by decide +kernel
theorem dL_law_309 : decode cL_law 309 = .ok (.iadd, 1) := by decide +kernel
theorem dL_law_310 : decode cL_law 310 = .ok (.iaload, 1) := by decide +kernel
theorem dL_law_311 : decode cL_law 311 = .ok (.invokevirtual 54, 3) := by decide +kernel
theorem dL_law_314 : decode cL_law 314 = .ok (.aload_n 2, 1) := by decide +kernel
theorem dL_law_315 : decode cL_law 315 = .ok (.aload_n 0, 1) := by decide +kernel
theorem dL_law_316 : decode cL_law 316 = .ok (.iload_n 3, 1) := by decide +kernel
theorem dL_law_317 : decode cL_law 317 = .ok (.iconst 1, 1) := by decide +kernel
theorem dL_law_318 : decode cL_law 318 = .ok (.iadd, 1) := by decide +kernel
theorem dL_law_319 : decode cL_law 319 = .ok (.iaload, 1) := by decide +kernel
theorem dL_law_320 : decode cL_law 320 = .ok (.invokevirtual 57, 3) := by decide +kernel
theorem dL_law_323 : decode cL_law 323 = .ok (.if_icmp .eq 232, 3) := by decide +kernel
theorem dL_law_326 : decode cL_law 326 = .ok (.iconst 0, 1) := by decide +kernel
theorem dL_law_327 : decode cL_law 327 = .ok (.ireturn, 1) := by decide +kernel
theorem dL_law_328 : decode cL_law 328 = .ok (.aload_n 1, 1) := by decide +kernel
theorem dL_law_329 : decode cL_law 329 = .ok (.aload_n 0, 1) := by decide +kernel
theorem dL_law_330 : decode cL_law 330 = .ok (.iload_n 3, 1) := by decide +kernel
theorem dL_law_331 : decode cL_law 331 = .ok (.iconst 1, 1) := by decide +kernel
theorem dL_law_332 : decode cL_law 332 = .ok (.iadd, 1) := by decide +kernel
theorem dL_law_333 : decode cL_law 333 = .ok (.iaload, 1) := by decide +kernel
theorem dL_law_334 : decode cL_law 334 = .ok (.invokevirtual 58, 3) := by decide +kernel
theorem dL_law_337 : decode cL_law 337 = .ok (.aload_n 2, 1) := by decide +kernel
theorem dL_law_338 : decode cL_law 338 = .ok (.aload_n 0, 1) := by decide +kernel
theorem dL_law_339 : decode cL_law 339 = .ok (.iload_n 3, 1) := by decide +kernel
theorem dL_law_340 : decode cL_law 340 = .ok (.iconst 1, 1) := by decide +kernel
theorem dL_law_341 : decode cL_law 341 = .ok (.iadd, 1) := by decide +kernel
theorem dL_law_342 : decode cL_law 342 = .ok (.iaload, 1) := by decide +kernel
theorem dL_law_343 : decode cL_law 343 = .ok (.invokevirtual 61, 3) := by decide +kernel
theorem dL_law_346 : decode cL_law 346 = .ok (.if_icmp .eq 209, 3) := by decide +kernel
theorem dL_law_349 : decode cL_law 349 = .ok (.iconst 0, 1) := by decide +kernel
theorem dL_law_350 : decode cL_law 350 = .ok (.ireturn, 1) := by decide +kernel
theorem dL_law_351 : decode cL_law 351 = .ok (.aload_n 1, 1) := by decide +kernel
theorem dL_law_352 : decode cL_law 352 = .ok (.aload_n 0, 1) := by decide +kernel
theorem dL_law_353 : decode cL_law 353 = .ok (.iload_n 3, 1) := by decide +kernel
theorem dL_law_354 : decode cL_law 354 = .ok (.iconst 1, 1) := by decide +kernel
theorem dL_law_355 : decode cL_law 355 = .ok (.iadd, 1) := by decide +kernel
theorem dL_law_356 : decode cL_law 356 = .ok (.iaload, 1) := by decide +kernel
theorem dL_law_357 : decode cL_law 357 = .ok (.aload_n 0, 1) := by decide +kernel
theorem dL_law_358 : decode cL_law 358 = .ok (.iload_n 3, 1) := by decide +kernel
theorem dL_law_359 : decode cL_law 359 = .ok (.iconst 2, 1) := by decide +kernel
theorem dL_law_360 : decode cL_law 360 = .ok (.iadd, 1) := by decide +kernel
theorem dL_law_361 : decode cL_law 361 = .ok (.iaload, 1) := by decide +kernel
theorem dL_law_362 : decode cL_law 362 = .ok (.invokevirtual 62, 3) := by decide +kernel
theorem dL_law_365 : decode cL_law 365 = .ok (.aload_n 2, 1) := by decide +kernel
theorem dL_law_366 : decode cL_law 366 = .ok (.aload_n 0, 1) := by decide +kernel
theorem dL_law_367 : decode cL_law 367 = .ok (.iload_n 3, 1) := by decide +kernel
theorem dL_law_368 : decode cL_law 368 = .ok (.iconst 1, 1) := by decide +kernel
theorem dL_law_369 : decode cL_law 369 = .ok (.iadd, 1) := by decide +kernel
theorem dL_law_370 : decode cL_law 370 = .ok (.iaload, 1) := by decide +kernel
theorem dL_law_371 : decode cL_law 371 = .ok (.aload_n 0, 1) := by decide +kernel
theorem dL_law_372 : decode cL_law 372 = .ok (.iload_n 3, 1) := by decide +kernel
theorem dL_law_373 : decode cL_law 373 = .ok (.iconst 2, 1) := by decide +kernel
theorem dL_law_374 : decode cL_law 374 = .ok (.iadd, 1) := by decide +kernel
theorem dL_law_375 : decode cL_law 375 = .ok (.iaload, 1) := by decide +kernel
theorem dL_law_376 : decode cL_law 376 = .ok (.invokevirtual 65, 3) := by decide +kernel
theorem dL_law_379 : decode cL_law 379 = .ok (.if_icmp .eq 176, 3) := by decide +kernel
theorem dL_law_382 : decode cL_law 382 = .ok (.iconst 0, 1) := by decide +kernel
theorem dL_law_383 : decode cL_law 383 = .ok (.ireturn, 1) := by decide +kernel
theorem dL_law_384 : decode cL_law 384 = .ok (.aload_n 1, 1) := by decide +kernel
theorem dL_law_385 : decode cL_law 385 = .ok (.aload_n 0, 1) := by decide +kernel
theorem dL_law_386 : decode cL_law 386 = .ok (.iload_n 3, 1) := by decide +kernel
theorem dL_law_387 : decode cL_law 387 = .ok (.iconst 1, 1) := by decide +kernel
theorem dL_law_388 : decode cL_law 388 = .ok (.iadd, 1) := by decide +kernel
theorem dL_law_389 : decode cL_law 389 = .ok (.iaload, 1) := by decide +kernel
theorem dL_law_390 : decode cL_law 390 = .ok (.invokevirtual 66, 3) := by decide +kernel
theorem dL_law_393 : decode cL_law 393 = .ok (.aload_n 2, 1) := by decide +kernel
theorem dL_law_394 : decode cL_law 394 = .ok (.aload_n 0, 1) := by decide +kernel
theorem dL_law_395 : decode cL_law 395 = .ok (.iload_n 3, 1) := by decide +kernel
theorem dL_law_396 : decode cL_law 396 = .ok (.iconst 1, 1) := by decide +kernel
theorem dL_law_397 : decode cL_law 397 = .ok (.iadd, 1) := by decide +kernel
theorem dL_law_398 : decode cL_law 398 = .ok (.iaload, 1) := by decide +kernel
theorem dL_law_399 : decode cL_law 399 = .ok (.invokevirtual 69, 3) := by decide +kernel
theorem dL_law_402 : decode cL_law 402 = .ok (.if_icmp .eq 153, 3) := by decide +kernel
theorem dL_law_405 : decode cL_law 405 = .ok (.iconst 0, 1) := by decide +kernel
theorem dL_law_406 : decode cL_law 406 = .ok (.ireturn, 1) := by decide +kernel
theorem dL_law_407 : decode cL_law 407 = .ok (.aload_n 1, 1) := by decide +kernel
theorem dL_law_408 : decode cL_law 408 = .ok (.aload_n 0, 1) := by decide +kernel
theorem dL_law_409 : decode cL_law 409 = .ok (.iload_n 3, 1) := by decide +kernel
theorem dL_law_410 : decode cL_law 410 = .ok (.iconst 1, 1) := by decide +kernel
theorem dL_law_411 : decode cL_law 411 = .ok (.iadd, 1) := by decide +kernel
theorem dL_law_412 : decode cL_law 412 = .ok (.iaload, 1) := by decide +kernel
theorem dL_law_413 : decode cL_law 413 = .ok (.aload_n 0, 1) := by decide +kernel
theorem dL_law_414 : decode cL_law 414 = .ok (.iload_n 3, 1) := by decide +kernel
theorem dL_law_415 : decode cL_law 415 = .ok (.iconst 2, 1) := by decide +kernel
theorem dL_law_416 : decode cL_law 416 = .ok (.iadd, 1) := by decide +kernel
theorem dL_law_417 : decode cL_law 417 = .ok (.iaload, 1) := by decide +kernel
theorem dL_law_418 : decode cL_law 418 = .ok (.invokevirtual 70, 3) := by decide +kernel
theorem dL_law_421 : decode cL_law 421 = .ok (.aload_n 2, 1) := by decide +kernel
theorem dL_law_422 : decode cL_law 422 = .ok (.aload_n 0, 1) := by decide +kernel
theorem dL_law_423 : decode cL_law 423 = .ok (.iload_n 3, 1) := by decide +kernel
theorem dL_law_424 : decode cL_law 424 = .ok (.iconst 1, 1) := by decide +kernel
theorem dL_law_425 : decode cL_law 425 = .ok (.iadd, 1) := by decide +kernel
theorem dL_law_426 : decode cL_law 426 = .ok (.iaload, 1) := by decide +kernel
theorem dL_law_427 : decode cL_law 427 = .ok (.aload_n 0, 1) := by decide +kernel
theorem dL_law_428 : decode cL_law 428 = .ok (.iload_n 3, 1) := by decide +kernel
theorem dL_law_429 : decode cL_law 429 = .ok (.iconst 2, 1) := by decide +kernel
theorem dL_law_430 : decode cL_law 430 = .ok (.iadd, 1) := by decide +kernel
theorem dL_law_431 : decode cL_law 431 = .ok (.iaload, 1) := by decide +kernel
theorem dL_law_432 : decode cL_law 432 = .ok (.invokevirtual 73, 3) := by decide +kernel
theorem dL_law_435 : decode cL_law 435 = .ok (.if_icmp .eq 120, 3) := by decide +kernel
theorem dL_law_438 : decode cL_law 438 = .ok (.iconst 0, 1) := by decide +kernel
theorem dL_law_439 : decode cL_law 439 = .ok (.ireturn, 1) := by decide +kernel
theorem dL_law_440 : decode cL_law 440 = .ok (.aload_n 1, 1) := by decide +kernel
theorem dL_law_441 : decode cL_law 441 = .ok (.aload_n 0, 1) := by decide +kernel
theorem dL_law_442 : decode cL_law 442 = .ok (.iload_n 3, 1) := by decide +kernel
theorem dL_law_443 : decode cL_law 443 = .ok (.iconst 1, 1) := by decide +kernel
theorem dL_law_444 : decode cL_law 444 = .ok (.iadd, 1) := by decide +kernel
theorem dL_law_445 : decode cL_law 445 = .ok (.iaload, 1) := by decide +kernel
theorem dL_law_446 : decode cL_law 446 = .ok (.aload_n 0, 1) := by decide +kernel
theorem dL_law_447 : decode cL_law 447 = .ok (.iload_n 3, 1) := by decide +kernel
theorem dL_law_448 : decode cL_law 448 = .ok (.iconst 2, 1) := by decide +kernel
theorem dL_law_449 : decode cL_law 449 = .ok (.iadd, 1) := by decide +kernel
theorem dL_law_450 : decode cL_law 450 = .ok (.iaload, 1) := by decide +kernel
theorem dL_law_451 : decode cL_law 451 = .ok (.invokevirtual 74, 3) := by decide +kernel
theorem dL_law_454 : decode cL_law 454 = .ok (.aload_n 2, 1) := by decide +kernel
theorem dL_law_455 : decode cL_law 455 = .ok (.aload_n 0, 1) := by decide +kernel
theorem dL_law_456 : decode cL_law 456 = .ok (.iload_n 3, 1) := by decide +kernel
theorem dL_law_457 : decode cL_law 457 = .ok (.iconst 1, 1) := by decide +kernel
theorem dL_law_458 : decode cL_law 458 = .ok (.iadd, 1) := by decide +kernel
theorem dL_law_459 : decode cL_law 459 = .ok (.iaload, 1) := by decide +kernel
theorem dL_law_460 : decode cL_law 460 = .ok (.aload_n 0, 1) := by decide +kernel
theorem dL_law_461 : decode cL_law 461 = .ok (.iload_n 3, 1) := by decide +kernel
theorem dL_law_462 : decode cL_law 462 = .ok (.iconst 2, 1) := by decide +kernel
theorem dL_law_463 : decode cL_law 463 = .ok (.iadd, 1) := by decide +kernel
theorem dL_law_464 : decode cL_law 464 = .ok (.iaload, 1) := by decide +kernel
theorem dL_law_465 : decode cL_law 465 = .ok (.invokevirtual 77, 3) := by decide +kernel
theorem dL_law_468 : decode cL_law 468 = .ok (.if_icmp .eq 87, 3) := by decide +kernel
theorem dL_law_471 : decode cL_law 471 = .ok (.iconst 0, 1) := by decide +kernel
theorem dL_law_472 : decode cL_law 472 = .ok (.ireturn, 1) := by decide +kernel
theorem dL_law_473 : decode cL_law 473 = .ok (.aload_n 1, 1) := by decide +kernel
theorem dL_law_474 : decode cL_law 474 = .ok (.aload_n 0, 1) := by decide +kernel
theorem dL_law_475 : decode cL_law 475 = .ok (.iload_n 3, 1) := by decide +kernel
theorem dL_law_476 : decode cL_law 476 = .ok (.iconst 1, 1) := by decide +kernel
theorem dL_law_477 : decode cL_law 477 = .ok (.iadd, 1) := by decide +kernel
theorem dL_law_478 : decode cL_law 478 = .ok (.iaload, 1) := by decide +kernel
theorem dL_law_479 : decode cL_law 479 = .ok (.aload_n 0, 1) := by decide +kernel
theorem dL_law_480 : decode cL_law 480 = .ok (.iload_n 3, 1) := by decide +kernel
theorem dL_law_481 : decode cL_law 481 = .ok (.iconst 2, 1) := by decide +kernel
theorem dL_law_482 : decode cL_law 482 = .ok (.iadd, 1) := by decide +kernel
theorem dL_law_483 : decode cL_law 483 = .ok (.iaload, 1) := by decide +kernel
theorem dL_law_484 : decode cL_law 484 = .ok (.invokevirtual 78, 3) := by decide +kernel
theorem dL_law_487 : decode cL_law 487 = .ok (.aload_n 2, 1) := by decide +kernel
theorem dL_law_488 : decode cL_law 488 = .ok (.aload_n 0, 1) := by decide +kernel
theorem dL_law_489 : decode cL_law 489 = .ok (.iload_n 3, 1) := by decide +kernel
theorem dL_law_490 : decode cL_law 490 = .ok (.iconst 1, 1) := by decide +kernel
theorem dL_law_491 : decode cL_law 491 = .ok (.iadd, 1) := by decide +kernel
theorem dL_law_492 : decode cL_law 492 = .ok (.iaload, 1) := by decide +kernel
theorem dL_law_493 : decode cL_law 493 = .ok (.aload_n 0, 1) := by decide +kernel
theorem dL_law_494 : decode cL_law 494 = .ok (.iload_n 3, 1) := by decide +kernel
theorem dL_law_495 : decode cL_law 495 = .ok (.iconst 2, 1) := by decide +kernel
theorem dL_law_496 : decode cL_law 496 = .ok (.iadd, 1) := by decide +kernel
theorem dL_law_497 : decode cL_law 497 = .ok (.iaload, 1) := by decide +kernel
theorem dL_law_498 : decode cL_law 498 = .ok (.invokevirtual 81, 3) := by decide +kernel
theorem dL_law_501 : decode cL_law 501 = .ok (.if_icmp .eq 54, 3) := by decide +kernel
theorem dL_law_504 : decode cL_law 504 = .ok (.iconst 0, 1) := by decide +kernel
theorem dL_law_505 : decode cL_law 505 = .ok (.ireturn, 1) := by decide +kernel
theorem dL_law_506 : decode cL_law 506 = .ok (.aload_n 1, 1) := by decide +kernel
theorem dL_law_507 : decode cL_law 507 = .ok (.aload_n 0, 1) := by decide +kernel
theorem dL_law_508 : decode cL_law 508 = .ok (.iload_n 3, 1) := by decide +kernel
theorem dL_law_509 : decode cL_law 509 = .ok (.iconst 1, 1) := by decide +kernel
theorem dL_law_510 : decode cL_law 510 = .ok (.iadd, 1) := by decide +kernel
theorem dL_law_511 : decode cL_law 511 = .ok (.iaload, 1) := by decide +kernel
theorem dL_law_512 : decode cL_law 512 = .ok (.invokevirtual 82, 3) := by decide +kernel
theorem dL_law_515 : decode cL_law 515 = .ok (.aload_n 2, 1) := by decide +kernel
theorem dL_law_516 : decode cL_law 516 = .ok (.aload_n 0, 1) := by decide +kernel
theorem dL_law_517 : decode cL_law 517 = .ok (.iload_n 3, 1) := by decide +kernel
theorem dL_law_518 : decode cL_law 518 = .ok (.iconst 1, 1) := by decide +kernel
theorem dL_law_519 : decode cL_law 519 = .ok (.iadd, 1) := by decide +kernel
theorem dL_law_520 : decode cL_law 520 = .ok (.iaload, 1) := by decide +kernel
theorem dL_law_521 : decode cL_law 521 = .ok (.invokevirtual 85, 3) := by decide +kernel
theorem dL_law_524 : decode cL_law 524 = .ok (.if_icmp .eq 31, 3) := by decide +kernel
theorem dL_law_527 : decode cL_law 527 = .ok (.iconst 0, 1) := by decide +kernel
theorem dL_law_528 : decode cL_law 528 = .ok (.ireturn, 1) := by decide +kernel
theorem dL_law_529 : decode cL_law 529 = .ok (.aload_n 1, 1) := by decide +kernel
theorem dL_law_530 : decode cL_law 530 = .ok (.invokevirtual 86, 3) := by decide +kernel
theorem dL_law_533 : decode cL_law 533 = .ok (.aload_n 2, 1) := by decide +kernel
theorem dL_law_534 : decode cL_law 534 = .ok (.invokevirtual 89, 3) := by decide +kernel
theorem dL_law_537 : decode cL_law 537 = .ok (.if_icmp .eq 18, 3) := by decide +kernel
theorem dL_law_540 : decode cL_law 540 = .ok (.iconst 0, 1) := by decide +kernel
theorem dL_law_541 : decode cL_law 541 = .ok (.ireturn, 1) := by decide +kernel
theorem dL_law_542 : decode cL_law 542 = .ok (.aload_n 1, 1) := by decide +kernel
theorem dL_law_543 : decode cL_law 543 = .ok (.invokevirtual 90, 3) := by decide +kernel
theorem dL_law_546 : decode cL_law 546 = .ok (.aload_n 2, 1) := by decide +kernel
theorem dL_law_547 : decode cL_law 547 = .ok (.invokevirtual 93, 3) := by decide +kernel
theorem dL_law_550 : decode cL_law 550 = .ok (.if_icmp .eq 5, 3) := by decide +kernel
theorem dL_law_553 : decode cL_law 553 = .ok (.iconst 0, 1) := by decide +kernel
theorem dL_law_554 : decode cL_law 554 = .ok (.ireturn, 1) := by decide +kernel
theorem dL_law_555 : decode cL_law 555 = .ok (.iinc 3 5, 3) := by decide +kernel
theorem dL_law_558 : decode cL_law 558 = .ok (.goto (-530), 3) := by decide +kernel
theorem dL_law_561 : decode cL_law 561 = .ok (.iconst 1, 1) := by decide +kernel
theorem dL_law_562 : decode cL_law 562 = .ok (.ireturn, 1) := by decide +kernel
theorem dL_cell_0 : decode cL_cell 0 = .ok (.iload_n 1, 1) := by decide +kernel
theorem dL_cell_1 : decode cL_cell 1 = .ok (.aload_n 0, 1) := by decide +kernel
theorem dL_cell_2 : decode cL_cell 2 = .ok (.arraylength, 1) := by decide +kernel
theorem dL_cell_3 : decode cL_cell 3 = .ok (.if_icmp .ge 9, 3) := by decide +kernel
theorem dL_cell_6 : decode cL_cell 6 = .ok (.aload_n 0, 1) := by decide +kernel
theorem dL_cell_7 : decode cL_cell 7 = .ok (.iload_n 1, 1) := by decide +kernel
theorem dL_cell_8 : decode cL_cell 8 = .ok (.iaload, 1) := by decide +kernel
theorem dL_cell_9 : decode cL_cell 9 = .ok (.goto 4, 3) := by decide +kernel
theorem dL_cell_12 : decode cL_cell 12 = .ok (.iconst 0, 1) := by decide +kernel
theorem dL_cell_13 : decode cL_cell 13 = .ok (.ireturn, 1) := by decide +kernel
