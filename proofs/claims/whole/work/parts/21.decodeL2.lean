theorem dL_310 : decode code 310 = .ok (.iaload, 1) := by decide +kernel
theorem dL_311 : decode code 311 = .ok (.aload_n 0, 1) := by decide +kernel
theorem dL_312 : decode code 312 = .ok (.iload_n 3, 1) := by decide +kernel
theorem dL_313 : decode code 313 = .ok (.iconst 2, 1) := by decide +kernel
theorem dL_314 : decode code 314 = .ok (.iadd, 1) := by decide +kernel
theorem dL_315 : decode code 315 = .ok (.iaload, 1) := by decide +kernel
theorem dL_316 : decode code 316 = .ok (.aload_n 0, 1) := by decide +kernel
theorem dL_317 : decode code 317 = .ok (.iload_n 3, 1) := by decide +kernel
theorem dL_318 : decode code 318 = .ok (.iconst 3, 1) := by decide +kernel
theorem dL_319 : decode code 319 = .ok (.iadd, 1) := by decide +kernel
theorem dL_320 : decode code 320 = .ok (.iaload, 1) := by decide +kernel
theorem dL_321 : decode code 321 = .ok (.aload_n 0, 1) := by decide +kernel
theorem dL_322 : decode code 322 = .ok (.iload_n 3, 1) := by decide +kernel
theorem dL_323 : decode code 323 = .ok (.iconst 4, 1) := by decide +kernel
theorem dL_324 : decode code 324 = .ok (.iadd, 1) := by decide +kernel
theorem dL_325 : decode code 325 = .ok (.iaload, 1) := by decide +kernel
theorem dL_326 : decode code 326 = .ok (.aload_n 0, 1) := by decide +kernel
theorem dL_327 : decode code 327 = .ok (.iload_n 3, 1) := by decide +kernel
theorem dL_328 : decode code 328 = .ok (.iconst 5, 1) := by decide +kernel
theorem dL_329 : decode code 329 = .ok (.iadd, 1) := by decide +kernel
theorem dL_330 : decode code 330 = .ok (.iaload, 1) := by decide +kernel
theorem dL_331 : decode code 331 = .ok (.invokevirtual 37, 3) := by decide +kernel
theorem dL_334 : decode code 334 = .ok (.if_icmp .eq 390, 3) := by decide +kernel
theorem dL_337 : decode code 337 = .ok (.iconst 0, 1) := by decide +kernel
theorem dL_338 : decode code 338 = .ok (.ireturn, 1) := by decide +kernel
theorem dL_339 : decode code 339 = .ok (.aload_n 1, 1) := by decide +kernel
theorem dL_340 : decode code 340 = .ok (.aload_n 0, 1) := by decide +kernel
theorem dL_341 : decode code 341 = .ok (.iload_n 3, 1) := by decide +kernel
theorem dL_342 : decode code 342 = .ok (.iconst 1, 1) := by decide +kernel
theorem dL_343 : decode code 343 = .ok (.iadd, 1) := by decide +kernel
theorem dL_344 : decode code 344 = .ok (.iaload, 1) := by decide +kernel
theorem dL_345 : decode code 345 = .ok (.aload_n 0, 1) := by decide +kernel
theorem dL_346 : decode code 346 = .ok (.iload_n 3, 1) := by decide +kernel
theorem dL_347 : decode code 347 = .ok (.iconst 2, 1) := by decide +kernel
theorem dL_348 : decode code 348 = .ok (.iadd, 1) := by decide +kernel
theorem dL_349 : decode code 349 = .ok (.iaload, 1) := by decide +kernel
theorem dL_350 : decode code 350 = .ok (.aload_n 0, 1) := by decide +kernel
theorem dL_351 : decode code 351 = .ok (.iload_n 3, 1) := by decide +kernel
theorem dL_352 : decode code 352 = .ok (.iconst 3, 1) := by decide +kernel
theorem dL_353 : decode code 353 = .ok (.iadd, 1) := by decide +kernel
theorem dL_354 : decode code 354 = .ok (.iaload, 1) := by decide +kernel
theorem dL_355 : decode code 355 = .ok (.aload_n 0, 1) := by decide +kernel
theorem dL_356 : decode code 356 = .ok (.iload_n 3, 1) := by decide +kernel
theorem dL_357 : decode code 357 = .ok (.iconst 4, 1) := by decide +kernel
theorem dL_358 : decode code 358 = .ok (.iadd, 1) := by decide +kernel
theorem dL_359 : decode code 359 = .ok (.iaload, 1) := by decide +kernel
theorem dL_360 : decode code 360 = .ok (.aload_n 0, 1) := by decide +kernel
theorem dL_361 : decode code 361 = .ok (.iload_n 3, 1) := by decide +kernel
theorem dL_362 : decode code 362 = .ok (.iconst 5, 1) := by decide +kernel
theorem dL_363 : decode code 363 = .ok (.iadd, 1) := by decide +kernel
theorem dL_364 : decode code 364 = .ok (.iaload, 1) := by decide +kernel
theorem dL_365 : decode code 365 = .ok (.invokevirtual 38, 3) := by decide +kernel
theorem dL_368 : decode code 368 = .ok (.aload_n 2, 1) := by decide +kernel
theorem dL_369 : decode code 369 = .ok (.aload_n 0, 1) := by decide +kernel
theorem dL_370 : decode code 370 = .ok (.iload_n 3, 1) := by decide +kernel
theorem dL_371 : decode code 371 = .ok (.iconst 1, 1) := by decide +kernel
theorem dL_372 : decode code 372 = .ok (.iadd, 1) := by decide +kernel
theorem dL_373 : decode code 373 = .ok (.iaload, 1) := by decide +kernel
theorem dL_374 : decode code 374 = .ok (.aload_n 0, 1) := by decide +kernel
theorem dL_375 : decode code 375 = .ok (.iload_n 3, 1) := by decide +kernel
theorem dL_376 : decode code 376 = .ok (.iconst 2, 1) := by decide +kernel
theorem dL_377 : decode code 377 = .ok (.iadd, 1) := by decide +kernel
theorem dL_378 : decode code 378 = .ok (.iaload, 1) := by decide +kernel
theorem dL_379 : decode code 379 = .ok (.aload_n 0, 1) := by decide +kernel
theorem dL_380 : decode code 380 = .ok (.iload_n 3, 1) := by decide +kernel
theorem dL_381 : decode code 381 = .ok (.iconst 3, 1) := by decide +kernel
theorem dL_382 : decode code 382 = .ok (.iadd, 1) := by decide +kernel
theorem dL_383 : decode code 383 = .ok (.iaload, 1) := by decide +kernel
theorem dL_384 : decode code 384 = .ok (.aload_n 0, 1) := by decide +kernel
theorem dL_385 : decode code 385 = .ok (.iload_n 3, 1) := by decide +kernel
theorem dL_386 : decode code 386 = .ok (.iconst 4, 1) := by decide +kernel
theorem dL_387 : decode code 387 = .ok (.iadd, 1) := by decide +kernel
theorem dL_388 : decode code 388 = .ok (.iaload, 1) := by decide +kernel
theorem dL_389 : decode code 389 = .ok (.aload_n 0, 1) := by decide +kernel
theorem dL_390 : decode code 390 = .ok (.iload_n 3, 1) := by decide +kernel
theorem dL_391 : decode code 391 = .ok (.iconst 5, 1) := by decide +kernel
theorem dL_392 : decode code 392 = .ok (.iadd, 1) := by decide +kernel
theorem dL_393 : decode code 393 = .ok (.iaload, 1) := by decide +kernel
theorem dL_394 : decode code 394 = .ok (.invokevirtual 41, 3) := by decide +kernel
theorem dL_397 : decode code 397 = .ok (.if_icmp .eq 327, 3) := by decide +kernel
theorem dL_400 : decode code 400 = .ok (.iconst 0, 1) := by decide +kernel
theorem dL_401 : decode code 401 = .ok (.ireturn, 1) := by decide +kernel
theorem dL_402 : decode code 402 = .ok (.aload_n 1, 1) := by decide +kernel
theorem dL_403 : decode code 403 = .ok (.invokevirtual 42, 3) := by decide +kernel
theorem dL_406 : decode code 406 = .ok (.aload_n 2, 1) := by decide +kernel
theorem dL_407 : decode code 407 = .ok (.invokevirtual 45, 3) := by decide +kernel
theorem dL_410 : decode code 410 = .ok (.if_icmp .eq 314, 3) := by decide +kernel
theorem dL_413 : decode code 413 = .ok (.iconst 0, 1) := by decide +kernel
theorem dL_414 : decode code 414 = .ok (.ireturn, 1) := by decide +kernel
theorem dL_415 : decode code 415 = .ok (.aload_n 1, 1) := by decide +kernel
theorem dL_416 : decode code 416 = .ok (.aload_n 0, 1) := by decide +kernel
theorem dL_417 : decode code 417 = .ok (.iload_n 3, 1) := by decide +kernel
theorem dL_418 : decode code 418 = .ok (.iconst 1, 1) := by decide +kernel
theorem dL_419 : decode code 419 = .ok (.iadd, 1) := by decide +kernel
theorem dL_420 : decode code 420 = .ok (.iaload, 1) := by decide +kernel
theorem dL_421 : decode code 421 = .ok (.aload_n 0, 1) := by decide +kernel
theorem dL_422 : decode code 422 = .ok (.iload_n 3, 1) := by decide +kernel
theorem dL_423 : decode code 423 = .ok (.iconst 2, 1) := by decide +kernel
theorem dL_424 : decode code 424 = .ok (.iadd, 1) := by decide +kernel
theorem dL_425 : decode code 425 = .ok (.iaload, 1) := by decide +kernel
theorem dL_426 : decode code 426 = .ok (.invokevirtual 46, 3) := by decide +kernel
theorem dL_429 : decode code 429 = .ok (.aload_n 2, 1) := by decide +kernel
theorem dL_430 : decode code 430 = .ok (.aload_n 0, 1) := by decide +kernel
theorem dL_431 : decode code 431 = .ok (.iload_n 3, 1) := by decide +kernel
theorem dL_432 : decode code 432 = .ok (.iconst 1, 1) := by decide +kernel
theorem dL_433 : decode code 433 = .ok (.iadd, 1) := by decide +kernel
theorem dL_434 : decode code 434 = .ok (.iaload, 1) := by decide +kernel
theorem dL_435 : decode code 435 = .ok (.aload_n 0, 1) := by decide +kernel
theorem dL_436 : decode code 436 = .ok (.iload_n 3, 1) := by decide +kernel
theorem dL_437 : decode code 437 = .ok (.iconst 2, 1) := by decide +kernel
theorem dL_438 : decode code 438 = .ok (.iadd, 1) := by decide +kernel
theorem dL_439 : decode code 439 = .ok (.iaload, 1) := by decide +kernel
theorem dL_440 : decode code 440 = .ok (.invokevirtual 50, 3) := by decide +kernel
theorem dL_443 : decode code 443 = .ok (.if_icmp .eq 281, 3) := by decide +kernel
theorem dL_446 : decode code 446 = .ok (.iconst 0, 1) := by decide +kernel
theorem dL_447 : decode code 447 = .ok (.ireturn, 1) := by decide +kernel
theorem dL_448 : decode code 448 = .ok (.aload_n 1, 1) := by decide +kernel
theorem dL_449 : decode code 449 = .ok (.aload_n 0, 1) := by decide +kernel
theorem dL_450 : decode code 450 = .ok (.iload_n 3, 1) := by decide +kernel
theorem dL_451 : decode code 451 = .ok (.iconst 1, 1) := by decide +kernel
theorem dL_452 : decode code 452 = .ok (.iadd, 1) := by decide +kernel
theorem dL_453 : decode code 453 = .ok (.iaload, 1) := by decide +kernel
theorem dL_454 : decode code 454 = .ok (.aload_n 0, 1) := by decide +kernel
theorem dL_455 : decode code 455 = .ok (.iload_n 3, 1) := by decide +kernel
theorem dL_456 : decode code 456 = .ok (.iconst 2, 1) := by decide +kernel
theorem dL_457 : decode code 457 = .ok (.iadd, 1) := by decide +kernel
theorem dL_458 : decode code 458 = .ok (.iaload, 1) := by decide +kernel
theorem dL_459 : decode code 459 = .ok (.invokevirtual 51, 3) := by decide +kernel
theorem dL_462 : decode code 462 = .ok (.aload_n 2, 1) := by decide +kernel
theorem dL_463 : decode code 463 = .ok (.aload_n 0, 1) := by decide +kernel
theorem dL_464 : decode code 464 = .ok (.iload_n 3, 1) := by decide +kernel
theorem dL_465 : decode code 465 = .ok (.iconst 1, 1) := by decide +kernel
theorem dL_466 : decode code 466 = .ok (.iadd, 1) := by decide +kernel
theorem dL_467 : decode code 467 = .ok (.iaload, 1) := by decide +kernel
theorem dL_468 : decode code 468 = .ok (.aload_n 0, 1) := by decide +kernel
theorem dL_469 : decode code 469 = .ok (.iload_n 3, 1) := by decide +kernel
theorem dL_470 : decode code 470 = .ok (.iconst 2, 1) := by decide +kernel
theorem dL_471 : decode code 471 = .ok (.iadd, 1) := by decide +kernel
theorem dL_472 : decode code 472 = .ok (.iaload, 1) := by decide +kernel
theorem dL_473 : decode code 473 = .ok (.invokevirtual 54, 3) := by decide +kernel
theorem dL_476 : decode code 476 = .ok (.if_icmp .eq 248, 3) := by decide +kernel
theorem dL_479 : decode code 479 = .ok (.iconst 0, 1) := by decide +kernel
theorem dL_480 : decode code 480 = .ok (.ireturn, 1) := by decide +kernel
theorem dL_481 : decode code 481 = .ok (.aload_n 1, 1) := by decide +kernel
theorem dL_482 : decode code 482 = .ok (.aload_n 0, 1) := by decide +kernel
theorem dL_483 : decode code 483 = .ok (.iload_n 3, 1) := by decide +kernel
theorem dL_484 : decode code 484 = .ok (.iconst 1, 1) := by decide +kernel
theorem dL_485 : decode code 485 = .ok (.iadd, 1) := by decide +kernel
theorem dL_486 : decode code 486 = .ok (.iaload, 1) := by decide +kernel
theorem dL_487 : decode code 487 = .ok (.invokevirtual 55, 3) := by decide +kernel
theorem dL_490 : decode code 490 = .ok (.aload_n 2, 1) := by decide +kernel
theorem dL_491 : decode code 491 = .ok (.aload_n 0, 1) := by decide +kernel
theorem dL_492 : decode code 492 = .ok (.iload_n 3, 1) := by decide +kernel
theorem dL_493 : decode code 493 = .ok (.iconst 1, 1) := by decide +kernel
theorem dL_494 : decode code 494 = .ok (.iadd, 1) := by decide +kernel
theorem dL_495 : decode code 495 = .ok (.iaload, 1) := by decide +kernel
theorem dL_496 : decode code 496 = .ok (.invokevirtual 59, 3) := by decide +kernel
theorem dL_499 : decode code 499 = .ok (.if_icmp .eq 225, 3) := by decide +kernel
theorem dL_502 : decode code 502 = .ok (.iconst 0, 1) := by decide +kernel
theorem dL_503 : decode code 503 = .ok (.ireturn, 1) := by decide +kernel
theorem dL_504 : decode code 504 = .ok (.aload_n 1, 1) := by decide +kernel
theorem dL_505 : decode code 505 = .ok (.aload_n 0, 1) := by decide +kernel
theorem dL_506 : decode code 506 = .ok (.iload_n 3, 1) := by decide +kernel
theorem dL_507 : decode code 507 = .ok (.iconst 1, 1) := by decide +kernel
theorem dL_508 : decode code 508 = .ok (.iadd, 1) := by decide +kernel
theorem dL_509 : decode code 509 = .ok (.iaload, 1) := by decide +kernel
theorem dL_510 : decode code 510 = .ok (.invokevirtual 60, 3) := by decide +kernel
theorem dL_513 : decode code 513 = .ok (.aload_n 2, 1) := by decide +kernel
theorem dL_514 : decode code 514 = .ok (.aload_n 0, 1) := by decide +kernel
theorem dL_515 : decode code 515 = .ok (.iload_n 3, 1) := by decide +kernel
