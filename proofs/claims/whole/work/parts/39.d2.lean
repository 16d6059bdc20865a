theorem d_law_327 : decode code 327 = .ok (.iconst 0, 1) := by decide +kernel
theorem d_law_328 : decode code 328 = .ok (.ireturn, 1) := by decide +kernel
theorem d_law_329 : decode code 329 = .ok (.aload_n 1, 1) := by decide +kernel
theorem d_law_330 : decode code 330 = .ok (.aload_n 0, 1) := by decide +kernel
theorem d_law_331 : decode code 331 = .ok (.iload 4, 2) := by decide +kernel
theorem d_law_333 : decode code 333 = .ok (.iconst 1, 1) := by decide +kernel
theorem d_law_334 : decode code 334 = .ok (.iadd, 1) := by decide +kernel
theorem d_law_335 : decode code 335 = .ok (.iaload, 1) := by decide +kernel
theorem d_law_336 : decode code 336 = .ok (.invokevirtual 49, 3) := by decide +kernel
theorem d_law_339 : decode code 339 = .ok (.aload_n 2, 1) := by decide +kernel
theorem d_law_340 : decode code 340 = .ok (.aload_n 0, 1) := by decide +kernel
theorem d_law_341 : decode code 341 = .ok (.iload 4, 2) := by decide +kernel
theorem d_law_343 : decode code 343 = .ok (.iconst 1, 1) := by decide +kernel
theorem d_law_344 : decode code 344 = .ok (.iadd, 1) := by decide +kernel
theorem d_law_345 : decode code 345 = .ok (.iaload, 1) := by decide +kernel
theorem d_law_346 : decode code 346 = .ok (.invokevirtual 52, 3) := by decide +kernel
theorem d_law_349 : decode code 349 = .ok (.if_icmp .eq 299, 3) := by decide +kernel
theorem d_law_352 : decode code 352 = .ok (.iconst 0, 1) := by decide +kernel
theorem d_law_353 : decode code 353 = .ok (.ireturn, 1) := by decide +kernel
theorem d_law_354 : decode code 354 = .ok (.aload_n 1, 1) := by decide +kernel
theorem d_law_355 : decode code 355 = .ok (.invokevirtual 53, 3) := by decide +kernel
theorem d_law_358 : decode code 358 = .ok (.aload_n 2, 1) := by decide +kernel
theorem d_law_359 : decode code 359 = .ok (.invokevirtual 56, 3) := by decide +kernel
theorem d_law_362 : decode code 362 = .ok (.if_icmp .eq 286, 3) := by decide +kernel
theorem d_law_365 : decode code 365 = .ok (.iconst 0, 1) := by decide +kernel
theorem d_law_366 : decode code 366 = .ok (.ireturn, 1) := by decide +kernel
theorem d_law_367 : decode code 367 = .ok (.aload_n 1, 1) := by decide +kernel
theorem d_law_368 : decode code 368 = .ok (.aload_n 0, 1) := by decide +kernel
theorem d_law_369 : decode code 369 = .ok (.iload 4, 2) := by decide +kernel
theorem d_law_371 : decode code 371 = .ok (.iconst 1, 1) := by decide +kernel
theorem d_law_372 : decode code 372 = .ok (.iadd, 1) := by decide +kernel
theorem d_law_373 : decode code 373 = .ok (.iaload, 1) := by decide +kernel
theorem d_law_374 : decode code 374 = .ok (.aload_n 0, 1) := by decide +kernel
theorem d_law_375 : decode code 375 = .ok (.iload 4, 2) := by decide +kernel
theorem d_law_377 : decode code 377 = .ok (.iconst 2, 1) := by decide +kernel
theorem d_law_378 : decode code 378 = .ok (.iadd, 1) := by decide +kernel
theorem d_law_379 : decode code 379 = .ok (.iaload, 1) := by decide +kernel
theorem d_law_380 : decode code 380 = .ok (.invokevirtual 57, 3) := by decide +kernel
theorem d_law_383 : decode code 383 = .ok (.aload_n 2, 1) := by decide +kernel
theorem d_law_384 : decode code 384 = .ok (.aload_n 0, 1) := by decide +kernel
theorem d_law_385 : decode code 385 = .ok (.iload 4, 2) := by decide +kernel
theorem d_law_387 : decode code 387 = .ok (.iconst 1, 1) := by decide +kernel
theorem d_law_388 : decode code 388 = .ok (.iadd, 1) := by decide +kernel
theorem d_law_389 : decode code 389 = .ok (.iaload, 1) := by decide +kernel
theorem d_law_390 : decode code 390 = .ok (.aload_n 0, 1) := by decide +kernel
theorem d_law_391 : decode code 391 = .ok (.iload 4, 2) := by decide +kernel
theorem d_law_393 : decode code 393 = .ok (.iconst 2, 1) := by decide +kernel
theorem d_law_394 : decode code 394 = .ok (.iadd, 1) := by decide +kernel
theorem d_law_395 : decode code 395 = .ok (.iaload, 1) := by decide +kernel
theorem d_law_396 : decode code 396 = .ok (.invokevirtual 61, 3) := by decide +kernel
theorem d_law_399 : decode code 399 = .ok (.if_icmp .eq 249, 3) := by decide +kernel
theorem d_law_402 : decode code 402 = .ok (.iconst 0, 1) := by decide +kernel
theorem d_law_403 : decode code 403 = .ok (.ireturn, 1) := by decide +kernel
theorem d_law_404 : decode code 404 = .ok (.aload_n 1, 1) := by decide +kernel
theorem d_law_405 : decode code 405 = .ok (.invokevirtual 62, 3) := by decide +kernel
theorem d_law_408 : decode code 408 = .ok (.aload_n 2, 1) := by decide +kernel
theorem d_law_409 : decode code 409 = .ok (.invokevirtual 65, 3) := by decide +kernel
theorem d_law_412 : decode code 412 = .ok (.if_icmp .eq 236, 3) := by decide +kernel
theorem d_law_415 : decode code 415 = .ok (.iconst 0, 1) := by decide +kernel
theorem d_law_416 : decode code 416 = .ok (.ireturn, 1) := by decide +kernel
theorem d_law_417 : decode code 417 = .ok (.aload_n 1, 1) := by decide +kernel
theorem d_law_418 : decode code 418 = .ok (.aload_n 0, 1) := by decide +kernel
theorem d_law_419 : decode code 419 = .ok (.iload 4, 2) := by decide +kernel
theorem d_law_421 : decode code 421 = .ok (.iconst 1, 1) := by decide +kernel
theorem d_law_422 : decode code 422 = .ok (.iadd, 1) := by decide +kernel
theorem d_law_423 : decode code 423 = .ok (.iaload, 1) := by decide +kernel
theorem d_law_424 : decode code 424 = .ok (.aload_n 0, 1) := by decide +kernel
theorem d_law_425 : decode code 425 = .ok (.iload 4, 2) := by decide +kernel
theorem d_law_427 : decode code 427 = .ok (.iconst 2, 1) := by decide +kernel
theorem d_law_428 : decode code 428 = .ok (.iadd, 1) := by decide +kernel
theorem d_law_429 : decode code 429 = .ok (.iaload, 1) := by decide +kernel
theorem d_law_430 : decode code 430 = .ok (.ifCond .eq 7, 3) := by decide +kernel
theorem d_law_433 : decode code 433 = .ok (.iconst 1, 1) := by decide +kernel
theorem d_law_434 : decode code 434 = .ok (.goto 4, 3) := by decide +kernel
theorem d_law_437 : decode code 437 = .ok (.iconst 0, 1) := by decide +kernel
theorem d_law_438 : decode code 438 = .ok (.aload_n 3, 1) := by decide +kernel
theorem d_law_439 : decode code 439 = .ok (.invokestatic 66, 3) := by decide +kernel
theorem d_law_442 : decode code 442 = .ok (.istore 5, 2) := by decide +kernel
theorem d_law_444 : decode code 444 = .ok (.aload_n 2, 1) := by decide +kernel
theorem d_law_445 : decode code 445 = .ok (.aload_n 0, 1) := by decide +kernel
theorem d_law_446 : decode code 446 = .ok (.iload 4, 2) := by decide +kernel
theorem d_law_448 : decode code 448 = .ok (.iconst 1, 1) := by decide +kernel
theorem d_law_449 : decode code 449 = .ok (.iadd, 1) := by decide +kernel
theorem d_law_450 : decode code 450 = .ok (.iaload, 1) := by decide +kernel
theorem d_law_451 : decode code 451 = .ok (.aload_n 0, 1) := by decide +kernel
theorem d_law_452 : decode code 452 = .ok (.iload 4, 2) := by decide +kernel
theorem d_law_454 : decode code 454 = .ok (.iconst 2, 1) := by decide +kernel
theorem d_law_455 : decode code 455 = .ok (.iadd, 1) := by decide +kernel
theorem d_law_456 : decode code 456 = .ok (.iaload, 1) := by decide +kernel
theorem d_law_457 : decode code 457 = .ok (.ifCond .eq 7, 3) := by decide +kernel
