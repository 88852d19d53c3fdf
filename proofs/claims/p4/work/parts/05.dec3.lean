theorem dX12_init_291 : decode cX12_init 291 = .ok (.iastore, 1) := by decide +kernel
theorem dX12_init_292 : decode cX12_init 292 = .ok (.dup, 1) := by decide +kernel
theorem dX12_init_293 : decode cX12_init 293 = .ok (.bipush 29, 2) := by decide +kernel
theorem dX12_init_295 : decode cX12_init 295 = .ok (.iconst 0, 1) := by decide +kernel
theorem dX12_init_296 : decode cX12_init 296 = .ok (.iastore, 1) := by decide +kernel
theorem dX12_init_297 : decode cX12_init 297 = .ok (.dup, 1) := by decide +kernel
theorem dX12_init_298 : decode cX12_init 298 = .ok (.bipush 30, 2) := by decide +kernel
theorem dX12_init_300 : decode cX12_init 300 = .ok (.bipush 46, 2) := by decide +kernel
theorem dX12_init_302 : decode cX12_init 302 = .ok (.iastore, 1) := by decide +kernel
theorem dX12_init_303 : decode cX12_init 303 = .ok (.dup, 1) := by decide +kernel
theorem dX12_init_304 : decode cX12_init 304 = .ok (.bipush 31, 2) := by decide +kernel
theorem dX12_init_306 : decode cX12_init 306 = .ok (.bipush 100, 2) := by decide +kernel
theorem dX12_init_308 : decode cX12_init 308 = .ok (.iastore, 1) := by decide +kernel
theorem dX12_init_309 : decode cX12_init 309 = .ok (.dup, 1) := by decide +kernel
theorem dX12_init_310 : decode cX12_init 310 = .ok (.bipush 32, 2) := by decide +kernel
theorem dX12_init_312 : decode cX12_init 312 = .ok (.bipush 101, 2) := by decide +kernel
theorem dX12_init_314 : decode cX12_init 314 = .ok (.iastore, 1) := by decide +kernel
theorem dX12_init_315 : decode cX12_init 315 = .ok (.dup, 1) := by decide +kernel
theorem dX12_init_316 : decode cX12_init 316 = .ok (.bipush 33, 2) := by decide +kernel
theorem dX12_init_318 : decode cX12_init 318 = .ok (.bipush 98, 2) := by decide +kernel
theorem dX12_init_320 : decode cX12_init 320 = .ok (.iastore, 1) := by decide +kernel
theorem dX12_init_321 : decode cX12_init 321 = .ok (.dup, 1) := by decide +kernel
theorem dX12_init_322 : decode cX12_init 322 = .ok (.bipush 34, 2) := by decide +kernel
theorem dX12_init_324 : decode cX12_init 324 = .ok (.bipush 117, 2) := by decide +kernel
theorem dX12_init_326 : decode cX12_init 326 = .ok (.iastore, 1) := by decide +kernel
theorem dX12_init_327 : decode cX12_init 327 = .ok (.dup, 1) := by decide +kernel
theorem dX12_init_328 : decode cX12_init 328 = .ok (.bipush 35, 2) := by decide +kernel
theorem dX12_init_330 : decode cX12_init 330 = .ok (.bipush 103, 2) := by decide +kernel
theorem dX12_init_332 : decode cX12_init 332 = .ok (.iastore, 1) := by decide +kernel
theorem dX12_init_333 : decode cX12_init 333 = .ok (.dup, 1) := by decide +kernel
theorem dX12_init_334 : decode cX12_init 334 = .ok (.bipush 36, 2) := by decide +kernel
theorem dX12_init_336 : decode cX12_init 336 = .ok (.bipush 95, 2) := by decide +kernel
theorem dX12_init_338 : decode cX12_init 338 = .ok (.iastore, 1) := by decide +kernel
theorem dX12_init_339 : decode cX12_init 339 = .ok (.dup, 1) := by decide +kernel
theorem dX12_init_340 : decode cX12_init 340 = .ok (.bipush 37, 2) := by decide +kernel
theorem dX12_init_342 : decode cX12_init 342 = .ok (.bipush 105, 2) := by decide +kernel
theorem dX12_init_344 : decode cX12_init 344 = .ok (.iastore, 1) := by decide +kernel
theorem dX12_init_345 : decode cX12_init 345 = .ok (.dup, 1) := by decide +kernel
theorem dX12_init_346 : decode cX12_init 346 = .ok (.bipush 38, 2) := by decide +kernel
theorem dX12_init_348 : decode cX12_init 348 = .ok (.bipush 110, 2) := by decide +kernel
theorem dX12_init_350 : decode cX12_init 350 = .ok (.iastore, 1) := by decide +kernel
theorem dX12_init_351 : decode cX12_init 351 = .ok (.dup, 1) := by decide +kernel
theorem dX12_init_352 : decode cX12_init 352 = .ok (.bipush 39, 2) := by decide +kernel
theorem dX12_init_354 : decode cX12_init 354 = .ok (.bipush 102, 2) := by decide +kernel
theorem dX12_init_356 : decode cX12_init 356 = .ok (.iastore, 1) := by decide +kernel
theorem dX12_init_357 : decode cX12_init 357 = .ok (.dup, 1) := by decide +kernel
theorem dX12_init_358 : decode cX12_init 358 = .ok (.bipush 40, 2) := by decide +kernel
theorem dX12_init_360 : decode cX12_init 360 = .ok (.bipush 111, 2) := by decide +kernel
theorem dX12_init_362 : decode cX12_init 362 = .ok (.iastore, 1) := by decide +kernel
theorem dX12_init_363 : decode cX12_init 363 = .ok (.dup, 1) := by decide +kernel
theorem dX12_init_364 : decode cX12_init 364 = .ok (.bipush 41, 2) := by decide +kernel
theorem dX12_init_366 : decode cX12_init 366 = .ok (.iconst 0, 1) := by decide +kernel
theorem dX12_init_367 : decode cX12_init 367 = .ok (.iastore, 1) := by decide +kernel
theorem dX12_init_368 : decode cX12_init 368 = .ok (.dup, 1) := by decide +kernel
theorem dX12_init_369 : decode cX12_init 369 = .ok (.bipush 42, 2) := by decide +kernel
theorem dX12_init_371 : decode cX12_init 371 = .ok (.bipush 46, 2) := by decide +kernel
theorem dX12_init_373 : decode cX12_init 373 = .ok (.iastore, 1) := by decide +kernel
theorem dX12_init_374 : decode cX12_init 374 = .ok (.dup, 1) := by decide +kernel
theorem dX12_init_375 : decode cX12_init 375 = .ok (.bipush 43, 2) := by decide +kernel
theorem dX12_init_377 : decode cX12_init 377 = .ok (.bipush 100, 2) := by decide +kernel
theorem dX12_init_379 : decode cX12_init 379 = .ok (.iastore, 1) := by decide +kernel
theorem dX12_init_380 : decode cX12_init 380 = .ok (.dup, 1) := by decide +kernel
theorem dX12_init_381 : decode cX12_init 381 = .ok (.bipush 44, 2) := by decide +kernel
theorem dX12_init_383 : decode cX12_init 383 = .ok (.bipush 101, 2) := by decide +kernel
theorem dX12_init_385 : decode cX12_init 385 = .ok (.iastore, 1) := by decide +kernel
theorem dX12_init_386 : decode cX12_init 386 = .ok (.dup, 1) := by decide +kernel
theorem dX12_init_387 : decode cX12_init 387 = .ok (.bipush 45, 2) := by decide +kernel
theorem dX12_init_389 : decode cX12_init 389 = .ok (.bipush 98, 2) := by decide +kernel
theorem dX12_init_391 : decode cX12_init 391 = .ok (.iastore, 1) := by decide +kernel
theorem dX12_init_392 : decode cX12_init 392 = .ok (.dup, 1) := by decide +kernel
theorem dX12_init_393 : decode cX12_init 393 = .ok (.bipush 46, 2) := by decide +kernel
theorem dX12_init_395 : decode cX12_init 395 = .ok (.bipush 117, 2) := by decide +kernel
theorem dX12_init_397 : decode cX12_init 397 = .ok (.iastore, 1) := by decide +kernel
theorem dX12_init_398 : decode cX12_init 398 = .ok (.dup, 1) := by decide +kernel
theorem dX12_init_399 : decode cX12_init 399 = .ok (.bipush 47, 2) := by decide +kernel
theorem dX12_init_401 : decode cX12_init 401 = .ok (.bipush 103, 2) := by decide +kernel
theorem dX12_init_403 : decode cX12_init 403 = .ok (.iastore, 1) := by decide +kernel
theorem dX12_init_404 : decode cX12_init 404 = .ok (.dup, 1) := by decide +kernel
theorem dX12_init_405 : decode cX12_init 405 = .ok (.bipush 48, 2) := by decide +kernel
theorem dX12_init_407 : decode cX12_init 407 = .ok (.bipush 95, 2) := by decide +kernel
theorem dX12_init_409 : decode cX12_init 409 = .ok (.iastore, 1) := by decide +kernel
theorem dX12_init_410 : decode cX12_init 410 = .ok (.dup, 1) := by decide +kernel
theorem dX12_init_411 : decode cX12_init 411 = .ok (.bipush 49, 2) := by decide +kernel
theorem dX12_init_413 : decode cX12_init 413 = .ok (.bipush 115, 2) := by decide +kernel
theorem dX12_init_415 : decode cX12_init 415 = .ok (.iastore, 1) := by decide +kernel
theorem dX12_init_416 : decode cX12_init 416 = .ok (.dup, 1) := by decide +kernel
theorem dX12_init_417 : decode cX12_init 417 = .ok (.bipush 50, 2) := by decide +kernel
theorem dX12_init_419 : decode cX12_init 419 = .ok (.bipush 116, 2) := by decide +kernel
theorem dX12_init_421 : decode cX12_init 421 = .ok (.iastore, 1) := by decide +kernel
theorem dX12_init_422 : decode cX12_init 422 = .ok (.dup, 1) := by decide +kernel
theorem dX12_init_423 : decode cX12_init 423 = .ok (.bipush 51, 2) := by decide +kernel
theorem dX12_init_425 : decode cX12_init 425 = .ok (.bipush 114, 2) := by decide +kernel
theorem dX12_init_427 : decode cX12_init 427 = .ok (.iastore, 1) := by decide +kernel
theorem dX12_init_428 : decode cX12_init 428 = .ok (.dup, 1) := by decide +kernel
theorem dX12_init_429 : decode cX12_init 429 = .ok (.bipush 52, 2) := by decide +kernel
theorem dX12_init_431 : decode cX12_init 431 = .ok (.iconst 0, 1) := by decide +kernel
theorem dX12_init_432 : decode cX12_init 432 = .ok (.iastore, 1) := by decide +kernel
theorem dX12_init_433 : decode cX12_init 433 = .ok (.dup, 1) := by decide +kernel
theorem dX12_init_434 : decode cX12_init 434 = .ok (.bipush 53, 2) := by decide +kernel
theorem dX12_init_436 : decode cX12_init 436 = .ok (.bipush 46, 2) := by decide +kernel
theorem dX12_init_438 : decode cX12_init 438 = .ok (.iastore, 1) := by decide +kernel
theorem dX12_init_439 : decode cX12_init 439 = .ok (.dup, 1) := by decide +kernel
theorem dX12_init_440 : decode cX12_init 440 = .ok (.bipush 54, 2) := by decide +kernel
theorem dX12_init_442 : decode cX12_init 442 = .ok (.bipush 100, 2) := by decide +kernel
theorem dX12_init_444 : decode cX12_init 444 = .ok (.iastore, 1) := by decide +kernel
theorem dX12_init_445 : decode cX12_init 445 = .ok (.dup, 1) := by decide +kernel
theorem dX12_init_446 : decode cX12_init 446 = .ok (.bipush 55, 2) := by decide +kernel
theorem dX12_init_448 : decode cX12_init 448 = .ok (.bipush 101, 2) := by decide +kernel
theorem dX12_init_450 : decode cX12_init 450 = .ok (.iastore, 1) := by decide +kernel
theorem dX12_init_451 : decode cX12_init 451 = .ok (.dup, 1) := by decide +kernel
theorem dX12_init_452 : decode cX12_init 452 = .ok (.bipush 56, 2) := by decide +kernel
theorem dX12_init_454 : decode cX12_init 454 = .ok (.bipush 98, 2) := by decide +kernel
theorem dX12_init_456 : decode cX12_init 456 = .ok (.iastore, 1) := by decide +kernel
theorem dX12_init_457 : decode cX12_init 457 = .ok (.dup, 1) := by decide +kernel
theorem dX12_init_458 : decode cX12_init 458 = .ok (.bipush 57, 2) := by decide +kernel
theorem dX12_init_460 : decode cX12_init 460 = .ok (.bipush 117, 2) := by decide +kernel
theorem dX12_init_462 : decode cX12_init 462 = .ok (.iastore, 1) := by decide +kernel
theorem dX12_init_463 : decode cX12_init 463 = .ok (.dup, 1) := by decide +kernel
theorem dX12_init_464 : decode cX12_init 464 = .ok (.bipush 58, 2) := by decide +kernel
theorem dX12_init_466 : decode cX12_init 466 = .ok (.bipush 103, 2) := by decide +kernel
theorem dX12_init_468 : decode cX12_init 468 = .ok (.iastore, 1) := by decide +kernel
theorem dX12_init_469 : decode cX12_init 469 = .ok (.dup, 1) := by decide +kernel
theorem dX12_init_470 : decode cX12_init 470 = .ok (.bipush 59, 2) := by decide +kernel
theorem dX12_init_472 : decode cX12_init 472 = .ok (.bipush 95, 2) := by decide +kernel
theorem dX12_init_474 : decode cX12_init 474 = .ok (.iastore, 1) := by decide +kernel
theorem dX12_init_475 : decode cX12_init 475 = .ok (.dup, 1) := by decide +kernel
theorem dX12_init_476 : decode cX12_init 476 = .ok (.bipush 60, 2) := by decide +kernel
theorem dX12_init_478 : decode cX12_init 478 = .ok (.bipush 108, 2) := by decide +kernel
theorem dX12_init_480 : decode cX12_init 480 = .ok (.iastore, 1) := by decide +kernel
theorem dX12_init_481 : decode cX12_init 481 = .ok (.dup, 1) := by decide +kernel
theorem dX12_init_482 : decode cX12_init 482 = .ok (.bipush 61, 2) := by decide +kernel
theorem dX12_init_484 : decode cX12_init 484 = .ok (.bipush 105, 2) := by decide +kernel
theorem dX12_init_486 : decode cX12_init 486 = .ok (.iastore, 1) := by decide +kernel
theorem dX12_init_487 : decode cX12_init 487 = .ok (.dup, 1) := by decide +kernel
theorem dX12_init_488 : decode cX12_init 488 = .ok (.bipush 62, 2) := by decide +kernel
theorem dX12_init_490 : decode cX12_init 490 = .ok (.bipush 110, 2) := by decide +kernel
theorem dX12_init_492 : decode cX12_init 492 = .ok (.iastore, 1) := by decide +kernel
theorem dX12_init_493 : decode cX12_init 493 = .ok (.dup, 1) := by decide +kernel
theorem dX12_init_494 : decode cX12_init 494 = .ok (.bipush 63, 2) := by decide +kernel
theorem dX12_init_496 : decode cX12_init 496 = .ok (.bipush 101, 2) := by decide +kernel
theorem dX12_init_498 : decode cX12_init 498 = .ok (.iastore, 1) := by decide +kernel
theorem dX12_init_499 : decode cX12_init 499 = .ok (.dup, 1) := by decide +kernel
theorem dX12_init_500 : decode cX12_init 500 = .ok (.bipush 64, 2) := by decide +kernel
theorem dX12_init_502 : decode cX12_init 502 = .ok (.iconst 0, 1) := by decide +kernel
theorem dX12_init_503 : decode cX12_init 503 = .ok (.iastore, 1) := by decide +kernel
theorem dX12_init_504 : decode cX12_init 504 = .ok (.dup, 1) := by decide +kernel
theorem dX12_init_505 : decode cX12_init 505 = .ok (.bipush 65, 2) := by decide +kernel
theorem dX12_init_507 : decode cX12_init 507 = .ok (.bipush 46, 2) := by decide +kernel
theorem dX12_init_509 : decode cX12_init 509 = .ok (.iastore, 1) := by decide +kernel
theorem dX12_init_510 : decode cX12_init 510 = .ok (.dup, 1) := by decide +kernel
theorem dX12_init_511 : decode cX12_init 511 = .ok (.bipush 66, 2) := by decide +kernel
theorem dX12_init_513 : decode cX12_init 513 = .ok (.bipush 100, 2) := by decide +kernel
theorem dX12_init_515 : decode cX12_init 515 = .ok (.iastore, 1) := by decide +kernel
theorem dX12_init_516 : decode cX12_init 516 = .ok (.dup, 1) := by decide +kernel
theorem dX12_init_517 : decode cX12_init 517 = .ok (.bipush 67, 2) := by decide +kernel
theorem dX12_init_519 : decode cX12_init 519 = .ok (.bipush 101, 2) := by decide +kernel
theorem dX12_init_521 : decode cX12_init 521 = .ok (.iastore, 1) := by decide +kernel
theorem dX12_init_522 : decode cX12_init 522 = .ok (.dup, 1) := by decide +kernel
theorem dX12_init_523 : decode cX12_init 523 = .ok (.bipush 68, 2) := by decide +kernel
theorem dX12_init_525 : decode cX12_init 525 = .ok (.bipush 98, 2) := by decide +kernel
theorem dX12_init_527 : decode cX12_init 527 = .ok (.iastore, 1) := by decide +kernel
theorem dX12_init_528 : decode cX12_init 528 = .ok (.dup, 1) := by decide +kernel
theorem dX12_init_529 : decode cX12_init 529 = .ok (.bipush 69, 2) := by decide +kernel
theorem dX12_init_531 : decode cX12_init 531 = .ok (.bipush 117, 2) := by decide +kernel
theorem dX12_init_533 : decode cX12_init 533 = .ok (.iastore, 1) := by decide +kernel
theorem dX12_init_534 : decode cX12_init 534 = .ok (.dup, 1) := by decide +kernel
theorem dX12_init_535 : decode cX12_init 535 = .ok (.bipush 70, 2) := by decide +kernel
theorem dX12_init_537 : decode cX12_init 537 = .ok (.bipush 103, 2) := by decide +kernel
theorem dX12_init_539 : decode cX12_init 539 = .ok (.iastore, 1) := by decide +kernel
theorem dX12_init_540 : decode cX12_init 540 = .ok (.dup, 1) := by decide +kernel
theorem dX12_init_541 : decode cX12_init 541 = .ok (.bipush 71, 2) := by decide +kernel
theorem dX12_init_543 : decode cX12_init 543 = .ok (.bipush 95, 2) := by decide +kernel
theorem dX12_init_545 : decode cX12_init 545 = .ok (.iastore, 1) := by decide +kernel
theorem dX12_init_546 : decode cX12_init 546 = .ok (.dup, 1) := by decide +kernel
theorem dX12_init_547 : decode cX12_init 547 = .ok (.bipush 72, 2) := by decide +kernel
theorem dX12_init_549 : decode cX12_init 549 = .ok (.bipush 114, 2) := by decide +kernel
theorem dX12_init_551 : decode cX12_init 551 = .ok (.iastore, 1) := by decide +kernel
theorem dX12_init_552 : decode cX12_init 552 = .ok (.dup, 1) := by decide +kernel
theorem dX12_init_553 : decode cX12_init 553 = .ok (.bipush 73, 2) := by decide +kernel
theorem dX12_init_555 : decode cX12_init 555 = .ok (.bipush 110, 2) := by decide +kernel
theorem dX12_init_557 : decode cX12_init 557 = .ok (.iastore, 1) := by decide +kernel
theorem dX12_init_558 : decode cX12_init 558 = .ok (.dup, 1) := by decide +kernel
theorem dX12_init_559 : decode cX12_init 559 = .ok (.bipush 74, 2) := by decide +kernel
theorem dX12_init_561 : decode cX12_init 561 = .ok (.bipush 103, 2) := by decide +kernel
theorem dX12_init_563 : decode cX12_init 563 = .ok (.iastore, 1) := by decide +kernel
theorem dX12_init_564 : decode cX12_init 564 = .ok (.dup, 1) := by decide +kernel
theorem dX12_init_565 : decode cX12_init 565 = .ok (.bipush 75, 2) := by decide +kernel
theorem dX12_init_567 : decode cX12_init 567 = .ok (.bipush 108, 2) := by decide +kernel
theorem dX12_init_569 : decode cX12_init 569 = .ok (.iastore, 1) := by decide +kernel
theorem dX12_init_570 : decode cX12_init 570 = .ok (.dup, 1) := by decide +kernel
theorem dX12_init_571 : decode cX12_init 571 = .ok (.bipush 76, 2) := by decide +kernel
theorem dX12_init_573 : decode cX12_init 573 = .ok (.bipush 105, 2) := by decide +kernel
theorem dX12_init_575 : decode cX12_init 575 = .ok (.iastore, 1) := by decide +kernel
theorem dX12_init_576 : decode cX12_init 576 = .ok (.dup, 1) := by decide +kernel
theorem dX12_init_577 : decode cX12_init 577 = .ok (.bipush 77, 2) := by decide +kernel
theorem dX12_init_579 : decode cX12_init 579 = .ok (.bipush 115, 2) := by decide +kernel
theorem dX12_init_581 : decode cX12_init 581 = .ok (.iastore, 1) := by decide +kernel
theorem dX12_init_582 : decode cX12_init 582 = .ok (.dup, 1) := by decide +kernel
theorem dX12_init_583 : decode cX12_init 583 = .ok (.bipush 78, 2) := by decide +kernel
theorem dX12_init_585 : decode cX12_init 585 = .ok (.bipush 116, 2) := by decide +kernel
theorem dX12_init_587 : decode cX12_init 587 = .ok (.iastore, 1) := by decide +kernel
theorem dX12_init_588 : decode cX12_init 588 = .ok (.dup, 1) := by decide +kernel
theorem dX12_init_589 : decode cX12_init 589 = .ok (.bipush 79, 2) := by decide +kernel
theorem dX12_init_591 : decode cX12_init 591 = .ok (.bipush 115, 2) := by decide +kernel
theorem dX12_init_593 : decode cX12_init 593 = .ok (.iastore, 1) := by decide +kernel
theorem dX12_init_594 : decode cX12_init 594 = .ok (.dup, 1) := by decide +kernel
theorem dX12_init_595 : decode cX12_init 595 = .ok (.bipush 80, 2) := by decide +kernel
theorem dX12_init_597 : decode cX12_init 597 = .ok (.iconst 0, 1) := by decide +kernel
theorem dX12_init_598 : decode cX12_init 598 = .ok (.iastore, 1) := by decide +kernel
theorem dX12_init_599 : decode cX12_init 599 = .ok (.putfield 59, 3) := by decide +kernel
theorem dX12_init_602 : decode cX12_init 602 = .ok (.aload_n 0, 1) := by decide +kernel
theorem dX12_init_603 : decode cX12_init 603 = .ok (.bipush 7, 2) := by decide +kernel
theorem dX12_init_605 : decode cX12_init 605 = .ok (.newarray .int, 2) := by decide +kernel
theorem dX12_init_607 : decode cX12_init 607 = .ok (.dup, 1) := by decide +kernel
theorem dX12_init_608 : decode cX12_init 608 = .ok (.iconst 0, 1) := by decide +kernel
theorem dX12_init_609 : decode cX12_init 609 = .ok (.bipush 127, 2) := by decide +kernel
theorem dX12_init_611 : decode cX12_init 611 = .ok (.iastore, 1) := by decide +kernel
theorem dX12_init_612 : decode cX12_init 612 = .ok (.dup, 1) := by decide +kernel
theorem dX12_init_613 : decode cX12_init 613 = .ok (.iconst 1, 1) := by decide +kernel
theorem dX12_init_614 : decode cX12_init 614 = .ok (.bipush 69, 2) := by decide +kernel
theorem dX12_init_616 : decode cX12_init 616 = .ok (.iastore, 1) := by decide +kernel
theorem dX12_init_617 : decode cX12_init 617 = .ok (.dup, 1) := by decide +kernel
theorem dX12_init_618 : decode cX12_init 618 = .ok (.iconst 2, 1) := by decide +kernel
theorem dX12_init_619 : decode cX12_init 619 = .ok (.bipush 76, 2) := by decide +kernel
theorem dX12_init_621 : decode cX12_init 621 = .ok (.iastore, 1) := by decide +kernel
theorem dX12_init_622 : decode cX12_init 622 = .ok (.dup, 1) := by decide +kernel
theorem dX12_init_623 : decode cX12_init 623 = .ok (.iconst 3, 1) := by decide +kernel
theorem dX12_init_624 : decode cX12_init 624 = .ok (.bipush 70, 2) := by decide +kernel
theorem dX12_init_626 : decode cX12_init 626 = .ok (.iastore, 1) := by decide +kernel
theorem dX12_init_627 : decode cX12_init 627 = .ok (.dup, 1) := by decide +kernel
theorem dX12_init_628 : decode cX12_init 628 = .ok (.iconst 4, 1) := by decide +kernel
theorem dX12_init_629 : decode cX12_init 629 = .ok (.iconst 2, 1) := by decide +kernel
theorem dX12_init_630 : decode cX12_init 630 = .ok (.iastore, 1) := by decide +kernel
theorem dX12_init_631 : decode cX12_init 631 = .ok (.dup, 1) := by decide +kernel
theorem dX12_init_632 : decode cX12_init 632 = .ok (.iconst 5, 1) := by decide +kernel
theorem dX12_init_633 : decode cX12_init 633 = .ok (.iconst 1, 1) := by decide +kernel
theorem dX12_init_634 : decode cX12_init 634 = .ok (.iastore, 1) := by decide +kernel
theorem dX12_init_635 : decode cX12_init 635 = .ok (.dup, 1) := by decide +kernel
theorem dX12_init_636 : decode cX12_init 636 = .ok (.bipush 6, 2) := by decide +kernel
theorem dX12_init_638 : decode cX12_init 638 = .ok (.iconst 1, 1) := by decide +kernel
theorem dX12_init_639 : decode cX12_init 639 = .ok (.iastore, 1) := by decide +kernel
theorem dX12_init_640 : decode cX12_init 640 = .ok (.putfield 62, 3) := by decide +kernel
theorem dX12_init_643 : decode cX12_init 643 = .ok (.aload_n 0, 1) := by decide +kernel
theorem dX12_init_644 : decode cX12_init 644 = .ok (.sipush 200, 3) := by decide +kernel
theorem dX12_init_647 : decode cX12_init 647 = .ok (.newarray .long, 2) := by decide +kernel
theorem dX12_init_649 : decode cX12_init 649 = .ok (.putfield 65, 3) := by decide +kernel
theorem dX12_init_652 : decode cX12_init 652 = .ok (.aload_n 0, 1) := by decide +kernel
theorem dX12_init_653 : decode cX12_init 653 = .ok (.sipush 200, 3) := by decide +kernel
theorem dX12_init_656 : decode cX12_init 656 = .ok (.newarray .long, 2) := by decide +kernel
theorem dX12_init_658 : decode cX12_init 658 = .ok (.putfield 69, 3) := by decide +kernel
theorem dX12_init_661 : decode cX12_init 661 = .ok (.aload_n 0, 1) := by decide +kernel
theorem dX12_init_662 : decode cX12_init 662 = .ok (.sipush 200, 3) := by decide +kernel
theorem dX12_init_665 : decode cX12_init 665 = .ok (.newarray .int, 2) := by decide +kernel
theorem dX12_init_667 : decode cX12_init 667 = .ok (.putfield 72, 3) := by decide +kernel
theorem dX12_init_670 : decode cX12_init 670 = .ok (.aload_n 0, 1) := by decide +kernel
theorem dX12_init_671 : decode cX12_init 671 = .ok (.sipush 200, 3) := by decide +kernel
theorem dX12_init_674 : decode cX12_init 674 = .ok (.newarray .int, 2) := by decide +kernel
theorem dX12_init_676 : decode cX12_init 676 = .ok (.putfield 75, 3) := by decide +kernel
theorem dX12_init_679 : decode cX12_init 679 = .ok (.aload_n 0, 1) := by decide +kernel
theorem dX12_init_680 : decode cX12_init 680 = .ok (.bipush 40, 2) := by decide +kernel
theorem dX12_init_682 : decode cX12_init 682 = .ok (.newarray .int, 2) := by decide +kernel
theorem dX12_init_684 : decode cX12_init 684 = .ok (.putfield 78, 3) := by decide +kernel
theorem dX12_init_687 : decode cX12_init 687 = .ok (.aload_n 0, 1) := by decide +kernel
theorem dX12_init_688 : decode cX12_init 688 = .ok (.bipush 40, 2) := by decide +kernel
theorem dX12_init_690 : decode cX12_init 690 = .ok (.newarray .int, 2) := by decide +kernel
theorem dX12_init_692 : decode cX12_init 692 = .ok (.putfield 81, 3) := by decide +kernel
theorem dX12_init_695 : decode cX12_init 695 = .ok (.aload_n 0, 1) := by decide +kernel
theorem dX12_init_696 : decode cX12_init 696 = .ok (.bipush 40, 2) := by decide +kernel
theorem dX12_init_698 : decode cX12_init 698 = .ok (.newarray .int, 2) := by decide +kernel
theorem dX12_init_700 : decode cX12_init 700 = .ok (.putfield 84, 3) := by decide +kernel
theorem dX12_init_703 : decode cX12_init 703 = .ok (.aload_n 0, 1) := by decide +kernel
theorem dX12_init_704 : decode cX12_init 704 = .ok (.bipush 40, 2) := by decide +kernel
theorem dX12_init_706 : decode cX12_init 706 = .ok (.newarray .int, 2) := by decide +kernel
theorem dX12_init_708 : decode cX12_init 708 = .ok (.putfield 87, 3) := by decide +kernel
theorem dX12_init_711 : decode cX12_init 711 = .ok (.aload_n 0, 1) := by decide +kernel
theorem dX12_init_712 : decode cX12_init 712 = .ok (.bipush 20, 2) := by decide +kernel
theorem dX12_init_714 : decode cX12_init 714 = .ok (.newarray .boolean, 2) := by decide +kernel
theorem dX12_init_716 : decode cX12_init 716 = .ok (.putfield 90, 3) := by decide +kernel
theorem dX12_init_719 : decode cX12_init 719 = .ok (.aload_n 0, 1) := by decide +kernel
theorem dX12_init_720 : decode cX12_init 720 = .ok (.bipush 20, 2) := by decide +kernel
theorem dX12_init_722 : decode cX12_init 722 = .ok (.newarray .long, 2) := by decide +kernel
theorem dX12_init_724 : decode cX12_init 724 = .ok (.putfield 94, 3) := by decide +kernel
theorem dX12_init_727 : decode cX12_init 727 = .ok (.aload_n 0, 1) := by decide +kernel
theorem dX12_init_728 : decode cX12_init 728 = .ok (.bipush 40, 2) := by decide +kernel
theorem dX12_init_730 : decode cX12_init 730 = .ok (.newarray .long, 2) := by decide +kernel
theorem dX12_init_732 : decode cX12_init 732 = .ok (.putfield 97, 3) := by decide +kernel
theorem dX12_init_735 : decode cX12_init 735 = .ok (.aload_n 0, 1) := by decide +kernel
theorem dX12_init_736 : decode cX12_init 736 = .ok (.bipush 40, 2) := by decide +kernel
theorem dX12_init_738 : decode cX12_init 738 = .ok (.newarray .long, 2) := by decide +kernel
theorem dX12_init_740 : decode cX12_init 740 = .ok (.putfield 100, 3) := by decide +kernel
theorem dX12_init_743 : decode cX12_init 743 = .ok (.aload_n 0, 1) := by decide +kernel
theorem dX12_init_744 : decode cX12_init 744 = .ok (.bipush 40, 2) := by decide +kernel
theorem dX12_init_746 : decode cX12_init 746 = .ok (.newarray .boolean, 2) := by decide +kernel
theorem dX12_init_748 : decode cX12_init 748 = .ok (.putfield 103, 3) := by decide +kernel
theorem dX12_init_751 : decode cX12_init 751 = .ok (.aload_n 0, 1) := by decide +kernel
theorem dX12_init_752 : decode cX12_init 752 = .ok (.bipush 40, 2) := by decide +kernel
theorem dX12_init_754 : decode cX12_init 754 = .ok (.newarray .int, 2) := by decide +kernel
theorem dX12_init_756 : decode cX12_init 756 = .ok (.putfield 106, 3) := by decide +kernel
theorem dX12_init_759 : decode cX12_init 759 = .ok (.aload_n 0, 1) := by decide +kernel
theorem dX12_init_760 : decode cX12_init 760 = .ok (.sipush 640, 3) := by decide +kernel
theorem dX12_init_763 : decode cX12_init 763 = .ok (.newarray .long, 2) := by decide +kernel
theorem dX12_init_765 : decode cX12_init 765 = .ok (.putfield 109, 3) := by decide +kernel
theorem dX12_init_768 : decode cX12_init 768 = .ok (.aload_n 0, 1) := by decide +kernel
theorem dX12_init_769 : decode cX12_init 769 = .ok (.sipush 640, 3) := by decide +kernel
theorem dX12_init_772 : decode cX12_init 772 = .ok (.newarray .int, 2) := by decide +kernel
theorem dX12_init_774 : decode cX12_init 774 = .ok (.putfield 112, 3) := by decide +kernel
theorem dX12_init_777 : decode cX12_init 777 = .ok (.aload_n 0, 1) := by decide +kernel
theorem dX12_init_778 : decode cX12_init 778 = .ok (.sipush 640, 3) := by decide +kernel
theorem dX12_init_781 : decode cX12_init 781 = .ok (.newarray .long, 2) := by decide +kernel
theorem dX12_init_783 : decode cX12_init 783 = .ok (.putfield 115, 3) := by decide +kernel
theorem dX12_init_786 : decode cX12_init 786 = .ok (.aload_n 0, 1) := by decide +kernel
theorem dX12_init_787 : decode cX12_init 787 = .ok (.sipush 800, 3) := by decide +kernel
theorem dX12_init_790 : decode cX12_init 790 = .ok (.newarray .long, 2) := by decide +kernel
theorem dX12_init_792 : decode cX12_init 792 = .ok (.putfield 118, 3) := by decide +kernel
theorem dX12_init_795 : decode cX12_init 795 = .ok (.aload_n 0, 1) := by decide +kernel
theorem dX12_init_796 : decode cX12_init 796 = .ok (.sipush 800, 3) := by decide +kernel
theorem dX12_init_799 : decode cX12_init 799 = .ok (.newarray .int, 2) := by decide +kernel
theorem dX12_init_801 : decode cX12_init 801 = .ok (.putfield 121, 3) := by decide +kernel
theorem dX12_init_804 : decode cX12_init 804 = .ok (.aload_n 0, 1) := by decide +kernel
theorem dX12_init_805 : decode cX12_init 805 = .ok (.sipush 800, 3) := by decide +kernel
theorem dX12_init_808 : decode cX12_init 808 = .ok (.newarray .int, 2) := by decide +kernel
theorem dX12_init_810 : decode cX12_init 810 = .ok (.putfield 124, 3) := by decide +kernel
theorem dX12_init_813 : decode cX12_init 813 = .ok (.aload_n 0, 1) := by decide +kernel
theorem dX12_init_814 : decode cX12_init 814 = .ok (.sipush 800, 3) := by decide +kernel
theorem dX12_init_817 : decode cX12_init 817 = .ok (.newarray .int, 2) := by decide +kernel
theorem dX12_init_819 : decode cX12_init 819 = .ok (.putfield 127, 3) := by decide +kernel
theorem dX12_init_822 : decode cX12_init 822 = .ok (.aload_n 0, 1) := by decide +kernel
theorem dX12_init_823 : decode cX12_init 823 = .ok (.sipush 800, 3) := by decide +kernel
theorem dX12_init_826 : decode cX12_init 826 = .ok (.newarray .int, 2) := by decide +kernel
theorem dX12_init_828 : decode cX12_init 828 = .ok (.putfield 130, 3) := by decide +kernel
theorem dX12_init_831 : decode cX12_init 831 = .ok (.aload_n 0, 1) := by decide +kernel
theorem dX12_init_832 : decode cX12_init 832 = .ok (.sipush 800, 3) := by decide +kernel
theorem dX12_init_835 : decode cX12_init 835 = .ok (.newarray .int, 2) := by decide +kernel
theorem dX12_init_837 : decode cX12_init 837 = .ok (.putfield 133, 3) := by decide +kernel
theorem dX12_init_840 : decode cX12_init 840 = .ok (.aload_n 0, 1) := by decide +kernel
theorem dX12_init_841 : decode cX12_init 841 = .ok (.sipush 800, 3) := by decide +kernel
theorem dX12_init_844 : decode cX12_init 844 = .ok (.newarray .int, 2) := by decide +kernel
theorem dX12_init_846 : decode cX12_init 846 = .ok (.putfield 136, 3) := by decide +kernel
theorem dX12_init_849 : decode cX12_init 849 = .ok (.aload_n 0, 1) := by decide +kernel
theorem dX12_init_850 : decode cX12_init 850 = .ok (.sipush 800, 3) := by decide +kernel
theorem dX12_init_853 : decode cX12_init 853 = .ok (.newarray .int, 2) := by decide +kernel
theorem dX12_init_855 : decode cX12_init 855 = .ok (.putfield 139, 3) := by decide +kernel
theorem dX12_init_858 : decode cX12_init 858 = .ok (.aload_n 0, 1) := by decide +kernel
theorem dX12_init_859 : decode cX12_init 859 = .ok (.sipush 800, 3) := by decide +kernel
theorem dX12_init_862 : decode cX12_init 862 = .ok (.newarray .int, 2) := by decide +kernel
theorem dX12_init_864 : decode cX12_init 864 = .ok (.putfield 142, 3) := by decide +kernel
theorem dX12_init_867 : decode cX12_init 867 = .ok (.aload_n 0, 1) := by decide +kernel
theorem dX12_init_868 : decode cX12_init 868 = .ok (.sipush 800, 3) := by decide +kernel
theorem dX12_init_871 : decode cX12_init 871 = .ok (.newarray .boolean, 2) := by decide +kernel
theorem dX12_init_873 : decode cX12_init 873 = .ok (.putfield 145, 3) := by decide +kernel
theorem dX12_init_876 : decode cX12_init 876 = .ok (.aload_n 0, 1) := by decide +kernel
theorem dX12_init_877 : decode cX12_init 877 = .ok (.sipush 800, 3) := by decide +kernel
theorem dX12_init_880 : decode cX12_init 880 = .ok (.newarray .boolean, 2) := by decide +kernel
theorem dX12_init_882 : decode cX12_init 882 = .ok (.putfield 148, 3) := by decide +kernel
theorem dX12_init_885 : decode cX12_init 885 = .ok (.aload_n 0, 1) := by decide +kernel
theorem dX12_init_886 : decode cX12_init 886 = .ok (.sipush 400, 3) := by decide +kernel
theorem dX12_init_889 : decode cX12_init 889 = .ok (.newarray .boolean, 2) := by decide +kernel
theorem dX12_init_891 : decode cX12_init 891 = .ok (.putfield 151, 3) := by decide +kernel
theorem dX12_init_894 : decode cX12_init 894 = .ok (.aload_n 0, 1) := by decide +kernel
theorem dX12_init_895 : decode cX12_init 895 = .ok (.sipush 400, 3) := by decide +kernel
theorem dX12_init_898 : decode cX12_init 898 = .ok (.newarray .boolean, 2) := by decide +kernel
theorem dX12_init_900 : decode cX12_init 900 = .ok (.putfield 154, 3) := by decide +kernel
theorem dX12_init_903 : decode cX12_init 903 = .ok (.aload_n 0, 1) := by decide +kernel
theorem dX12_init_904 : decode cX12_init 904 = .ok (.sipush 400, 3) := by decide +kernel
theorem dX12_init_907 : decode cX12_init 907 = .ok (.newarray .boolean, 2) := by decide +kernel
theorem dX12_init_909 : decode cX12_init 909 = .ok (.putfield 157, 3) := by decide +kernel
theorem dX12_init_912 : decode cX12_init 912 = .ok (.aload_n 0, 1) := by decide +kernel
theorem dX12_init_913 : decode cX12_init 913 = .ok (.sipush 400, 3) := by decide +kernel
theorem dX12_init_916 : decode cX12_init 916 = .ok (.newarray .boolean, 2) := by decide +kernel
theorem dX12_init_918 : decode cX12_init 918 = .ok (.putfield 160, 3) := by decide +kernel
theorem dX12_init_921 : decode cX12_init 921 = .ok (.aload_n 0, 1) := by decide +kernel
theorem dX12_init_922 : decode cX12_init 922 = .ok (.sipush 400, 3) := by decide +kernel
theorem dX12_init_925 : decode cX12_init 925 = .ok (.newarray .long, 2) := by decide +kernel
theorem dX12_init_927 : decode cX12_init 927 = .ok (.putfield 163, 3) := by decide +kernel
theorem dX12_init_930 : decode cX12_init 930 = .ok (.aload_n 0, 1) := by decide +kernel
theorem dX12_init_931 : decode cX12_init 931 = .ok (.sipush 400, 3) := by decide +kernel
theorem dX12_init_934 : decode cX12_init 934 = .ok (.newarray .long, 2) := by decide +kernel
theorem dX12_init_936 : decode cX12_init 936 = .ok (.putfield 166, 3) := by decide +kernel
theorem dX12_init_939 : decode cX12_init 939 = .ok (.aload_n 0, 1) := by decide +kernel
theorem dX12_init_940 : decode cX12_init 940 = .ok (.sipush 400, 3) := by decide +kernel
theorem dX12_init_943 : decode cX12_init 943 = .ok (.newarray .long, 2) := by decide +kernel
theorem dX12_init_945 : decode cX12_init 945 = .ok (.putfield 169, 3) := by decide +kernel
theorem dX12_init_948 : decode cX12_init 948 = .ok (.aload_n 0, 1) := by decide +kernel
theorem dX12_init_949 : decode cX12_init 949 = .ok (.sipush 2001, 3) := by decide +kernel
theorem dX12_init_952 : decode cX12_init 952 = .ok (.newarray .int, 2) := by decide +kernel
theorem dX12_init_954 : decode cX12_init 954 = .ok (.putfield 172, 3) := by decide +kernel
theorem dX12_init_957 : decode cX12_init 957 = .ok (.aload_n 0, 1) := by decide +kernel
theorem dX12_init_958 : decode cX12_init 958 = .ok (.sipush 2001, 3) := by decide +kernel
theorem dX12_init_961 : decode cX12_init 961 = .ok (.newarray .long, 2) := by decide +kernel
theorem dX12_init_963 : decode cX12_init 963 = .ok (.putfield 175, 3) := by decide +kernel
theorem dX12_init_966 : decode cX12_init 966 = .ok (.aload_n 0, 1) := by decide +kernel
theorem dX12_init_967 : decode cX12_init 967 = .ok (.sipush 2001, 3) := by decide +kernel
theorem dX12_init_970 : decode cX12_init 970 = .ok (.newarray .int, 2) := by decide +kernel
theorem dX12_init_972 : decode cX12_init 972 = .ok (.putfield 178, 3) := by decide +kernel
theorem dX12_init_975 : decode cX12_init 975 = .ok (.aload_n 0, 1) := by decide +kernel
theorem dX12_init_976 : decode cX12_init 976 = .ok (.sipush 2001, 3) := by decide +kernel
theorem dX12_init_979 : decode cX12_init 979 = .ok (.newarray .int, 2) := by decide +kernel
theorem dX12_init_981 : decode cX12_init 981 = .ok (.putfield 181, 3) := by decide +kernel
theorem dX12_init_984 : decode cX12_init 984 = .ok (.aload_n 0, 1) := by decide +kernel
theorem dX12_init_985 : decode cX12_init 985 = .ok (.bipush 24, 2) := by decide +kernel
theorem dX12_init_987 : decode cX12_init 987 = .ok (.newarray .int, 2) := by decide +kernel
theorem dX12_init_989 : decode cX12_init 989 = .ok (.putfield 184, 3) := by decide +kernel
theorem dX12_init_992 : decode cX12_init 992 = .ok (.aload_n 0, 1) := by decide +kernel
theorem dX12_init_993 : decode cX12_init 993 = .ok (.sipush 400, 3) := by decide +kernel
theorem dX12_init_996 : decode cX12_init 996 = .ok (.newarray .int, 2) := by decide +kernel
theorem dX12_init_998 : decode cX12_init 998 = .ok (.putfield 187, 3) := by decide +kernel
theorem dX12_init_1001 : decode cX12_init 1001 = .ok (.aload_n 0, 1) := by decide +kernel
theorem dX12_init_1002 : decode cX12_init 1002 = .ok (.sipush 400, 3) := by decide +kernel
theorem dX12_init_1005 : decode cX12_init 1005 = .ok (.newarray .long, 2) := by decide +kernel
theorem dX12_init_1007 : decode cX12_init 1007 = .ok (.putfield 190, 3) := by decide +kernel
theorem dX12_init_1010 : decode cX12_init 1010 = .ok (.aload_n 0, 1) := by decide +kernel
theorem dX12_init_1011 : decode cX12_init 1011 = .ok (.sipush 400, 3) := by decide +kernel
theorem dX12_init_1014 : decode cX12_init 1014 = .ok (.newarray .long, 2) := by decide +kernel
theorem dX12_init_1016 : decode cX12_init 1016 = .ok (.putfield 193, 3) := by decide +kernel
theorem dX12_init_1019 : decode cX12_init 1019 = .ok (.aload_n 0, 1) := by decide +kernel
theorem dX12_init_1020 : decode cX12_init 1020 = .ok (.sipush 1200, 3) := by decide +kernel
theorem dX12_init_1023 : decode cX12_init 1023 = .ok (.newarray .int, 2) := by decide +kernel
theorem dX12_init_1025 : decode cX12_init 1025 = .ok (.putfield 196, 3) := by decide +kernel
theorem dX12_init_1028 : decode cX12_init 1028 = .ok (.aload_n 0, 1) := by decide +kernel
theorem dX12_init_1029 : decode cX12_init 1029 = .ok (.sipush 1200, 3) := by decide +kernel
theorem dX12_init_1032 : decode cX12_init 1032 = .ok (.newarray .long, 2) := by decide +kernel
theorem dX12_init_1034 : decode cX12_init 1034 = .ok (.putfield 199, 3) := by decide +kernel
theorem dX12_init_1037 : decode cX12_init 1037 = .ok (.aload_n 0, 1) := by decide +kernel
theorem dX12_init_1038 : decode cX12_init 1038 = .ok (.sipush 1200, 3) := by decide +kernel
theorem dX12_init_1041 : decode cX12_init 1041 = .ok (.newarray .int, 2) := by decide +kernel
theorem dX12_init_1043 : decode cX12_init 1043 = .ok (.putfield 202, 3) := by decide +kernel
theorem dX12_init_1046 : decode cX12_init 1046 = .ok (.aload_n 0, 1) := by decide +kernel
theorem dX12_init_1047 : decode cX12_init 1047 = .ok (.sipush 1200, 3) := by decide +kernel
theorem dX12_init_1050 : decode cX12_init 1050 = .ok (.newarray .int, 2) := by decide +kernel
theorem dX12_init_1052 : decode cX12_init 1052 = .ok (.putfield 205, 3) := by decide +kernel
theorem dX12_init_1055 : decode cX12_init 1055 = .ok (.aload_n 0, 1) := by decide +kernel
theorem dX12_init_1056 : decode cX12_init 1056 = .ok (.sipush 1200, 3) := by decide +kernel
theorem dX12_init_1059 : decode cX12_init 1059 = .ok (.newarray .boolean, 2) := by decide +kernel
theorem dX12_init_1061 : decode cX12_init 1061 = .ok (.putfield 208, 3) := by decide +kernel
theorem dX12_init_1064 : decode cX12_init 1064 = .ok (.aload_n 0, 1) := by decide +kernel
theorem dX12_init_1065 : decode cX12_init 1065 = .ok (.bipush 80, 2) := by decide +kernel
theorem dX12_init_1067 : decode cX12_init 1067 = .ok (.newarray .int, 2) := by decide +kernel
theorem dX12_init_1069 : decode cX12_init 1069 = .ok (.putfield 211, 3) := by decide +kernel
theorem dX12_init_1072 : decode cX12_init 1072 = .ok (.aload_n 0, 1) := by decide +kernel
theorem dX12_init_1073 : decode cX12_init 1073 = .ok (.bipush 80, 2) := by decide +kernel
theorem dX12_init_1075 : decode cX12_init 1075 = .ok (.newarray .int, 2) := by decide +kernel
theorem dX12_init_1077 : decode cX12_init 1077 = .ok (.putfield 214, 3) := by decide +kernel
theorem dX12_init_1080 : decode cX12_init 1080 = .ok (.aload_n 0, 1) := by decide +kernel
theorem dX12_init_1081 : decode cX12_init 1081 = .ok (.bipush 20, 2) := by decide +kernel
theorem dX12_init_1083 : decode cX12_init 1083 = .ok (.newarray .int, 2) := by decide +kernel
theorem dX12_init_1085 : decode cX12_init 1085 = .ok (.putfield 217, 3) := by decide +kernel
theorem dX12_init_1088 : decode cX12_init 1088 = .ok (.aload_n 0, 1) := by decide +kernel
theorem dX12_init_1089 : decode cX12_init 1089 = .ok (.bipush 24, 2) := by decide +kernel
theorem dX12_init_1091 : decode cX12_init 1091 = .ok (.newarray .int, 2) := by decide +kernel
theorem dX12_init_1093 : decode cX12_init 1093 = .ok (.putfield 220, 3) := by decide +kernel
theorem dX12_init_1096 : decode cX12_init 1096 = .ok (.aload_n 0, 1) := by decide +kernel
theorem dX12_init_1097 : decode cX12_init 1097 = .ok (.bipush 24, 2) := by decide +kernel
theorem dX12_init_1099 : decode cX12_init 1099 = .ok (.newarray .int, 2) := by decide +kernel
theorem dX12_init_1101 : decode cX12_init 1101 = .ok (.putfield 223, 3) := by decide +kernel
theorem dX12_init_1104 : decode cX12_init 1104 = .ok (.aload_n 0, 1) := by decide +kernel
theorem dX12_init_1105 : decode cX12_init 1105 = .ok (.bipush 24, 2) := by decide +kernel
theorem dX12_init_1107 : decode cX12_init 1107 = .ok (.newarray .int, 2) := by decide +kernel
theorem dX12_init_1109 : decode cX12_init 1109 = .ok (.putfield 226, 3) := by decide +kernel
theorem dX12_init_1112 : decode cX12_init 1112 = .ok (.aload_n 0, 1) := by decide +kernel
theorem dX12_init_1113 : decode cX12_init 1113 = .ok (.iconst (-1), 1) := by decide +kernel
theorem dX12_init_1114 : decode cX12_init 1114 = .ok (.putfield 229, 3) := by decide +kernel
theorem dX12_init_1117 : decode cX12_init 1117 = .ok (.return_, 1) := by decide +kernel
theorem dX12_feed_0 : decode cX12_feed 0 = .ok (.aload_n 0, 1) := by decide +kernel
theorem dX12_feed_1 : decode cX12_feed 1 = .ok (.getfield 232, 3) := by decide +kernel
theorem dX12_feed_4 : decode cX12_feed 4 = .ok (.bipush 20, 2) := by decide +kernel
theorem dX12_feed_6 : decode cX12_feed 6 = .ok (.iadd, 1) := by decide +kernel
theorem dX12_feed_7 : decode cX12_feed 7 = .ok (.sipush 8000, 3) := by decide +kernel
theorem dX12_feed_10 : decode cX12_feed 10 = .ok (.if_icmp .le 5, 3) := by decide +kernel
theorem dX12_feed_13 : decode cX12_feed 13 = .ok (.iconst (-1), 1) := by decide +kernel
theorem dX12_feed_14 : decode cX12_feed 14 = .ok (.ireturn, 1) := by decide +kernel
theorem dX12_feed_15 : decode cX12_feed 15 = .ok (.iconst 0, 1) := by decide +kernel
theorem dX12_feed_16 : decode cX12_feed 16 = .ok (.istore 6, 2) := by decide +kernel
theorem dX12_feed_18 : decode cX12_feed 18 = .ok (.iload 6, 2) := by decide +kernel
theorem dX12_feed_20 : decode cX12_feed 20 = .ok (.bipush 20, 2) := by decide +kernel
theorem dX12_feed_22 : decode cX12_feed 22 = .ok (.if_icmp .ge 93, 3) := by decide +kernel
theorem dX12_feed_25 : decode cX12_feed 25 = .ok (.iload 6, 2) := by decide +kernel
theorem dX12_feed_27 : decode cX12_feed 27 = .ok (.iconst 4, 1) := by decide +kernel
theorem dX12_feed_28 : decode cX12_feed 28 = .ok (.if_icmp .ge 7, 3) := by decide +kernel
theorem dX12_feed_31 : decode cX12_feed 31 = .ok (.iload_n 1, 1) := by decide +kernel
theorem dX12_feed_32 : decode cX12_feed 32 = .ok (.goto 39, 3) := by decide +kernel
theorem dX12_feed_35 : decode cX12_feed 35 = .ok (.iload 6, 2) := by decide +kernel
theorem dX12_feed_37 : decode cX12_feed 37 = .ok (.bipush 8, 2) := by decide +kernel
theorem dX12_feed_39 : decode cX12_feed 39 = .ok (.if_icmp .ge 7, 3) := by decide +kernel
theorem dX12_feed_42 : decode cX12_feed 42 = .ok (.iload_n 2, 1) := by decide +kernel
theorem dX12_feed_43 : decode cX12_feed 43 = .ok (.goto 28, 3) := by decide +kernel
theorem dX12_feed_46 : decode cX12_feed 46 = .ok (.iload 6, 2) := by decide +kernel
theorem dX12_feed_48 : decode cX12_feed 48 = .ok (.bipush 12, 2) := by decide +kernel
theorem dX12_feed_50 : decode cX12_feed 50 = .ok (.if_icmp .ge 7, 3) := by decide +kernel
theorem dX12_feed_53 : decode cX12_feed 53 = .ok (.iload_n 3, 1) := by decide +kernel
theorem dX12_feed_54 : decode cX12_feed 54 = .ok (.goto 17, 3) := by decide +kernel
theorem dX12_feed_57 : decode cX12_feed 57 = .ok (.iload 6, 2) := by decide +kernel
theorem dX12_feed_59 : decode cX12_feed 59 = .ok (.bipush 16, 2) := by decide +kernel
theorem dX12_feed_61 : decode cX12_feed 61 = .ok (.if_icmp .ge 8, 3) := by decide +kernel
theorem dX12_feed_64 : decode cX12_feed 64 = .ok (.iload 4, 2) := by decide +kernel
theorem dX12_feed_66 : decode cX12_feed 66 = .ok (.goto 5, 3) := by decide +kernel
theorem dX12_feed_69 : decode cX12_feed 69 = .ok (.iload 5, 2) := by decide +kernel
theorem dX12_feed_71 : decode cX12_feed 71 = .ok (.istore 7, 2) := by decide +kernel
theorem dX12_feed_73 : decode cX12_feed 73 = .ok (.aload_n 0, 1) := by decide +kernel
theorem dX12_feed_74 : decode cX12_feed 74 = .ok (.getfield 9, 3) := by decide +kernel
theorem dX12_feed_77 : decode cX12_feed 77 = .ok (.aload_n 0, 1) := by decide +kernel
theorem dX12_feed_78 : decode cX12_feed 78 = .ok (.getfield 232, 3) := by decide +kernel
theorem dX12_feed_81 : decode cX12_feed 81 = .ok (.iload 7, 2) := by decide +kernel
theorem dX12_feed_83 : decode cX12_feed 83 = .ok (.bipush 24, 2) := by decide +kernel
theorem dX12_feed_85 : decode cX12_feed 85 = .ok (.bipush 8, 2) := by decide +kernel
theorem dX12_feed_87 : decode cX12_feed 87 = .ok (.iload 6, 2) := by decide +kernel
theorem dX12_feed_89 : decode cX12_feed 89 = .ok (.iconst 4, 1) := by decide +kernel
theorem dX12_feed_90 : decode cX12_feed 90 = .ok (.irem, 1) := by decide +kernel
theorem dX12_feed_91 : decode cX12_feed 91 = .ok (.imul, 1) := by decide +kernel
theorem dX12_feed_92 : decode cX12_feed 92 = .ok (.isub, 1) := by decide +kernel
theorem dX12_feed_93 : decode cX12_feed 93 = .ok (.ishr, 1) := by decide +kernel
theorem dX12_feed_94 : decode cX12_feed 94 = .ok (.sipush 255, 3) := by decide +kernel
theorem dX12_feed_97 : decode cX12_feed 97 = .ok (.iand, 1) := by decide +kernel
theorem dX12_feed_98 : decode cX12_feed 98 = .ok (.iastore, 1) := by decide +kernel
theorem dX12_feed_99 : decode cX12_feed 99 = .ok (.aload_n 0, 1) := by decide +kernel
theorem dX12_feed_100 : decode cX12_feed 100 = .ok (.dup, 1) := by decide +kernel
theorem dX12_feed_101 : decode cX12_feed 101 = .ok (.getfield 232, 3) := by decide +kernel
theorem dX12_feed_104 : decode cX12_feed 104 = .ok (.iconst 1, 1) := by decide +kernel
theorem dX12_feed_105 : decode cX12_feed 105 = .ok (.iadd, 1) := by decide +kernel
theorem dX12_feed_106 : decode cX12_feed 106 = .ok (.putfield 232, 3) := by decide +kernel
theorem dX12_feed_109 : decode cX12_feed 109 = .ok (.iinc 6 1, 3) := by decide +kernel
theorem dX12_feed_112 : decode cX12_feed 112 = .ok (.goto (-94), 3) := by decide +kernel
theorem dX12_feed_115 : decode cX12_feed 115 = .ok (.aload_n 0, 1) := by decide +kernel
theorem dX12_feed_116 : decode cX12_feed 116 = .ok (.getfield 232, 3) := by decide +kernel
theorem dX12_feed_119 : decode cX12_feed 119 = .ok (.ireturn, 1) := by decide +kernel
theorem dX12_end_0 : decode cX12_end 0 = .ok (.iload_n 1, 1) := by decide +kernel
theorem dX12_end_1 : decode cX12_end 1 = .ok (.ifCond .lt 11, 3) := by decide +kernel
theorem dX12_end_4 : decode cX12_end 4 = .ok (.iload_n 1, 1) := by decide +kernel
theorem dX12_end_5 : decode cX12_end 5 = .ok (.aload_n 0, 1) := by decide +kernel
theorem dX12_end_6 : decode cX12_end 6 = .ok (.getfield 232, 3) := by decide +kernel
theorem dX12_end_9 : decode cX12_end 9 = .ok (.if_icmp .le 5, 3) := by decide +kernel
theorem dX12_end_12 : decode cX12_end 12 = .ok (.iconst 0, 1) := by decide +kernel
theorem dX12_end_13 : decode cX12_end 13 = .ok (.ireturn, 1) := by decide +kernel
theorem dX12_end_14 : decode cX12_end 14 = .ok (.aload_n 0, 1) := by decide +kernel
theorem dX12_end_15 : decode cX12_end 15 = .ok (.iload_n 1, 1) := by decide +kernel
theorem dX12_end_16 : decode cX12_end 16 = .ok (.putfield 232, 3) := by decide +kernel
theorem dX12_end_19 : decode cX12_end 19 = .ok (.iconst 1, 1) := by decide +kernel
theorem dX12_end_20 : decode cX12_end 20 = .ok (.ireturn, 1) := by decide +kernel
theorem dX12_poke_0 : decode cX12_poke 0 = .ok (.iload_n 1, 1) := by decide +kernel
theorem dX12_poke_1 : decode cX12_poke 1 = .ok (.ifCond .lt 11, 3) := by decide +kernel
theorem dX12_poke_4 : decode cX12_poke 4 = .ok (.iload_n 1, 1) := by decide +kernel
theorem dX12_poke_5 : decode cX12_poke 5 = .ok (.aload_n 0, 1) := by decide +kernel
theorem dX12_poke_6 : decode cX12_poke 6 = .ok (.getfield 232, 3) := by decide +kernel
theorem dX12_poke_9 : decode cX12_poke 9 = .ok (.if_icmp .lt 5, 3) := by decide +kernel
theorem dX12_poke_12 : decode cX12_poke 12 = .ok (.iconst 0, 1) := by decide +kernel
theorem dX12_poke_13 : decode cX12_poke 13 = .ok (.ireturn, 1) := by decide +kernel
theorem dX12_poke_14 : decode cX12_poke 14 = .ok (.aload_n 0, 1) := by decide +kernel
theorem dX12_poke_15 : decode cX12_poke 15 = .ok (.getfield 9, 3) := by decide +kernel
theorem dX12_poke_18 : decode cX12_poke 18 = .ok (.iload_n 1, 1) := by decide +kernel
theorem dX12_poke_19 : decode cX12_poke 19 = .ok (.iload_n 2, 1) := by decide +kernel
theorem dX12_poke_20 : decode cX12_poke 20 = .ok (.sipush 255, 3) := by decide +kernel
theorem dX12_poke_23 : decode cX12_poke 23 = .ok (.iand, 1) := by decide +kernel
theorem dX12_poke_24 : decode cX12_poke 24 = .ok (.iastore, 1) := by decide +kernel
theorem dX12_poke_25 : decode cX12_poke 25 = .ok (.iconst 1, 1) := by decide +kernel
theorem dX12_poke_26 : decode cX12_poke 26 = .ok (.ireturn, 1) := by decide +kernel
theorem dX12_fail_0 : decode cX12_fail 0 = .ok (.aload_n 0, 1) := by decide +kernel
theorem dX12_fail_1 : decode cX12_fail 1 = .ok (.getfield 235, 3) := by decide +kernel
theorem dX12_fail_4 : decode cX12_fail 4 = .ok (.ifCond .eq 4, 3) := by decide +kernel
theorem dX12_fail_7 : decode cX12_fail 7 = .ok (.return_, 1) := by decide +kernel
theorem dX12_fail_8 : decode cX12_fail 8 = .ok (.aload_n 0, 1) := by decide +kernel
theorem dX12_fail_9 : decode cX12_fail 9 = .ok (.iload_n 1, 1) := by decide +kernel
theorem dX12_fail_10 : decode cX12_fail 10 = .ok (.putfield 235, 3) := by decide +kernel
theorem dX12_fail_13 : decode cX12_fail 13 = .ok (.aload_n 0, 1) := by decide +kernel
theorem dX12_fail_14 : decode cX12_fail 14 = .ok (.iload_n 2, 1) := by decide +kernel
theorem dX12_fail_15 : decode cX12_fail 15 = .ok (.putfield 238, 3) := by decide +kernel
theorem dX12_fail_18 : decode cX12_fail 18 = .ok (.return_, 1) := by decide +kernel
theorem dX12_isRight_0 : decode cX12_isRight 0 = .ok (.aload_n 0, 1) := by decide +kernel
theorem dX12_isRight_1 : decode cX12_isRight 1 = .ok (.getfield 235, 3) := by decide +kernel
theorem dX12_isRight_4 : decode cX12_isRight 4 = .ok (.ifCond .ne 7, 3) := by decide +kernel
theorem dX12_isRight_7 : decode cX12_isRight 7 = .ok (.iconst 1, 1) := by decide +kernel
theorem dX12_isRight_8 : decode cX12_isRight 8 = .ok (.goto 4, 3) := by decide +kernel
theorem dX12_isRight_11 : decode cX12_isRight 11 = .ok (.iconst 0, 1) := by decide +kernel
theorem dX12_isRight_12 : decode cX12_isRight 12 = .ok (.ireturn, 1) := by decide +kernel
theorem dX12_byteOf_0 : decode cX12_byteOf 0 = .ok (.aload_n 0, 1) := by decide +kernel
theorem dX12_byteOf_1 : decode cX12_byteOf 1 = .ok (.getfield 20, 3) := by decide +kernel
theorem dX12_byteOf_4 : decode cX12_byteOf 4 = .ok (.sipush 8000, 3) := by decide +kernel
theorem dX12_byteOf_7 : decode cX12_byteOf 7 = .ok (.aload_n 0, 1) := by decide +kernel
theorem dX12_byteOf_8 : decode cX12_byteOf 8 = .ok (.getfield 17, 3) := by decide +kernel
theorem dX12_byteOf_11 : decode cX12_byteOf 11 = .ok (.imul, 1) := by decide +kernel
theorem dX12_byteOf_12 : decode cX12_byteOf 12 = .ok (.iload_n 1, 1) := by decide +kernel
theorem dX12_byteOf_13 : decode cX12_byteOf 13 = .ok (.iadd, 1) := by decide +kernel
theorem dX12_byteOf_14 : decode cX12_byteOf 14 = .ok (.iaload, 1) := by decide +kernel
theorem dX12_byteOf_15 : decode cX12_byteOf 15 = .ok (.ireturn, 1) := by decide +kernel
theorem dX12_numberAt_0 : decode cX12_numberAt 0 = .ok (.lconst 0, 1) := by decide +kernel
theorem dX12_numberAt_1 : decode cX12_numberAt 1 = .ok (.lstore_n 3, 1) := by decide +kernel
theorem dX12_numberAt_2 : decode cX12_numberAt 2 = .ok (.iload_n 2, 1) := by decide +kernel
theorem dX12_numberAt_3 : decode cX12_numberAt 3 = .ok (.iconst 1, 1) := by decide +kernel
theorem dX12_numberAt_4 : decode cX12_numberAt 4 = .ok (.isub, 1) := by decide +kernel
theorem dX12_numberAt_5 : decode cX12_numberAt 5 = .ok (.istore 5, 2) := by decide +kernel
theorem dX12_numberAt_7 : decode cX12_numberAt 7 = .ok (.iload 5, 2) := by decide +kernel
theorem dX12_numberAt_9 : decode cX12_numberAt 9 = .ok (.ifCond .lt 24, 3) := by decide +kernel
theorem dX12_numberAt_12 : decode cX12_numberAt 12 = .ok (.lload_n 3, 1) := by decide +kernel
theorem dX12_numberAt_13 : decode cX12_numberAt 13 = .ok (.bipush 8, 2) := by decide +kernel
theorem dX12_numberAt_15 : decode cX12_numberAt 15 = .ok (.lshl, 1) := by decide +kernel
theorem dX12_numberAt_16 : decode cX12_numberAt 16 = .ok (.aload_n 0, 1) := by decide +kernel
theorem dX12_numberAt_17 : decode cX12_numberAt 17 = .ok (.iload_n 1, 1) := by decide +kernel
theorem dX12_numberAt_18 : decode cX12_numberAt 18 = .ok (.iload 5, 2) := by decide +kernel
theorem dX12_numberAt_20 : decode cX12_numberAt 20 = .ok (.iadd, 1) := by decide +kernel
theorem dX12_numberAt_21 : decode cX12_numberAt 21 = .ok (.invokevirtual 241, 3) := by decide +kernel
theorem dX12_numberAt_24 : decode cX12_numberAt 24 = .ok (.i2l, 1) := by decide +kernel
theorem dX12_numberAt_25 : decode cX12_numberAt 25 = .ok (.lor, 1) := by decide +kernel
theorem dX12_numberAt_26 : decode cX12_numberAt 26 = .ok (.lstore_n 3, 1) := by decide +kernel
theorem dX12_numberAt_27 : decode cX12_numberAt 27 = .ok (.iinc 5 (-1), 3) := by decide +kernel
theorem dX12_numberAt_30 : decode cX12_numberAt 30 = .ok (.goto (-23), 3) := by decide +kernel
theorem dX12_numberAt_33 : decode cX12_numberAt 33 = .ok (.lload_n 3, 1) := by decide +kernel
theorem dX12_numberAt_34 : decode cX12_numberAt 34 = .ok (.lreturn, 1) := by decide +kernel
theorem dX12_number_0 : decode cX12_number 0 = .ok (.aload_n 0, 1) := by decide +kernel
theorem dX12_number_1 : decode cX12_number 1 = .ok (.invokevirtual 245, 3) := by decide +kernel
theorem dX12_number_4 : decode cX12_number 4 = .ok (.ifCond .ne 5, 3) := by decide +kernel
theorem dX12_number_7 : decode cX12_number 7 = .ok (.lconst 0, 1) := by decide +kernel
theorem dX12_number_8 : decode cX12_number 8 = .ok (.lreturn, 1) := by decide +kernel
theorem dX12_number_9 : decode cX12_number 9 = .ok (.aload_n 0, 1) := by decide +kernel
theorem dX12_number_10 : decode cX12_number 10 = .ok (.getfield 249, 3) := by decide +kernel
theorem dX12_number_13 : decode cX12_number 13 = .ok (.iload_n 1, 1) := by decide +kernel
theorem dX12_number_14 : decode cX12_number 14 = .ok (.iadd, 1) := by decide +kernel
theorem dX12_number_15 : decode cX12_number 15 = .ok (.aload_n 0, 1) := by decide +kernel
theorem dX12_number_16 : decode cX12_number 16 = .ok (.getfield 252, 3) := by decide +kernel
theorem dX12_number_19 : decode cX12_number 19 = .ok (.if_icmp .le 14, 3) := by decide +kernel
theorem dX12_number_22 : decode cX12_number 22 = .ok (.aload_n 0, 1) := by decide +kernel
theorem dX12_number_23 : decode cX12_number 23 = .ok (.iconst 1, 1) := by decide +kernel
theorem dX12_number_24 : decode cX12_number 24 = .ok (.aload_n 0, 1) := by decide +kernel
theorem dX12_number_25 : decode cX12_number 25 = .ok (.getfield 249, 3) := by decide +kernel
theorem dX12_number_28 : decode cX12_number 28 = .ok (.invokevirtual 255, 3) := by decide +kernel
theorem dX12_number_31 : decode cX12_number 31 = .ok (.lconst 0, 1) := by decide +kernel
theorem dX12_number_32 : decode cX12_number 32 = .ok (.lreturn, 1) := by decide +kernel
theorem dX12_number_33 : decode cX12_number 33 = .ok (.aload_n 0, 1) := by decide +kernel
theorem dX12_number_34 : decode cX12_number 34 = .ok (.aload_n 0, 1) := by decide +kernel
theorem dX12_number_35 : decode cX12_number 35 = .ok (.getfield 249, 3) := by decide +kernel
theorem dX12_number_38 : decode cX12_number 38 = .ok (.iload_n 1, 1) := by decide +kernel
theorem dX12_number_39 : decode cX12_number 39 = .ok (.invokevirtual 259, 3) := by decide +kernel
theorem dX12_number_42 : decode cX12_number 42 = .ok (.lstore_n 2, 1) := by decide +kernel
theorem dX12_number_43 : decode cX12_number 43 = .ok (.aload_n 0, 1) := by decide +kernel
theorem dX12_number_44 : decode cX12_number 44 = .ok (.dup, 1) := by decide +kernel
theorem dX12_number_45 : decode cX12_number 45 = .ok (.getfield 249, 3) := by decide +kernel
theorem dX12_number_48 : decode cX12_number 48 = .ok (.iload_n 1, 1) := by decide +kernel
theorem dX12_number_49 : decode cX12_number 49 = .ok (.iadd, 1) := by decide +kernel
theorem dX12_number_50 : decode cX12_number 50 = .ok (.putfield 249, 3) := by decide +kernel
theorem dX12_number_53 : decode cX12_number 53 = .ok (.lload_n 2, 1) := by decide +kernel
theorem dX12_number_54 : decode cX12_number 54 = .ok (.lreturn, 1) := by decide +kernel
theorem dX12_leb_0 : decode cX12_leb 0 = .ok (.aload_n 0, 1) := by decide +kernel
theorem dX12_leb_1 : decode cX12_leb 1 = .ok (.invokevirtual 245, 3) := by decide +kernel
theorem dX12_leb_4 : decode cX12_leb 4 = .ok (.ifCond .ne 5, 3) := by decide +kernel
theorem dX12_leb_7 : decode cX12_leb 7 = .ok (.lconst 0, 1) := by decide +kernel
theorem dX12_leb_8 : decode cX12_leb 8 = .ok (.lreturn, 1) := by decide +kernel
theorem dX12_leb_9 : decode cX12_leb 9 = .ok (.aload_n 0, 1) := by decide +kernel
theorem dX12_leb_10 : decode cX12_leb 10 = .ok (.getfield 249, 3) := by decide +kernel
theorem dX12_leb_13 : decode cX12_leb 13 = .ok (.istore_n 2, 1) := by decide +kernel
theorem dX12_leb_14 : decode cX12_leb 14 = .ok (.lconst 0, 1) := by decide +kernel
theorem dX12_leb_15 : decode cX12_leb 15 = .ok (.lstore_n 3, 1) := by decide +kernel
theorem dX12_leb_16 : decode cX12_leb 16 = .ok (.iconst 0, 1) := by decide +kernel
theorem dX12_leb_17 : decode cX12_leb 17 = .ok (.istore 5, 2) := by decide +kernel
theorem dX12_leb_19 : decode cX12_leb 19 = .ok (.iconst 1, 1) := by decide +kernel
theorem dX12_leb_20 : decode cX12_leb 20 = .ok (.istore 6, 2) := by decide +kernel
theorem dX12_leb_22 : decode cX12_leb 22 = .ok (.iconst 0, 1) := by decide +kernel
theorem dX12_leb_23 : decode cX12_leb 23 = .ok (.istore 7, 2) := by decide +kernel
theorem dX12_leb_25 : decode cX12_leb 25 = .ok (.iload 6, 2) := by decide +kernel
theorem dX12_leb_27 : decode cX12_leb 27 = .ok (.ifCond .eq 100, 3) := by decide +kernel
theorem dX12_leb_30 : decode cX12_leb 30 = .ok (.aload_n 0, 1) := by decide +kernel
theorem dX12_leb_31 : decode cX12_leb 31 = .ok (.getfield 249, 3) := by decide +kernel
theorem dX12_leb_34 : decode cX12_leb 34 = .ok (.aload_n 0, 1) := by decide +kernel
theorem dX12_leb_35 : decode cX12_leb 35 = .ok (.getfield 252, 3) := by decide +kernel
theorem dX12_leb_38 : decode cX12_leb 38 = .ok (.if_icmp .ge 10, 3) := by decide +kernel
theorem dX12_leb_41 : decode cX12_leb 41 = .ok (.iload 5, 2) := by decide +kernel
theorem dX12_leb_43 : decode cX12_leb 43 = .ok (.bipush 10, 2) := by decide +kernel
theorem dX12_leb_45 : decode cX12_leb 45 = .ok (.if_icmp .ne 16, 3) := by decide +kernel
theorem dX12_leb_48 : decode cX12_leb 48 = .ok (.aload_n 0, 1) := by decide +kernel
theorem dX12_leb_49 : decode cX12_leb 49 = .ok (.iload_n 2, 1) := by decide +kernel
theorem dX12_leb_50 : decode cX12_leb 50 = .ok (.putfield 249, 3) := by decide +kernel
theorem dX12_leb_53 : decode cX12_leb 53 = .ok (.aload_n 0, 1) := by decide +kernel
theorem dX12_leb_54 : decode cX12_leb 54 = .ok (.iconst 1, 1) := by decide +kernel
theorem dX12_leb_55 : decode cX12_leb 55 = .ok (.iload_n 2, 1) := by decide +kernel
theorem dX12_leb_56 : decode cX12_leb 56 = .ok (.invokevirtual 255, 3) := by decide +kernel
theorem dX12_leb_59 : decode cX12_leb 59 = .ok (.lconst 0, 1) := by decide +kernel
theorem dX12_leb_60 : decode cX12_leb 60 = .ok (.lreturn, 1) := by decide +kernel
theorem dX12_leb_61 : decode cX12_leb 61 = .ok (.aload_n 0, 1) := by decide +kernel
theorem dX12_leb_62 : decode cX12_leb 62 = .ok (.aload_n 0, 1) := by decide +kernel
theorem dX12_leb_63 : decode cX12_leb 63 = .ok (.getfield 249, 3) := by decide +kernel
theorem dX12_leb_66 : decode cX12_leb 66 = .ok (.invokevirtual 241, 3) := by decide +kernel
theorem dX12_leb_69 : decode cX12_leb 69 = .ok (.istore 7, 2) := by decide +kernel
theorem dX12_leb_71 : decode cX12_leb 71 = .ok (.aload_n 0, 1) := by decide +kernel
theorem dX12_leb_72 : decode cX12_leb 72 = .ok (.dup, 1) := by decide +kernel
theorem dX12_leb_73 : decode cX12_leb 73 = .ok (.getfield 249, 3) := by decide +kernel
theorem dX12_leb_76 : decode cX12_leb 76 = .ok (.iconst 1, 1) := by decide +kernel
theorem dX12_leb_77 : decode cX12_leb 77 = .ok (.iadd, 1) := by decide +kernel
theorem dX12_leb_78 : decode cX12_leb 78 = .ok (.putfield 249, 3) := by decide +kernel
theorem dX12_leb_81 : decode cX12_leb 81 = .ok (.bipush 7, 2) := by decide +kernel
theorem dX12_leb_83 : decode cX12_leb 83 = .ok (.iload 5, 2) := by decide +kernel
theorem dX12_leb_85 : decode cX12_leb 85 = .ok (.imul, 1) := by decide +kernel
theorem dX12_leb_86 : decode cX12_leb 86 = .ok (.bipush 64, 2) := by decide +kernel
theorem dX12_leb_88 : decode cX12_leb 88 = .ok (.if_icmp .ge 18, 3) := by decide +kernel
theorem dX12_leb_91 : decode cX12_leb 91 = .ok (.lload_n 3, 1) := by decide +kernel
theorem dX12_leb_92 : decode cX12_leb 92 = .ok (.iload 7, 2) := by decide +kernel
theorem dX12_leb_94 : decode cX12_leb 94 = .ok (.bipush 127, 2) := by decide +kernel
theorem dX12_leb_96 : decode cX12_leb 96 = .ok (.iand, 1) := by decide +kernel
theorem dX12_leb_97 : decode cX12_leb 97 = .ok (.i2l, 1) := by decide +kernel
theorem dX12_leb_98 : decode cX12_leb 98 = .ok (.bipush 7, 2) := by decide +kernel
theorem dX12_leb_100 : decode cX12_leb 100 = .ok (.iload 5, 2) := by decide +kernel
theorem dX12_leb_102 : decode cX12_leb 102 = .ok (.imul, 1) := by decide +kernel
theorem dX12_leb_103 : decode cX12_leb 103 = .ok (.lshl, 1) := by decide +kernel
theorem dX12_leb_104 : decode cX12_leb 104 = .ok (.lor, 1) := by decide +kernel
theorem dX12_leb_105 : decode cX12_leb 105 = .ok (.lstore_n 3, 1) := by decide +kernel
theorem dX12_leb_106 : decode cX12_leb 106 = .ok (.iinc 5 1, 3) := by decide +kernel
theorem dX12_leb_109 : decode cX12_leb 109 = .ok (.iload 7, 2) := by decide +kernel
theorem dX12_leb_111 : decode cX12_leb 111 = .ok (.sipush 128, 3) := by decide +kernel
theorem dX12_leb_114 : decode cX12_leb 114 = .ok (.if_icmp .lt 7, 3) := by decide +kernel
theorem dX12_leb_117 : decode cX12_leb 117 = .ok (.iconst 1, 1) := by decide +kernel
theorem dX12_leb_118 : decode cX12_leb 118 = .ok (.goto 4, 3) := by decide +kernel
theorem dX12_leb_121 : decode cX12_leb 121 = .ok (.iconst 0, 1) := by decide +kernel
theorem dX12_leb_122 : decode cX12_leb 122 = .ok (.istore 6, 2) := by decide +kernel
theorem dX12_leb_124 : decode cX12_leb 124 = .ok (.goto (-99), 3) := by decide +kernel
theorem dX12_leb_127 : decode cX12_leb 127 = .ok (.iload_n 1, 1) := by decide +kernel
theorem dX12_leb_128 : decode cX12_leb 128 = .ok (.ifCond .eq 33, 3) := by decide +kernel
theorem dX12_leb_131 : decode cX12_leb 131 = .ok (.iload 7, 2) := by decide +kernel
theorem dX12_leb_133 : decode cX12_leb 133 = .ok (.bipush 64, 2) := by decide +kernel
theorem dX12_leb_135 : decode cX12_leb 135 = .ok (.iand, 1) := by decide +kernel
theorem dX12_leb_136 : decode cX12_leb 136 = .ok (.ifCond .eq 25, 3) := by decide +kernel
theorem dX12_leb_139 : decode cX12_leb 139 = .ok (.bipush 7, 2) := by decide +kernel
theorem dX12_leb_141 : decode cX12_leb 141 = .ok (.iload 5, 2) := by decide +kernel
theorem dX12_leb_143 : decode cX12_leb 143 = .ok (.imul, 1) := by decide +kernel
theorem dX12_leb_144 : decode cX12_leb 144 = .ok (.bipush 64, 2) := by decide +kernel
theorem dX12_leb_146 : decode cX12_leb 146 = .ok (.if_icmp .ge 15, 3) := by decide +kernel
theorem dX12_leb_149 : decode cX12_leb 149 = .ok (.lload_n 3, 1) := by decide +kernel
theorem dX12_leb_150 : decode cX12_leb 150 = .ok (.ldc2_w 263, 3) := by decide +kernel
theorem dX12_leb_153 : decode cX12_leb 153 = .ok (.bipush 7, 2) := by decide +kernel
theorem dX12_leb_155 : decode cX12_leb 155 = .ok (.iload 5, 2) := by decide +kernel
theorem dX12_leb_157 : decode cX12_leb 157 = .ok (.imul, 1) := by decide +kernel
theorem dX12_leb_158 : decode cX12_leb 158 = .ok (.lshl, 1) := by decide +kernel
theorem dX12_leb_159 : decode cX12_leb 159 = .ok (.lor, 1) := by decide +kernel
theorem dX12_leb_160 : decode cX12_leb 160 = .ok (.lstore_n 3, 1) := by decide +kernel
theorem dX12_leb_161 : decode cX12_leb 161 = .ok (.lload_n 3, 1) := by decide +kernel
theorem dX12_leb_162 : decode cX12_leb 162 = .ok (.lreturn, 1) := by decide +kernel
theorem dX12_uleb_0 : decode cX12_uleb 0 = .ok (.aload_n 0, 1) := by decide +kernel
theorem dX12_uleb_1 : decode cX12_uleb 1 = .ok (.iconst 0, 1) := by decide +kernel
theorem dX12_uleb_2 : decode cX12_uleb 2 = .ok (.invokevirtual 265, 3) := by decide +kernel
theorem dX12_uleb_5 : decode cX12_uleb 5 = .ok (.lreturn, 1) := by decide +kernel
theorem dX12_stringAt_0 : decode cX12_stringAt 0 = .ok (.iload_n 1, 1) := by decide +kernel
theorem dX12_stringAt_1 : decode cX12_stringAt 1 = .ok (.istore_n 3, 1) := by decide +kernel
theorem dX12_stringAt_2 : decode cX12_stringAt 2 = .ok (.iload_n 3, 1) := by decide +kernel
theorem dX12_stringAt_3 : decode cX12_stringAt 3 = .ok (.iload_n 2, 1) := by decide +kernel
theorem dX12_stringAt_4 : decode cX12_stringAt 4 = .ok (.if_icmp .ge 17, 3) := by decide +kernel
theorem dX12_stringAt_7 : decode cX12_stringAt 7 = .ok (.aload_n 0, 1) := by decide +kernel
theorem dX12_stringAt_8 : decode cX12_stringAt 8 = .ok (.iload_n 3, 1) := by decide +kernel
theorem dX12_stringAt_9 : decode cX12_stringAt 9 = .ok (.invokevirtual 241, 3) := by decide +kernel
theorem dX12_stringAt_12 : decode cX12_stringAt 12 = .ok (.ifCond .eq 9, 3) := by decide +kernel
theorem dX12_stringAt_15 : decode cX12_stringAt 15 = .ok (.iinc 3 1, 3) := by decide +kernel
theorem dX12_stringAt_18 : decode cX12_stringAt 18 = .ok (.goto (-16), 3) := by decide +kernel
theorem dX12_stringAt_21 : decode cX12_stringAt 21 = .ok (.iload_n 3, 1) := by decide +kernel
theorem dX12_stringAt_22 : decode cX12_stringAt 22 = .ok (.iload_n 2, 1) := by decide +kernel
theorem dX12_stringAt_23 : decode cX12_stringAt 23 = .ok (.if_icmp .ge 9, 3) := by decide +kernel
theorem dX12_stringAt_26 : decode cX12_stringAt 26 = .ok (.iload_n 3, 1) := by decide +kernel
theorem dX12_stringAt_27 : decode cX12_stringAt 27 = .ok (.iload_n 1, 1) := by decide +kernel
theorem dX12_stringAt_28 : decode cX12_stringAt 28 = .ok (.isub, 1) := by decide +kernel
theorem dX12_stringAt_29 : decode cX12_stringAt 29 = .ok (.goto 4, 3) := by decide +kernel
theorem dX12_stringAt_32 : decode cX12_stringAt 32 = .ok (.iconst (-1), 1) := by decide +kernel
theorem dX12_stringAt_33 : decode cX12_stringAt 33 = .ok (.ireturn, 1) := by decide +kernel
theorem dX12_string_0 : decode cX12_string 0 = .ok (.aload_n 0, 1) := by decide +kernel
theorem dX12_string_1 : decode cX12_string 1 = .ok (.invokevirtual 245, 3) := by decide +kernel
theorem dX12_string_4 : decode cX12_string 4 = .ok (.ifCond .ne 5, 3) := by decide +kernel
theorem dX12_string_7 : decode cX12_string 7 = .ok (.iconst 0, 1) := by decide +kernel
theorem dX12_string_8 : decode cX12_string 8 = .ok (.ireturn, 1) := by decide +kernel
theorem dX12_string_9 : decode cX12_string 9 = .ok (.aload_n 0, 1) := by decide +kernel
theorem dX12_string_10 : decode cX12_string 10 = .ok (.getfield 249, 3) := by decide +kernel
theorem dX12_string_13 : decode cX12_string 13 = .ok (.istore_n 1, 1) := by decide +kernel
theorem dX12_string_14 : decode cX12_string 14 = .ok (.aload_n 0, 1) := by decide +kernel
theorem dX12_string_15 : decode cX12_string 15 = .ok (.aload_n 0, 1) := by decide +kernel
theorem dX12_string_16 : decode cX12_string 16 = .ok (.getfield 249, 3) := by decide +kernel
theorem dX12_string_19 : decode cX12_string 19 = .ok (.aload_n 0, 1) := by decide +kernel
theorem dX12_string_20 : decode cX12_string 20 = .ok (.getfield 252, 3) := by decide +kernel
theorem dX12_string_23 : decode cX12_string 23 = .ok (.invokevirtual 269, 3) := by decide +kernel
theorem dX12_string_26 : decode cX12_string 26 = .ok (.istore_n 2, 1) := by decide +kernel
theorem dX12_string_27 : decode cX12_string 27 = .ok (.iload_n 2, 1) := by decide +kernel
theorem dX12_string_28 : decode cX12_string 28 = .ok (.iconst (-1), 1) := by decide +kernel
theorem dX12_string_29 : decode cX12_string 29 = .ok (.if_icmp .ne 11, 3) := by decide +kernel
theorem dX12_string_32 : decode cX12_string 32 = .ok (.aload_n 0, 1) := by decide +kernel
theorem dX12_string_33 : decode cX12_string 33 = .ok (.iconst 1, 1) := by decide +kernel
theorem dX12_string_34 : decode cX12_string 34 = .ok (.iload_n 1, 1) := by decide +kernel
theorem dX12_string_35 : decode cX12_string 35 = .ok (.invokevirtual 255, 3) := by decide +kernel
theorem dX12_string_38 : decode cX12_string 38 = .ok (.iconst 0, 1) := by decide +kernel
theorem dX12_string_39 : decode cX12_string 39 = .ok (.ireturn, 1) := by decide +kernel
theorem dX12_string_40 : decode cX12_string 40 = .ok (.aload_n 0, 1) := by decide +kernel
theorem dX12_string_41 : decode cX12_string 41 = .ok (.dup, 1) := by decide +kernel
theorem dX12_string_42 : decode cX12_string 42 = .ok (.getfield 249, 3) := by decide +kernel
theorem dX12_string_45 : decode cX12_string 45 = .ok (.iload_n 2, 1) := by decide +kernel
theorem dX12_string_46 : decode cX12_string 46 = .ok (.iconst 1, 1) := by decide +kernel
theorem dX12_string_47 : decode cX12_string 47 = .ok (.iadd, 1) := by decide +kernel
theorem dX12_string_48 : decode cX12_string 48 = .ok (.iadd, 1) := by decide +kernel
theorem dX12_string_49 : decode cX12_string 49 = .ok (.putfield 249, 3) := by decide +kernel
theorem dX12_string_52 : decode cX12_string 52 = .ok (.iload_n 1, 1) := by decide +kernel
theorem dX12_string_53 : decode cX12_string 53 = .ok (.ireturn, 1) := by decide +kernel
theorem dX12_must_0 : decode cX12_must 0 = .ok (.aload_n 0, 1) := by decide +kernel
theorem dX12_must_1 : decode cX12_must 1 = .ok (.getfield 249, 3) := by decide +kernel
theorem dX12_must_4 : decode cX12_must 4 = .ok (.istore_n 3, 1) := by decide +kernel
theorem dX12_must_5 : decode cX12_must 5 = .ok (.aload_n 0, 1) := by decide +kernel
theorem dX12_must_6 : decode cX12_must 6 = .ok (.iload_n 1, 1) := by decide +kernel
theorem dX12_must_7 : decode cX12_must 7 = .ok (.invokevirtual 273, 3) := by decide +kernel
theorem dX12_must_10 : decode cX12_must 10 = .ok (.lstore 4, 2) := by decide +kernel
theorem dX12_must_12 : decode cX12_must 12 = .ok (.aload_n 0, 1) := by decide +kernel
theorem dX12_must_13 : decode cX12_must 13 = .ok (.invokevirtual 245, 3) := by decide +kernel
theorem dX12_must_16 : decode cX12_must 16 = .ok (.ifCond .eq 17, 3) := by decide +kernel
theorem dX12_must_19 : decode cX12_must 19 = .ok (.lload 4, 2) := by decide +kernel
theorem dX12_must_21 : decode cX12_must 21 = .ok (.iload_n 2, 1) := by decide +kernel
theorem dX12_must_22 : decode cX12_must 22 = .ok (.i2l, 1) := by decide +kernel
theorem dX12_must_23 : decode cX12_must 23 = .ok (.lcmp, 1) := by decide +kernel
theorem dX12_must_24 : decode cX12_must 24 = .ok (.ifCond .eq 9, 3) := by decide +kernel
theorem dX12_must_27 : decode cX12_must 27 = .ok (.aload_n 0, 1) := by decide +kernel
theorem dX12_must_28 : decode cX12_must 28 = .ok (.iconst 2, 1) := by decide +kernel
theorem dX12_must_29 : decode cX12_must 29 = .ok (.iload_n 3, 1) := by decide +kernel
theorem dX12_must_30 : decode cX12_must 30 = .ok (.invokevirtual 255, 3) := by decide +kernel
theorem dX12_must_33 : decode cX12_must 33 = .ok (.return_, 1) := by decide +kernel
theorem dX12_mustLeb_0 : decode cX12_mustLeb 0 = .ok (.aload_n 0, 1) := by decide +kernel
theorem dX12_mustLeb_1 : decode cX12_mustLeb 1 = .ok (.getfield 249, 3) := by decide +kernel
theorem dX12_mustLeb_4 : decode cX12_mustLeb 4 = .ok (.istore_n 2, 1) := by decide +kernel
theorem dX12_mustLeb_5 : decode cX12_mustLeb 5 = .ok (.aload_n 0, 1) := by decide +kernel
theorem dX12_mustLeb_6 : decode cX12_mustLeb 6 = .ok (.invokevirtual 277, 3) := by decide +kernel
theorem dX12_mustLeb_9 : decode cX12_mustLeb 9 = .ok (.lstore_n 3, 1) := by decide +kernel
theorem dX12_mustLeb_10 : decode cX12_mustLeb 10 = .ok (.aload_n 0, 1) := by decide +kernel
theorem dX12_mustLeb_11 : decode cX12_mustLeb 11 = .ok (.invokevirtual 245, 3) := by decide +kernel
theorem dX12_mustLeb_14 : decode cX12_mustLeb 14 = .ok (.ifCond .eq 16, 3) := by decide +kernel
theorem dX12_mustLeb_17 : decode cX12_mustLeb 17 = .ok (.lload_n 3, 1) := by decide +kernel
theorem dX12_mustLeb_18 : decode cX12_mustLeb 18 = .ok (.iload_n 1, 1) := by decide +kernel
theorem dX12_mustLeb_19 : decode cX12_mustLeb 19 = .ok (.i2l, 1) := by decide +kernel
theorem dX12_mustLeb_20 : decode cX12_mustLeb 20 = .ok (.lcmp, 1) := by decide +kernel
theorem dX12_mustLeb_21 : decode cX12_mustLeb 21 = .ok (.ifCond .eq 9, 3) := by decide +kernel
theorem dX12_mustLeb_24 : decode cX12_mustLeb 24 = .ok (.aload_n 0, 1) := by decide +kernel
theorem dX12_mustLeb_25 : decode cX12_mustLeb 25 = .ok (.iconst 2, 1) := by decide +kernel
theorem dX12_mustLeb_26 : decode cX12_mustLeb 26 = .ok (.iload_n 2, 1) := by decide +kernel
theorem dX12_mustLeb_27 : decode cX12_mustLeb 27 = .ok (.invokevirtual 255, 3) := by decide +kernel
theorem dX12_mustLeb_30 : decode cX12_mustLeb 30 = .ok (.return_, 1) := by decide +kernel
theorem dX12_header_0 : decode cX12_header 0 = .ok (.iconst 0, 1) := by decide +kernel
theorem dX12_header_1 : decode cX12_header 1 = .ok (.istore_n 1, 1) := by decide +kernel
theorem dX12_header_2 : decode cX12_header 2 = .ok (.iload_n 1, 1) := by decide +kernel
theorem dX12_header_3 : decode cX12_header 3 = .ok (.bipush 7, 2) := by decide +kernel
theorem dX12_header_5 : decode cX12_header 5 = .ok (.if_icmp .ge 37, 3) := by decide +kernel
theorem dX12_header_8 : decode cX12_header 8 = .ok (.iload_n 1, 1) := by decide +kernel
theorem dX12_header_9 : decode cX12_header 9 = .ok (.aload_n 0, 1) := by decide +kernel
theorem dX12_header_10 : decode cX12_header 10 = .ok (.getfield 281, 3) := by decide +kernel
theorem dX12_header_13 : decode cX12_header 13 = .ok (.if_icmp .ge 29, 3) := by decide +kernel
theorem dX12_header_16 : decode cX12_header 16 = .ok (.aload_n 0, 1) := by decide +kernel
theorem dX12_header_17 : decode cX12_header 17 = .ok (.iload_n 1, 1) := by decide +kernel
theorem dX12_header_18 : decode cX12_header 18 = .ok (.invokevirtual 241, 3) := by decide +kernel
theorem dX12_header_21 : decode cX12_header 21 = .ok (.aload_n 0, 1) := by decide +kernel
theorem dX12_header_22 : decode cX12_header 22 = .ok (.getfield 62, 3) := by decide +kernel
theorem dX12_header_25 : decode cX12_header 25 = .ok (.iload_n 1, 1) := by decide +kernel
theorem dX12_header_26 : decode cX12_header 26 = .ok (.iaload, 1) := by decide +kernel
theorem dX12_header_27 : decode cX12_header 27 = .ok (.if_icmp .eq 9, 3) := by decide +kernel
theorem dX12_header_30 : decode cX12_header 30 = .ok (.aload_n 0, 1) := by decide +kernel
theorem dX12_header_31 : decode cX12_header 31 = .ok (.iconst 2, 1) := by decide +kernel
theorem dX12_header_32 : decode cX12_header 32 = .ok (.iload_n 1, 1) := by decide +kernel
theorem dX12_header_33 : decode cX12_header 33 = .ok (.invokevirtual 255, 3) := by decide +kernel
theorem dX12_header_36 : decode cX12_header 36 = .ok (.iinc 1 1, 3) := by decide +kernel
theorem dX12_header_39 : decode cX12_header 39 = .ok (.goto (-37), 3) := by decide +kernel
theorem dX12_header_42 : decode cX12_header 42 = .ok (.aload_n 0, 1) := by decide +kernel
theorem dX12_header_43 : decode cX12_header 43 = .ok (.invokevirtual 245, 3) := by decide +kernel
theorem dX12_header_46 : decode cX12_header 46 = .ok (.ifCond .eq 18, 3) := by decide +kernel
theorem dX12_header_49 : decode cX12_header 49 = .ok (.aload_n 0, 1) := by decide +kernel
theorem dX12_header_50 : decode cX12_header 50 = .ok (.getfield 281, 3) := by decide +kernel
theorem dX12_header_53 : decode cX12_header 53 = .ok (.bipush 64, 2) := by decide +kernel
theorem dX12_header_55 : decode cX12_header 55 = .ok (.if_icmp .ge 9, 3) := by decide +kernel
theorem dX12_header_58 : decode cX12_header 58 = .ok (.aload_n 0, 1) := by decide +kernel
theorem dX12_header_59 : decode cX12_header 59 = .ok (.iconst 1, 1) := by decide +kernel
theorem dX12_header_60 : decode cX12_header 60 = .ok (.iconst 0, 1) := by decide +kernel
theorem dX12_header_61 : decode cX12_header 61 = .ok (.invokevirtual 255, 3) := by decide +kernel
theorem dX12_header_64 : decode cX12_header 64 = .ok (.aload_n 0, 1) := by decide +kernel
theorem dX12_header_65 : decode cX12_header 65 = .ok (.invokevirtual 245, 3) := by decide +kernel
theorem dX12_header_68 : decode cX12_header 68 = .ok (.ifCond .ne 4, 3) := by decide +kernel
theorem dX12_header_71 : decode cX12_header 71 = .ok (.return_, 1) := by decide +kernel
theorem dX12_header_72 : decode cX12_header 72 = .ok (.aload_n 0, 1) := by decide +kernel
theorem dX12_header_73 : decode cX12_header 73 = .ok (.bipush 40, 2) := by decide +kernel
theorem dX12_header_75 : decode cX12_header 75 = .ok (.bipush 8, 2) := by decide +kernel
theorem dX12_header_77 : decode cX12_header 77 = .ok (.invokevirtual 259, 3) := by decide +kernel
theorem dX12_header_80 : decode cX12_header 80 = .ok (.lstore_n 1, 1) := by decide +kernel
theorem dX12_header_81 : decode cX12_header 81 = .ok (.aload_n 0, 1) := by decide +kernel
theorem dX12_header_82 : decode cX12_header 82 = .ok (.bipush 60, 2) := by decide +kernel
theorem dX12_header_84 : decode cX12_header 84 = .ok (.iconst 2, 1) := by decide +kernel
theorem dX12_header_85 : decode cX12_header 85 = .ok (.invokevirtual 259, 3) := by decide +kernel
theorem dX12_header_88 : decode cX12_header 88 = .ok (.l2i, 1) := by decide +kernel
theorem dX12_header_89 : decode cX12_header 89 = .ok (.istore_n 3, 1) := by decide +kernel
theorem dX12_header_90 : decode cX12_header 90 = .ok (.aload_n 0, 1) := by decide +kernel
theorem dX12_header_91 : decode cX12_header 91 = .ok (.bipush 62, 2) := by decide +kernel
theorem dX12_header_93 : decode cX12_header 93 = .ok (.iconst 2, 1) := by decide +kernel
theorem dX12_header_94 : decode cX12_header 94 = .ok (.invokevirtual 259, 3) := by decide +kernel
theorem dX12_header_97 : decode cX12_header 97 = .ok (.l2i, 1) := by decide +kernel
theorem dX12_header_98 : decode cX12_header 98 = .ok (.istore 4, 2) := by decide +kernel
theorem dX12_header_100 : decode cX12_header 100 = .ok (.aload_n 0, 1) := by decide +kernel
theorem dX12_header_101 : decode cX12_header 101 = .ok (.bipush 58, 2) := by decide +kernel
theorem dX12_header_103 : decode cX12_header 103 = .ok (.iconst 2, 1) := by decide +kernel
theorem dX12_header_104 : decode cX12_header 104 = .ok (.invokevirtual 259, 3) := by decide +kernel
theorem dX12_header_107 : decode cX12_header 107 = .ok (.ldc2_w 284, 3) := by decide +kernel
theorem dX12_header_110 : decode cX12_header 110 = .ok (.lcmp, 1) := by decide +kernel
theorem dX12_header_111 : decode cX12_header 111 = .ok (.ifCond .eq 10, 3) := by decide +kernel
theorem dX12_header_114 : decode cX12_header 114 = .ok (.aload_n 0, 1) := by decide +kernel
theorem dX12_header_115 : decode cX12_header 115 = .ok (.iconst 2, 1) := by decide +kernel
theorem dX12_header_116 : decode cX12_header 116 = .ok (.bipush 58, 2) := by decide +kernel
theorem dX12_header_118 : decode cX12_header 118 = .ok (.invokevirtual 255, 3) := by decide +kernel
theorem dX12_header_121 : decode cX12_header 121 = .ok (.iload_n 3, 1) := by decide +kernel
theorem dX12_header_122 : decode cX12_header 122 = .ok (.ifCond .ne 10, 3) := by decide +kernel
theorem dX12_header_125 : decode cX12_header 125 = .ok (.aload_n 0, 1) := by decide +kernel
theorem dX12_header_126 : decode cX12_header 126 = .ok (.iconst 2, 1) := by decide +kernel
theorem dX12_header_127 : decode cX12_header 127 = .ok (.bipush 60, 2) := by decide +kernel
theorem dX12_header_129 : decode cX12_header 129 = .ok (.invokevirtual 255, 3) := by decide +kernel
theorem dX12_header_132 : decode cX12_header 132 = .ok (.iload_n 3, 1) := by decide +kernel
theorem dX12_header_133 : decode cX12_header 133 = .ok (.bipush 30, 2) := by decide +kernel
theorem dX12_header_135 : decode cX12_header 135 = .ok (.if_icmp .le 10, 3) := by decide +kernel
theorem dX12_header_138 : decode cX12_header 138 = .ok (.aload_n 0, 1) := by decide +kernel
theorem dX12_header_139 : decode cX12_header 139 = .ok (.iconst 4, 1) := by decide +kernel
theorem dX12_header_140 : decode cX12_header 140 = .ok (.bipush 60, 2) := by decide +kernel
theorem dX12_header_142 : decode cX12_header 142 = .ok (.invokevirtual 255, 3) := by decide +kernel
theorem dX12_header_145 : decode cX12_header 145 = .ok (.iload 4, 2) := by decide +kernel
theorem dX12_header_147 : decode cX12_header 147 = .ok (.iload_n 3, 1) := by decide +kernel
theorem dX12_header_148 : decode cX12_header 148 = .ok (.if_icmp .lt 10, 3) := by decide +kernel
theorem dX12_header_151 : decode cX12_header 151 = .ok (.aload_n 0, 1) := by decide +kernel
theorem dX12_header_152 : decode cX12_header 152 = .ok (.iconst 3, 1) := by decide +kernel
theorem dX12_header_153 : decode cX12_header 153 = .ok (.bipush 62, 2) := by decide +kernel
theorem dX12_header_155 : decode cX12_header 155 = .ok (.invokevirtual 255, 3) := by decide +kernel
theorem dX12_header_158 : decode cX12_header 158 = .ok (.lload_n 1, 1) := by decide +kernel
theorem dX12_header_159 : decode cX12_header 159 = .ok (.lconst 0, 1) := by decide +kernel
theorem dX12_header_160 : decode cX12_header 160 = .ok (.lcmp, 1) := by decide +kernel
theorem dX12_header_161 : decode cX12_header 161 = .ok (.ifCond .lt 30, 3) := by decide +kernel
theorem dX12_header_164 : decode cX12_header 164 = .ok (.lload_n 1, 1) := by decide +kernel
theorem dX12_header_165 : decode cX12_header 165 = .ok (.aload_n 0, 1) := by decide +kernel
theorem dX12_header_166 : decode cX12_header 166 = .ok (.getfield 281, 3) := by decide +kernel
theorem dX12_header_169 : decode cX12_header 169 = .ok (.i2l, 1) := by decide +kernel
theorem dX12_header_170 : decode cX12_header 170 = .ok (.lcmp, 1) := by decide +kernel
theorem dX12_header_171 : decode cX12_header 171 = .ok (.ifCond .gt 20, 3) := by decide +kernel
theorem dX12_header_174 : decode cX12_header 174 = .ok (.lload_n 1, 1) := by decide +kernel
theorem dX12_header_175 : decode cX12_header 175 = .ok (.ldc2_w 284, 3) := by decide +kernel
theorem dX12_header_178 : decode cX12_header 178 = .ok (.iload_n 3, 1) := by decide +kernel
theorem dX12_header_179 : decode cX12_header 179 = .ok (.i2l, 1) := by decide +kernel
theorem dX12_header_180 : decode cX12_header 180 = .ok (.lmul, 1) := by decide +kernel
theorem dX12_header_181 : decode cX12_header 181 = .ok (.ladd, 1) := by decide +kernel
theorem dX12_header_182 : decode cX12_header 182 = .ok (.aload_n 0, 1) := by decide +kernel
theorem dX12_header_183 : decode cX12_header 183 = .ok (.getfield 281, 3) := by decide +kernel
theorem dX12_header_186 : decode cX12_header 186 = .ok (.i2l, 1) := by decide +kernel
theorem dX12_header_187 : decode cX12_header 187 = .ok (.lcmp, 1) := by decide +kernel
theorem dX12_header_188 : decode cX12_header 188 = .ok (.ifCond .le 10, 3) := by decide +kernel
theorem dX12_header_191 : decode cX12_header 191 = .ok (.aload_n 0, 1) := by decide +kernel
theorem dX12_header_192 : decode cX12_header 192 = .ok (.iconst 1, 1) := by decide +kernel
theorem dX12_header_193 : decode cX12_header 193 = .ok (.bipush 40, 2) := by decide +kernel
theorem dX12_header_195 : decode cX12_header 195 = .ok (.invokevirtual 255, 3) := by decide +kernel
theorem dX12_header_198 : decode cX12_header 198 = .ok (.aload_n 0, 1) := by decide +kernel
theorem dX12_header_199 : decode cX12_header 199 = .ok (.invokevirtual 245, 3) := by decide +kernel
theorem dX12_header_202 : decode cX12_header 202 = .ok (.ifCond .ne 4, 3) := by decide +kernel
theorem dX12_header_205 : decode cX12_header 205 = .ok (.return_, 1) := by decide +kernel
theorem dX12_header_206 : decode cX12_header 206 = .ok (.aload_n 0, 1) := by decide +kernel
theorem dX12_header_207 : decode cX12_header 207 = .ok (.getfield 23, 3) := by decide +kernel
theorem dX12_header_210 : decode cX12_header 210 = .ok (.aload_n 0, 1) := by decide +kernel
theorem dX12_header_211 : decode cX12_header 211 = .ok (.getfield 17, 3) := by decide +kernel
theorem dX12_header_214 : decode cX12_header 214 = .ok (.iload_n 3, 1) := by decide +kernel
theorem dX12_header_215 : decode cX12_header 215 = .ok (.iastore, 1) := by decide +kernel
theorem dX12_header_216 : decode cX12_header 216 = .ok (.iconst 0, 1) := by decide +kernel
theorem dX12_header_217 : decode cX12_header 217 = .ok (.istore 5, 2) := by decide +kernel
theorem dX12_header_219 : decode cX12_header 219 = .ok (.iload 5, 2) := by decide +kernel
theorem dX12_header_221 : decode cX12_header 221 = .ok (.iload_n 3, 1) := by decide +kernel
theorem dX12_header_222 : decode cX12_header 222 = .ok (.if_icmp .ge 30, 3) := by decide +kernel
theorem dX12_header_225 : decode cX12_header 225 = .ok (.aload_n 0, 1) := by decide +kernel
theorem dX12_header_226 : decode cX12_header 226 = .ok (.invokevirtual 245, 3) := by decide +kernel
theorem dX12_header_229 : decode cX12_header 229 = .ok (.ifCond .eq 23, 3) := by decide +kernel
theorem dX12_header_232 : decode cX12_header 232 = .ok (.aload_n 0, 1) := by decide +kernel
theorem dX12_header_233 : decode cX12_header 233 = .ok (.iload 5, 2) := by decide +kernel
theorem dX12_header_235 : decode cX12_header 235 = .ok (.lload_n 1, 1) := by decide +kernel
theorem dX12_header_236 : decode cX12_header 236 = .ok (.l2i, 1) := by decide +kernel
theorem dX12_header_237 : decode cX12_header 237 = .ok (.bipush 64, 2) := by decide +kernel
theorem dX12_header_239 : decode cX12_header 239 = .ok (.iload 5, 2) := by decide +kernel
theorem dX12_header_241 : decode cX12_header 241 = .ok (.imul, 1) := by decide +kernel
theorem dX12_header_242 : decode cX12_header 242 = .ok (.iadd, 1) := by decide +kernel
theorem dX12_header_243 : decode cX12_header 243 = .ok (.invokevirtual 286, 3) := by decide +kernel
theorem dX12_header_246 : decode cX12_header 246 = .ok (.iinc 5 1, 3) := by decide +kernel
theorem dX12_header_249 : decode cX12_header 249 = .ok (.goto (-30), 3) := by decide +kernel
theorem dX12_header_252 : decode cX12_header 252 = .ok (.iconst 0, 1) := by decide +kernel
theorem dX12_header_253 : decode cX12_header 253 = .ok (.istore 5, 2) := by decide +kernel
theorem dX12_header_255 : decode cX12_header 255 = .ok (.iload 5, 2) := by decide +kernel
theorem dX12_header_257 : decode cX12_header 257 = .ok (.iload_n 3, 1) := by decide +kernel
theorem dX12_header_258 : decode cX12_header 258 = .ok (.if_icmp .ge 121, 3) := by decide +kernel
theorem dX12_header_261 : decode cX12_header 261 = .ok (.aload_n 0, 1) := by decide +kernel
theorem dX12_header_262 : decode cX12_header 262 = .ok (.invokevirtual 245, 3) := by decide +kernel
theorem dX12_header_265 : decode cX12_header 265 = .ok (.ifCond .eq 114, 3) := by decide +kernel
theorem dX12_header_268 : decode cX12_header 268 = .ok (.lload_n 1, 1) := by decide +kernel
theorem dX12_header_269 : decode cX12_header 269 = .ok (.l2i, 1) := by decide +kernel
theorem dX12_header_270 : decode cX12_header 270 = .ok (.bipush 64, 2) := by decide +kernel
theorem dX12_header_272 : decode cX12_header 272 = .ok (.iload 5, 2) := by decide +kernel
theorem dX12_header_274 : decode cX12_header 274 = .ok (.imul, 1) := by decide +kernel
theorem dX12_header_275 : decode cX12_header 275 = .ok (.iadd, 1) := by decide +kernel
theorem dX12_header_276 : decode cX12_header 276 = .ok (.istore 6, 2) := by decide +kernel
theorem dX12_header_278 : decode cX12_header 278 = .ok (.aload_n 0, 1) := by decide +kernel
theorem dX12_header_279 : decode cX12_header 279 = .ok (.iload 6, 2) := by decide +kernel
theorem dX12_header_281 : decode cX12_header 281 = .ok (.iconst 4, 1) := by decide +kernel
theorem dX12_header_282 : decode cX12_header 282 = .ok (.invokevirtual 259, 3) := by decide +kernel
theorem dX12_header_285 : decode cX12_header 285 = .ok (.lstore 7, 2) := by decide +kernel
theorem dX12_header_287 : decode cX12_header 287 = .ok (.lload 7, 2) := by decide +kernel
theorem dX12_header_289 : decode cX12_header 289 = .ok (.aload_n 0, 1) := by decide +kernel
theorem dX12_header_290 : decode cX12_header 290 = .ok (.getfield 47, 3) := by decide +kernel
theorem dX12_header_293 : decode cX12_header 293 = .ok (.iload 4, 2) := by decide +kernel
theorem dX12_header_295 : decode cX12_header 295 = .ok (.iaload, 1) := by decide +kernel
theorem dX12_header_296 : decode cX12_header 296 = .ok (.i2l, 1) := by decide +kernel
theorem dX12_header_297 : decode cX12_header 297 = .ok (.lcmp, 1) := by decide +kernel
theorem dX12_header_298 : decode cX12_header 298 = .ok (.ifCond .lt 13, 3) := by decide +kernel
theorem dX12_header_301 : decode cX12_header 301 = .ok (.aload_n 0, 1) := by decide +kernel
theorem dX12_header_302 : decode cX12_header 302 = .ok (.iconst 3, 1) := by decide +kernel
theorem dX12_header_303 : decode cX12_header 303 = .ok (.iload 6, 2) := by decide +kernel
theorem dX12_header_305 : decode cX12_header 305 = .ok (.invokevirtual 255, 3) := by decide +kernel
theorem dX12_header_308 : decode cX12_header 308 = .ok (.goto 65, 3) := by decide +kernel
theorem dX12_header_311 : decode cX12_header 311 = .ok (.aload_n 0, 1) := by decide +kernel
theorem dX12_header_312 : decode cX12_header 312 = .ok (.aload_n 0, 1) := by decide +kernel
theorem dX12_header_313 : decode cX12_header 313 = .ok (.getfield 44, 3) := by decide +kernel
theorem dX12_header_316 : decode cX12_header 316 = .ok (.iload 4, 2) := by decide +kernel
theorem dX12_header_318 : decode cX12_header 318 = .ok (.iaload, 1) := by decide +kernel
theorem dX12_header_319 : decode cX12_header 319 = .ok (.lload 7, 2) := by decide +kernel
theorem dX12_header_321 : decode cX12_header 321 = .ok (.l2i, 1) := by decide +kernel
theorem dX12_header_322 : decode cX12_header 322 = .ok (.iadd, 1) := by decide +kernel
theorem dX12_header_323 : decode cX12_header 323 = .ok (.aload_n 0, 1) := by decide +kernel
theorem dX12_header_324 : decode cX12_header 324 = .ok (.getfield 44, 3) := by decide +kernel
theorem dX12_header_327 : decode cX12_header 327 = .ok (.iload 4, 2) := by decide +kernel
theorem dX12_header_329 : decode cX12_header 329 = .ok (.iaload, 1) := by decide +kernel
theorem dX12_header_330 : decode cX12_header 330 = .ok (.aload_n 0, 1) := by decide +kernel
theorem dX12_header_331 : decode cX12_header 331 = .ok (.getfield 47, 3) := by decide +kernel
theorem dX12_header_334 : decode cX12_header 334 = .ok (.iload 4, 2) := by decide +kernel
theorem dX12_header_336 : decode cX12_header 336 = .ok (.iaload, 1) := by decide +kernel
theorem dX12_header_337 : decode cX12_header 337 = .ok (.iadd, 1) := by decide +kernel
theorem dX12_header_338 : decode cX12_header 338 = .ok (.invokevirtual 269, 3) := by decide +kernel
theorem dX12_header_341 : decode cX12_header 341 = .ok (.iconst (-1), 1) := by decide +kernel
theorem dX12_header_342 : decode cX12_header 342 = .ok (.if_icmp .ne 13, 3) := by decide +kernel
theorem dX12_header_345 : decode cX12_header 345 = .ok (.aload_n 0, 1) := by decide +kernel
theorem dX12_header_346 : decode cX12_header 346 = .ok (.iconst 1, 1) := by decide +kernel
theorem dX12_header_347 : decode cX12_header 347 = .ok (.iload 6, 2) := by decide +kernel
theorem dX12_header_349 : decode cX12_header 349 = .ok (.invokevirtual 255, 3) := by decide +kernel
theorem dX12_header_352 : decode cX12_header 352 = .ok (.goto 21, 3) := by decide +kernel
theorem dX12_header_355 : decode cX12_header 355 = .ok (.aload_n 0, 1) := by decide +kernel
theorem dX12_header_356 : decode cX12_header 356 = .ok (.getfield 50, 3) := by decide +kernel
theorem dX12_header_359 : decode cX12_header 359 = .ok (.iload 5, 2) := by decide +kernel
theorem dX12_header_361 : decode cX12_header 361 = .ok (.aload_n 0, 1) := by decide +kernel
theorem dX12_header_362 : decode cX12_header 362 = .ok (.getfield 44, 3) := by decide +kernel
theorem dX12_header_365 : decode cX12_header 365 = .ok (.iload 4, 2) := by decide +kernel
theorem dX12_header_367 : decode cX12_header 367 = .ok (.iaload, 1) := by decide +kernel
theorem dX12_header_368 : decode cX12_header 368 = .ok (.lload 7, 2) := by decide +kernel
theorem dX12_header_370 : decode cX12_header 370 = .ok (.l2i, 1) := by decide +kernel
theorem dX12_header_371 : decode cX12_header 371 = .ok (.iadd, 1) := by decide +kernel
theorem dX12_header_372 : decode cX12_header 372 = .ok (.iastore, 1) := by decide +kernel
theorem dX12_header_373 : decode cX12_header 373 = .ok (.iinc 5 1, 3) := by decide +kernel
theorem dX12_header_376 : decode cX12_header 376 = .ok (.goto (-121), 3) := by decide +kernel
theorem dX12_header_379 : decode cX12_header 379 = .ok (.aload_n 0, 1) := by decide +kernel
theorem dX12_header_380 : decode cX12_header 380 = .ok (.invokevirtual 245, 3) := by decide +kernel
theorem dX12_header_383 : decode cX12_header 383 = .ok (.ifCond .ne 4, 3) := by decide +kernel
theorem dX12_header_386 : decode cX12_header 386 = .ok (.return_, 1) := by decide +kernel
theorem dX12_header_387 : decode cX12_header 387 = .ok (.iconst 0, 1) := by decide +kernel
theorem dX12_header_388 : decode cX12_header 388 = .ok (.istore 5, 2) := by decide +kernel
theorem dX12_header_390 : decode cX12_header 390 = .ok (.iconst 0, 1) := by decide +kernel
theorem dX12_header_391 : decode cX12_header 391 = .ok (.istore 6, 2) := by decide +kernel
theorem dX12_header_393 : decode cX12_header 393 = .ok (.iload 6, 2) := by decide +kernel
theorem dX12_header_395 : decode cX12_header 395 = .ok (.bipush 7, 2) := by decide +kernel
theorem dX12_header_397 : decode cX12_header 397 = .ok (.if_icmp .ge 112, 3) := by decide +kernel
theorem dX12_header_400 : decode cX12_header 400 = .ok (.aload_n 0, 1) := by decide +kernel
theorem dX12_header_401 : decode cX12_header 401 = .ok (.getfield 53, 3) := by decide +kernel
theorem dX12_header_404 : decode cX12_header 404 = .ok (.iload 6, 2) := by decide +kernel
theorem dX12_header_406 : decode cX12_header 406 = .ok (.iconst 0, 1) := by decide +kernel
theorem dX12_header_407 : decode cX12_header 407 = .ok (.iastore, 1) := by decide +kernel
theorem dX12_header_408 : decode cX12_header 408 = .ok (.aload_n 0, 1) := by decide +kernel
theorem dX12_header_409 : decode cX12_header 409 = .ok (.getfield 56, 3) := by decide +kernel
theorem dX12_header_412 : decode cX12_header 412 = .ok (.iload 6, 2) := by decide +kernel
theorem dX12_header_414 : decode cX12_header 414 = .ok (.iconst 0, 1) := by decide +kernel
theorem dX12_header_415 : decode cX12_header 415 = .ok (.iastore, 1) := by decide +kernel
theorem dX12_header_416 : decode cX12_header 416 = .ok (.iconst 0, 1) := by decide +kernel
theorem dX12_header_417 : decode cX12_header 417 = .ok (.istore 7, 2) := by decide +kernel
theorem dX12_header_419 : decode cX12_header 419 = .ok (.iconst 0, 1) := by decide +kernel
theorem dX12_header_420 : decode cX12_header 420 = .ok (.istore 8, 2) := by decide +kernel
theorem dX12_header_422 : decode cX12_header 422 = .ok (.iload 8, 2) := by decide +kernel
theorem dX12_header_424 : decode cX12_header 424 = .ok (.iload_n 3, 1) := by decide +kernel
theorem dX12_header_425 : decode cX12_header 425 = .ok (.if_icmp .ge 59, 3) := by decide +kernel
theorem dX12_header_428 : decode cX12_header 428 = .ok (.iload 7, 2) := by decide +kernel
theorem dX12_header_430 : decode cX12_header 430 = .ok (.ifCond .ne 54, 3) := by decide +kernel
theorem dX12_header_433 : decode cX12_header 433 = .ok (.aload_n 0, 1) := by decide +kernel
theorem dX12_header_434 : decode cX12_header 434 = .ok (.iload 8, 2) := by decide +kernel
theorem dX12_header_436 : decode cX12_header 436 = .ok (.iload 5, 2) := by decide +kernel
theorem dX12_header_438 : decode cX12_header 438 = .ok (.invokevirtual 289, 3) := by decide +kernel
theorem dX12_header_441 : decode cX12_header 441 = .ok (.ifCond .ne 6, 3) := by decide +kernel
theorem dX12_header_444 : decode cX12_header 444 = .ok (.goto 34, 3) := by decide +kernel
theorem dX12_header_447 : decode cX12_header 447 = .ok (.iconst 1, 1) := by decide +kernel
theorem dX12_header_448 : decode cX12_header 448 = .ok (.istore 7, 2) := by decide +kernel
theorem dX12_header_450 : decode cX12_header 450 = .ok (.aload_n 0, 1) := by decide +kernel
theorem dX12_header_451 : decode cX12_header 451 = .ok (.getfield 53, 3) := by decide +kernel
theorem dX12_header_454 : decode cX12_header 454 = .ok (.iload 6, 2) := by decide +kernel
theorem dX12_header_456 : decode cX12_header 456 = .ok (.aload_n 0, 1) := by decide +kernel
theorem dX12_header_457 : decode cX12_header 457 = .ok (.getfield 44, 3) := by decide +kernel
theorem dX12_header_460 : decode cX12_header 460 = .ok (.iload 8, 2) := by decide +kernel
theorem dX12_header_462 : decode cX12_header 462 = .ok (.iaload, 1) := by decide +kernel
theorem dX12_header_463 : decode cX12_header 463 = .ok (.iastore, 1) := by decide +kernel
theorem dX12_header_464 : decode cX12_header 464 = .ok (.aload_n 0, 1) := by decide +kernel
theorem dX12_header_465 : decode cX12_header 465 = .ok (.getfield 56, 3) := by decide +kernel
theorem dX12_header_468 : decode cX12_header 468 = .ok (.iload 6, 2) := by decide +kernel
theorem dX12_header_470 : decode cX12_header 470 = .ok (.aload_n 0, 1) := by decide +kernel
theorem dX12_header_471 : decode cX12_header 471 = .ok (.getfield 47, 3) := by decide +kernel
theorem dX12_header_474 : decode cX12_header 474 = .ok (.iload 8, 2) := by decide +kernel
theorem dX12_header_476 : decode cX12_header 476 = .ok (.iaload, 1) := by decide +kernel
theorem dX12_header_477 : decode cX12_header 477 = .ok (.iastore, 1) := by decide +kernel
theorem dX12_header_478 : decode cX12_header 478 = .ok (.iinc 8 1, 3) := by decide +kernel
theorem dX12_header_481 : decode cX12_header 481 = .ok (.goto (-59), 3) := by decide +kernel
theorem dX12_header_484 : decode cX12_header 484 = .ok (.aload_n 0, 1) := by decide +kernel
theorem dX12_header_485 : decode cX12_header 485 = .ok (.getfield 59, 3) := by decide +kernel
theorem dX12_header_488 : decode cX12_header 488 = .ok (.iload 5, 2) := by decide +kernel
theorem dX12_header_490 : decode cX12_header 490 = .ok (.iaload, 1) := by decide +kernel
theorem dX12_header_491 : decode cX12_header 491 = .ok (.ifCond .eq 9, 3) := by decide +kernel
theorem dX12_header_494 : decode cX12_header 494 = .ok (.iinc 5 1, 3) := by decide +kernel
theorem dX12_header_497 : decode cX12_header 497 = .ok (.goto (-13), 3) := by decide +kernel
theorem dX12_header_500 : decode cX12_header 500 = .ok (.iinc 5 1, 3) := by decide +kernel
theorem dX12_header_503 : decode cX12_header 503 = .ok (.iinc 6 1, 3) := by decide +kernel
theorem dX12_header_506 : decode cX12_header 506 = .ok (.goto (-113), 3) := by decide +kernel
theorem dX12_header_509 : decode cX12_header 509 = .ok (.return_, 1) := by decide +kernel
theorem dX12_section_0 : decode cX12_section 0 = .ok (.aload_n 0, 1) := by decide +kernel
theorem dX12_section_1 : decode cX12_section 1 = .ok (.iload_n 2, 1) := by decide +kernel
theorem dX12_section_2 : decode cX12_section 2 = .ok (.iconst 4, 1) := by decide +kernel
theorem dX12_section_3 : decode cX12_section 3 = .ok (.iadd, 1) := by decide +kernel
theorem dX12_section_4 : decode cX12_section 4 = .ok (.iconst 4, 1) := by decide +kernel
theorem dX12_section_5 : decode cX12_section 5 = .ok (.invokevirtual 259, 3) := by decide +kernel
theorem dX12_section_8 : decode cX12_section 8 = .ok (.lstore_n 3, 1) := by decide +kernel
theorem dX12_section_9 : decode cX12_section 9 = .ok (.aload_n 0, 1) := by decide +kernel
theorem dX12_section_10 : decode cX12_section 10 = .ok (.iload_n 2, 1) := by decide +kernel
theorem dX12_section_11 : decode cX12_section 11 = .ok (.bipush 24, 2) := by decide +kernel
theorem dX12_section_13 : decode cX12_section 13 = .ok (.iadd, 1) := by decide +kernel
theorem dX12_section_14 : decode cX12_section 14 = .ok (.bipush 8, 2) := by decide +kernel
theorem dX12_section_16 : decode cX12_section 16 = .ok (.invokevirtual 259, 3) := by decide +kernel
theorem dX12_section_19 : decode cX12_section 19 = .ok (.lstore 5, 2) := by decide +kernel
theorem dX12_section_21 : decode cX12_section 21 = .ok (.aload_n 0, 1) := by decide +kernel
theorem dX12_section_22 : decode cX12_section 22 = .ok (.iload_n 2, 1) := by decide +kernel
theorem dX12_section_23 : decode cX12_section 23 = .ok (.bipush 32, 2) := by decide +kernel
theorem dX12_section_25 : decode cX12_section 25 = .ok (.iadd, 1) := by decide +kernel
theorem dX12_section_26 : decode cX12_section 26 = .ok (.bipush 8, 2) := by decide +kernel
theorem dX12_section_28 : decode cX12_section 28 = .ok (.invokevirtual 259, 3) := by decide +kernel
theorem dX12_section_31 : decode cX12_section 31 = .ok (.lstore 7, 2) := by decide +kernel
theorem dX12_section_33 : decode cX12_section 33 = .ok (.aload_n 0, 1) := by decide +kernel
theorem dX12_section_34 : decode cX12_section 34 = .ok (.getfield 44, 3) := by decide +kernel
theorem dX12_section_37 : decode cX12_section 37 = .ok (.iload_n 1, 1) := by decide +kernel
theorem dX12_section_38 : decode cX12_section 38 = .ok (.iconst 0, 1) := by decide +kernel
theorem dX12_section_39 : decode cX12_section 39 = .ok (.iastore, 1) := by decide +kernel
theorem dX12_section_40 : decode cX12_section 40 = .ok (.aload_n 0, 1) := by decide +kernel
theorem dX12_section_41 : decode cX12_section 41 = .ok (.getfield 47, 3) := by decide +kernel
theorem dX12_section_44 : decode cX12_section 44 = .ok (.iload_n 1, 1) := by decide +kernel
theorem dX12_section_45 : decode cX12_section 45 = .ok (.iconst 0, 1) := by decide +kernel
theorem dX12_section_46 : decode cX12_section 46 = .ok (.iastore, 1) := by decide +kernel
theorem dX12_section_47 : decode cX12_section 47 = .ok (.lload_n 3, 1) := by decide +kernel
theorem dX12_section_48 : decode cX12_section 48 = .ok (.lconst 0, 1) := by decide +kernel
theorem dX12_section_49 : decode cX12_section 49 = .ok (.lcmp, 1) := by decide +kernel
theorem dX12_section_50 : decode cX12_section 50 = .ok (.ifCond .eq 11, 3) := by decide +kernel
theorem dX12_section_53 : decode cX12_section 53 = .ok (.lload_n 3, 1) := by decide +kernel
theorem dX12_section_54 : decode cX12_section 54 = .ok (.ldc2_w 293, 3) := by decide +kernel
theorem dX12_section_57 : decode cX12_section 57 = .ok (.lcmp, 1) := by decide +kernel
theorem dX12_section_58 : decode cX12_section 58 = .ok (.ifCond .ne 4, 3) := by decide +kernel
theorem dX12_section_61 : decode cX12_section 61 = .ok (.return_, 1) := by decide +kernel
theorem dX12_section_62 : decode cX12_section 62 = .ok (.lload 5, 2) := by decide +kernel
theorem dX12_section_64 : decode cX12_section 64 = .ok (.lconst 0, 1) := by decide +kernel
theorem dX12_section_65 : decode cX12_section 65 = .ok (.lcmp, 1) := by decide +kernel
theorem dX12_section_66 : decode cX12_section 66 = .ok (.ifCond .lt 35, 3) := by decide +kernel
theorem dX12_section_69 : decode cX12_section 69 = .ok (.lload 7, 2) := by decide +kernel
theorem dX12_section_71 : decode cX12_section 71 = .ok (.lconst 0, 1) := by decide +kernel
theorem dX12_section_72 : decode cX12_section 72 = .ok (.lcmp, 1) := by decide +kernel
theorem dX12_section_73 : decode cX12_section 73 = .ok (.ifCond .lt 28, 3) := by decide +kernel
theorem dX12_section_76 : decode cX12_section 76 = .ok (.lload 5, 2) := by decide +kernel
theorem dX12_section_78 : decode cX12_section 78 = .ok (.aload_n 0, 1) := by decide +kernel
theorem dX12_section_79 : decode cX12_section 79 = .ok (.getfield 281, 3) := by decide +kernel
theorem dX12_section_82 : decode cX12_section 82 = .ok (.i2l, 1) := by decide +kernel
theorem dX12_section_83 : decode cX12_section 83 = .ok (.lcmp, 1) := by decide +kernel
theorem dX12_section_84 : decode cX12_section 84 = .ok (.ifCond .gt 17, 3) := by decide +kernel
theorem dX12_section_87 : decode cX12_section 87 = .ok (.lload 7, 2) := by decide +kernel
theorem dX12_section_89 : decode cX12_section 89 = .ok (.aload_n 0, 1) := by decide +kernel
theorem dX12_section_90 : decode cX12_section 90 = .ok (.getfield 281, 3) := by decide +kernel
theorem dX12_section_93 : decode cX12_section 93 = .ok (.i2l, 1) := by decide +kernel
theorem dX12_section_94 : decode cX12_section 94 = .ok (.lload 5, 2) := by decide +kernel
theorem dX12_section_96 : decode cX12_section 96 = .ok (.lsub, 1) := by decide +kernel
theorem dX12_section_97 : decode cX12_section 97 = .ok (.lcmp, 1) := by decide +kernel
theorem dX12_section_98 : decode cX12_section 98 = .ok (.ifCond .le 10, 3) := by decide +kernel
theorem dX12_section_101 : decode cX12_section 101 = .ok (.aload_n 0, 1) := by decide +kernel
theorem dX12_section_102 : decode cX12_section 102 = .ok (.iconst 1, 1) := by decide +kernel
theorem dX12_section_103 : decode cX12_section 103 = .ok (.iload_n 2, 1) := by decide +kernel
theorem dX12_section_104 : decode cX12_section 104 = .ok (.invokevirtual 255, 3) := by decide +kernel
theorem dX12_section_107 : decode cX12_section 107 = .ok (.return_, 1) := by decide +kernel
theorem dX12_section_108 : decode cX12_section 108 = .ok (.aload_n 0, 1) := by decide +kernel
theorem dX12_section_109 : decode cX12_section 109 = .ok (.getfield 44, 3) := by decide +kernel
theorem dX12_section_112 : decode cX12_section 112 = .ok (.iload_n 1, 1) := by decide +kernel
theorem dX12_section_113 : decode cX12_section 113 = .ok (.lload 5, 2) := by decide +kernel
theorem dX12_section_115 : decode cX12_section 115 = .ok (.l2i, 1) := by decide +kernel
theorem dX12_section_116 : decode cX12_section 116 = .ok (.iastore, 1) := by decide +kernel
theorem dX12_section_117 : decode cX12_section 117 = .ok (.aload_n 0, 1) := by decide +kernel
theorem dX12_section_118 : decode cX12_section 118 = .ok (.getfield 47, 3) := by decide +kernel
theorem dX12_section_121 : decode cX12_section 121 = .ok (.iload_n 1, 1) := by decide +kernel
theorem dX12_section_122 : decode cX12_section 122 = .ok (.lload 7, 2) := by decide +kernel
theorem dX12_section_124 : decode cX12_section 124 = .ok (.l2i, 1) := by decide +kernel
theorem dX12_section_125 : decode cX12_section 125 = .ok (.iastore, 1) := by decide +kernel
theorem dX12_section_126 : decode cX12_section 126 = .ok (.return_, 1) := by decide +kernel
theorem dX12_isNamed_0 : decode cX12_isNamed 0 = .ok (.iconst 0, 1) := by decide +kernel
theorem dX12_isNamed_1 : decode cX12_isNamed 1 = .ok (.istore_n 3, 1) := by decide +kernel
theorem dX12_isNamed_2 : decode cX12_isNamed 2 = .ok (.aload_n 0, 1) := by decide +kernel
theorem dX12_isNamed_3 : decode cX12_isNamed 3 = .ok (.getfield 59, 3) := by decide +kernel
theorem dX12_isNamed_6 : decode cX12_isNamed 6 = .ok (.iload_n 2, 1) := by decide +kernel
theorem dX12_isNamed_7 : decode cX12_isNamed 7 = .ok (.iload_n 3, 1) := by decide +kernel
theorem dX12_isNamed_8 : decode cX12_isNamed 8 = .ok (.iadd, 1) := by decide +kernel
theorem dX12_isNamed_9 : decode cX12_isNamed 9 = .ok (.iaload, 1) := by decide +kernel
theorem dX12_isNamed_10 : decode cX12_isNamed 10 = .ok (.ifCond .eq 32, 3) := by decide +kernel
theorem dX12_isNamed_13 : decode cX12_isNamed 13 = .ok (.aload_n 0, 1) := by decide +kernel
theorem dX12_isNamed_14 : decode cX12_isNamed 14 = .ok (.aload_n 0, 1) := by decide +kernel
theorem dX12_isNamed_15 : decode cX12_isNamed 15 = .ok (.getfield 50, 3) := by decide +kernel
theorem dX12_isNamed_18 : decode cX12_isNamed 18 = .ok (.iload_n 1, 1) := by decide +kernel
theorem dX12_isNamed_19 : decode cX12_isNamed 19 = .ok (.iaload, 1) := by decide +kernel
theorem dX12_isNamed_20 : decode cX12_isNamed 20 = .ok (.iload_n 3, 1) := by decide +kernel
theorem dX12_isNamed_21 : decode cX12_isNamed 21 = .ok (.iadd, 1) := by decide +kernel
theorem dX12_isNamed_22 : decode cX12_isNamed 22 = .ok (.invokevirtual 241, 3) := by decide +kernel
theorem dX12_isNamed_25 : decode cX12_isNamed 25 = .ok (.aload_n 0, 1) := by decide +kernel
theorem dX12_isNamed_26 : decode cX12_isNamed 26 = .ok (.getfield 59, 3) := by decide +kernel
theorem dX12_isNamed_29 : decode cX12_isNamed 29 = .ok (.iload_n 2, 1) := by decide +kernel
theorem dX12_isNamed_30 : decode cX12_isNamed 30 = .ok (.iload_n 3, 1) := by decide +kernel
theorem dX12_isNamed_31 : decode cX12_isNamed 31 = .ok (.iadd, 1) := by decide +kernel
theorem dX12_isNamed_32 : decode cX12_isNamed 32 = .ok (.iaload, 1) := by decide +kernel
theorem dX12_isNamed_33 : decode cX12_isNamed 33 = .ok (.if_icmp .ne 9, 3) := by decide +kernel
theorem dX12_isNamed_36 : decode cX12_isNamed 36 = .ok (.iinc 3 1, 3) := by decide +kernel
theorem dX12_isNamed_39 : decode cX12_isNamed 39 = .ok (.goto (-37), 3) := by decide +kernel
theorem dX12_isNamed_42 : decode cX12_isNamed 42 = .ok (.aload_n 0, 1) := by decide +kernel
theorem dX12_isNamed_43 : decode cX12_isNamed 43 = .ok (.getfield 59, 3) := by decide +kernel
theorem dX12_isNamed_46 : decode cX12_isNamed 46 = .ok (.iload_n 2, 1) := by decide +kernel
theorem dX12_isNamed_47 : decode cX12_isNamed 47 = .ok (.iload_n 3, 1) := by decide +kernel
theorem dX12_isNamed_48 : decode cX12_isNamed 48 = .ok (.iadd, 1) := by decide +kernel
theorem dX12_isNamed_49 : decode cX12_isNamed 49 = .ok (.iaload, 1) := by decide +kernel
theorem dX12_isNamed_50 : decode cX12_isNamed 50 = .ok (.ifCond .ne 22, 3) := by decide +kernel
theorem dX12_isNamed_53 : decode cX12_isNamed 53 = .ok (.aload_n 0, 1) := by decide +kernel
theorem dX12_isNamed_54 : decode cX12_isNamed 54 = .ok (.aload_n 0, 1) := by decide +kernel
theorem dX12_isNamed_55 : decode cX12_isNamed 55 = .ok (.getfield 50, 3) := by decide +kernel
theorem dX12_isNamed_58 : decode cX12_isNamed 58 = .ok (.iload_n 1, 1) := by decide +kernel
theorem dX12_isNamed_59 : decode cX12_isNamed 59 = .ok (.iaload, 1) := by decide +kernel
theorem dX12_isNamed_60 : decode cX12_isNamed 60 = .ok (.iload_n 3, 1) := by decide +kernel
theorem dX12_isNamed_61 : decode cX12_isNamed 61 = .ok (.iadd, 1) := by decide +kernel
theorem dX12_isNamed_62 : decode cX12_isNamed 62 = .ok (.invokevirtual 241, 3) := by decide +kernel
theorem dX12_isNamed_65 : decode cX12_isNamed 65 = .ok (.ifCond .ne 7, 3) := by decide +kernel
theorem dX12_isNamed_68 : decode cX12_isNamed 68 = .ok (.iconst 1, 1) := by decide +kernel
theorem dX12_isNamed_69 : decode cX12_isNamed 69 = .ok (.goto 4, 3) := by decide +kernel
theorem dX12_isNamed_72 : decode cX12_isNamed 72 = .ok (.iconst 0, 1) := by decide +kernel
theorem dX12_isNamed_73 : decode cX12_isNamed 73 = .ok (.ireturn, 1) := by decide +kernel
theorem dX12_endOf_0 : decode cX12_endOf 0 = .ok (.aload_n 0, 1) := by decide +kernel
theorem dX12_endOf_1 : decode cX12_endOf 1 = .ok (.getfield 53, 3) := by decide +kernel
theorem dX12_endOf_4 : decode cX12_endOf 4 = .ok (.iload_n 1, 1) := by decide +kernel
theorem dX12_endOf_5 : decode cX12_endOf 5 = .ok (.iaload, 1) := by decide +kernel
theorem dX12_endOf_6 : decode cX12_endOf 6 = .ok (.aload_n 0, 1) := by decide +kernel
theorem dX12_endOf_7 : decode cX12_endOf 7 = .ok (.getfield 56, 3) := by decide +kernel
theorem dX12_endOf_10 : decode cX12_endOf 10 = .ok (.iload_n 1, 1) := by decide +kernel
theorem dX12_endOf_11 : decode cX12_endOf 11 = .ok (.iaload, 1) := by decide +kernel
theorem dX12_endOf_12 : decode cX12_endOf 12 = .ok (.iadd, 1) := by decide +kernel
theorem dX12_endOf_13 : decode cX12_endOf 13 = .ok (.ireturn, 1) := by decide +kernel
theorem dX12_symbols_0 : decode cX12_symbols 0 = .ok (.aload_n 0, 1) := by decide +kernel
theorem dX12_symbols_1 : decode cX12_symbols 1 = .ok (.getfield 56, 3) := by decide +kernel
theorem dX12_symbols_4 : decode cX12_symbols 4 = .ok (.iconst 0, 1) := by decide +kernel
theorem dX12_symbols_5 : decode cX12_symbols 5 = .ok (.iaload, 1) := by decide +kernel
theorem dX12_symbols_6 : decode cX12_symbols 6 = .ok (.bipush 24, 2) := by decide +kernel
theorem dX12_symbols_8 : decode cX12_symbols 8 = .ok (.idiv, 1) := by decide +kernel
theorem dX12_symbols_9 : decode cX12_symbols 9 = .ok (.istore_n 1, 1) := by decide +kernel
theorem dX12_symbols_10 : decode cX12_symbols 10 = .ok (.iconst 0, 1) := by decide +kernel
theorem dX12_symbols_11 : decode cX12_symbols 11 = .ok (.istore_n 2, 1) := by decide +kernel
theorem dX12_symbols_12 : decode cX12_symbols 12 = .ok (.iload_n 2, 1) := by decide +kernel
theorem dX12_symbols_13 : decode cX12_symbols 13 = .ok (.iload_n 1, 1) := by decide +kernel
theorem dX12_symbols_14 : decode cX12_symbols 14 = .ok (.if_icmp .ge 31, 3) := by decide +kernel
theorem dX12_symbols_17 : decode cX12_symbols 17 = .ok (.aload_n 0, 1) := by decide +kernel
theorem dX12_symbols_18 : decode cX12_symbols 18 = .ok (.invokevirtual 245, 3) := by decide +kernel
theorem dX12_symbols_21 : decode cX12_symbols 21 = .ok (.ifCond .eq 24, 3) := by decide +kernel
theorem dX12_symbols_24 : decode cX12_symbols 24 = .ok (.aload_n 0, 1) := by decide +kernel
theorem dX12_symbols_25 : decode cX12_symbols 25 = .ok (.aload_n 0, 1) := by decide +kernel
theorem dX12_symbols_26 : decode cX12_symbols 26 = .ok (.getfield 53, 3) := by decide +kernel
theorem dX12_symbols_29 : decode cX12_symbols 29 = .ok (.iconst 0, 1) := by decide +kernel
theorem dX12_symbols_30 : decode cX12_symbols 30 = .ok (.iaload, 1) := by decide +kernel
theorem dX12_symbols_31 : decode cX12_symbols 31 = .ok (.bipush 24, 2) := by decide +kernel
theorem dX12_symbols_33 : decode cX12_symbols 33 = .ok (.iload_n 2, 1) := by decide +kernel
theorem dX12_symbols_34 : decode cX12_symbols 34 = .ok (.imul, 1) := by decide +kernel
theorem dX12_symbols_35 : decode cX12_symbols 35 = .ok (.iadd, 1) := by decide +kernel
theorem dX12_symbols_36 : decode cX12_symbols 36 = .ok (.invokevirtual 295, 3) := by decide +kernel
theorem dX12_symbols_39 : decode cX12_symbols 39 = .ok (.iinc 2 1, 3) := by decide +kernel
theorem dX12_symbols_42 : decode cX12_symbols 42 = .ok (.goto (-30), 3) := by decide +kernel
theorem dX12_symbols_45 : decode cX12_symbols 45 = .ok (.aload_n 0, 1) := by decide +kernel
theorem dX12_symbols_46 : decode cX12_symbols 46 = .ok (.invokevirtual 245, 3) := by decide +kernel
theorem dX12_symbols_49 : decode cX12_symbols 49 = .ok (.ifCond .eq 31, 3) := by decide +kernel
theorem dX12_symbols_52 : decode cX12_symbols 52 = .ok (.aload_n 0, 1) := by decide +kernel
theorem dX12_symbols_53 : decode cX12_symbols 53 = .ok (.getfield 56, 3) := by decide +kernel
theorem dX12_symbols_56 : decode cX12_symbols 56 = .ok (.iconst 0, 1) := by decide +kernel
theorem dX12_symbols_57 : decode cX12_symbols 57 = .ok (.iaload, 1) := by decide +kernel
theorem dX12_symbols_58 : decode cX12_symbols 58 = .ok (.bipush 24, 2) := by decide +kernel
theorem dX12_symbols_60 : decode cX12_symbols 60 = .ok (.irem, 1) := by decide +kernel
theorem dX12_symbols_61 : decode cX12_symbols 61 = .ok (.ifCond .eq 19, 3) := by decide +kernel
theorem dX12_symbols_64 : decode cX12_symbols 64 = .ok (.aload_n 0, 1) := by decide +kernel
theorem dX12_symbols_65 : decode cX12_symbols 65 = .ok (.iconst 1, 1) := by decide +kernel
theorem dX12_symbols_66 : decode cX12_symbols 66 = .ok (.aload_n 0, 1) := by decide +kernel
theorem dX12_symbols_67 : decode cX12_symbols 67 = .ok (.getfield 53, 3) := by decide +kernel
theorem dX12_symbols_70 : decode cX12_symbols 70 = .ok (.iconst 0, 1) := by decide +kernel
theorem dX12_symbols_71 : decode cX12_symbols 71 = .ok (.iaload, 1) := by decide +kernel
theorem dX12_symbols_72 : decode cX12_symbols 72 = .ok (.bipush 24, 2) := by decide +kernel
theorem dX12_symbols_74 : decode cX12_symbols 74 = .ok (.iload_n 1, 1) := by decide +kernel
theorem dX12_symbols_75 : decode cX12_symbols 75 = .ok (.imul, 1) := by decide +kernel
theorem dX12_symbols_76 : decode cX12_symbols 76 = .ok (.iadd, 1) := by decide +kernel
theorem dX12_symbols_77 : decode cX12_symbols 77 = .ok (.invokevirtual 255, 3) := by decide +kernel
theorem dX12_symbols_80 : decode cX12_symbols 80 = .ok (.return_, 1) := by decide +kernel
theorem dX12_matter_0 : decode cX12_matter 0 = .ok (.aload_n 0, 1) := by decide +kernel
theorem dX12_matter_1 : decode cX12_matter 1 = .ok (.iload_n 1, 1) := by decide +kernel
theorem dX12_matter_2 : decode cX12_matter 2 = .ok (.bipush 8, 2) := by decide +kernel
theorem dX12_matter_4 : decode cX12_matter 4 = .ok (.iadd, 1) := by decide +kernel
theorem dX12_matter_5 : decode cX12_matter 5 = .ok (.bipush 8, 2) := by decide +kernel
theorem dX12_matter_7 : decode cX12_matter 7 = .ok (.invokevirtual 259, 3) := by decide +kernel
theorem dX12_matter_10 : decode cX12_matter 10 = .ok (.lstore_n 2, 1) := by decide +kernel
theorem dX12_matter_11 : decode cX12_matter 11 = .ok (.aload_n 0, 1) := by decide +kernel
theorem dX12_matter_12 : decode cX12_matter 12 = .ok (.iload_n 1, 1) := by decide +kernel
theorem dX12_matter_13 : decode cX12_matter 13 = .ok (.bipush 16, 2) := by decide +kernel
theorem dX12_matter_15 : decode cX12_matter 15 = .ok (.iadd, 1) := by decide +kernel
theorem dX12_matter_16 : decode cX12_matter 16 = .ok (.bipush 8, 2) := by decide +kernel
theorem dX12_matter_18 : decode cX12_matter 18 = .ok (.invokevirtual 259, 3) := by decide +kernel
theorem dX12_matter_21 : decode cX12_matter 21 = .ok (.lstore 4, 2) := by decide +kernel
theorem dX12_matter_23 : decode cX12_matter 23 = .ok (.aload_n 0, 1) := by decide +kernel
theorem dX12_matter_24 : decode cX12_matter 24 = .ok (.iload_n 1, 1) := by decide +kernel
theorem dX12_matter_25 : decode cX12_matter 25 = .ok (.iconst 4, 1) := by decide +kernel
theorem dX12_matter_26 : decode cX12_matter 26 = .ok (.iadd, 1) := by decide +kernel
theorem dX12_matter_27 : decode cX12_matter 27 = .ok (.invokevirtual 241, 3) := by decide +kernel
theorem dX12_matter_30 : decode cX12_matter 30 = .ok (.bipush 16, 2) := by decide +kernel
theorem dX12_matter_32 : decode cX12_matter 32 = .ok (.irem, 1) := by decide +kernel
theorem dX12_matter_33 : decode cX12_matter 33 = .ok (.iconst 2, 1) := by decide +kernel
theorem dX12_matter_34 : decode cX12_matter 34 = .ok (.if_icmp .ne 24, 3) := by decide +kernel
theorem dX12_matter_37 : decode cX12_matter 37 = .ok (.aload_n 0, 1) := by decide +kernel
theorem dX12_matter_38 : decode cX12_matter 38 = .ok (.iload_n 1, 1) := by decide +kernel
theorem dX12_matter_39 : decode cX12_matter 39 = .ok (.bipush 6, 2) := by decide +kernel
theorem dX12_matter_41 : decode cX12_matter 41 = .ok (.iadd, 1) := by decide +kernel
theorem dX12_matter_42 : decode cX12_matter 42 = .ok (.iconst 2, 1) := by decide +kernel
theorem dX12_matter_43 : decode cX12_matter 43 = .ok (.invokevirtual 259, 3) := by decide +kernel
theorem dX12_matter_46 : decode cX12_matter 46 = .ok (.lconst 0, 1) := by decide +kernel
theorem dX12_matter_47 : decode cX12_matter 47 = .ok (.lcmp, 1) := by decide +kernel
theorem dX12_matter_48 : decode cX12_matter 48 = .ok (.ifCond .eq 10, 3) := by decide +kernel
theorem dX12_matter_51 : decode cX12_matter 51 = .ok (.lload 4, 2) := by decide +kernel
theorem dX12_matter_53 : decode cX12_matter 53 = .ok (.lconst 0, 1) := by decide +kernel
theorem dX12_matter_54 : decode cX12_matter 54 = .ok (.lcmp, 1) := by decide +kernel
theorem dX12_matter_55 : decode cX12_matter 55 = .ok (.ifCond .ne 4, 3) := by decide +kernel
theorem dX12_matter_58 : decode cX12_matter 58 = .ok (.return_, 1) := by decide +kernel
theorem dX12_matter_59 : decode cX12_matter 59 = .ok (.lload_n 2, 1) := by decide +kernel
theorem dX12_matter_60 : decode cX12_matter 60 = .ok (.lconst 0, 1) := by decide +kernel
theorem dX12_matter_61 : decode cX12_matter 61 = .ok (.lcmp, 1) := by decide +kernel
theorem dX12_matter_62 : decode cX12_matter 62 = .ok (.ifCond .lt 19, 3) := by decide +kernel
theorem dX12_matter_65 : decode cX12_matter 65 = .ok (.lload 4, 2) := by decide +kernel
theorem dX12_matter_67 : decode cX12_matter 67 = .ok (.lconst 0, 1) := by decide +kernel
theorem dX12_matter_68 : decode cX12_matter 68 = .ok (.lcmp, 1) := by decide +kernel
theorem dX12_matter_69 : decode cX12_matter 69 = .ok (.ifCond .lt 12, 3) := by decide +kernel
theorem dX12_matter_72 : decode cX12_matter 72 = .ok (.lload_n 2, 1) := by decide +kernel
theorem dX12_matter_73 : decode cX12_matter 73 = .ok (.lload 4, 2) := by decide +kernel
theorem dX12_matter_75 : decode cX12_matter 75 = .ok (.ladd, 1) := by decide +kernel
theorem dX12_matter_76 : decode cX12_matter 76 = .ok (.lconst 0, 1) := by decide +kernel
theorem dX12_matter_77 : decode cX12_matter 77 = .ok (.lcmp, 1) := by decide +kernel
theorem dX12_matter_78 : decode cX12_matter 78 = .ok (.ifCond .ge 10, 3) := by decide +kernel
theorem dX12_matter_81 : decode cX12_matter 81 = .ok (.aload_n 0, 1) := by decide +kernel
theorem dX12_matter_82 : decode cX12_matter 82 = .ok (.iconst 2, 1) := by decide +kernel
theorem dX12_matter_83 : decode cX12_matter 83 = .ok (.iload_n 1, 1) := by decide +kernel
theorem dX12_matter_84 : decode cX12_matter 84 = .ok (.invokevirtual 255, 3) := by decide +kernel
theorem dX12_matter_87 : decode cX12_matter 87 = .ok (.return_, 1) := by decide +kernel
theorem dX12_matter_88 : decode cX12_matter 88 = .ok (.aload_n 0, 1) := by decide +kernel
theorem dX12_matter_89 : decode cX12_matter 89 = .ok (.iload_n 1, 1) := by decide +kernel
theorem dX12_matter_90 : decode cX12_matter 90 = .ok (.iconst 4, 1) := by decide +kernel
theorem dX12_matter_91 : decode cX12_matter 91 = .ok (.invokevirtual 259, 3) := by decide +kernel
theorem dX12_matter_94 : decode cX12_matter 94 = .ok (.lstore 6, 2) := by decide +kernel
theorem dX12_matter_96 : decode cX12_matter 96 = .ok (.lload 6, 2) := by decide +kernel
theorem dX12_matter_98 : decode cX12_matter 98 = .ok (.aload_n 0, 1) := by decide +kernel
theorem dX12_matter_99 : decode cX12_matter 99 = .ok (.getfield 56, 3) := by decide +kernel
theorem dX12_matter_102 : decode cX12_matter 102 = .ok (.iconst 1, 1) := by decide +kernel
theorem dX12_matter_103 : decode cX12_matter 103 = .ok (.iaload, 1) := by decide +kernel
theorem dX12_matter_104 : decode cX12_matter 104 = .ok (.i2l, 1) := by decide +kernel
theorem dX12_matter_105 : decode cX12_matter 105 = .ok (.lcmp, 1) := by decide +kernel
theorem dX12_matter_106 : decode cX12_matter 106 = .ok (.ifCond .lt 7, 3) := by decide +kernel
theorem dX12_matter_109 : decode cX12_matter 109 = .ok (.iconst (-1), 1) := by decide +kernel
theorem dX12_matter_110 : decode cX12_matter 110 = .ok (.goto 22, 3) := by decide +kernel
theorem dX12_matter_113 : decode cX12_matter 113 = .ok (.aload_n 0, 1) := by decide +kernel
theorem dX12_matter_114 : decode cX12_matter 114 = .ok (.aload_n 0, 1) := by decide +kernel
theorem dX12_matter_115 : decode cX12_matter 115 = .ok (.getfield 53, 3) := by decide +kernel
theorem dX12_matter_118 : decode cX12_matter 118 = .ok (.iconst 1, 1) := by decide +kernel
theorem dX12_matter_119 : decode cX12_matter 119 = .ok (.iaload, 1) := by decide +kernel
theorem dX12_matter_120 : decode cX12_matter 120 = .ok (.lload 6, 2) := by decide +kernel
theorem dX12_matter_122 : decode cX12_matter 122 = .ok (.l2i, 1) := by decide +kernel
theorem dX12_matter_123 : decode cX12_matter 123 = .ok (.iadd, 1) := by decide +kernel
theorem dX12_matter_124 : decode cX12_matter 124 = .ok (.aload_n 0, 1) := by decide +kernel
theorem dX12_matter_125 : decode cX12_matter 125 = .ok (.iconst 1, 1) := by decide +kernel
theorem dX12_matter_126 : decode cX12_matter 126 = .ok (.invokevirtual 299, 3) := by decide +kernel
theorem dX12_matter_129 : decode cX12_matter 129 = .ok (.invokevirtual 269, 3) := by decide +kernel
theorem dX12_matter_132 : decode cX12_matter 132 = .ok (.istore 8, 2) := by decide +kernel
theorem dX12_matter_134 : decode cX12_matter 134 = .ok (.iload 8, 2) := by decide +kernel
theorem dX12_matter_136 : decode cX12_matter 136 = .ok (.iconst (-1), 1) := by decide +kernel
theorem dX12_matter_137 : decode cX12_matter 137 = .ok (.if_icmp .ne 27, 3) := by decide +kernel
theorem dX12_matter_140 : decode cX12_matter 140 = .ok (.aload_n 0, 1) := by decide +kernel
theorem dX12_matter_141 : decode cX12_matter 141 = .ok (.lload 6, 2) := by decide +kernel
theorem dX12_matter_143 : decode cX12_matter 143 = .ok (.aload_n 0, 1) := by decide +kernel
theorem dX12_matter_144 : decode cX12_matter 144 = .ok (.getfield 56, 3) := by decide +kernel
theorem dX12_matter_147 : decode cX12_matter 147 = .ok (.iconst 1, 1) := by decide +kernel
theorem dX12_matter_148 : decode cX12_matter 148 = .ok (.iaload, 1) := by decide +kernel
theorem dX12_matter_149 : decode cX12_matter 149 = .ok (.i2l, 1) := by decide +kernel
theorem dX12_matter_150 : decode cX12_matter 150 = .ok (.lcmp, 1) := by decide +kernel
theorem dX12_matter_151 : decode cX12_matter 151 = .ok (.ifCond .lt 7, 3) := by decide +kernel
theorem dX12_matter_154 : decode cX12_matter 154 = .ok (.iconst 3, 1) := by decide +kernel
theorem dX12_matter_155 : decode cX12_matter 155 = .ok (.goto 4, 3) := by decide +kernel
theorem dX12_matter_158 : decode cX12_matter 158 = .ok (.iconst 1, 1) := by decide +kernel
theorem dX12_matter_159 : decode cX12_matter 159 = .ok (.iload_n 1, 1) := by decide +kernel
theorem dX12_matter_160 : decode cX12_matter 160 = .ok (.invokevirtual 255, 3) := by decide +kernel
theorem dX12_matter_163 : decode cX12_matter 163 = .ok (.return_, 1) := by decide +kernel
theorem dX12_matter_164 : decode cX12_matter 164 = .ok (.aload_n 0, 1) := by decide +kernel
theorem dX12_matter_165 : decode cX12_matter 165 = .ok (.getfield 26, 3) := by decide +kernel
theorem dX12_matter_168 : decode cX12_matter 168 = .ok (.aload_n 0, 1) := by decide +kernel
theorem dX12_matter_169 : decode cX12_matter 169 = .ok (.getfield 17, 3) := by decide +kernel
theorem dX12_matter_172 : decode cX12_matter 172 = .ok (.iaload, 1) := by decide +kernel
theorem dX12_matter_173 : decode cX12_matter 173 = .ok (.bipush 100, 2) := by decide +kernel
theorem dX12_matter_175 : decode cX12_matter 175 = .ok (.if_icmp .ne 10, 3) := by decide +kernel
theorem dX12_matter_178 : decode cX12_matter 178 = .ok (.aload_n 0, 1) := by decide +kernel
theorem dX12_matter_179 : decode cX12_matter 179 = .ok (.iconst 4, 1) := by decide +kernel
theorem dX12_matter_180 : decode cX12_matter 180 = .ok (.iload_n 1, 1) := by decide +kernel
theorem dX12_matter_181 : decode cX12_matter 181 = .ok (.invokevirtual 255, 3) := by decide +kernel
theorem dX12_matter_184 : decode cX12_matter 184 = .ok (.return_, 1) := by decide +kernel
theorem dX12_matter_185 : decode cX12_matter 185 = .ok (.bipush 100, 2) := by decide +kernel
theorem dX12_matter_187 : decode cX12_matter 187 = .ok (.aload_n 0, 1) := by decide +kernel
theorem dX12_matter_188 : decode cX12_matter 188 = .ok (.getfield 17, 3) := by decide +kernel
theorem dX12_matter_191 : decode cX12_matter 191 = .ok (.imul, 1) := by decide +kernel
theorem dX12_matter_192 : decode cX12_matter 192 = .ok (.aload_n 0, 1) := by decide +kernel
theorem dX12_matter_193 : decode cX12_matter 193 = .ok (.getfield 26, 3) := by decide +kernel
theorem dX12_matter_196 : decode cX12_matter 196 = .ok (.aload_n 0, 1) := by decide +kernel
theorem dX12_matter_197 : decode cX12_matter 197 = .ok (.getfield 17, 3) := by decide +kernel
theorem dX12_matter_200 : decode cX12_matter 200 = .ok (.iaload, 1) := by decide +kernel
theorem dX12_matter_201 : decode cX12_matter 201 = .ok (.iadd, 1) := by decide +kernel
theorem dX12_matter_202 : decode cX12_matter 202 = .ok (.istore 9, 2) := by decide +kernel
theorem dX12_matter_204 : decode cX12_matter 204 = .ok (.aload_n 0, 1) := by decide +kernel
theorem dX12_matter_205 : decode cX12_matter 205 = .ok (.getfield 65, 3) := by decide +kernel
theorem dX12_matter_208 : decode cX12_matter 208 = .ok (.iload 9, 2) := by decide +kernel
theorem dX12_matter_210 : decode cX12_matter 210 = .ok (.lload_n 2, 1) := by decide +kernel
theorem dX12_matter_211 : decode cX12_matter 211 = .ok (.lastore, 1) := by decide +kernel
theorem dX12_matter_212 : decode cX12_matter 212 = .ok (.aload_n 0, 1) := by decide +kernel
theorem dX12_matter_213 : decode cX12_matter 213 = .ok (.getfield 69, 3) := by decide +kernel
theorem dX12_matter_216 : decode cX12_matter 216 = .ok (.iload 9, 2) := by decide +kernel
theorem dX12_matter_218 : decode cX12_matter 218 = .ok (.lload 4, 2) := by decide +kernel
theorem dX12_matter_220 : decode cX12_matter 220 = .ok (.lastore, 1) := by decide +kernel
theorem dX12_matter_221 : decode cX12_matter 221 = .ok (.aload_n 0, 1) := by decide +kernel
theorem dX12_matter_222 : decode cX12_matter 222 = .ok (.getfield 72, 3) := by decide +kernel
theorem dX12_matter_225 : decode cX12_matter 225 = .ok (.iload 9, 2) := by decide +kernel
theorem dX12_matter_227 : decode cX12_matter 227 = .ok (.aload_n 0, 1) := by decide +kernel
theorem dX12_matter_228 : decode cX12_matter 228 = .ok (.getfield 53, 3) := by decide +kernel
theorem dX12_matter_231 : decode cX12_matter 231 = .ok (.iconst 1, 1) := by decide +kernel
theorem dX12_matter_232 : decode cX12_matter 232 = .ok (.iaload, 1) := by decide +kernel
theorem dX12_matter_233 : decode cX12_matter 233 = .ok (.lload 6, 2) := by decide +kernel
theorem dX12_matter_235 : decode cX12_matter 235 = .ok (.l2i, 1) := by decide +kernel
theorem dX12_matter_236 : decode cX12_matter 236 = .ok (.iadd, 1) := by decide +kernel
theorem dX12_matter_237 : decode cX12_matter 237 = .ok (.iastore, 1) := by decide +kernel
theorem dX12_matter_238 : decode cX12_matter 238 = .ok (.aload_n 0, 1) := by decide +kernel
theorem dX12_matter_239 : decode cX12_matter 239 = .ok (.getfield 75, 3) := by decide +kernel
theorem dX12_matter_242 : decode cX12_matter 242 = .ok (.iload 9, 2) := by decide +kernel
theorem dX12_matter_244 : decode cX12_matter 244 = .ok (.iload 8, 2) := by decide +kernel
theorem dX12_matter_246 : decode cX12_matter 246 = .ok (.iastore, 1) := by decide +kernel
theorem dX12_matter_247 : decode cX12_matter 247 = .ok (.aload_n 0, 1) := by decide +kernel
theorem dX12_matter_248 : decode cX12_matter 248 = .ok (.getfield 26, 3) := by decide +kernel
theorem dX12_matter_251 : decode cX12_matter 251 = .ok (.aload_n 0, 1) := by decide +kernel
theorem dX12_matter_252 : decode cX12_matter 252 = .ok (.getfield 17, 3) := by decide +kernel
theorem dX12_matter_255 : decode cX12_matter 255 = .ok (.dup2, 1) := by decide +kernel
theorem dX12_matter_256 : decode cX12_matter 256 = .ok (.iaload, 1) := by decide +kernel
theorem dX12_matter_257 : decode cX12_matter 257 = .ok (.iconst 1, 1) := by decide +kernel
theorem dX12_matter_258 : decode cX12_matter 258 = .ok (.iadd, 1) := by decide +kernel
theorem dX12_matter_259 : decode cX12_matter 259 = .ok (.iastore, 1) := by decide +kernel
theorem dX12_matter_260 : decode cX12_matter 260 = .ok (.return_, 1) := by decide +kernel
theorem dX12_lengthIn_0 : decode cX12_lengthIn 0 = .ok (.aload_n 0, 1) := by decide +kernel
theorem dX12_lengthIn_1 : decode cX12_lengthIn 1 = .ok (.getfield 249, 3) := by decide +kernel
theorem dX12_lengthIn_4 : decode cX12_lengthIn 4 = .ok (.istore_n 2, 1) := by decide +kernel
theorem dX12_lengthIn_5 : decode cX12_lengthIn 5 = .ok (.aload_n 0, 1) := by decide +kernel
theorem dX12_lengthIn_6 : decode cX12_lengthIn 6 = .ok (.iconst 4, 1) := by decide +kernel
theorem dX12_lengthIn_7 : decode cX12_lengthIn 7 = .ok (.invokevirtual 273, 3) := by decide +kernel
theorem dX12_lengthIn_10 : decode cX12_lengthIn 10 = .ok (.lstore_n 3, 1) := by decide +kernel
theorem dX12_lengthIn_11 : decode cX12_lengthIn 11 = .ok (.aload_n 0, 1) := by decide +kernel
theorem dX12_lengthIn_12 : decode cX12_lengthIn 12 = .ok (.invokevirtual 245, 3) := by decide +kernel
theorem dX12_lengthIn_15 : decode cX12_lengthIn 15 = .ok (.ifCond .ne 5, 3) := by decide +kernel
theorem dX12_lengthIn_18 : decode cX12_lengthIn 18 = .ok (.iconst 0, 1) := by decide +kernel
theorem dX12_lengthIn_19 : decode cX12_lengthIn 19 = .ok (.ireturn, 1) := by decide +kernel
theorem dX12_lengthIn_20 : decode cX12_lengthIn 20 = .ok (.lload_n 3, 1) := by decide +kernel
theorem dX12_lengthIn_21 : decode cX12_lengthIn 21 = .ok (.ldc2_w 302, 3) := by decide +kernel
theorem dX12_lengthIn_24 : decode cX12_lengthIn 24 = .ok (.lcmp, 1) := by decide +kernel
theorem dX12_lengthIn_25 : decode cX12_lengthIn 25 = .ok (.ifCond .lt 12, 3) := by decide +kernel
theorem dX12_lengthIn_28 : decode cX12_lengthIn 28 = .ok (.aload_n 0, 1) := by decide +kernel
theorem dX12_lengthIn_29 : decode cX12_lengthIn 29 = .ok (.iconst 2, 1) := by decide +kernel
theorem dX12_lengthIn_30 : decode cX12_lengthIn 30 = .ok (.iload_n 2, 1) := by decide +kernel
theorem dX12_lengthIn_31 : decode cX12_lengthIn 31 = .ok (.invokevirtual 255, 3) := by decide +kernel
theorem dX12_lengthIn_34 : decode cX12_lengthIn 34 = .ok (.goto 21, 3) := by decide +kernel
theorem dX12_lengthIn_37 : decode cX12_lengthIn 37 = .ok (.lload_n 3, 1) := by decide +kernel
theorem dX12_lengthIn_38 : decode cX12_lengthIn 38 = .ok (.iload_n 1, 1) := by decide +kernel
theorem dX12_lengthIn_39 : decode cX12_lengthIn 39 = .ok (.aload_n 0, 1) := by decide +kernel
theorem dX12_lengthIn_40 : decode cX12_lengthIn 40 = .ok (.getfield 249, 3) := by decide +kernel
theorem dX12_lengthIn_43 : decode cX12_lengthIn 43 = .ok (.isub, 1) := by decide +kernel
theorem dX12_lengthIn_44 : decode cX12_lengthIn 44 = .ok (.i2l, 1) := by decide +kernel
theorem dX12_lengthIn_45 : decode cX12_lengthIn 45 = .ok (.lcmp, 1) := by decide +kernel
theorem dX12_lengthIn_46 : decode cX12_lengthIn 46 = .ok (.ifCond .le 9, 3) := by decide +kernel
theorem dX12_lengthIn_49 : decode cX12_lengthIn 49 = .ok (.aload_n 0, 1) := by decide +kernel
theorem dX12_lengthIn_50 : decode cX12_lengthIn 50 = .ok (.iconst 1, 1) := by decide +kernel
theorem dX12_lengthIn_51 : decode cX12_lengthIn 51 = .ok (.iload_n 2, 1) := by decide +kernel
theorem dX12_lengthIn_52 : decode cX12_lengthIn 52 = .ok (.invokevirtual 255, 3) := by decide +kernel
theorem dX12_lengthIn_55 : decode cX12_lengthIn 55 = .ok (.aload_n 0, 1) := by decide +kernel
theorem dX12_lengthIn_56 : decode cX12_lengthIn 56 = .ok (.invokevirtual 245, 3) := by decide +kernel
theorem dX12_lengthIn_59 : decode cX12_lengthIn 59 = .ok (.ifCond .eq 13, 3) := by decide +kernel
theorem dX12_lengthIn_62 : decode cX12_lengthIn 62 = .ok (.aload_n 0, 1) := by decide +kernel
theorem dX12_lengthIn_63 : decode cX12_lengthIn 63 = .ok (.getfield 249, 3) := by decide +kernel
theorem dX12_lengthIn_66 : decode cX12_lengthIn 66 = .ok (.lload_n 3, 1) := by decide +kernel
theorem dX12_lengthIn_67 : decode cX12_lengthIn 67 = .ok (.l2i, 1) := by decide +kernel
theorem dX12_lengthIn_68 : decode cX12_lengthIn 68 = .ok (.iadd, 1) := by decide +kernel
theorem dX12_lengthIn_69 : decode cX12_lengthIn 69 = .ok (.goto 4, 3) := by decide +kernel
theorem dX12_lengthIn_72 : decode cX12_lengthIn 72 = .ok (.iconst 0, 1) := by decide +kernel
theorem dX12_lengthIn_73 : decode cX12_lengthIn 73 = .ok (.ireturn, 1) := by decide +kernel
theorem dX12_units_0 : decode cX12_units 0 = .ok (.aload_n 0, 1) := by decide +kernel
theorem dX12_units_1 : decode cX12_units 1 = .ok (.aload_n 0, 1) := by decide +kernel
theorem dX12_units_2 : decode cX12_units 2 = .ok (.getfield 53, 3) := by decide +kernel
theorem dX12_units_5 : decode cX12_units 5 = .ok (.iconst 3, 1) := by decide +kernel
theorem dX12_units_6 : decode cX12_units 6 = .ok (.iaload, 1) := by decide +kernel
theorem dX12_units_7 : decode cX12_units 7 = .ok (.putfield 249, 3) := by decide +kernel
theorem dX12_units_10 : decode cX12_units 10 = .ok (.aload_n 0, 1) := by decide +kernel
theorem dX12_units_11 : decode cX12_units 11 = .ok (.invokevirtual 245, 3) := by decide +kernel
theorem dX12_units_14 : decode cX12_units 14 = .ok (.ifCond .eq 93, 3) := by decide +kernel
theorem dX12_units_17 : decode cX12_units 17 = .ok (.aload_n 0, 1) := by decide +kernel
theorem dX12_units_18 : decode cX12_units 18 = .ok (.getfield 249, 3) := by decide +kernel
theorem dX12_units_21 : decode cX12_units 21 = .ok (.aload_n 0, 1) := by decide +kernel
theorem dX12_units_22 : decode cX12_units 22 = .ok (.iconst 3, 1) := by decide +kernel
theorem dX12_units_23 : decode cX12_units 23 = .ok (.invokevirtual 299, 3) := by decide +kernel
theorem dX12_units_26 : decode cX12_units 26 = .ok (.if_icmp .ge 81, 3) := by decide +kernel
theorem dX12_units_29 : decode cX12_units 29 = .ok (.aload_n 0, 1) := by decide +kernel
theorem dX12_units_30 : decode cX12_units 30 = .ok (.getfield 249, 3) := by decide +kernel
theorem dX12_units_33 : decode cX12_units 33 = .ok (.istore_n 1, 1) := by decide +kernel
theorem dX12_units_34 : decode cX12_units 34 = .ok (.aload_n 0, 1) := by decide +kernel
theorem dX12_units_35 : decode cX12_units 35 = .ok (.aload_n 0, 1) := by decide +kernel
theorem dX12_units_36 : decode cX12_units 36 = .ok (.iconst 3, 1) := by decide +kernel
theorem dX12_units_37 : decode cX12_units 37 = .ok (.invokevirtual 299, 3) := by decide +kernel
theorem dX12_units_40 : decode cX12_units 40 = .ok (.putfield 252, 3) := by decide +kernel
theorem dX12_units_43 : decode cX12_units 43 = .ok (.aload_n 0, 1) := by decide +kernel
theorem dX12_units_44 : decode cX12_units 44 = .ok (.aload_n 0, 1) := by decide +kernel
theorem dX12_units_45 : decode cX12_units 45 = .ok (.iconst 3, 1) := by decide +kernel
theorem dX12_units_46 : decode cX12_units 46 = .ok (.invokevirtual 299, 3) := by decide +kernel
theorem dX12_units_49 : decode cX12_units 49 = .ok (.invokevirtual 304, 3) := by decide +kernel
theorem dX12_units_52 : decode cX12_units 52 = .ok (.istore_n 2, 1) := by decide +kernel
theorem dX12_units_53 : decode cX12_units 53 = .ok (.aload_n 0, 1) := by decide +kernel
theorem dX12_units_54 : decode cX12_units 54 = .ok (.invokevirtual 245, 3) := by decide +kernel
theorem dX12_units_57 : decode cX12_units 57 = .ok (.ifCond .eq 23, 3) := by decide +kernel
theorem dX12_units_60 : decode cX12_units 60 = .ok (.aload_n 0, 1) := by decide +kernel
theorem dX12_units_61 : decode cX12_units 61 = .ok (.getfield 29, 3) := by decide +kernel
theorem dX12_units_64 : decode cX12_units 64 = .ok (.aload_n 0, 1) := by decide +kernel
theorem dX12_units_65 : decode cX12_units 65 = .ok (.getfield 17, 3) := by decide +kernel
theorem dX12_units_68 : decode cX12_units 68 = .ok (.iaload, 1) := by decide +kernel
theorem dX12_units_69 : decode cX12_units 69 = .ok (.bipush 20, 2) := by decide +kernel
theorem dX12_units_71 : decode cX12_units 71 = .ok (.if_icmp .ne 9, 3) := by decide +kernel
theorem dX12_units_74 : decode cX12_units 74 = .ok (.aload_n 0, 1) := by decide +kernel
theorem dX12_units_75 : decode cX12_units 75 = .ok (.iconst 4, 1) := by decide +kernel
theorem dX12_units_76 : decode cX12_units 76 = .ok (.iload_n 1, 1) := by decide +kernel
theorem dX12_units_77 : decode cX12_units 77 = .ok (.invokevirtual 255, 3) := by decide +kernel
theorem dX12_units_80 : decode cX12_units 80 = .ok (.aload_n 0, 1) := by decide +kernel
theorem dX12_units_81 : decode cX12_units 81 = .ok (.invokevirtual 245, 3) := by decide +kernel
theorem dX12_units_84 : decode cX12_units 84 = .ok (.ifCond .ne 4, 3) := by decide +kernel
theorem dX12_units_87 : decode cX12_units 87 = .ok (.return_, 1) := by decide +kernel
theorem dX12_units_88 : decode cX12_units 88 = .ok (.aload_n 0, 1) := by decide +kernel
theorem dX12_units_89 : decode cX12_units 89 = .ok (.iload_n 2, 1) := by decide +kernel
theorem dX12_units_90 : decode cX12_units 90 = .ok (.putfield 252, 3) := by decide +kernel
theorem dX12_units_93 : decode cX12_units 93 = .ok (.aload_n 0, 1) := by decide +kernel
theorem dX12_units_94 : decode cX12_units 94 = .ok (.iload_n 1, 1) := by decide +kernel
theorem dX12_units_95 : decode cX12_units 95 = .ok (.iload_n 2, 1) := by decide +kernel
theorem dX12_units_96 : decode cX12_units 96 = .ok (.invokevirtual 307, 3) := by decide +kernel
theorem dX12_units_99 : decode cX12_units 99 = .ok (.aload_n 0, 1) := by decide +kernel
theorem dX12_units_100 : decode cX12_units 100 = .ok (.iload_n 2, 1) := by decide +kernel
theorem dX12_units_101 : decode cX12_units 101 = .ok (.putfield 249, 3) := by decide +kernel
theorem dX12_units_104 : decode cX12_units 104 = .ok (.goto (-94), 3) := by decide +kernel
theorem dX12_units_107 : decode cX12_units 107 = .ok (.return_, 1) := by decide +kernel
theorem dX12_unit_0 : decode cX12_unit 0 = .ok (.aload_n 0, 1) := by decide +kernel
theorem dX12_unit_1 : decode cX12_unit 1 = .ok (.iconst 2, 1) := by decide +kernel
theorem dX12_unit_2 : decode cX12_unit 2 = .ok (.iconst 5, 1) := by decide +kernel
theorem dX12_unit_3 : decode cX12_unit 3 = .ok (.invokevirtual 310, 3) := by decide +kernel
theorem dX12_unit_6 : decode cX12_unit 6 = .ok (.aload_n 0, 1) := by decide +kernel
theorem dX12_unit_7 : decode cX12_unit 7 = .ok (.iconst 1, 1) := by decide +kernel
theorem dX12_unit_8 : decode cX12_unit 8 = .ok (.iconst 1, 1) := by decide +kernel
theorem dX12_unit_9 : decode cX12_unit 9 = .ok (.invokevirtual 310, 3) := by decide +kernel
theorem dX12_unit_12 : decode cX12_unit 12 = .ok (.aload_n 0, 1) := by decide +kernel
theorem dX12_unit_13 : decode cX12_unit 13 = .ok (.iconst 1, 1) := by decide +kernel
theorem dX12_unit_14 : decode cX12_unit 14 = .ok (.bipush 8, 2) := by decide +kernel
theorem dX12_unit_16 : decode cX12_unit 16 = .ok (.invokevirtual 310, 3) := by decide +kernel
theorem dX12_unit_19 : decode cX12_unit 19 = .ok (.aload_n 0, 1) := by decide +kernel
theorem dX12_unit_20 : decode cX12_unit 20 = .ok (.getfield 249, 3) := by decide +kernel
theorem dX12_unit_23 : decode cX12_unit 23 = .ok (.istore_n 3, 1) := by decide +kernel
theorem dX12_unit_24 : decode cX12_unit 24 = .ok (.aload_n 0, 1) := by decide +kernel
theorem dX12_unit_25 : decode cX12_unit 25 = .ok (.iconst 4, 1) := by decide +kernel
theorem dX12_unit_26 : decode cX12_unit 26 = .ok (.invokevirtual 273, 3) := by decide +kernel
theorem dX12_unit_29 : decode cX12_unit 29 = .ok (.lstore 4, 2) := by decide +kernel
theorem dX12_unit_31 : decode cX12_unit 31 = .ok (.aload_n 0, 1) := by decide +kernel
theorem dX12_unit_32 : decode cX12_unit 32 = .ok (.invokevirtual 245, 3) := by decide +kernel
theorem dX12_unit_35 : decode cX12_unit 35 = .ok (.ifCond .eq 22, 3) := by decide +kernel
theorem dX12_unit_38 : decode cX12_unit 38 = .ok (.lload 4, 2) := by decide +kernel
theorem dX12_unit_40 : decode cX12_unit 40 = .ok (.aload_n 0, 1) := by decide +kernel
theorem dX12_unit_41 : decode cX12_unit 41 = .ok (.getfield 56, 3) := by decide +kernel
theorem dX12_unit_44 : decode cX12_unit 44 = .ok (.iconst 2, 1) := by decide +kernel
theorem dX12_unit_45 : decode cX12_unit 45 = .ok (.iaload, 1) := by decide +kernel
theorem dX12_unit_46 : decode cX12_unit 46 = .ok (.i2l, 1) := by decide +kernel
theorem dX12_unit_47 : decode cX12_unit 47 = .ok (.lcmp, 1) := by decide +kernel
theorem dX12_unit_48 : decode cX12_unit 48 = .ok (.ifCond .lt 9, 3) := by decide +kernel
theorem dX12_unit_51 : decode cX12_unit 51 = .ok (.aload_n 0, 1) := by decide +kernel
theorem dX12_unit_52 : decode cX12_unit 52 = .ok (.iconst 3, 1) := by decide +kernel
theorem dX12_unit_53 : decode cX12_unit 53 = .ok (.iload_n 3, 1) := by decide +kernel
theorem dX12_unit_54 : decode cX12_unit 54 = .ok (.invokevirtual 255, 3) := by decide +kernel
theorem dX12_unit_57 : decode cX12_unit 57 = .ok (.aload_n 0, 1) := by decide +kernel
theorem dX12_unit_58 : decode cX12_unit 58 = .ok (.invokevirtual 245, 3) := by decide +kernel
theorem dX12_unit_61 : decode cX12_unit 61 = .ok (.ifCond .ne 4, 3) := by decide +kernel
theorem dX12_unit_64 : decode cX12_unit 64 = .ok (.return_, 1) := by decide +kernel
theorem dX12_unit_65 : decode cX12_unit 65 = .ok (.aload_n 0, 1) := by decide +kernel
theorem dX12_unit_66 : decode cX12_unit 66 = .ok (.getfield 249, 3) := by decide +kernel
theorem dX12_unit_69 : decode cX12_unit 69 = .ok (.istore 6, 2) := by decide +kernel
theorem dX12_unit_71 : decode cX12_unit 71 = .ok (.aload_n 0, 1) := by decide +kernel
theorem dX12_unit_72 : decode cX12_unit 72 = .ok (.aload_n 0, 1) := by decide +kernel
theorem dX12_unit_73 : decode cX12_unit 73 = .ok (.getfield 53, 3) := by decide +kernel
theorem dX12_unit_76 : decode cX12_unit 76 = .ok (.iconst 2, 1) := by decide +kernel
theorem dX12_unit_77 : decode cX12_unit 77 = .ok (.iaload, 1) := by decide +kernel
theorem dX12_unit_78 : decode cX12_unit 78 = .ok (.lload 4, 2) := by decide +kernel
theorem dX12_unit_80 : decode cX12_unit 80 = .ok (.l2i, 1) := by decide +kernel
theorem dX12_unit_81 : decode cX12_unit 81 = .ok (.iadd, 1) := by decide +kernel
theorem dX12_unit_82 : decode cX12_unit 82 = .ok (.putfield 249, 3) := by decide +kernel
theorem dX12_unit_85 : decode cX12_unit 85 = .ok (.aload_n 0, 1) := by decide +kernel
theorem dX12_unit_86 : decode cX12_unit 86 = .ok (.aload_n 0, 1) := by decide +kernel
theorem dX12_unit_87 : decode cX12_unit 87 = .ok (.iconst 2, 1) := by decide +kernel
theorem dX12_unit_88 : decode cX12_unit 88 = .ok (.invokevirtual 299, 3) := by decide +kernel
theorem dX12_unit_91 : decode cX12_unit 91 = .ok (.putfield 252, 3) := by decide +kernel
theorem dX12_unit_94 : decode cX12_unit 94 = .ok (.aload_n 0, 1) := by decide +kernel
theorem dX12_unit_95 : decode cX12_unit 95 = .ok (.invokevirtual 313, 3) := by decide +kernel
theorem dX12_unit_98 : decode cX12_unit 98 = .ok (.aload_n 0, 1) := by decide +kernel
theorem dX12_unit_99 : decode cX12_unit 99 = .ok (.invokevirtual 245, 3) := by decide +kernel
theorem dX12_unit_102 : decode cX12_unit 102 = .ok (.ifCond .ne 4, 3) := by decide +kernel
theorem dX12_unit_105 : decode cX12_unit 105 = .ok (.return_, 1) := by decide +kernel
theorem dX12_unit_106 : decode cX12_unit 106 = .ok (.bipush 20, 2) := by decide +kernel
theorem dX12_unit_108 : decode cX12_unit 108 = .ok (.aload_n 0, 1) := by decide +kernel
theorem dX12_unit_109 : decode cX12_unit 109 = .ok (.getfield 17, 3) := by decide +kernel
theorem dX12_unit_112 : decode cX12_unit 112 = .ok (.imul, 1) := by decide +kernel
theorem dX12_unit_113 : decode cX12_unit 113 = .ok (.aload_n 0, 1) := by decide +kernel
theorem dX12_unit_114 : decode cX12_unit 114 = .ok (.getfield 29, 3) := by decide +kernel
theorem dX12_unit_117 : decode cX12_unit 117 = .ok (.aload_n 0, 1) := by decide +kernel
theorem dX12_unit_118 : decode cX12_unit 118 = .ok (.getfield 17, 3) := by decide +kernel
theorem dX12_unit_121 : decode cX12_unit 121 = .ok (.iaload, 1) := by decide +kernel
theorem dX12_unit_122 : decode cX12_unit 122 = .ok (.iadd, 1) := by decide +kernel
theorem dX12_unit_123 : decode cX12_unit 123 = .ok (.istore 7, 2) := by decide +kernel
theorem dX12_unit_125 : decode cX12_unit 125 = .ok (.aload_n 0, 1) := by decide +kernel
theorem dX12_unit_126 : decode cX12_unit 126 = .ok (.getfield 78, 3) := by decide +kernel
theorem dX12_unit_129 : decode cX12_unit 129 = .ok (.iload 7, 2) := by decide +kernel
theorem dX12_unit_131 : decode cX12_unit 131 = .ok (.iload_n 1, 1) := by decide +kernel
theorem dX12_unit_132 : decode cX12_unit 132 = .ok (.iastore, 1) := by decide +kernel
theorem dX12_unit_133 : decode cX12_unit 133 = .ok (.aload_n 0, 1) := by decide +kernel
theorem dX12_unit_134 : decode cX12_unit 134 = .ok (.getfield 81, 3) := by decide +kernel
theorem dX12_unit_137 : decode cX12_unit 137 = .ok (.iload 7, 2) := by decide +kernel
theorem dX12_unit_139 : decode cX12_unit 139 = .ok (.aload_n 0, 1) := by decide +kernel
theorem dX12_unit_140 : decode cX12_unit 140 = .ok (.getfield 32, 3) := by decide +kernel
theorem dX12_unit_143 : decode cX12_unit 143 = .ok (.aload_n 0, 1) := by decide +kernel
theorem dX12_unit_144 : decode cX12_unit 144 = .ok (.getfield 17, 3) := by decide +kernel
theorem dX12_unit_147 : decode cX12_unit 147 = .ok (.iaload, 1) := by decide +kernel
theorem dX12_unit_148 : decode cX12_unit 148 = .ok (.iastore, 1) := by decide +kernel
theorem dX12_unit_149 : decode cX12_unit 149 = .ok (.aload_n 0, 1) := by decide +kernel
theorem dX12_unit_150 : decode cX12_unit 150 = .ok (.getfield 84, 3) := by decide +kernel
theorem dX12_unit_153 : decode cX12_unit 153 = .ok (.iload 7, 2) := by decide +kernel
theorem dX12_unit_155 : decode cX12_unit 155 = .ok (.iconst 0, 1) := by decide +kernel
theorem dX12_unit_156 : decode cX12_unit 156 = .ok (.iastore, 1) := by decide +kernel
theorem dX12_unit_157 : decode cX12_unit 157 = .ok (.aload_n 0, 1) := by decide +kernel
theorem dX12_unit_158 : decode cX12_unit 158 = .ok (.getfield 87, 3) := by decide +kernel
theorem dX12_unit_161 : decode cX12_unit 161 = .ok (.iload 7, 2) := by decide +kernel
theorem dX12_unit_163 : decode cX12_unit 163 = .ok (.iconst 0, 1) := by decide +kernel
theorem dX12_unit_164 : decode cX12_unit 164 = .ok (.iastore, 1) := by decide +kernel
theorem dX12_unit_165 : decode cX12_unit 165 = .ok (.aload_n 0, 1) := by decide +kernel
theorem dX12_unit_166 : decode cX12_unit 166 = .ok (.getfield 90, 3) := by decide +kernel
theorem dX12_unit_169 : decode cX12_unit 169 = .ok (.aload_n 0, 1) := by decide +kernel
theorem dX12_unit_170 : decode cX12_unit 170 = .ok (.getfield 29, 3) := by decide +kernel
theorem dX12_unit_173 : decode cX12_unit 173 = .ok (.aload_n 0, 1) := by decide +kernel
theorem dX12_unit_174 : decode cX12_unit 174 = .ok (.getfield 17, 3) := by decide +kernel
theorem dX12_unit_177 : decode cX12_unit 177 = .ok (.iaload, 1) := by decide +kernel
theorem dX12_unit_178 : decode cX12_unit 178 = .ok (.iconst 0, 1) := by decide +kernel
theorem dX12_unit_179 : decode cX12_unit 179 = .ok (.bastore, 1) := by decide +kernel
theorem dX12_unit_180 : decode cX12_unit 180 = .ok (.aload_n 0, 1) := by decide +kernel
theorem dX12_unit_181 : decode cX12_unit 181 = .ok (.iload 6, 2) := by decide +kernel
theorem dX12_unit_183 : decode cX12_unit 183 = .ok (.putfield 249, 3) := by decide +kernel
theorem dX12_unit_186 : decode cX12_unit 186 = .ok (.aload_n 0, 1) := by decide +kernel
theorem dX12_unit_187 : decode cX12_unit 187 = .ok (.iload_n 2, 1) := by decide +kernel
theorem dX12_unit_188 : decode cX12_unit 188 = .ok (.putfield 252, 3) := by decide +kernel
theorem dX12_unit_191 : decode cX12_unit 191 = .ok (.aload_n 0, 1) := by decide +kernel
theorem dX12_unit_192 : decode cX12_unit 192 = .ok (.iconst 0, 1) := by decide +kernel
theorem dX12_unit_193 : decode cX12_unit 193 = .ok (.putfield 316, 3) := by decide +kernel
theorem dX12_unit_196 : decode cX12_unit 196 = .ok (.aload_n 0, 1) := by decide +kernel
theorem dX12_unit_197 : decode cX12_unit 197 = .ok (.iload_n 2, 1) := by decide +kernel
theorem dX12_unit_198 : decode cX12_unit 198 = .ok (.invokevirtual 319, 3) := by decide +kernel
theorem dX12_unit_201 : decode cX12_unit 201 = .ok (.aload_n 0, 1) := by decide +kernel
theorem dX12_unit_202 : decode cX12_unit 202 = .ok (.getfield 29, 3) := by decide +kernel
theorem dX12_unit_205 : decode cX12_unit 205 = .ok (.aload_n 0, 1) := by decide +kernel
theorem dX12_unit_206 : decode cX12_unit 206 = .ok (.getfield 17, 3) := by decide +kernel
theorem dX12_unit_209 : decode cX12_unit 209 = .ok (.dup2, 1) := by decide +kernel
theorem dX12_unit_210 : decode cX12_unit 210 = .ok (.iaload, 1) := by decide +kernel
theorem dX12_unit_211 : decode cX12_unit 211 = .ok (.iconst 1, 1) := by decide +kernel
theorem dX12_unit_212 : decode cX12_unit 212 = .ok (.iadd, 1) := by decide +kernel
theorem dX12_unit_213 : decode cX12_unit 213 = .ok (.iastore, 1) := by decide +kernel
theorem dX12_unit_214 : decode cX12_unit 214 = .ok (.aload_n 0, 1) := by decide +kernel
theorem dX12_unit_215 : decode cX12_unit 215 = .ok (.iload_n 1, 1) := by decide +kernel
theorem dX12_unit_216 : decode cX12_unit 216 = .ok (.invokevirtual 322, 3) := by decide +kernel
theorem dX12_unit_219 : decode cX12_unit 219 = .ok (.return_, 1) := by decide +kernel
theorem dX12_abbreviations_0 : decode cX12_abbreviations 0 = .ok (.aload_n 0, 1) := by decide +kernel
theorem dX12_abbreviations_1 : decode cX12_abbreviations 1 = .ok (.iconst 0, 1) := by decide +kernel
theorem dX12_abbreviations_2 : decode cX12_abbreviations 2 = .ok (.putfield 325, 3) := by decide +kernel
theorem dX12_abbreviations_5 : decode cX12_abbreviations 5 = .ok (.iconst 1, 1) := by decide +kernel
theorem dX12_abbreviations_6 : decode cX12_abbreviations 6 = .ok (.istore_n 1, 1) := by decide +kernel
theorem dX12_abbreviations_7 : decode cX12_abbreviations 7 = .ok (.iload_n 1, 1) := by decide +kernel
theorem dX12_abbreviations_8 : decode cX12_abbreviations 8 = .ok (.ifCond .eq 210, 3) := by decide +kernel
theorem dX12_abbreviations_11 : decode cX12_abbreviations 11 = .ok (.aload_n 0, 1) := by decide +kernel
theorem dX12_abbreviations_12 : decode cX12_abbreviations 12 = .ok (.invokevirtual 245, 3) := by decide +kernel
theorem dX12_abbreviations_15 : decode cX12_abbreviations 15 = .ok (.ifCond .eq 203, 3) := by decide +kernel
theorem dX12_abbreviations_18 : decode cX12_abbreviations 18 = .ok (.aload_n 0, 1) := by decide +kernel
theorem dX12_abbreviations_19 : decode cX12_abbreviations 19 = .ok (.getfield 249, 3) := by decide +kernel
theorem dX12_abbreviations_22 : decode cX12_abbreviations 22 = .ok (.istore_n 2, 1) := by decide +kernel
theorem dX12_abbreviations_23 : decode cX12_abbreviations 23 = .ok (.aload_n 0, 1) := by decide +kernel
theorem dX12_abbreviations_24 : decode cX12_abbreviations 24 = .ok (.invokevirtual 277, 3) := by decide +kernel
theorem dX12_abbreviations_27 : decode cX12_abbreviations 27 = .ok (.lstore_n 3, 1) := by decide +kernel
theorem dX12_abbreviations_28 : decode cX12_abbreviations 28 = .ok (.aload_n 0, 1) := by decide +kernel
theorem dX12_abbreviations_29 : decode cX12_abbreviations 29 = .ok (.invokevirtual 245, 3) := by decide +kernel
theorem dX12_abbreviations_32 : decode cX12_abbreviations 32 = .ok (.ifCond .eq 13, 3) := by decide +kernel
theorem dX12_abbreviations_35 : decode cX12_abbreviations 35 = .ok (.lload_n 3, 1) := by decide +kernel
theorem dX12_abbreviations_36 : decode cX12_abbreviations 36 = .ok (.lconst 0, 1) := by decide +kernel
theorem dX12_abbreviations_37 : decode cX12_abbreviations 37 = .ok (.lcmp, 1) := by decide +kernel
theorem dX12_abbreviations_38 : decode cX12_abbreviations 38 = .ok (.ifCond .eq 7, 3) := by decide +kernel
theorem dX12_abbreviations_41 : decode cX12_abbreviations 41 = .ok (.iconst 1, 1) := by decide +kernel
theorem dX12_abbreviations_42 : decode cX12_abbreviations 42 = .ok (.goto 4, 3) := by decide +kernel
theorem dX12_abbreviations_45 : decode cX12_abbreviations 45 = .ok (.iconst 0, 1) := by decide +kernel
theorem dX12_abbreviations_46 : decode cX12_abbreviations 46 = .ok (.istore_n 1, 1) := by decide +kernel
theorem dX12_abbreviations_47 : decode cX12_abbreviations 47 = .ok (.iload_n 1, 1) := by decide +kernel
theorem dX12_abbreviations_48 : decode cX12_abbreviations 48 = .ok (.ifCond .ne 6, 3) := by decide +kernel
theorem dX12_abbreviations_51 : decode cX12_abbreviations 51 = .ok (.goto (-44), 3) := by decide +kernel
theorem dX12_abbreviations_54 : decode cX12_abbreviations 54 = .ok (.iconst 0, 1) := by decide +kernel
theorem dX12_abbreviations_55 : decode cX12_abbreviations 55 = .ok (.istore 5, 2) := by decide +kernel
theorem dX12_abbreviations_57 : decode cX12_abbreviations 57 = .ok (.iload 5, 2) := by decide +kernel
theorem dX12_abbreviations_59 : decode cX12_abbreviations 59 = .ok (.aload_n 0, 1) := by decide +kernel
theorem dX12_abbreviations_60 : decode cX12_abbreviations 60 = .ok (.getfield 325, 3) := by decide +kernel
theorem dX12_abbreviations_63 : decode cX12_abbreviations 63 = .ok (.if_icmp .ge 27, 3) := by decide +kernel
theorem dX12_abbreviations_66 : decode cX12_abbreviations 66 = .ok (.aload_n 0, 1) := by decide +kernel
theorem dX12_abbreviations_67 : decode cX12_abbreviations 67 = .ok (.getfield 97, 3) := by decide +kernel
theorem dX12_abbreviations_70 : decode cX12_abbreviations 70 = .ok (.iload 5, 2) := by decide +kernel
theorem dX12_abbreviations_72 : decode cX12_abbreviations 72 = .ok (.laload, 1) := by decide +kernel
theorem dX12_abbreviations_73 : decode cX12_abbreviations 73 = .ok (.lload_n 3, 1) := by decide +kernel
theorem dX12_abbreviations_74 : decode cX12_abbreviations 74 = .ok (.lcmp, 1) := by decide +kernel
theorem dX12_abbreviations_75 : decode cX12_abbreviations 75 = .ok (.ifCond .ne 9, 3) := by decide +kernel
theorem dX12_abbreviations_78 : decode cX12_abbreviations 78 = .ok (.aload_n 0, 1) := by decide +kernel
theorem dX12_abbreviations_79 : decode cX12_abbreviations 79 = .ok (.iconst 2, 1) := by decide +kernel
theorem dX12_abbreviations_80 : decode cX12_abbreviations 80 = .ok (.iload_n 2, 1) := by decide +kernel
theorem dX12_abbreviations_81 : decode cX12_abbreviations 81 = .ok (.invokevirtual 255, 3) := by decide +kernel
theorem dX12_abbreviations_84 : decode cX12_abbreviations 84 = .ok (.iinc 5 1, 3) := by decide +kernel
theorem dX12_abbreviations_87 : decode cX12_abbreviations 87 = .ok (.goto (-30), 3) := by decide +kernel
theorem dX12_abbreviations_90 : decode cX12_abbreviations 90 = .ok (.aload_n 0, 1) := by decide +kernel
theorem dX12_abbreviations_91 : decode cX12_abbreviations 91 = .ok (.getfield 325, 3) := by decide +kernel
theorem dX12_abbreviations_94 : decode cX12_abbreviations 94 = .ok (.bipush 40, 2) := by decide +kernel
theorem dX12_abbreviations_96 : decode cX12_abbreviations 96 = .ok (.if_icmp .ne 9, 3) := by decide +kernel
theorem dX12_abbreviations_99 : decode cX12_abbreviations 99 = .ok (.aload_n 0, 1) := by decide +kernel
theorem dX12_abbreviations_100 : decode cX12_abbreviations 100 = .ok (.iconst 4, 1) := by decide +kernel
theorem dX12_abbreviations_101 : decode cX12_abbreviations 101 = .ok (.iload_n 2, 1) := by decide +kernel
theorem dX12_abbreviations_102 : decode cX12_abbreviations 102 = .ok (.invokevirtual 255, 3) := by decide +kernel
theorem dX12_abbreviations_105 : decode cX12_abbreviations 105 = .ok (.aload_n 0, 1) := by decide +kernel
theorem dX12_abbreviations_106 : decode cX12_abbreviations 106 = .ok (.invokevirtual 245, 3) := by decide +kernel
theorem dX12_abbreviations_109 : decode cX12_abbreviations 109 = .ok (.ifCond .ne 4, 3) := by decide +kernel
theorem dX12_abbreviations_112 : decode cX12_abbreviations 112 = .ok (.return_, 1) := by decide +kernel
theorem dX12_abbreviations_113 : decode cX12_abbreviations 113 = .ok (.aload_n 0, 1) := by decide +kernel
theorem dX12_abbreviations_114 : decode cX12_abbreviations 114 = .ok (.getfield 97, 3) := by decide +kernel
theorem dX12_abbreviations_117 : decode cX12_abbreviations 117 = .ok (.aload_n 0, 1) := by decide +kernel
theorem dX12_abbreviations_118 : decode cX12_abbreviations 118 = .ok (.getfield 325, 3) := by decide +kernel
theorem dX12_abbreviations_121 : decode cX12_abbreviations 121 = .ok (.lload_n 3, 1) := by decide +kernel
theorem dX12_abbreviations_122 : decode cX12_abbreviations 122 = .ok (.lastore, 1) := by decide +kernel
theorem dX12_abbreviations_123 : decode cX12_abbreviations 123 = .ok (.aload_n 0, 1) := by decide +kernel
theorem dX12_abbreviations_124 : decode cX12_abbreviations 124 = .ok (.getfield 100, 3) := by decide +kernel
theorem dX12_abbreviations_127 : decode cX12_abbreviations 127 = .ok (.aload_n 0, 1) := by decide +kernel
theorem dX12_abbreviations_128 : decode cX12_abbreviations 128 = .ok (.getfield 325, 3) := by decide +kernel
theorem dX12_abbreviations_131 : decode cX12_abbreviations 131 = .ok (.aload_n 0, 1) := by decide +kernel
theorem dX12_abbreviations_132 : decode cX12_abbreviations 132 = .ok (.invokevirtual 277, 3) := by decide +kernel
theorem dX12_abbreviations_135 : decode cX12_abbreviations 135 = .ok (.lastore, 1) := by decide +kernel
theorem dX12_abbreviations_136 : decode cX12_abbreviations 136 = .ok (.aload_n 0, 1) := by decide +kernel
theorem dX12_abbreviations_137 : decode cX12_abbreviations 137 = .ok (.getfield 249, 3) := by decide +kernel
theorem dX12_abbreviations_140 : decode cX12_abbreviations 140 = .ok (.istore 5, 2) := by decide +kernel
theorem dX12_abbreviations_142 : decode cX12_abbreviations 142 = .ok (.aload_n 0, 1) := by decide +kernel
theorem dX12_abbreviations_143 : decode cX12_abbreviations 143 = .ok (.iconst 1, 1) := by decide +kernel
theorem dX12_abbreviations_144 : decode cX12_abbreviations 144 = .ok (.invokevirtual 273, 3) := by decide +kernel
theorem dX12_abbreviations_147 : decode cX12_abbreviations 147 = .ok (.lstore 6, 2) := by decide +kernel
theorem dX12_abbreviations_149 : decode cX12_abbreviations 149 = .ok (.aload_n 0, 1) := by decide +kernel
theorem dX12_abbreviations_150 : decode cX12_abbreviations 150 = .ok (.invokevirtual 245, 3) := by decide +kernel
theorem dX12_abbreviations_153 : decode cX12_abbreviations 153 = .ok (.ifCond .eq 17, 3) := by decide +kernel
theorem dX12_abbreviations_156 : decode cX12_abbreviations 156 = .ok (.lload 6, 2) := by decide +kernel
theorem dX12_abbreviations_158 : decode cX12_abbreviations 158 = .ok (.lconst 1, 1) := by decide +kernel
theorem dX12_abbreviations_159 : decode cX12_abbreviations 159 = .ok (.lcmp, 1) := by decide +kernel
theorem dX12_abbreviations_160 : decode cX12_abbreviations 160 = .ok (.ifCond .le 10, 3) := by decide +kernel
theorem dX12_abbreviations_163 : decode cX12_abbreviations 163 = .ok (.aload_n 0, 1) := by decide +kernel
theorem dX12_abbreviations_164 : decode cX12_abbreviations 164 = .ok (.iconst 2, 1) := by decide +kernel
theorem dX12_abbreviations_165 : decode cX12_abbreviations 165 = .ok (.iload 5, 2) := by decide +kernel
theorem dX12_abbreviations_167 : decode cX12_abbreviations 167 = .ok (.invokevirtual 255, 3) := by decide +kernel
theorem dX12_abbreviations_170 : decode cX12_abbreviations 170 = .ok (.aload_n 0, 1) := by decide +kernel
theorem dX12_abbreviations_171 : decode cX12_abbreviations 171 = .ok (.getfield 103, 3) := by decide +kernel
theorem dX12_abbreviations_174 : decode cX12_abbreviations 174 = .ok (.aload_n 0, 1) := by decide +kernel
theorem dX12_abbreviations_175 : decode cX12_abbreviations 175 = .ok (.getfield 325, 3) := by decide +kernel
theorem dX12_abbreviations_178 : decode cX12_abbreviations 178 = .ok (.lload 6, 2) := by decide +kernel
theorem dX12_abbreviations_180 : decode cX12_abbreviations 180 = .ok (.lconst 1, 1) := by decide +kernel
theorem dX12_abbreviations_181 : decode cX12_abbreviations 181 = .ok (.lcmp, 1) := by decide +kernel
theorem dX12_abbreviations_182 : decode cX12_abbreviations 182 = .ok (.ifCond .ne 7, 3) := by decide +kernel
theorem dX12_abbreviations_185 : decode cX12_abbreviations 185 = .ok (.iconst 1, 1) := by decide +kernel
theorem dX12_abbreviations_186 : decode cX12_abbreviations 186 = .ok (.goto 4, 3) := by decide +kernel
theorem dX12_abbreviations_189 : decode cX12_abbreviations 189 = .ok (.iconst 0, 1) := by decide +kernel
theorem dX12_abbreviations_190 : decode cX12_abbreviations 190 = .ok (.bastore, 1) := by decide +kernel
theorem dX12_abbreviations_191 : decode cX12_abbreviations 191 = .ok (.aload_n 0, 1) := by decide +kernel
theorem dX12_abbreviations_192 : decode cX12_abbreviations 192 = .ok (.getfield 106, 3) := by decide +kernel
theorem dX12_abbreviations_195 : decode cX12_abbreviations 195 = .ok (.aload_n 0, 1) := by decide +kernel
theorem dX12_abbreviations_196 : decode cX12_abbreviations 196 = .ok (.getfield 325, 3) := by decide +kernel
theorem dX12_abbreviations_199 : decode cX12_abbreviations 199 = .ok (.iconst 0, 1) := by decide +kernel
theorem dX12_abbreviations_200 : decode cX12_abbreviations 200 = .ok (.iastore, 1) := by decide +kernel
theorem dX12_abbreviations_201 : decode cX12_abbreviations 201 = .ok (.aload_n 0, 1) := by decide +kernel
theorem dX12_abbreviations_202 : decode cX12_abbreviations 202 = .ok (.invokevirtual 328, 3) := by decide +kernel
theorem dX12_abbreviations_205 : decode cX12_abbreviations 205 = .ok (.aload_n 0, 1) := by decide +kernel
theorem dX12_abbreviations_206 : decode cX12_abbreviations 206 = .ok (.dup, 1) := by decide +kernel
theorem dX12_abbreviations_207 : decode cX12_abbreviations 207 = .ok (.getfield 325, 3) := by decide +kernel
theorem dX12_abbreviations_210 : decode cX12_abbreviations 210 = .ok (.iconst 1, 1) := by decide +kernel
theorem dX12_abbreviations_211 : decode cX12_abbreviations 211 = .ok (.iadd, 1) := by decide +kernel
theorem dX12_abbreviations_212 : decode cX12_abbreviations 212 = .ok (.putfield 325, 3) := by decide +kernel
theorem dX12_abbreviations_215 : decode cX12_abbreviations 215 = .ok (.goto (-208), 3) := by decide +kernel
theorem dX12_abbreviations_218 : decode cX12_abbreviations 218 = .ok (.return_, 1) := by decide +kernel
theorem dX12_isForm_0 : decode cX12_isForm 0 = .ok (.lload_n 0, 1) := by decide +kernel
theorem dX12_isForm_1 : decode cX12_isForm 1 = .ok (.lconst 1, 1) := by decide +kernel
theorem dX12_isForm_2 : decode cX12_isForm 2 = .ok (.lcmp, 1) := by decide +kernel
theorem dX12_isForm_3 : decode cX12_isForm 3 = .ok (.ifCond .eq 107, 3) := by decide +kernel
theorem dX12_isForm_6 : decode cX12_isForm 6 = .ok (.lload_n 0, 1) := by decide +kernel
theorem dX12_isForm_7 : decode cX12_isForm 7 = .ok (.ldc2_w 331, 3) := by decide +kernel
theorem dX12_isForm_10 : decode cX12_isForm 10 = .ok (.lcmp, 1) := by decide +kernel
theorem dX12_isForm_11 : decode cX12_isForm 11 = .ok (.ifCond .eq 99, 3) := by decide +kernel
theorem dX12_isForm_14 : decode cX12_isForm 14 = .ok (.lload_n 0, 1) := by decide +kernel
theorem dX12_isForm_15 : decode cX12_isForm 15 = .ok (.ldc2_w 333, 3) := by decide +kernel
theorem dX12_isForm_18 : decode cX12_isForm 18 = .ok (.lcmp, 1) := by decide +kernel
theorem dX12_isForm_19 : decode cX12_isForm 19 = .ok (.ifCond .eq 91, 3) := by decide +kernel
theorem dX12_isForm_22 : decode cX12_isForm 22 = .ok (.lload_n 0, 1) := by decide +kernel
theorem dX12_isForm_23 : decode cX12_isForm 23 = .ok (.ldc2_w 335, 3) := by decide +kernel
theorem dX12_isForm_26 : decode cX12_isForm 26 = .ok (.lcmp, 1) := by decide +kernel
theorem dX12_isForm_27 : decode cX12_isForm 27 = .ok (.ifCond .eq 83, 3) := by decide +kernel
theorem dX12_isForm_30 : decode cX12_isForm 30 = .ok (.lload_n 0, 1) := by decide +kernel
theorem dX12_isForm_31 : decode cX12_isForm 31 = .ok (.ldc2_w 337, 3) := by decide +kernel
theorem dX12_isForm_34 : decode cX12_isForm 34 = .ok (.lcmp, 1) := by decide +kernel
theorem dX12_isForm_35 : decode cX12_isForm 35 = .ok (.ifCond .eq 75, 3) := by decide +kernel
theorem dX12_isForm_38 : decode cX12_isForm 38 = .ok (.lload_n 0, 1) := by decide +kernel
theorem dX12_isForm_39 : decode cX12_isForm 39 = .ok (.ldc2_w 339, 3) := by decide +kernel
theorem dX12_isForm_42 : decode cX12_isForm 42 = .ok (.lcmp, 1) := by decide +kernel
theorem dX12_isForm_43 : decode cX12_isForm 43 = .ok (.ifCond .eq 67, 3) := by decide +kernel
theorem dX12_isForm_46 : decode cX12_isForm 46 = .ok (.lload_n 0, 1) := by decide +kernel
theorem dX12_isForm_47 : decode cX12_isForm 47 = .ok (.ldc2_w 341, 3) := by decide +kernel
theorem dX12_isForm_50 : decode cX12_isForm 50 = .ok (.lcmp, 1) := by decide +kernel
theorem dX12_isForm_51 : decode cX12_isForm 51 = .ok (.ifCond .eq 59, 3) := by decide +kernel
theorem dX12_isForm_54 : decode cX12_isForm 54 = .ok (.lload_n 0, 1) := by decide +kernel
theorem dX12_isForm_55 : decode cX12_isForm 55 = .ok (.ldc2_w 293, 3) := by decide +kernel
theorem dX12_isForm_58 : decode cX12_isForm 58 = .ok (.lcmp, 1) := by decide +kernel
theorem dX12_isForm_59 : decode cX12_isForm 59 = .ok (.ifCond .eq 51, 3) := by decide +kernel
theorem dX12_isForm_62 : decode cX12_isForm 62 = .ok (.lload_n 0, 1) := by decide +kernel
theorem dX12_isForm_63 : decode cX12_isForm 63 = .ok (.ldc2_w 343, 3) := by decide +kernel
theorem dX12_isForm_66 : decode cX12_isForm 66 = .ok (.lcmp, 1) := by decide +kernel
theorem dX12_isForm_67 : decode cX12_isForm 67 = .ok (.ifCond .eq 43, 3) := by decide +kernel
theorem dX12_isForm_70 : decode cX12_isForm 70 = .ok (.lload_n 0, 1) := by decide +kernel
theorem dX12_isForm_71 : decode cX12_isForm 71 = .ok (.ldc2_w 345, 3) := by decide +kernel
theorem dX12_isForm_74 : decode cX12_isForm 74 = .ok (.lcmp, 1) := by decide +kernel
theorem dX12_isForm_75 : decode cX12_isForm 75 = .ok (.ifCond .eq 35, 3) := by decide +kernel
theorem dX12_isForm_78 : decode cX12_isForm 78 = .ok (.lload_n 0, 1) := by decide +kernel
theorem dX12_isForm_79 : decode cX12_isForm 79 = .ok (.ldc2_w 347, 3) := by decide +kernel
theorem dX12_isForm_82 : decode cX12_isForm 82 = .ok (.lcmp, 1) := by decide +kernel
theorem dX12_isForm_83 : decode cX12_isForm 83 = .ok (.ifCond .eq 27, 3) := by decide +kernel
theorem dX12_isForm_86 : decode cX12_isForm 86 = .ok (.lload_n 0, 1) := by decide +kernel
theorem dX12_isForm_87 : decode cX12_isForm 87 = .ok (.ldc2_w 349, 3) := by decide +kernel
theorem dX12_isForm_90 : decode cX12_isForm 90 = .ok (.lcmp, 1) := by decide +kernel
theorem dX12_isForm_91 : decode cX12_isForm 91 = .ok (.ifCond .eq 19, 3) := by decide +kernel
theorem dX12_isForm_94 : decode cX12_isForm 94 = .ok (.lload_n 0, 1) := by decide +kernel
theorem dX12_isForm_95 : decode cX12_isForm 95 = .ok (.ldc2_w 351, 3) := by decide +kernel
theorem dX12_isForm_98 : decode cX12_isForm 98 = .ok (.lcmp, 1) := by decide +kernel
theorem dX12_isForm_99 : decode cX12_isForm 99 = .ok (.ifCond .eq 11, 3) := by decide +kernel
theorem dX12_isForm_102 : decode cX12_isForm 102 = .ok (.lload_n 0, 1) := by decide +kernel
theorem dX12_isForm_103 : decode cX12_isForm 103 = .ok (.ldc2_w 353, 3) := by decide +kernel
theorem dX12_isForm_106 : decode cX12_isForm 106 = .ok (.lcmp, 1) := by decide +kernel
theorem dX12_isForm_107 : decode cX12_isForm 107 = .ok (.ifCond .ne 7, 3) := by decide +kernel
theorem dX12_isForm_110 : decode cX12_isForm 110 = .ok (.iconst 1, 1) := by decide +kernel
theorem dX12_isForm_111 : decode cX12_isForm 111 = .ok (.goto 4, 3) := by decide +kernel
theorem dX12_isForm_114 : decode cX12_isForm 114 = .ok (.iconst 0, 1) := by decide +kernel
theorem dX12_isForm_115 : decode cX12_isForm 115 = .ok (.ireturn, 1) := by decide +kernel
theorem dX12_pairs_0 : decode cX12_pairs 0 = .ok (.iconst 1, 1) := by decide +kernel
theorem dX12_pairs_1 : decode cX12_pairs 1 = .ok (.istore_n 1, 1) := by decide +kernel
theorem dX12_pairs_2 : decode cX12_pairs 2 = .ok (.iload_n 1, 1) := by decide +kernel
theorem dX12_pairs_3 : decode cX12_pairs 3 = .ok (.ifCond .eq 185, 3) := by decide +kernel
theorem dX12_pairs_6 : decode cX12_pairs 6 = .ok (.aload_n 0, 1) := by decide +kernel
theorem dX12_pairs_7 : decode cX12_pairs 7 = .ok (.invokevirtual 245, 3) := by decide +kernel
theorem dX12_pairs_10 : decode cX12_pairs 10 = .ok (.ifCond .eq 178, 3) := by decide +kernel
theorem dX12_pairs_13 : decode cX12_pairs 13 = .ok (.aload_n 0, 1) := by decide +kernel
theorem dX12_pairs_14 : decode cX12_pairs 14 = .ok (.getfield 249, 3) := by decide +kernel
theorem dX12_pairs_17 : decode cX12_pairs 17 = .ok (.istore_n 2, 1) := by decide +kernel
theorem dX12_pairs_18 : decode cX12_pairs 18 = .ok (.aload_n 0, 1) := by decide +kernel
theorem dX12_pairs_19 : decode cX12_pairs 19 = .ok (.invokevirtual 277, 3) := by decide +kernel
theorem dX12_pairs_22 : decode cX12_pairs 22 = .ok (.lstore_n 3, 1) := by decide +kernel
theorem dX12_pairs_23 : decode cX12_pairs 23 = .ok (.aload_n 0, 1) := by decide +kernel
theorem dX12_pairs_24 : decode cX12_pairs 24 = .ok (.invokevirtual 277, 3) := by decide +kernel
theorem dX12_pairs_27 : decode cX12_pairs 27 = .ok (.lstore 5, 2) := by decide +kernel
theorem dX12_pairs_29 : decode cX12_pairs 29 = .ok (.aload_n 0, 1) := by decide +kernel
theorem dX12_pairs_30 : decode cX12_pairs 30 = .ok (.invokevirtual 245, 3) := by decide +kernel
theorem dX12_pairs_33 : decode cX12_pairs 33 = .ok (.ifCond .eq 20, 3) := by decide +kernel
theorem dX12_pairs_36 : decode cX12_pairs 36 = .ok (.lload_n 3, 1) := by decide +kernel
theorem dX12_pairs_37 : decode cX12_pairs 37 = .ok (.lconst 0, 1) := by decide +kernel
theorem dX12_pairs_38 : decode cX12_pairs 38 = .ok (.lcmp, 1) := by decide +kernel
theorem dX12_pairs_39 : decode cX12_pairs 39 = .ok (.ifCond .ne 10, 3) := by decide +kernel
theorem dX12_pairs_42 : decode cX12_pairs 42 = .ok (.lload 5, 2) := by decide +kernel
theorem dX12_pairs_44 : decode cX12_pairs 44 = .ok (.lconst 0, 1) := by decide +kernel
theorem dX12_pairs_45 : decode cX12_pairs 45 = .ok (.lcmp, 1) := by decide +kernel
theorem dX12_pairs_46 : decode cX12_pairs 46 = .ok (.ifCond .eq 7, 3) := by decide +kernel
theorem dX12_pairs_49 : decode cX12_pairs 49 = .ok (.iconst 1, 1) := by decide +kernel
theorem dX12_pairs_50 : decode cX12_pairs 50 = .ok (.goto 4, 3) := by decide +kernel
theorem dX12_pairs_53 : decode cX12_pairs 53 = .ok (.iconst 0, 1) := by decide +kernel
theorem dX12_pairs_54 : decode cX12_pairs 54 = .ok (.istore_n 1, 1) := by decide +kernel
theorem dX12_pairs_55 : decode cX12_pairs 55 = .ok (.iload_n 1, 1) := by decide +kernel
theorem dX12_pairs_56 : decode cX12_pairs 56 = .ok (.ifCond .ne 6, 3) := by decide +kernel
theorem dX12_pairs_59 : decode cX12_pairs 59 = .ok (.goto (-57), 3) := by decide +kernel
theorem dX12_pairs_62 : decode cX12_pairs 62 = .ok (.lload_n 3, 1) := by decide +kernel
theorem dX12_pairs_63 : decode cX12_pairs 63 = .ok (.lconst 0, 1) := by decide +kernel
theorem dX12_pairs_64 : decode cX12_pairs 64 = .ok (.lcmp, 1) := by decide +kernel
theorem dX12_pairs_65 : decode cX12_pairs 65 = .ok (.ifCond .eq 11, 3) := by decide +kernel
theorem dX12_pairs_68 : decode cX12_pairs 68 = .ok (.lload 5, 2) := by decide +kernel
theorem dX12_pairs_70 : decode cX12_pairs 70 = .ok (.invokestatic 355, 3) := by decide +kernel
theorem dX12_pairs_73 : decode cX12_pairs 73 = .ok (.ifCond .ne 9, 3) := by decide +kernel
theorem dX12_pairs_76 : decode cX12_pairs 76 = .ok (.aload_n 0, 1) := by decide +kernel
theorem dX12_pairs_77 : decode cX12_pairs 77 = .ok (.iconst 2, 1) := by decide +kernel
theorem dX12_pairs_78 : decode cX12_pairs 78 = .ok (.iload_n 2, 1) := by decide +kernel
theorem dX12_pairs_79 : decode cX12_pairs 79 = .ok (.invokevirtual 255, 3) := by decide +kernel
theorem dX12_pairs_82 : decode cX12_pairs 82 = .ok (.aload_n 0, 1) := by decide +kernel
theorem dX12_pairs_83 : decode cX12_pairs 83 = .ok (.getfield 106, 3) := by decide +kernel
theorem dX12_pairs_86 : decode cX12_pairs 86 = .ok (.aload_n 0, 1) := by decide +kernel
theorem dX12_pairs_87 : decode cX12_pairs 87 = .ok (.getfield 325, 3) := by decide +kernel
theorem dX12_pairs_90 : decode cX12_pairs 90 = .ok (.iaload, 1) := by decide +kernel
theorem dX12_pairs_91 : decode cX12_pairs 91 = .ok (.bipush 16, 2) := by decide +kernel
theorem dX12_pairs_93 : decode cX12_pairs 93 = .ok (.if_icmp .ne 9, 3) := by decide +kernel
theorem dX12_pairs_96 : decode cX12_pairs 96 = .ok (.aload_n 0, 1) := by decide +kernel
theorem dX12_pairs_97 : decode cX12_pairs 97 = .ok (.iconst 4, 1) := by decide +kernel
theorem dX12_pairs_98 : decode cX12_pairs 98 = .ok (.iload_n 2, 1) := by decide +kernel
theorem dX12_pairs_99 : decode cX12_pairs 99 = .ok (.invokevirtual 255, 3) := by decide +kernel
theorem dX12_pairs_102 : decode cX12_pairs 102 = .ok (.aload_n 0, 1) := by decide +kernel
theorem dX12_pairs_103 : decode cX12_pairs 103 = .ok (.invokevirtual 245, 3) := by decide +kernel
theorem dX12_pairs_106 : decode cX12_pairs 106 = .ok (.ifCond .ne 4, 3) := by decide +kernel
theorem dX12_pairs_109 : decode cX12_pairs 109 = .ok (.return_, 1) := by decide +kernel
theorem dX12_pairs_110 : decode cX12_pairs 110 = .ok (.bipush 16, 2) := by decide +kernel
theorem dX12_pairs_112 : decode cX12_pairs 112 = .ok (.aload_n 0, 1) := by decide +kernel
theorem dX12_pairs_113 : decode cX12_pairs 113 = .ok (.getfield 325, 3) := by decide +kernel
theorem dX12_pairs_116 : decode cX12_pairs 116 = .ok (.imul, 1) := by decide +kernel
theorem dX12_pairs_117 : decode cX12_pairs 117 = .ok (.aload_n 0, 1) := by decide +kernel
theorem dX12_pairs_118 : decode cX12_pairs 118 = .ok (.getfield 106, 3) := by decide +kernel
theorem dX12_pairs_121 : decode cX12_pairs 121 = .ok (.aload_n 0, 1) := by decide +kernel
theorem dX12_pairs_122 : decode cX12_pairs 122 = .ok (.getfield 325, 3) := by decide +kernel
theorem dX12_pairs_125 : decode cX12_pairs 125 = .ok (.iaload, 1) := by decide +kernel
theorem dX12_pairs_126 : decode cX12_pairs 126 = .ok (.iadd, 1) := by decide +kernel
theorem dX12_pairs_127 : decode cX12_pairs 127 = .ok (.istore 7, 2) := by decide +kernel
theorem dX12_pairs_129 : decode cX12_pairs 129 = .ok (.aload_n 0, 1) := by decide +kernel
theorem dX12_pairs_130 : decode cX12_pairs 130 = .ok (.getfield 109, 3) := by decide +kernel
theorem dX12_pairs_133 : decode cX12_pairs 133 = .ok (.iload 7, 2) := by decide +kernel
theorem dX12_pairs_135 : decode cX12_pairs 135 = .ok (.lload_n 3, 1) := by decide +kernel
theorem dX12_pairs_136 : decode cX12_pairs 136 = .ok (.lastore, 1) := by decide +kernel
theorem dX12_pairs_137 : decode cX12_pairs 137 = .ok (.aload_n 0, 1) := by decide +kernel
theorem dX12_pairs_138 : decode cX12_pairs 138 = .ok (.getfield 112, 3) := by decide +kernel
theorem dX12_pairs_141 : decode cX12_pairs 141 = .ok (.iload 7, 2) := by decide +kernel
theorem dX12_pairs_143 : decode cX12_pairs 143 = .ok (.lload 5, 2) := by decide +kernel
theorem dX12_pairs_145 : decode cX12_pairs 145 = .ok (.l2i, 1) := by decide +kernel
theorem dX12_pairs_146 : decode cX12_pairs 146 = .ok (.iastore, 1) := by decide +kernel
theorem dX12_pairs_147 : decode cX12_pairs 147 = .ok (.aload_n 0, 1) := by decide +kernel
theorem dX12_pairs_148 : decode cX12_pairs 148 = .ok (.getfield 115, 3) := by decide +kernel
theorem dX12_pairs_151 : decode cX12_pairs 151 = .ok (.iload 7, 2) := by decide +kernel
theorem dX12_pairs_153 : decode cX12_pairs 153 = .ok (.lload 5, 2) := by decide +kernel
theorem dX12_pairs_155 : decode cX12_pairs 155 = .ok (.ldc2_w 353, 3) := by decide +kernel
theorem dX12_pairs_158 : decode cX12_pairs 158 = .ok (.lcmp, 1) := by decide +kernel
theorem dX12_pairs_159 : decode cX12_pairs 159 = .ok (.ifCond .ne 11, 3) := by decide +kernel
theorem dX12_pairs_162 : decode cX12_pairs 162 = .ok (.aload_n 0, 1) := by decide +kernel
theorem dX12_pairs_163 : decode cX12_pairs 163 = .ok (.iconst 1, 1) := by decide +kernel
theorem dX12_pairs_164 : decode cX12_pairs 164 = .ok (.invokevirtual 265, 3) := by decide +kernel
theorem dX12_pairs_167 : decode cX12_pairs 167 = .ok (.goto 4, 3) := by decide +kernel
theorem dX12_pairs_170 : decode cX12_pairs 170 = .ok (.lconst 0, 1) := by decide +kernel
theorem dX12_pairs_171 : decode cX12_pairs 171 = .ok (.lastore, 1) := by decide +kernel
theorem dX12_pairs_172 : decode cX12_pairs 172 = .ok (.aload_n 0, 1) := by decide +kernel
theorem dX12_pairs_173 : decode cX12_pairs 173 = .ok (.getfield 106, 3) := by decide +kernel
theorem dX12_pairs_176 : decode cX12_pairs 176 = .ok (.aload_n 0, 1) := by decide +kernel
theorem dX12_pairs_177 : decode cX12_pairs 177 = .ok (.getfield 325, 3) := by decide +kernel
theorem dX12_pairs_180 : decode cX12_pairs 180 = .ok (.dup2, 1) := by decide +kernel
theorem dX12_pairs_181 : decode cX12_pairs 181 = .ok (.iaload, 1) := by decide +kernel
theorem dX12_pairs_182 : decode cX12_pairs 182 = .ok (.iconst 1, 1) := by decide +kernel
theorem dX12_pairs_183 : decode cX12_pairs 183 = .ok (.iadd, 1) := by decide +kernel
theorem dX12_pairs_184 : decode cX12_pairs 184 = .ok (.iastore, 1) := by decide +kernel
theorem dX12_pairs_185 : decode cX12_pairs 185 = .ok (.goto (-183), 3) := by decide +kernel
theorem dX12_pairs_188 : decode cX12_pairs 188 = .ok (.return_, 1) := by decide +kernel
theorem dX12_entries_0 : decode cX12_entries 0 = .ok (.aload_n 0, 1) := by decide +kernel
theorem dX12_entries_1 : decode cX12_entries 1 = .ok (.iconst 0, 1) := by decide +kernel
theorem dX12_entries_2 : decode cX12_entries 2 = .ok (.putfield 359, 3) := by decide +kernel
theorem dX12_entries_5 : decode cX12_entries 5 = .ok (.iconst 1, 1) := by decide +kernel
theorem dX12_entries_6 : decode cX12_entries 6 = .ok (.istore_n 2, 1) := by decide +kernel
theorem dX12_entries_7 : decode cX12_entries 7 = .ok (.iconst 1, 1) := by decide +kernel
theorem dX12_entries_8 : decode cX12_entries 8 = .ok (.istore_n 3, 1) := by decide +kernel
theorem dX12_entries_9 : decode cX12_entries 9 = .ok (.iload_n 2, 1) := by decide +kernel
theorem dX12_entries_10 : decode cX12_entries 10 = .ok (.ifCond .eq 95, 3) := by decide +kernel
theorem dX12_entries_13 : decode cX12_entries 13 = .ok (.aload_n 0, 1) := by decide +kernel
theorem dX12_entries_14 : decode cX12_entries 14 = .ok (.invokevirtual 245, 3) := by decide +kernel
theorem dX12_entries_17 : decode cX12_entries 17 = .ok (.ifCond .eq 88, 3) := by decide +kernel
theorem dX12_entries_20 : decode cX12_entries 20 = .ok (.aload_n 0, 1) := by decide +kernel
theorem dX12_entries_21 : decode cX12_entries 21 = .ok (.getfield 249, 3) := by decide +kernel
theorem dX12_entries_24 : decode cX12_entries 24 = .ok (.istore 4, 2) := by decide +kernel
theorem dX12_entries_26 : decode cX12_entries 26 = .ok (.aload_n 0, 1) := by decide +kernel
theorem dX12_entries_27 : decode cX12_entries 27 = .ok (.invokevirtual 277, 3) := by decide +kernel
theorem dX12_entries_30 : decode cX12_entries 30 = .ok (.lstore 5, 2) := by decide +kernel
theorem dX12_entries_32 : decode cX12_entries 32 = .ok (.aload_n 0, 1) := by decide +kernel
theorem dX12_entries_33 : decode cX12_entries 33 = .ok (.invokevirtual 245, 3) := by decide +kernel
theorem dX12_entries_36 : decode cX12_entries 36 = .ok (.ifCond .ne 4, 3) := by decide +kernel
theorem dX12_entries_39 : decode cX12_entries 39 = .ok (.return_, 1) := by decide +kernel
theorem dX12_entries_40 : decode cX12_entries 40 = .ok (.lload 5, 2) := by decide +kernel
theorem dX12_entries_42 : decode cX12_entries 42 = .ok (.lconst 0, 1) := by decide +kernel
theorem dX12_entries_43 : decode cX12_entries 43 = .ok (.lcmp, 1) := by decide +kernel
theorem dX12_entries_44 : decode cX12_entries 44 = .ok (.ifCond .ne 15, 3) := by decide +kernel
theorem dX12_entries_47 : decode cX12_entries 47 = .ok (.iload_n 3, 1) := by decide +kernel
theorem dX12_entries_48 : decode cX12_entries 48 = .ok (.ifCond .eq 11, 3) := by decide +kernel
theorem dX12_entries_51 : decode cX12_entries 51 = .ok (.aload_n 0, 1) := by decide +kernel
theorem dX12_entries_52 : decode cX12_entries 52 = .ok (.iconst 2, 1) := by decide +kernel
theorem dX12_entries_53 : decode cX12_entries 53 = .ok (.iload 4, 2) := by decide +kernel
theorem dX12_entries_55 : decode cX12_entries 55 = .ok (.invokevirtual 255, 3) := by decide +kernel
theorem dX12_entries_58 : decode cX12_entries 58 = .ok (.return_, 1) := by decide +kernel
theorem dX12_entries_59 : decode cX12_entries 59 = .ok (.lload 5, 2) := by decide +kernel
theorem dX12_entries_61 : decode cX12_entries 61 = .ok (.lconst 0, 1) := by decide +kernel
theorem dX12_entries_62 : decode cX12_entries 62 = .ok (.lcmp, 1) := by decide +kernel
theorem dX12_entries_63 : decode cX12_entries 63 = .ok (.ifCond .ne 16, 3) := by decide +kernel
theorem dX12_entries_66 : decode cX12_entries 66 = .ok (.aload_n 0, 1) := by decide +kernel
theorem dX12_entries_67 : decode cX12_entries 67 = .ok (.dup, 1) := by decide +kernel
theorem dX12_entries_68 : decode cX12_entries 68 = .ok (.getfield 359, 3) := by decide +kernel
theorem dX12_entries_71 : decode cX12_entries 71 = .ok (.iconst 1, 1) := by decide +kernel
theorem dX12_entries_72 : decode cX12_entries 72 = .ok (.isub, 1) := by decide +kernel
theorem dX12_entries_73 : decode cX12_entries 73 = .ok (.putfield 359, 3) := by decide +kernel
theorem dX12_entries_76 : decode cX12_entries 76 = .ok (.goto 11, 3) := by decide +kernel
theorem dX12_entries_79 : decode cX12_entries 79 = .ok (.aload_n 0, 1) := by decide +kernel
theorem dX12_entries_80 : decode cX12_entries 80 = .ok (.lload 5, 2) := by decide +kernel
theorem dX12_entries_82 : decode cX12_entries 82 = .ok (.iload 4, 2) := by decide +kernel
theorem dX12_entries_84 : decode cX12_entries 84 = .ok (.invokevirtual 362, 3) := by decide +kernel
theorem dX12_entries_87 : decode cX12_entries 87 = .ok (.iconst 0, 1) := by decide +kernel
theorem dX12_entries_88 : decode cX12_entries 88 = .ok (.istore_n 3, 1) := by decide +kernel
theorem dX12_entries_89 : decode cX12_entries 89 = .ok (.aload_n 0, 1) := by decide +kernel
theorem dX12_entries_90 : decode cX12_entries 90 = .ok (.getfield 359, 3) := by decide +kernel
theorem dX12_entries_93 : decode cX12_entries 93 = .ok (.ifCond .le 7, 3) := by decide +kernel
theorem dX12_entries_96 : decode cX12_entries 96 = .ok (.iconst 1, 1) := by decide +kernel
theorem dX12_entries_97 : decode cX12_entries 97 = .ok (.goto 4, 3) := by decide +kernel
theorem dX12_entries_100 : decode cX12_entries 100 = .ok (.iconst 0, 1) := by decide +kernel
theorem dX12_entries_101 : decode cX12_entries 101 = .ok (.istore_n 2, 1) := by decide +kernel
theorem dX12_entries_102 : decode cX12_entries 102 = .ok (.goto (-93), 3) := by decide +kernel
theorem dX12_entries_105 : decode cX12_entries 105 = .ok (.aload_n 0, 1) := by decide +kernel
theorem dX12_entries_106 : decode cX12_entries 106 = .ok (.invokevirtual 245, 3) := by decide +kernel
theorem dX12_entries_109 : decode cX12_entries 109 = .ok (.ifCond .eq 20, 3) := by decide +kernel
theorem dX12_entries_112 : decode cX12_entries 112 = .ok (.aload_n 0, 1) := by decide +kernel
theorem dX12_entries_113 : decode cX12_entries 113 = .ok (.getfield 249, 3) := by decide +kernel
theorem dX12_entries_116 : decode cX12_entries 116 = .ok (.iload_n 1, 1) := by decide +kernel
theorem dX12_entries_117 : decode cX12_entries 117 = .ok (.if_icmp .ge 12, 3) := by decide +kernel
theorem dX12_entries_120 : decode cX12_entries 120 = .ok (.aload_n 0, 1) := by decide +kernel
theorem dX12_entries_121 : decode cX12_entries 121 = .ok (.iconst 2, 1) := by decide +kernel
theorem dX12_entries_122 : decode cX12_entries 122 = .ok (.aload_n 0, 1) := by decide +kernel
theorem dX12_entries_123 : decode cX12_entries 123 = .ok (.getfield 249, 3) := by decide +kernel
theorem dX12_entries_126 : decode cX12_entries 126 = .ok (.invokevirtual 255, 3) := by decide +kernel
theorem dX12_entries_129 : decode cX12_entries 129 = .ok (.return_, 1) := by decide +kernel
theorem dX12_enters_0 : decode cX12_enters 0 = .ok (.iconst 0, 1) := by decide +kernel
theorem dX12_enters_1 : decode cX12_enters 1 = .ok (.istore 4, 2) := by decide +kernel
theorem dX12_enters_3 : decode cX12_enters 3 = .ok (.iload 4, 2) := by decide +kernel
theorem dX12_enters_5 : decode cX12_enters 5 = .ok (.aload_n 0, 1) := by decide +kernel
theorem dX12_enters_6 : decode cX12_enters 6 = .ok (.getfield 325, 3) := by decide +kernel
theorem dX12_enters_9 : decode cX12_enters 9 = .ok (.if_icmp .ge 21, 3) := by decide +kernel
theorem dX12_enters_12 : decode cX12_enters 12 = .ok (.aload_n 0, 1) := by decide +kernel
theorem dX12_enters_13 : decode cX12_enters 13 = .ok (.getfield 97, 3) := by decide +kernel
theorem dX12_enters_16 : decode cX12_enters 16 = .ok (.iload 4, 2) := by decide +kernel
theorem dX12_enters_18 : decode cX12_enters 18 = .ok (.laload, 1) := by decide +kernel
theorem dX12_enters_19 : decode cX12_enters 19 = .ok (.lload_n 1, 1) := by decide +kernel
theorem dX12_enters_20 : decode cX12_enters 20 = .ok (.lcmp, 1) := by decide +kernel
theorem dX12_enters_21 : decode cX12_enters 21 = .ok (.ifCond .eq 9, 3) := by decide +kernel
theorem dX12_enters_24 : decode cX12_enters 24 = .ok (.iinc 4 1, 3) := by decide +kernel
theorem dX12_enters_27 : decode cX12_enters 27 = .ok (.goto (-24), 3) := by decide +kernel
theorem dX12_enters_30 : decode cX12_enters 30 = .ok (.iload 4, 2) := by decide +kernel
theorem dX12_enters_32 : decode cX12_enters 32 = .ok (.aload_n 0, 1) := by decide +kernel
theorem dX12_enters_33 : decode cX12_enters 33 = .ok (.getfield 325, 3) := by decide +kernel
theorem dX12_enters_36 : decode cX12_enters 36 = .ok (.if_icmp .ne 9, 3) := by decide +kernel
theorem dX12_enters_39 : decode cX12_enters 39 = .ok (.aload_n 0, 1) := by decide +kernel
theorem dX12_enters_40 : decode cX12_enters 40 = .ok (.iconst 3, 1) := by decide +kernel
theorem dX12_enters_41 : decode cX12_enters 41 = .ok (.iload_n 3, 1) := by decide +kernel
theorem dX12_enters_42 : decode cX12_enters 42 = .ok (.invokevirtual 255, 3) := by decide +kernel
theorem dX12_enters_45 : decode cX12_enters 45 = .ok (.aload_n 0, 1) := by decide +kernel
theorem dX12_enters_46 : decode cX12_enters 46 = .ok (.getfield 32, 3) := by decide +kernel
theorem dX12_enters_49 : decode cX12_enters 49 = .ok (.aload_n 0, 1) := by decide +kernel
theorem dX12_enters_50 : decode cX12_enters 50 = .ok (.getfield 17, 3) := by decide +kernel
theorem dX12_enters_53 : decode cX12_enters 53 = .ok (.iaload, 1) := by decide +kernel
theorem dX12_enters_54 : decode cX12_enters 54 = .ok (.sipush 400, 3) := by decide +kernel
theorem dX12_enters_57 : decode cX12_enters 57 = .ok (.if_icmp .eq 12, 3) := by decide +kernel
theorem dX12_enters_60 : decode cX12_enters 60 = .ok (.aload_n 0, 1) := by decide +kernel
theorem dX12_enters_61 : decode cX12_enters 61 = .ok (.getfield 359, 3) := by decide +kernel
theorem dX12_enters_64 : decode cX12_enters 64 = .ok (.bipush 24, 2) := by decide +kernel
theorem dX12_enters_66 : decode cX12_enters 66 = .ok (.if_icmp .ne 9, 3) := by decide +kernel
theorem dX12_enters_69 : decode cX12_enters 69 = .ok (.aload_n 0, 1) := by decide +kernel
theorem dX12_enters_70 : decode cX12_enters 70 = .ok (.iconst 4, 1) := by decide +kernel
theorem dX12_enters_71 : decode cX12_enters 71 = .ok (.iload_n 3, 1) := by decide +kernel
theorem dX12_enters_72 : decode cX12_enters 72 = .ok (.invokevirtual 255, 3) := by decide +kernel
theorem dX12_enters_75 : decode cX12_enters 75 = .ok (.aload_n 0, 1) := by decide +kernel
theorem dX12_enters_76 : decode cX12_enters 76 = .ok (.invokevirtual 245, 3) := by decide +kernel
theorem dX12_enters_79 : decode cX12_enters 79 = .ok (.ifCond .ne 4, 3) := by decide +kernel
theorem dX12_enters_82 : decode cX12_enters 82 = .ok (.return_, 1) := by decide +kernel
theorem dX12_enters_83 : decode cX12_enters 83 = .ok (.aload_n 0, 1) := by decide +kernel
theorem dX12_enters_84 : decode cX12_enters 84 = .ok (.getfield 32, 3) := by decide +kernel
theorem dX12_enters_87 : decode cX12_enters 87 = .ok (.aload_n 0, 1) := by decide +kernel
theorem dX12_enters_88 : decode cX12_enters 88 = .ok (.getfield 17, 3) := by decide +kernel
theorem dX12_enters_91 : decode cX12_enters 91 = .ok (.iaload, 1) := by decide +kernel
theorem dX12_enters_92 : decode cX12_enters 92 = .ok (.istore 5, 2) := by decide +kernel
theorem dX12_enters_94 : decode cX12_enters 94 = .ok (.sipush 400, 3) := by decide +kernel
theorem dX12_enters_97 : decode cX12_enters 97 = .ok (.aload_n 0, 1) := by decide +kernel
theorem dX12_enters_98 : decode cX12_enters 98 = .ok (.getfield 17, 3) := by decide +kernel
theorem dX12_enters_101 : decode cX12_enters 101 = .ok (.imul, 1) := by decide +kernel
theorem dX12_enters_102 : decode cX12_enters 102 = .ok (.iload 5, 2) := by decide +kernel
theorem dX12_enters_104 : decode cX12_enters 104 = .ok (.iadd, 1) := by decide +kernel
theorem dX12_enters_105 : decode cX12_enters 105 = .ok (.istore 6, 2) := by decide +kernel
theorem dX12_enters_107 : decode cX12_enters 107 = .ok (.aload_n 0, 1) := by decide +kernel
theorem dX12_enters_108 : decode cX12_enters 108 = .ok (.getfield 118, 3) := by decide +kernel
theorem dX12_enters_111 : decode cX12_enters 111 = .ok (.iload 6, 2) := by decide +kernel
theorem dX12_enters_113 : decode cX12_enters 113 = .ok (.aload_n 0, 1) := by decide +kernel
theorem dX12_enters_114 : decode cX12_enters 114 = .ok (.getfield 100, 3) := by decide +kernel
theorem dX12_enters_117 : decode cX12_enters 117 = .ok (.iload 4, 2) := by decide +kernel
theorem dX12_enters_119 : decode cX12_enters 119 = .ok (.laload, 1) := by decide +kernel
theorem dX12_enters_120 : decode cX12_enters 120 = .ok (.lastore, 1) := by decide +kernel
theorem dX12_enters_121 : decode cX12_enters 121 = .ok (.aload_n 0, 1) := by decide +kernel
theorem dX12_enters_122 : decode cX12_enters 122 = .ok (.getfield 121, 3) := by decide +kernel
theorem dX12_enters_125 : decode cX12_enters 125 = .ok (.iload 6, 2) := by decide +kernel
theorem dX12_enters_127 : decode cX12_enters 127 = .ok (.aload_n 0, 1) := by decide +kernel
theorem dX12_enters_128 : decode cX12_enters 128 = .ok (.getfield 359, 3) := by decide +kernel
theorem dX12_enters_131 : decode cX12_enters 131 = .ok (.ifCond .ne 7, 3) := by decide +kernel
theorem dX12_enters_134 : decode cX12_enters 134 = .ok (.iconst (-1), 1) := by decide +kernel
theorem dX12_enters_135 : decode cX12_enters 135 = .ok (.goto 14, 3) := by decide +kernel
theorem dX12_enters_138 : decode cX12_enters 138 = .ok (.aload_n 0, 1) := by decide +kernel
theorem dX12_enters_139 : decode cX12_enters 139 = .ok (.getfield 184, 3) := by decide +kernel
theorem dX12_enters_142 : decode cX12_enters 142 = .ok (.aload_n 0, 1) := by decide +kernel
theorem dX12_enters_143 : decode cX12_enters 143 = .ok (.getfield 359, 3) := by decide +kernel
theorem dX12_enters_146 : decode cX12_enters 146 = .ok (.iconst 1, 1) := by decide +kernel
theorem dX12_enters_147 : decode cX12_enters 147 = .ok (.isub, 1) := by decide +kernel
theorem dX12_enters_148 : decode cX12_enters 148 = .ok (.iaload, 1) := by decide +kernel
theorem dX12_enters_149 : decode cX12_enters 149 = .ok (.iastore, 1) := by decide +kernel
theorem dX12_enters_150 : decode cX12_enters 150 = .ok (.aload_n 0, 1) := by decide +kernel
theorem dX12_enters_151 : decode cX12_enters 151 = .ok (.getfield 124, 3) := by decide +kernel
theorem dX12_enters_154 : decode cX12_enters 154 = .ok (.iload 6, 2) := by decide +kernel
theorem dX12_enters_156 : decode cX12_enters 156 = .ok (.aload_n 0, 1) := by decide +kernel
theorem dX12_enters_157 : decode cX12_enters 157 = .ok (.getfield 29, 3) := by decide +kernel
theorem dX12_enters_160 : decode cX12_enters 160 = .ok (.aload_n 0, 1) := by decide +kernel
theorem dX12_enters_161 : decode cX12_enters 161 = .ok (.getfield 17, 3) := by decide +kernel
theorem dX12_enters_164 : decode cX12_enters 164 = .ok (.iaload, 1) := by decide +kernel
theorem dX12_enters_165 : decode cX12_enters 165 = .ok (.iastore, 1) := by decide +kernel
theorem dX12_enters_166 : decode cX12_enters 166 = .ok (.aload_n 0, 1) := by decide +kernel
theorem dX12_enters_167 : decode cX12_enters 167 = .ok (.getfield 127, 3) := by decide +kernel
theorem dX12_enters_170 : decode cX12_enters 170 = .ok (.iload 6, 2) := by decide +kernel
theorem dX12_enters_172 : decode cX12_enters 172 = .ok (.iconst (-1), 1) := by decide +kernel
theorem dX12_enters_173 : decode cX12_enters 173 = .ok (.iastore, 1) := by decide +kernel
theorem dX12_enters_174 : decode cX12_enters 174 = .ok (.aload_n 0, 1) := by decide +kernel
theorem dX12_enters_175 : decode cX12_enters 175 = .ok (.getfield 130, 3) := by decide +kernel
theorem dX12_enters_178 : decode cX12_enters 178 = .ok (.iload 6, 2) := by decide +kernel
theorem dX12_enters_180 : decode cX12_enters 180 = .ok (.iload_n 3, 1) := by decide +kernel
theorem dX12_enters_181 : decode cX12_enters 181 = .ok (.iastore, 1) := by decide +kernel
theorem dX12_enters_182 : decode cX12_enters 182 = .ok (.aload_n 0, 1) := by decide +kernel
theorem dX12_enters_183 : decode cX12_enters 183 = .ok (.getfield 133, 3) := by decide +kernel
theorem dX12_enters_186 : decode cX12_enters 186 = .ok (.iload 6, 2) := by decide +kernel
theorem dX12_enters_188 : decode cX12_enters 188 = .ok (.iconst 0, 1) := by decide +kernel
theorem dX12_enters_189 : decode cX12_enters 189 = .ok (.iastore, 1) := by decide +kernel
theorem dX12_enters_190 : decode cX12_enters 190 = .ok (.aload_n 0, 1) := by decide +kernel
theorem dX12_enters_191 : decode cX12_enters 191 = .ok (.getfield 136, 3) := by decide +kernel
theorem dX12_enters_194 : decode cX12_enters 194 = .ok (.iload 6, 2) := by decide +kernel
theorem dX12_enters_196 : decode cX12_enters 196 = .ok (.iconst (-1), 1) := by decide +kernel
theorem dX12_enters_197 : decode cX12_enters 197 = .ok (.iastore, 1) := by decide +kernel
theorem dX12_enters_198 : decode cX12_enters 198 = .ok (.aload_n 0, 1) := by decide +kernel
theorem dX12_enters_199 : decode cX12_enters 199 = .ok (.getfield 145, 3) := by decide +kernel
theorem dX12_enters_202 : decode cX12_enters 202 = .ok (.iload 6, 2) := by decide +kernel
theorem dX12_enters_204 : decode cX12_enters 204 = .ok (.iconst 0, 1) := by decide +kernel
theorem dX12_enters_205 : decode cX12_enters 205 = .ok (.bastore, 1) := by decide +kernel
theorem dX12_enters_206 : decode cX12_enters 206 = .ok (.aload_n 0, 1) := by decide +kernel
theorem dX12_enters_207 : decode cX12_enters 207 = .ok (.getfield 148, 3) := by decide +kernel
theorem dX12_enters_210 : decode cX12_enters 210 = .ok (.iload 6, 2) := by decide +kernel
theorem dX12_enters_212 : decode cX12_enters 212 = .ok (.iconst 0, 1) := by decide +kernel
theorem dX12_enters_213 : decode cX12_enters 213 = .ok (.bastore, 1) := by decide +kernel
theorem dX12_enters_214 : decode cX12_enters 214 = .ok (.aload_n 0, 1) := by decide +kernel
theorem dX12_enters_215 : decode cX12_enters 215 = .ok (.getfield 151, 3) := by decide +kernel
theorem dX12_enters_218 : decode cX12_enters 218 = .ok (.iload 5, 2) := by decide +kernel
theorem dX12_enters_220 : decode cX12_enters 220 = .ok (.iconst 0, 1) := by decide +kernel
theorem dX12_enters_221 : decode cX12_enters 221 = .ok (.bastore, 1) := by decide +kernel
theorem dX12_enters_222 : decode cX12_enters 222 = .ok (.aload_n 0, 1) := by decide +kernel
theorem dX12_enters_223 : decode cX12_enters 223 = .ok (.getfield 154, 3) := by decide +kernel
theorem dX12_enters_226 : decode cX12_enters 226 = .ok (.iload 5, 2) := by decide +kernel
theorem dX12_enters_228 : decode cX12_enters 228 = .ok (.iconst 0, 1) := by decide +kernel
theorem dX12_enters_229 : decode cX12_enters 229 = .ok (.bastore, 1) := by decide +kernel
theorem dX12_enters_230 : decode cX12_enters 230 = .ok (.aload_n 0, 1) := by decide +kernel
theorem dX12_enters_231 : decode cX12_enters 231 = .ok (.getfield 160, 3) := by decide +kernel
theorem dX12_enters_234 : decode cX12_enters 234 = .ok (.iload 5, 2) := by decide +kernel
theorem dX12_enters_236 : decode cX12_enters 236 = .ok (.iconst 0, 1) := by decide +kernel
theorem dX12_enters_237 : decode cX12_enters 237 = .ok (.bastore, 1) := by decide +kernel
theorem dX12_enters_238 : decode cX12_enters 238 = .ok (.aload_n 0, 1) := by decide +kernel
theorem dX12_enters_239 : decode cX12_enters 239 = .ok (.getfield 32, 3) := by decide +kernel
theorem dX12_enters_242 : decode cX12_enters 242 = .ok (.aload_n 0, 1) := by decide +kernel
theorem dX12_enters_243 : decode cX12_enters 243 = .ok (.getfield 17, 3) := by decide +kernel
theorem dX12_enters_246 : decode cX12_enters 246 = .ok (.dup2, 1) := by decide +kernel
theorem dX12_enters_247 : decode cX12_enters 247 = .ok (.iaload, 1) := by decide +kernel
theorem dX12_enters_248 : decode cX12_enters 248 = .ok (.iconst 1, 1) := by decide +kernel
theorem dX12_enters_249 : decode cX12_enters 249 = .ok (.iadd, 1) := by decide +kernel
theorem dX12_enters_250 : decode cX12_enters 250 = .ok (.iastore, 1) := by decide +kernel
theorem dX12_enters_251 : decode cX12_enters 251 = .ok (.bipush 16, 2) := by decide +kernel
theorem dX12_enters_253 : decode cX12_enters 253 = .ok (.iload 4, 2) := by decide +kernel
theorem dX12_enters_255 : decode cX12_enters 255 = .ok (.imul, 1) := by decide +kernel
theorem dX12_enters_256 : decode cX12_enters 256 = .ok (.istore 7, 2) := by decide +kernel
theorem dX12_enters_258 : decode cX12_enters 258 = .ok (.iload 7, 2) := by decide +kernel
theorem dX12_enters_260 : decode cX12_enters 260 = .ok (.bipush 16, 2) := by decide +kernel
theorem dX12_enters_262 : decode cX12_enters 262 = .ok (.iload 4, 2) := by decide +kernel
theorem dX12_enters_264 : decode cX12_enters 264 = .ok (.imul, 1) := by decide +kernel
theorem dX12_enters_265 : decode cX12_enters 265 = .ok (.aload_n 0, 1) := by decide +kernel
theorem dX12_enters_266 : decode cX12_enters 266 = .ok (.getfield 106, 3) := by decide +kernel
theorem dX12_enters_269 : decode cX12_enters 269 = .ok (.iload 4, 2) := by decide +kernel
theorem dX12_enters_271 : decode cX12_enters 271 = .ok (.iaload, 1) := by decide +kernel
theorem dX12_enters_272 : decode cX12_enters 272 = .ok (.iadd, 1) := by decide +kernel
theorem dX12_enters_273 : decode cX12_enters 273 = .ok (.if_icmp .ge 43, 3) := by decide +kernel
theorem dX12_enters_276 : decode cX12_enters 276 = .ok (.aload_n 0, 1) := by decide +kernel
theorem dX12_enters_277 : decode cX12_enters 277 = .ok (.invokevirtual 245, 3) := by decide +kernel
theorem dX12_enters_280 : decode cX12_enters 280 = .ok (.ifCond .eq 36, 3) := by decide +kernel
theorem dX12_enters_283 : decode cX12_enters 283 = .ok (.aload_n 0, 1) := by decide +kernel
theorem dX12_enters_284 : decode cX12_enters 284 = .ok (.iload 5, 2) := by decide +kernel
theorem dX12_enters_286 : decode cX12_enters 286 = .ok (.aload_n 0, 1) := by decide +kernel
theorem dX12_enters_287 : decode cX12_enters 287 = .ok (.getfield 109, 3) := by decide +kernel
theorem dX12_enters_290 : decode cX12_enters 290 = .ok (.iload 7, 2) := by decide +kernel
theorem dX12_enters_292 : decode cX12_enters 292 = .ok (.laload, 1) := by decide +kernel
theorem dX12_enters_293 : decode cX12_enters 293 = .ok (.aload_n 0, 1) := by decide +kernel
theorem dX12_enters_294 : decode cX12_enters 294 = .ok (.getfield 112, 3) := by decide +kernel
theorem dX12_enters_297 : decode cX12_enters 297 = .ok (.iload 7, 2) := by decide +kernel
theorem dX12_enters_299 : decode cX12_enters 299 = .ok (.iaload, 1) := by decide +kernel
theorem dX12_enters_300 : decode cX12_enters 300 = .ok (.aload_n 0, 1) := by decide +kernel
theorem dX12_enters_301 : decode cX12_enters 301 = .ok (.getfield 115, 3) := by decide +kernel
theorem dX12_enters_304 : decode cX12_enters 304 = .ok (.iload 7, 2) := by decide +kernel
theorem dX12_enters_306 : decode cX12_enters 306 = .ok (.laload, 1) := by decide +kernel
theorem dX12_enters_307 : decode cX12_enters 307 = .ok (.invokevirtual 366, 3) := by decide +kernel
theorem dX12_enters_310 : decode cX12_enters 310 = .ok (.iinc 7 1, 3) := by decide +kernel
theorem dX12_enters_313 : decode cX12_enters 313 = .ok (.goto (-55), 3) := by decide +kernel
theorem dX12_enters_316 : decode cX12_enters 316 = .ok (.aload_n 0, 1) := by decide +kernel
theorem dX12_enters_317 : decode cX12_enters 317 = .ok (.getfield 103, 3) := by decide +kernel
theorem dX12_enters_320 : decode cX12_enters 320 = .ok (.iload 4, 2) := by decide +kernel
theorem dX12_enters_322 : decode cX12_enters 322 = .ok (.baload, 1) := by decide +kernel
theorem dX12_enters_323 : decode cX12_enters 323 = .ok (.ifCond .ne 4, 3) := by decide +kernel
theorem dX12_enters_326 : decode cX12_enters 326 = .ok (.return_, 1) := by decide +kernel
theorem dX12_enters_327 : decode cX12_enters 327 = .ok (.aload_n 0, 1) := by decide +kernel
theorem dX12_enters_328 : decode cX12_enters 328 = .ok (.getfield 184, 3) := by decide +kernel
theorem dX12_enters_331 : decode cX12_enters 331 = .ok (.aload_n 0, 1) := by decide +kernel
theorem dX12_enters_332 : decode cX12_enters 332 = .ok (.getfield 359, 3) := by decide +kernel
theorem dX12_enters_335 : decode cX12_enters 335 = .ok (.iload 5, 2) := by decide +kernel
theorem dX12_enters_337 : decode cX12_enters 337 = .ok (.iastore, 1) := by decide +kernel
theorem dX12_enters_338 : decode cX12_enters 338 = .ok (.aload_n 0, 1) := by decide +kernel
theorem dX12_enters_339 : decode cX12_enters 339 = .ok (.dup, 1) := by decide +kernel
theorem dX12_enters_340 : decode cX12_enters 340 = .ok (.getfield 359, 3) := by decide +kernel
theorem dX12_enters_343 : decode cX12_enters 343 = .ok (.iconst 1, 1) := by decide +kernel
theorem dX12_enters_344 : decode cX12_enters 344 = .ok (.iadd, 1) := by decide +kernel
theorem dX12_enters_345 : decode cX12_enters 345 = .ok (.putfield 359, 3) := by decide +kernel
theorem dX12_enters_348 : decode cX12_enters 348 = .ok (.return_, 1) := by decide +kernel
theorem dX12_widthOf_0 : decode cX12_widthOf 0 = .ok (.iload_n 0, 1) := by decide +kernel
theorem dX12_widthOf_1 : decode cX12_widthOf 1 = .ok (.bipush 11, 2) := by decide +kernel
theorem dX12_widthOf_3 : decode cX12_widthOf 3 = .ok (.if_icmp .ne 7, 3) := by decide +kernel
theorem dX12_widthOf_6 : decode cX12_widthOf 6 = .ok (.iconst 1, 1) := by decide +kernel
theorem dX12_widthOf_7 : decode cX12_widthOf 7 = .ok (.goto 42, 3) := by decide +kernel
theorem dX12_widthOf_10 : decode cX12_widthOf 10 = .ok (.iload_n 0, 1) := by decide +kernel
theorem dX12_widthOf_11 : decode cX12_widthOf 11 = .ok (.iconst 5, 1) := by decide +kernel
theorem dX12_widthOf_12 : decode cX12_widthOf 12 = .ok (.if_icmp .ne 7, 3) := by decide +kernel
theorem dX12_widthOf_15 : decode cX12_widthOf 15 = .ok (.iconst 2, 1) := by decide +kernel
theorem dX12_widthOf_16 : decode cX12_widthOf 16 = .ok (.goto 33, 3) := by decide +kernel
theorem dX12_widthOf_19 : decode cX12_widthOf 19 = .ok (.iload_n 0, 1) := by decide +kernel
theorem dX12_widthOf_20 : decode cX12_widthOf 20 = .ok (.bipush 6, 2) := by decide +kernel
theorem dX12_widthOf_22 : decode cX12_widthOf 22 = .ok (.if_icmp .eq 21, 3) := by decide +kernel
theorem dX12_widthOf_25 : decode cX12_widthOf 25 = .ok (.iload_n 0, 1) := by decide +kernel
theorem dX12_widthOf_26 : decode cX12_widthOf 26 = .ok (.bipush 14, 2) := by decide +kernel
theorem dX12_widthOf_28 : decode cX12_widthOf 28 = .ok (.if_icmp .eq 15, 3) := by decide +kernel
theorem dX12_widthOf_31 : decode cX12_widthOf 31 = .ok (.iload_n 0, 1) := by decide +kernel
theorem dX12_widthOf_32 : decode cX12_widthOf 32 = .ok (.bipush 19, 2) := by decide +kernel
theorem dX12_widthOf_34 : decode cX12_widthOf 34 = .ok (.if_icmp .eq 9, 3) := by decide +kernel
theorem dX12_widthOf_37 : decode cX12_widthOf 37 = .ok (.iload_n 0, 1) := by decide +kernel
theorem dX12_widthOf_38 : decode cX12_widthOf 38 = .ok (.bipush 23, 2) := by decide +kernel
theorem dX12_widthOf_40 : decode cX12_widthOf 40 = .ok (.if_icmp .ne 7, 3) := by decide +kernel
theorem dX12_widthOf_43 : decode cX12_widthOf 43 = .ok (.iconst 4, 1) := by decide +kernel
theorem dX12_widthOf_44 : decode cX12_widthOf 44 = .ok (.goto 5, 3) := by decide +kernel
theorem dX12_widthOf_47 : decode cX12_widthOf 47 = .ok (.bipush 8, 2) := by decide +kernel
theorem dX12_widthOf_49 : decode cX12_widthOf 49 = .ok (.ireturn, 1) := by decide +kernel
theorem dX12_value_0 : decode cX12_value 0 = .ok (.aload_n 0, 1) := by decide +kernel
theorem dX12_value_1 : decode cX12_value 1 = .ok (.getfield 249, 3) := by decide +kernel
theorem dX12_value_4 : decode cX12_value 4 = .ok (.istore 7, 2) := by decide +kernel
theorem dX12_value_6 : decode cX12_value 6 = .ok (.iload 4, 2) := by decide +kernel
theorem dX12_value_8 : decode cX12_value 8 = .ok (.bipush 8, 2) := by decide +kernel
theorem dX12_value_10 : decode cX12_value 10 = .ok (.if_icmp .ne 41, 3) := by decide +kernel
theorem dX12_value_13 : decode cX12_value 13 = .ok (.aload_n 0, 1) := by decide +kernel
theorem dX12_value_14 : decode cX12_value 14 = .ok (.invokevirtual 370, 3) := by decide +kernel
theorem dX12_value_17 : decode cX12_value 17 = .ok (.istore 8, 2) := by decide +kernel
theorem dX12_value_19 : decode cX12_value 19 = .ok (.aload_n 0, 1) := by decide +kernel
theorem dX12_value_20 : decode cX12_value 20 = .ok (.invokevirtual 245, 3) := by decide +kernel
theorem dX12_value_23 : decode cX12_value 23 = .ok (.ifCond .eq 27, 3) := by decide +kernel
theorem dX12_value_26 : decode cX12_value 26 = .ok (.lload_n 2, 1) := by decide +kernel
theorem dX12_value_27 : decode cX12_value 27 = .ok (.ldc2_w 374, 3) := by decide +kernel
theorem dX12_value_30 : decode cX12_value 30 = .ok (.lcmp, 1) := by decide +kernel
theorem dX12_value_31 : decode cX12_value 31 = .ok (.ifCond .ne 19, 3) := by decide +kernel
theorem dX12_value_34 : decode cX12_value 34 = .ok (.aload_n 0, 1) := by decide +kernel
theorem dX12_value_35 : decode cX12_value 35 = .ok (.iload_n 1, 1) := by decide +kernel
theorem dX12_value_36 : decode cX12_value 36 = .ok (.iload 8, 2) := by decide +kernel
theorem dX12_value_38 : decode cX12_value 38 = .ok (.aload_n 0, 1) := by decide +kernel
theorem dX12_value_39 : decode cX12_value 39 = .ok (.getfield 249, 3) := by decide +kernel
theorem dX12_value_42 : decode cX12_value 42 = .ok (.iload 8, 2) := by decide +kernel
theorem dX12_value_44 : decode cX12_value 44 = .ok (.isub, 1) := by decide +kernel
theorem dX12_value_45 : decode cX12_value 45 = .ok (.iconst 1, 1) := by decide +kernel
theorem dX12_value_46 : decode cX12_value 46 = .ok (.isub, 1) := by decide +kernel
theorem dX12_value_47 : decode cX12_value 47 = .ok (.invokevirtual 376, 3) := by decide +kernel
theorem dX12_value_50 : decode cX12_value 50 = .ok (.return_, 1) := by decide +kernel
theorem dX12_value_51 : decode cX12_value 51 = .ok (.iload 4, 2) := by decide +kernel
theorem dX12_value_53 : decode cX12_value 53 = .ok (.bipush 24, 2) := by decide +kernel
theorem dX12_value_55 : decode cX12_value 55 = .ok (.if_icmp .ne 66, 3) := by decide +kernel
theorem dX12_value_58 : decode cX12_value 58 = .ok (.aload_n 0, 1) := by decide +kernel
theorem dX12_value_59 : decode cX12_value 59 = .ok (.invokevirtual 277, 3) := by decide +kernel
theorem dX12_value_62 : decode cX12_value 62 = .ok (.lstore 8, 2) := by decide +kernel
theorem dX12_value_64 : decode cX12_value 64 = .ok (.aload_n 0, 1) := by decide +kernel
theorem dX12_value_65 : decode cX12_value 65 = .ok (.invokevirtual 245, 3) := by decide +kernel
theorem dX12_value_68 : decode cX12_value 68 = .ok (.ifCond .eq 33, 3) := by decide +kernel
theorem dX12_value_71 : decode cX12_value 71 = .ok (.lload 8, 2) := by decide +kernel
theorem dX12_value_73 : decode cX12_value 73 = .ok (.lconst 0, 1) := by decide +kernel
theorem dX12_value_74 : decode cX12_value 74 = .ok (.lcmp, 1) := by decide +kernel
theorem dX12_value_75 : decode cX12_value 75 = .ok (.ifCond .lt 19, 3) := by decide +kernel
theorem dX12_value_78 : decode cX12_value 78 = .ok (.lload 8, 2) := by decide +kernel
theorem dX12_value_80 : decode cX12_value 80 = .ok (.aload_n 0, 1) := by decide +kernel
theorem dX12_value_81 : decode cX12_value 81 = .ok (.getfield 252, 3) := by decide +kernel
theorem dX12_value_84 : decode cX12_value 84 = .ok (.aload_n 0, 1) := by decide +kernel
theorem dX12_value_85 : decode cX12_value 85 = .ok (.getfield 249, 3) := by decide +kernel
theorem dX12_value_88 : decode cX12_value 88 = .ok (.isub, 1) := by decide +kernel
theorem dX12_value_89 : decode cX12_value 89 = .ok (.i2l, 1) := by decide +kernel
theorem dX12_value_90 : decode cX12_value 90 = .ok (.lcmp, 1) := by decide +kernel
theorem dX12_value_91 : decode cX12_value 91 = .ok (.ifCond .le 10, 3) := by decide +kernel
theorem dX12_value_94 : decode cX12_value 94 = .ok (.aload_n 0, 1) := by decide +kernel
theorem dX12_value_95 : decode cX12_value 95 = .ok (.iconst 1, 1) := by decide +kernel
theorem dX12_value_96 : decode cX12_value 96 = .ok (.iload 7, 2) := by decide +kernel
theorem dX12_value_98 : decode cX12_value 98 = .ok (.invokevirtual 255, 3) := by decide +kernel
theorem dX12_value_101 : decode cX12_value 101 = .ok (.aload_n 0, 1) := by decide +kernel
theorem dX12_value_102 : decode cX12_value 102 = .ok (.invokevirtual 245, 3) := by decide +kernel
theorem dX12_value_105 : decode cX12_value 105 = .ok (.ifCond .eq 15, 3) := by decide +kernel
theorem dX12_value_108 : decode cX12_value 108 = .ok (.aload_n 0, 1) := by decide +kernel
theorem dX12_value_109 : decode cX12_value 109 = .ok (.dup, 1) := by decide +kernel
theorem dX12_value_110 : decode cX12_value 110 = .ok (.getfield 249, 3) := by decide +kernel
theorem dX12_value_113 : decode cX12_value 113 = .ok (.lload 8, 2) := by decide +kernel
theorem dX12_value_115 : decode cX12_value 115 = .ok (.l2i, 1) := by decide +kernel
theorem dX12_value_116 : decode cX12_value 116 = .ok (.iadd, 1) := by decide +kernel
theorem dX12_value_117 : decode cX12_value 117 = .ok (.putfield 249, 3) := by decide +kernel
theorem dX12_value_120 : decode cX12_value 120 = .ok (.return_, 1) := by decide +kernel
theorem dX12_value_121 : decode cX12_value 121 = .ok (.iload 4, 2) := by decide +kernel
theorem dX12_value_123 : decode cX12_value 123 = .ok (.bipush 25, 2) := by decide +kernel
theorem dX12_value_125 : decode cX12_value 125 = .ok (.if_icmp .ne 4, 3) := by decide +kernel
theorem dX12_value_128 : decode cX12_value 128 = .ok (.return_, 1) := by decide +kernel
theorem dX12_value_129 : decode cX12_value 129 = .ok (.iload 4, 2) := by decide +kernel
theorem dX12_value_131 : decode cX12_value 131 = .ok (.bipush 33, 2) := by decide +kernel
theorem dX12_value_133 : decode cX12_value 133 = .ok (.if_icmp .ne 8, 3) := by decide +kernel
theorem dX12_value_136 : decode cX12_value 136 = .ok (.lload 5, 2) := by decide +kernel
theorem dX12_value_138 : decode cX12_value 138 = .ok (.goto 41, 3) := by decide +kernel
theorem dX12_value_141 : decode cX12_value 141 = .ok (.iload 4, 2) := by decide +kernel
theorem dX12_value_143 : decode cX12_value 143 = .ok (.bipush 15, 2) := by decide +kernel
theorem dX12_value_145 : decode cX12_value 145 = .ok (.if_icmp .ne 10, 3) := by decide +kernel
theorem dX12_value_148 : decode cX12_value 148 = .ok (.aload_n 0, 1) := by decide +kernel
theorem dX12_value_149 : decode cX12_value 149 = .ok (.invokevirtual 277, 3) := by decide +kernel
theorem dX12_value_152 : decode cX12_value 152 = .ok (.goto 27, 3) := by decide +kernel
theorem dX12_value_155 : decode cX12_value 155 = .ok (.iload 4, 2) := by decide +kernel
theorem dX12_value_157 : decode cX12_value 157 = .ok (.bipush 13, 2) := by decide +kernel
theorem dX12_value_159 : decode cX12_value 159 = .ok (.if_icmp .ne 11, 3) := by decide +kernel
theorem dX12_value_162 : decode cX12_value 162 = .ok (.aload_n 0, 1) := by decide +kernel
theorem dX12_value_163 : decode cX12_value 163 = .ok (.iconst 1, 1) := by decide +kernel
theorem dX12_value_164 : decode cX12_value 164 = .ok (.invokevirtual 265, 3) := by decide +kernel
theorem dX12_value_167 : decode cX12_value 167 = .ok (.goto 12, 3) := by decide +kernel
theorem dX12_value_170 : decode cX12_value 170 = .ok (.aload_n 0, 1) := by decide +kernel
theorem dX12_value_171 : decode cX12_value 171 = .ok (.iload 4, 2) := by decide +kernel
theorem dX12_value_173 : decode cX12_value 173 = .ok (.invokestatic 380, 3) := by decide +kernel
theorem dX12_value_176 : decode cX12_value 176 = .ok (.invokevirtual 273, 3) := by decide +kernel
theorem dX12_value_179 : decode cX12_value 179 = .ok (.lstore 8, 2) := by decide +kernel
theorem dX12_value_181 : decode cX12_value 181 = .ok (.aload_n 0, 1) := by decide +kernel
theorem dX12_value_182 : decode cX12_value 182 = .ok (.invokevirtual 245, 3) := by decide +kernel
theorem dX12_value_185 : decode cX12_value 185 = .ok (.ifCond .ne 4, 3) := by decide +kernel
theorem dX12_value_188 : decode cX12_value 188 = .ok (.return_, 1) := by decide +kernel
theorem dX12_value_189 : decode cX12_value 189 = .ok (.iload 4, 2) := by decide +kernel
theorem dX12_value_191 : decode cX12_value 191 = .ok (.iconst 1, 1) := by decide +kernel
theorem dX12_value_192 : decode cX12_value 192 = .ok (.if_icmp .ne 18, 3) := by decide +kernel
theorem dX12_value_195 : decode cX12_value 195 = .ok (.lload 8, 2) := by decide +kernel
theorem dX12_value_197 : decode cX12_value 197 = .ok (.lconst 0, 1) := by decide +kernel
theorem dX12_value_198 : decode cX12_value 198 = .ok (.lcmp, 1) := by decide +kernel
theorem dX12_value_199 : decode cX12_value 199 = .ok (.ifCond .ge 11, 3) := by decide +kernel
theorem dX12_value_202 : decode cX12_value 202 = .ok (.aload_n 0, 1) := by decide +kernel
theorem dX12_value_203 : decode cX12_value 203 = .ok (.iconst 2, 1) := by decide +kernel
theorem dX12_value_204 : decode cX12_value 204 = .ok (.iload 7, 2) := by decide +kernel
theorem dX12_value_206 : decode cX12_value 206 = .ok (.invokevirtual 255, 3) := by decide +kernel
theorem dX12_value_209 : decode cX12_value 209 = .ok (.return_, 1) := by decide +kernel
theorem dX12_value_210 : decode cX12_value 210 = .ok (.iload 4, 2) := by decide +kernel
theorem dX12_value_212 : decode cX12_value 212 = .ok (.bipush 14, 2) := by decide +kernel
theorem dX12_value_214 : decode cX12_value 214 = .ok (.if_icmp .ne 16, 3) := by decide +kernel
theorem dX12_value_217 : decode cX12_value 217 = .ok (.aload_n 0, 1) := by decide +kernel
theorem dX12_value_218 : decode cX12_value 218 = .ok (.iload_n 1, 1) := by decide +kernel
theorem dX12_value_219 : decode cX12_value 219 = .ok (.lload_n 2, 1) := by decide +kernel
theorem dX12_value_220 : decode cX12_value 220 = .ok (.lload 8, 2) := by decide +kernel
theorem dX12_value_222 : decode cX12_value 222 = .ok (.iload 7, 2) := by decide +kernel
theorem dX12_value_224 : decode cX12_value 224 = .ok (.invokevirtual 383, 3) := by decide +kernel
theorem dX12_value_227 : decode cX12_value 227 = .ok (.goto 33, 3) := by decide +kernel
theorem dX12_value_230 : decode cX12_value 230 = .ok (.iload 4, 2) := by decide +kernel
theorem dX12_value_232 : decode cX12_value 232 = .ok (.bipush 19, 2) := by decide +kernel
theorem dX12_value_234 : decode cX12_value 234 = .ok (.if_icmp .ne 16, 3) := by decide +kernel
theorem dX12_value_237 : decode cX12_value 237 = .ok (.aload_n 0, 1) := by decide +kernel
theorem dX12_value_238 : decode cX12_value 238 = .ok (.iload_n 1, 1) := by decide +kernel
theorem dX12_value_239 : decode cX12_value 239 = .ok (.lload_n 2, 1) := by decide +kernel
theorem dX12_value_240 : decode cX12_value 240 = .ok (.lload 8, 2) := by decide +kernel
theorem dX12_value_242 : decode cX12_value 242 = .ok (.iload 7, 2) := by decide +kernel
theorem dX12_value_244 : decode cX12_value 244 = .ok (.invokevirtual 387, 3) := by decide +kernel
theorem dX12_value_247 : decode cX12_value 247 = .ok (.goto 13, 3) := by decide +kernel
theorem dX12_value_250 : decode cX12_value 250 = .ok (.aload_n 0, 1) := by decide +kernel
theorem dX12_value_251 : decode cX12_value 251 = .ok (.iload_n 1, 1) := by decide +kernel
theorem dX12_value_252 : decode cX12_value 252 = .ok (.lload_n 2, 1) := by decide +kernel
theorem dX12_value_253 : decode cX12_value 253 = .ok (.iload 4, 2) := by decide +kernel
theorem dX12_value_255 : decode cX12_value 255 = .ok (.lload 8, 2) := by decide +kernel
theorem dX12_value_257 : decode cX12_value 257 = .ok (.invokevirtual 390, 3) := by decide +kernel
theorem dX12_value_260 : decode cX12_value 260 = .ok (.return_, 1) := by decide +kernel
theorem dX12_names_0 : decode cX12_names 0 = .ok (.sipush 400, 3) := by decide +kernel
theorem dX12_names_3 : decode cX12_names 3 = .ok (.aload_n 0, 1) := by decide +kernel
theorem dX12_names_4 : decode cX12_names 4 = .ok (.getfield 17, 3) := by decide +kernel
theorem dX12_names_7 : decode cX12_names 7 = .ok (.imul, 1) := by decide +kernel
theorem dX12_names_8 : decode cX12_names 8 = .ok (.iload_n 1, 1) := by decide +kernel
theorem dX12_names_9 : decode cX12_names 9 = .ok (.iadd, 1) := by decide +kernel
theorem dX12_names_10 : decode cX12_names 10 = .ok (.istore 4, 2) := by decide +kernel
theorem dX12_names_12 : decode cX12_names 12 = .ok (.aload_n 0, 1) := by decide +kernel
theorem dX12_names_13 : decode cX12_names 13 = .ok (.getfield 136, 3) := by decide +kernel
theorem dX12_names_16 : decode cX12_names 16 = .ok (.iload 4, 2) := by decide +kernel
theorem dX12_names_18 : decode cX12_names 18 = .ok (.iaload, 1) := by decide +kernel
theorem dX12_names_19 : decode cX12_names 19 = .ok (.iconst (-1), 1) := by decide +kernel
theorem dX12_names_20 : decode cX12_names 20 = .ok (.if_icmp .eq 4, 3) := by decide +kernel
theorem dX12_names_23 : decode cX12_names 23 = .ok (.return_, 1) := by decide +kernel
theorem dX12_names_24 : decode cX12_names 24 = .ok (.aload_n 0, 1) := by decide +kernel
theorem dX12_names_25 : decode cX12_names 25 = .ok (.getfield 133, 3) := by decide +kernel
theorem dX12_names_28 : decode cX12_names 28 = .ok (.iload 4, 2) := by decide +kernel
theorem dX12_names_30 : decode cX12_names 30 = .ok (.iload_n 2, 1) := by decide +kernel
theorem dX12_names_31 : decode cX12_names 31 = .ok (.iastore, 1) := by decide +kernel
theorem dX12_names_32 : decode cX12_names 32 = .ok (.aload_n 0, 1) := by decide +kernel
theorem dX12_names_33 : decode cX12_names 33 = .ok (.getfield 136, 3) := by decide +kernel
theorem dX12_names_36 : decode cX12_names 36 = .ok (.iload 4, 2) := by decide +kernel
theorem dX12_names_38 : decode cX12_names 38 = .ok (.iload_n 3, 1) := by decide +kernel
theorem dX12_names_39 : decode cX12_names 39 = .ok (.iastore, 1) := by decide +kernel
theorem dX12_names_40 : decode cX12_names 40 = .ok (.return_, 1) := by decide +kernel
theorem dX12_text_0 : decode cX12_text 0 = .ok (.lload 4, 2) := by decide +kernel
theorem dX12_text_2 : decode cX12_text 2 = .ok (.aload_n 0, 1) := by decide +kernel
theorem dX12_text_3 : decode cX12_text 3 = .ok (.getfield 56, 3) := by decide +kernel
theorem dX12_text_6 : decode cX12_text 6 = .ok (.iconst 4, 1) := by decide +kernel
theorem dX12_text_7 : decode cX12_text 7 = .ok (.iaload, 1) := by decide +kernel
theorem dX12_text_8 : decode cX12_text 8 = .ok (.i2l, 1) := by decide +kernel
theorem dX12_text_9 : decode cX12_text 9 = .ok (.lcmp, 1) := by decide +kernel
theorem dX12_text_10 : decode cX12_text 10 = .ok (.ifCond .lt 11, 3) := by decide +kernel
theorem dX12_text_13 : decode cX12_text 13 = .ok (.aload_n 0, 1) := by decide +kernel
theorem dX12_text_14 : decode cX12_text 14 = .ok (.iconst 3, 1) := by decide +kernel
theorem dX12_text_15 : decode cX12_text 15 = .ok (.iload 6, 2) := by decide +kernel
theorem dX12_text_17 : decode cX12_text 17 = .ok (.invokevirtual 255, 3) := by decide +kernel
theorem dX12_text_20 : decode cX12_text 20 = .ok (.return_, 1) := by decide +kernel
theorem dX12_text_21 : decode cX12_text 21 = .ok (.aload_n 0, 1) := by decide +kernel
theorem dX12_text_22 : decode cX12_text 22 = .ok (.aload_n 0, 1) := by decide +kernel
theorem dX12_text_23 : decode cX12_text 23 = .ok (.getfield 53, 3) := by decide +kernel
theorem dX12_text_26 : decode cX12_text 26 = .ok (.iconst 4, 1) := by decide +kernel
theorem dX12_text_27 : decode cX12_text 27 = .ok (.iaload, 1) := by decide +kernel
theorem dX12_text_28 : decode cX12_text 28 = .ok (.lload 4, 2) := by decide +kernel
theorem dX12_text_30 : decode cX12_text 30 = .ok (.l2i, 1) := by decide +kernel
theorem dX12_text_31 : decode cX12_text 31 = .ok (.iadd, 1) := by decide +kernel
theorem dX12_text_32 : decode cX12_text 32 = .ok (.aload_n 0, 1) := by decide +kernel
theorem dX12_text_33 : decode cX12_text 33 = .ok (.iconst 4, 1) := by decide +kernel
theorem dX12_text_34 : decode cX12_text 34 = .ok (.invokevirtual 299, 3) := by decide +kernel
theorem dX12_text_37 : decode cX12_text 37 = .ok (.invokevirtual 269, 3) := by decide +kernel
theorem dX12_text_40 : decode cX12_text 40 = .ok (.istore 7, 2) := by decide +kernel
theorem dX12_text_42 : decode cX12_text 42 = .ok (.iload 7, 2) := by decide +kernel
theorem dX12_text_44 : decode cX12_text 44 = .ok (.iconst (-1), 1) := by decide +kernel
theorem dX12_text_45 : decode cX12_text 45 = .ok (.if_icmp .ne 13, 3) := by decide +kernel
theorem dX12_text_48 : decode cX12_text 48 = .ok (.aload_n 0, 1) := by decide +kernel
theorem dX12_text_49 : decode cX12_text 49 = .ok (.iconst 1, 1) := by decide +kernel
theorem dX12_text_50 : decode cX12_text 50 = .ok (.iload 6, 2) := by decide +kernel
theorem dX12_text_52 : decode cX12_text 52 = .ok (.invokevirtual 255, 3) := by decide +kernel
theorem dX12_text_55 : decode cX12_text 55 = .ok (.goto 28, 3) := by decide +kernel
theorem dX12_text_58 : decode cX12_text 58 = .ok (.lload_n 2, 1) := by decide +kernel
theorem dX12_text_59 : decode cX12_text 59 = .ok (.ldc2_w 374, 3) := by decide +kernel
theorem dX12_text_62 : decode cX12_text 62 = .ok (.lcmp, 1) := by decide +kernel
theorem dX12_text_63 : decode cX12_text 63 = .ok (.ifCond .ne 20, 3) := by decide +kernel
theorem dX12_text_66 : decode cX12_text 66 = .ok (.aload_n 0, 1) := by decide +kernel
theorem dX12_text_67 : decode cX12_text 67 = .ok (.iload_n 1, 1) := by decide +kernel
theorem dX12_text_68 : decode cX12_text 68 = .ok (.aload_n 0, 1) := by decide +kernel
theorem dX12_text_69 : decode cX12_text 69 = .ok (.getfield 53, 3) := by decide +kernel
theorem dX12_text_72 : decode cX12_text 72 = .ok (.iconst 4, 1) := by decide +kernel
theorem dX12_text_73 : decode cX12_text 73 = .ok (.iaload, 1) := by decide +kernel
theorem dX12_text_74 : decode cX12_text 74 = .ok (.lload 4, 2) := by decide +kernel
theorem dX12_text_76 : decode cX12_text 76 = .ok (.l2i, 1) := by decide +kernel
theorem dX12_text_77 : decode cX12_text 77 = .ok (.iadd, 1) := by decide +kernel
theorem dX12_text_78 : decode cX12_text 78 = .ok (.iload 7, 2) := by decide +kernel
theorem dX12_text_80 : decode cX12_text 80 = .ok (.invokevirtual 376, 3) := by decide +kernel
theorem dX12_text_83 : decode cX12_text 83 = .ok (.return_, 1) := by decide +kernel
theorem dX12_refers_0 : decode cX12_refers 0 = .ok (.aload_n 0, 1) := by decide +kernel
theorem dX12_refers_1 : decode cX12_refers 1 = .ok (.getfield 172, 3) := by decide +kernel
theorem dX12_refers_4 : decode cX12_refers 4 = .ok (.aload_n 0, 1) := by decide +kernel
theorem dX12_refers_5 : decode cX12_refers 5 = .ok (.getfield 316, 3) := by decide +kernel
theorem dX12_refers_8 : decode cX12_refers 8 = .ok (.iload 6, 2) := by decide +kernel
theorem dX12_refers_10 : decode cX12_refers 10 = .ok (.iastore, 1) := by decide +kernel
theorem dX12_refers_11 : decode cX12_refers 11 = .ok (.aload_n 0, 1) := by decide +kernel
theorem dX12_refers_12 : decode cX12_refers 12 = .ok (.getfield 175, 3) := by decide +kernel
theorem dX12_refers_15 : decode cX12_refers 15 = .ok (.aload_n 0, 1) := by decide +kernel
theorem dX12_refers_16 : decode cX12_refers 16 = .ok (.getfield 316, 3) := by decide +kernel
theorem dX12_refers_19 : decode cX12_refers 19 = .ok (.lload 4, 2) := by decide +kernel
theorem dX12_refers_21 : decode cX12_refers 21 = .ok (.lastore, 1) := by decide +kernel
theorem dX12_refers_22 : decode cX12_refers 22 = .ok (.aload_n 0, 1) := by decide +kernel
theorem dX12_refers_23 : decode cX12_refers 23 = .ok (.getfield 178, 3) := by decide +kernel
theorem dX12_refers_26 : decode cX12_refers 26 = .ok (.aload_n 0, 1) := by decide +kernel
theorem dX12_refers_27 : decode cX12_refers 27 = .ok (.getfield 316, 3) := by decide +kernel
theorem dX12_refers_30 : decode cX12_refers 30 = .ok (.iload_n 1, 1) := by decide +kernel
theorem dX12_refers_31 : decode cX12_refers 31 = .ok (.iastore, 1) := by decide +kernel
theorem dX12_refers_32 : decode cX12_refers 32 = .ok (.aload_n 0, 1) := by decide +kernel
theorem dX12_refers_33 : decode cX12_refers 33 = .ok (.getfield 181, 3) := by decide +kernel
theorem dX12_refers_36 : decode cX12_refers 36 = .ok (.aload_n 0, 1) := by decide +kernel
theorem dX12_refers_37 : decode cX12_refers 37 = .ok (.getfield 316, 3) := by decide +kernel
theorem dX12_refers_40 : decode cX12_refers 40 = .ok (.lload_n 2, 1) := by decide +kernel
theorem dX12_refers_41 : decode cX12_refers 41 = .ok (.ldc2_w 393, 3) := by decide +kernel
theorem dX12_refers_44 : decode cX12_refers 44 = .ok (.lcmp, 1) := by decide +kernel
theorem dX12_refers_45 : decode cX12_refers 45 = .ok (.ifCond .ne 7, 3) := by decide +kernel
theorem dX12_refers_48 : decode cX12_refers 48 = .ok (.iconst 1, 1) := by decide +kernel
theorem dX12_refers_49 : decode cX12_refers 49 = .ok (.goto 16, 3) := by decide +kernel
theorem dX12_refers_52 : decode cX12_refers 52 = .ok (.lload_n 2, 1) := by decide +kernel
theorem dX12_refers_53 : decode cX12_refers 53 = .ok (.ldc2_w 395, 3) := by decide +kernel
theorem dX12_refers_56 : decode cX12_refers 56 = .ok (.lcmp, 1) := by decide +kernel
theorem dX12_refers_57 : decode cX12_refers 57 = .ok (.ifCond .ne 7, 3) := by decide +kernel
theorem dX12_refers_60 : decode cX12_refers 60 = .ok (.iconst 2, 1) := by decide +kernel
theorem dX12_refers_61 : decode cX12_refers 61 = .ok (.goto 4, 3) := by decide +kernel
theorem dX12_refers_64 : decode cX12_refers 64 = .ok (.iconst 0, 1) := by decide +kernel
theorem dX12_refers_65 : decode cX12_refers 65 = .ok (.iastore, 1) := by decide +kernel
theorem dX12_refers_66 : decode cX12_refers 66 = .ok (.aload_n 0, 1) := by decide +kernel
theorem dX12_refers_67 : decode cX12_refers 67 = .ok (.dup, 1) := by decide +kernel
theorem dX12_refers_68 : decode cX12_refers 68 = .ok (.getfield 316, 3) := by decide +kernel
theorem dX12_refers_71 : decode cX12_refers 71 = .ok (.iconst 1, 1) := by decide +kernel
theorem dX12_refers_72 : decode cX12_refers 72 = .ok (.iadd, 1) := by decide +kernel
theorem dX12_refers_73 : decode cX12_refers 73 = .ok (.putfield 316, 3) := by decide +kernel
theorem dX12_refers_76 : decode cX12_refers 76 = .ok (.return_, 1) := by decide +kernel
theorem dX12_matters_0 : decode cX12_matters 0 = .ok (.sipush 400, 3) := by decide +kernel
theorem dX12_matters_3 : decode cX12_matters 3 = .ok (.aload_n 0, 1) := by decide +kernel
theorem dX12_matters_4 : decode cX12_matters 4 = .ok (.getfield 17, 3) := by decide +kernel
theorem dX12_matters_7 : decode cX12_matters 7 = .ok (.imul, 1) := by decide +kernel
theorem dX12_matters_8 : decode cX12_matters 8 = .ok (.iload_n 1, 1) := by decide +kernel
theorem dX12_matters_9 : decode cX12_matters 9 = .ok (.iadd, 1) := by decide +kernel
theorem dX12_matters_10 : decode cX12_matters 10 = .ok (.istore 7, 2) := by decide +kernel
theorem dX12_matters_12 : decode cX12_matters 12 = .ok (.iload 4, 2) := by decide +kernel
theorem dX12_matters_14 : decode cX12_matters 14 = .ok (.bipush 11, 2) := by decide +kernel
theorem dX12_matters_16 : decode cX12_matters 16 = .ok (.if_icmp .eq 37, 3) := by decide +kernel
theorem dX12_matters_19 : decode cX12_matters 19 = .ok (.iload 4, 2) := by decide +kernel
theorem dX12_matters_21 : decode cX12_matters 21 = .ok (.iconst 5, 1) := by decide +kernel
theorem dX12_matters_22 : decode cX12_matters 22 = .ok (.if_icmp .eq 31, 3) := by decide +kernel
theorem dX12_matters_25 : decode cX12_matters 25 = .ok (.iload 4, 2) := by decide +kernel
theorem dX12_matters_27 : decode cX12_matters 27 = .ok (.bipush 6, 2) := by decide +kernel
theorem dX12_matters_29 : decode cX12_matters 29 = .ok (.if_icmp .eq 24, 3) := by decide +kernel
theorem dX12_matters_32 : decode cX12_matters 32 = .ok (.iload 4, 2) := by decide +kernel
theorem dX12_matters_34 : decode cX12_matters 34 = .ok (.bipush 7, 2) := by decide +kernel
theorem dX12_matters_36 : decode cX12_matters 36 = .ok (.if_icmp .eq 17, 3) := by decide +kernel
theorem dX12_matters_39 : decode cX12_matters 39 = .ok (.iload 4, 2) := by decide +kernel
theorem dX12_matters_41 : decode cX12_matters 41 = .ok (.bipush 15, 2) := by decide +kernel
theorem dX12_matters_43 : decode cX12_matters 43 = .ok (.if_icmp .eq 10, 3) := by decide +kernel
theorem dX12_matters_46 : decode cX12_matters 46 = .ok (.iload 4, 2) := by decide +kernel
theorem dX12_matters_48 : decode cX12_matters 48 = .ok (.bipush 33, 2) := by decide +kernel
theorem dX12_matters_50 : decode cX12_matters 50 = .ok (.if_icmp .ne 7, 3) := by decide +kernel
theorem dX12_matters_53 : decode cX12_matters 53 = .ok (.iconst 1, 1) := by decide +kernel
theorem dX12_matters_54 : decode cX12_matters 54 = .ok (.goto 4, 3) := by decide +kernel
theorem dX12_matters_57 : decode cX12_matters 57 = .ok (.iconst 0, 1) := by decide +kernel
theorem dX12_matters_58 : decode cX12_matters 58 = .ok (.istore 8, 2) := by decide +kernel
theorem dX12_matters_60 : decode cX12_matters 60 = .ok (.lload_n 2, 1) := by decide +kernel
theorem dX12_matters_61 : decode cX12_matters 61 = .ok (.ldc2_w 397, 3) := by decide +kernel
theorem dX12_matters_64 : decode cX12_matters 64 = .ok (.lcmp, 1) := by decide +kernel
theorem dX12_matters_65 : decode cX12_matters 65 = .ok (.ifCond .ne 36, 3) := by decide +kernel
theorem dX12_matters_68 : decode cX12_matters 68 = .ok (.iload 4, 2) := by decide +kernel
theorem dX12_matters_70 : decode cX12_matters 70 = .ok (.iconst 1, 1) := by decide +kernel
theorem dX12_matters_71 : decode cX12_matters 71 = .ok (.if_icmp .ne 30, 3) := by decide +kernel
theorem dX12_matters_74 : decode cX12_matters 74 = .ok (.aload_n 0, 1) := by decide +kernel
theorem dX12_matters_75 : decode cX12_matters 75 = .ok (.getfield 151, 3) := by decide +kernel
theorem dX12_matters_78 : decode cX12_matters 78 = .ok (.iload_n 1, 1) := by decide +kernel
theorem dX12_matters_79 : decode cX12_matters 79 = .ok (.baload, 1) := by decide +kernel
theorem dX12_matters_80 : decode cX12_matters 80 = .ok (.ifCond .ne 21, 3) := by decide +kernel
theorem dX12_matters_83 : decode cX12_matters 83 = .ok (.aload_n 0, 1) := by decide +kernel
theorem dX12_matters_84 : decode cX12_matters 84 = .ok (.getfield 151, 3) := by decide +kernel
theorem dX12_matters_87 : decode cX12_matters 87 = .ok (.iload_n 1, 1) := by decide +kernel
theorem dX12_matters_88 : decode cX12_matters 88 = .ok (.iconst 1, 1) := by decide +kernel
theorem dX12_matters_89 : decode cX12_matters 89 = .ok (.bastore, 1) := by decide +kernel
theorem dX12_matters_90 : decode cX12_matters 90 = .ok (.aload_n 0, 1) := by decide +kernel
theorem dX12_matters_91 : decode cX12_matters 91 = .ok (.getfield 163, 3) := by decide +kernel
theorem dX12_matters_94 : decode cX12_matters 94 = .ok (.iload_n 1, 1) := by decide +kernel
theorem dX12_matters_95 : decode cX12_matters 95 = .ok (.lload 5, 2) := by decide +kernel
theorem dX12_matters_97 : decode cX12_matters 97 = .ok (.lastore, 1) := by decide +kernel
theorem dX12_matters_98 : decode cX12_matters 98 = .ok (.goto 285, 3) := by decide +kernel
theorem dX12_matters_101 : decode cX12_matters 101 = .ok (.lload_n 2, 1) := by decide +kernel
theorem dX12_matters_102 : decode cX12_matters 102 = .ok (.ldc2_w 399, 3) := by decide +kernel
theorem dX12_matters_105 : decode cX12_matters 105 = .ok (.lcmp, 1) := by decide +kernel
theorem dX12_matters_106 : decode cX12_matters 106 = .ok (.ifCond .ne 58, 3) := by decide +kernel
theorem dX12_matters_109 : decode cX12_matters 109 = .ok (.iload 4, 2) := by decide +kernel
theorem dX12_matters_111 : decode cX12_matters 111 = .ok (.iconst 1, 1) := by decide +kernel
theorem dX12_matters_112 : decode cX12_matters 112 = .ok (.if_icmp .eq 8, 3) := by decide +kernel
theorem dX12_matters_115 : decode cX12_matters 115 = .ok (.iload 8, 2) := by decide +kernel
theorem dX12_matters_117 : decode cX12_matters 117 = .ok (.ifCond .eq 47, 3) := by decide +kernel
theorem dX12_matters_120 : decode cX12_matters 120 = .ok (.aload_n 0, 1) := by decide +kernel
theorem dX12_matters_121 : decode cX12_matters 121 = .ok (.getfield 154, 3) := by decide +kernel
theorem dX12_matters_124 : decode cX12_matters 124 = .ok (.iload_n 1, 1) := by decide +kernel
theorem dX12_matters_125 : decode cX12_matters 125 = .ok (.baload, 1) := by decide +kernel
theorem dX12_matters_126 : decode cX12_matters 126 = .ok (.ifCond .ne 38, 3) := by decide +kernel
theorem dX12_matters_129 : decode cX12_matters 129 = .ok (.aload_n 0, 1) := by decide +kernel
theorem dX12_matters_130 : decode cX12_matters 130 = .ok (.getfield 154, 3) := by decide +kernel
theorem dX12_matters_133 : decode cX12_matters 133 = .ok (.iload_n 1, 1) := by decide +kernel
theorem dX12_matters_134 : decode cX12_matters 134 = .ok (.iconst 1, 1) := by decide +kernel
theorem dX12_matters_135 : decode cX12_matters 135 = .ok (.bastore, 1) := by decide +kernel
theorem dX12_matters_136 : decode cX12_matters 136 = .ok (.aload_n 0, 1) := by decide +kernel
theorem dX12_matters_137 : decode cX12_matters 137 = .ok (.getfield 157, 3) := by decide +kernel
theorem dX12_matters_140 : decode cX12_matters 140 = .ok (.iload_n 1, 1) := by decide +kernel
theorem dX12_matters_141 : decode cX12_matters 141 = .ok (.iload 4, 2) := by decide +kernel
theorem dX12_matters_143 : decode cX12_matters 143 = .ok (.iconst 1, 1) := by decide +kernel
theorem dX12_matters_144 : decode cX12_matters 144 = .ok (.if_icmp .eq 7, 3) := by decide +kernel
theorem dX12_matters_147 : decode cX12_matters 147 = .ok (.iconst 1, 1) := by decide +kernel
theorem dX12_matters_148 : decode cX12_matters 148 = .ok (.goto 4, 3) := by decide +kernel
theorem dX12_matters_151 : decode cX12_matters 151 = .ok (.iconst 0, 1) := by decide +kernel
theorem dX12_matters_152 : decode cX12_matters 152 = .ok (.bastore, 1) := by decide +kernel
theorem dX12_matters_153 : decode cX12_matters 153 = .ok (.aload_n 0, 1) := by decide +kernel
theorem dX12_matters_154 : decode cX12_matters 154 = .ok (.getfield 166, 3) := by decide +kernel
theorem dX12_matters_157 : decode cX12_matters 157 = .ok (.iload_n 1, 1) := by decide +kernel
theorem dX12_matters_158 : decode cX12_matters 158 = .ok (.lload 5, 2) := by decide +kernel
theorem dX12_matters_160 : decode cX12_matters 160 = .ok (.lastore, 1) := by decide +kernel
