theorem tc_dL_403 : decode code 403 = .ok (.ireturn, 1) := by decide +kernel
theorem tc_dL_404 : decode code 404 = .ok (.aload_n 1, 1) := by decide +kernel
theorem tc_dL_405 : decode code 405 = .ok (.aload_n 0, 1) := by decide +kernel
theorem tc_dL_406 : decode code 406 = .ok (.iload_n 3, 1) := by decide +kernel
theorem tc_dL_407 : decode code 407 = .ok (.iconst 1, 1) := by decide +kernel
theorem tc_dL_408 : decode code 408 = .ok (.iadd, 1) := by decide +kernel
theorem tc_dL_409 : decode code 409 = .ok (.iaload, 1) := by decide +kernel
theorem tc_dL_410 : decode code 410 = .ok (.aload_n 0, 1) := by decide +kernel
theorem tc_dL_411 : decode code 411 = .ok (.iload_n 3, 1) := by decide +kernel
theorem tc_dL_412 : decode code 412 = .ok (.iconst 2, 1) := by decide +kernel
theorem tc_dL_413 : decode code 413 = .ok (.iadd, 1) := by decide +kernel
theorem tc_dL_414 : decode code 414 = .ok (.iaload, 1) := by decide +kernel
theorem tc_dL_415 : decode code 415 = .ok (.invokevirtual 41, 3) := by decide +kernel
theorem tc_dL_418 : decode code 418 = .ok (.aload_n 2, 1) := by decide +kernel
theorem tc_dL_419 : decode code 419 = .ok (.aload_n 0, 1) := by decide +kernel
theorem tc_dL_420 : decode code 420 = .ok (.iload_n 3, 1) := by decide +kernel
theorem tc_dL_421 : decode code 421 = .ok (.iconst 1, 1) := by decide +kernel
theorem tc_dL_422 : decode code 422 = .ok (.iadd, 1) := by decide +kernel
theorem tc_dL_423 : decode code 423 = .ok (.iaload, 1) := by decide +kernel
theorem tc_dL_424 : decode code 424 = .ok (.aload_n 0, 1) := by decide +kernel
theorem tc_dL_425 : decode code 425 = .ok (.iload_n 3, 1) := by decide +kernel
theorem tc_dL_426 : decode code 426 = .ok (.iconst 2, 1) := by decide +kernel
theorem tc_dL_427 : decode code 427 = .ok (.iadd, 1) := by decide +kernel
theorem tc_dL_428 : decode code 428 = .ok (.iaload, 1) := by decide +kernel
theorem tc_dL_429 : decode code 429 = .ok (.invokevirtual 44, 3) := by decide +kernel
theorem tc_dL_432 : decode code 432 = .ok (.if_icmp .eq 927, 3) := by decide +kernel
theorem tc_dL_435 : decode code 435 = .ok (.iconst 0, 1) := by decide +kernel
theorem tc_dL_436 : decode code 436 = .ok (.ireturn, 1) := by decide +kernel
theorem tc_dL_437 : decode code 437 = .ok (.aload_n 1, 1) := by decide +kernel
theorem tc_dL_438 : decode code 438 = .ok (.invokevirtual 45, 3) := by decide +kernel
theorem tc_dL_441 : decode code 441 = .ok (.aload_n 2, 1) := by decide +kernel
theorem tc_dL_442 : decode code 442 = .ok (.invokevirtual 48, 3) := by decide +kernel
theorem tc_dL_445 : decode code 445 = .ok (.if_icmp .eq 914, 3) := by decide +kernel
theorem tc_dL_448 : decode code 448 = .ok (.iconst 0, 1) := by decide +kernel
theorem tc_dL_449 : decode code 449 = .ok (.ireturn, 1) := by decide +kernel
theorem tc_dL_450 : decode code 450 = .ok (.aload_n 1, 1) := by decide +kernel
theorem tc_dL_451 : decode code 451 = .ok (.aload_n 0, 1) := by decide +kernel
theorem tc_dL_452 : decode code 452 = .ok (.iload_n 3, 1) := by decide +kernel
theorem tc_dL_453 : decode code 453 = .ok (.iconst 1, 1) := by decide +kernel
theorem tc_dL_454 : decode code 454 = .ok (.iadd, 1) := by decide +kernel
theorem tc_dL_455 : decode code 455 = .ok (.iaload, 1) := by decide +kernel
theorem tc_dL_456 : decode code 456 = .ok (.aload_n 0, 1) := by decide +kernel
theorem tc_dL_457 : decode code 457 = .ok (.iload_n 3, 1) := by decide +kernel
theorem tc_dL_458 : decode code 458 = .ok (.iconst 2, 1) := by decide +kernel
theorem tc_dL_459 : decode code 459 = .ok (.iadd, 1) := by decide +kernel
theorem tc_dL_460 : decode code 460 = .ok (.iaload, 1) := by decide +kernel
theorem tc_dL_461 : decode code 461 = .ok (.invokevirtual 49, 3) := by decide +kernel
theorem tc_dL_464 : decode code 464 = .ok (.aload_n 2, 1) := by decide +kernel
theorem tc_dL_465 : decode code 465 = .ok (.aload_n 0, 1) := by decide +kernel
theorem tc_dL_466 : decode code 466 = .ok (.iload_n 3, 1) := by decide +kernel
theorem tc_dL_467 : decode code 467 = .ok (.iconst 1, 1) := by decide +kernel
theorem tc_dL_468 : decode code 468 = .ok (.iadd, 1) := by decide +kernel
theorem tc_dL_469 : decode code 469 = .ok (.iaload, 1) := by decide +kernel
theorem tc_dL_470 : decode code 470 = .ok (.aload_n 0, 1) := by decide +kernel
theorem tc_dL_471 : decode code 471 = .ok (.iload_n 3, 1) := by decide +kernel
theorem tc_dL_472 : decode code 472 = .ok (.iconst 2, 1) := by decide +kernel
theorem tc_dL_473 : decode code 473 = .ok (.iadd, 1) := by decide +kernel
theorem tc_dL_474 : decode code 474 = .ok (.iaload, 1) := by decide +kernel
theorem tc_dL_475 : decode code 475 = .ok (.invokevirtual 52, 3) := by decide +kernel
theorem tc_dL_478 : decode code 478 = .ok (.if_icmp .eq 881, 3) := by decide +kernel
theorem tc_dL_481 : decode code 481 = .ok (.iconst 0, 1) := by decide +kernel
theorem tc_dL_482 : decode code 482 = .ok (.ireturn, 1) := by decide +kernel
theorem tc_dL_483 : decode code 483 = .ok (.aload_n 1, 1) := by decide +kernel
theorem tc_dL_484 : decode code 484 = .ok (.aload_n 0, 1) := by decide +kernel
theorem tc_dL_485 : decode code 485 = .ok (.iload_n 3, 1) := by decide +kernel
theorem tc_dL_486 : decode code 486 = .ok (.iconst 1, 1) := by decide +kernel
theorem tc_dL_487 : decode code 487 = .ok (.iadd, 1) := by decide +kernel
theorem tc_dL_488 : decode code 488 = .ok (.iaload, 1) := by decide +kernel
theorem tc_dL_489 : decode code 489 = .ok (.aload_n 0, 1) := by decide +kernel
theorem tc_dL_490 : decode code 490 = .ok (.iload_n 3, 1) := by decide +kernel
theorem tc_dL_491 : decode code 491 = .ok (.iconst 2, 1) := by decide +kernel
theorem tc_dL_492 : decode code 492 = .ok (.iadd, 1) := by decide +kernel
theorem tc_dL_493 : decode code 493 = .ok (.iaload, 1) := by decide +kernel
theorem tc_dL_494 : decode code 494 = .ok (.invokevirtual 53, 3) := by decide +kernel
theorem tc_dL_497 : decode code 497 = .ok (.aload_n 2, 1) := by decide +kernel
theorem tc_dL_498 : decode code 498 = .ok (.aload_n 0, 1) := by decide +kernel
theorem tc_dL_499 : decode code 499 = .ok (.iload_n 3, 1) := by decide +kernel
theorem tc_dL_500 : decode code 500 = .ok (.iconst 1, 1) := by decide +kernel
theorem tc_dL_501 : decode code 501 = .ok (.iadd, 1) := by decide +kernel
theorem tc_dL_502 : decode code 502 = .ok (.iaload, 1) := by decide +kernel
theorem tc_dL_503 : decode code 503 = .ok (.aload_n 0, 1) := by decide +kernel
theorem tc_dL_504 : decode code 504 = .ok (.iload_n 3, 1) := by decide +kernel
theorem tc_dL_505 : decode code 505 = .ok (.iconst 2, 1) := by decide +kernel
theorem tc_dL_506 : decode code 506 = .ok (.iadd, 1) := by decide +kernel
theorem tc_dL_507 : decode code 507 = .ok (.iaload, 1) := by decide +kernel
theorem tc_dL_508 : decode code 508 = .ok (.invokevirtual 56, 3) := by decide +kernel
theorem tc_dL_511 : decode code 511 = .ok (.if_icmp .eq 848, 3) := by decide +kernel
theorem tc_dL_514 : decode code 514 = .ok (.iconst 0, 1) := by decide +kernel
theorem tc_dL_515 : decode code 515 = .ok (.ireturn, 1) := by decide +kernel
theorem tc_dL_516 : decode code 516 = .ok (.aload_n 1, 1) := by decide +kernel
theorem tc_dL_517 : decode code 517 = .ok (.aload_n 0, 1) := by decide +kernel
theorem tc_dL_518 : decode code 518 = .ok (.iload_n 3, 1) := by decide +kernel
theorem tc_dL_519 : decode code 519 = .ok (.iconst 1, 1) := by decide +kernel
theorem tc_dL_520 : decode code 520 = .ok (.iadd, 1) := by decide +kernel
theorem tc_dL_521 : decode code 521 = .ok (.iaload, 1) := by decide +kernel
theorem tc_dL_522 : decode code 522 = .ok (.aload_n 0, 1) := by decide +kernel
theorem tc_dL_523 : decode code 523 = .ok (.iload_n 3, 1) := by decide +kernel
theorem tc_dL_524 : decode code 524 = .ok (.iconst 2, 1) := by decide +kernel
theorem tc_dL_525 : decode code 525 = .ok (.iadd, 1) := by decide +kernel
theorem tc_dL_526 : decode code 526 = .ok (.iaload, 1) := by decide +kernel
theorem tc_dL_527 : decode code 527 = .ok (.invokevirtual 57, 3) := by decide +kernel
theorem tc_dL_530 : decode code 530 = .ok (.aload_n 2, 1) := by decide +kernel
theorem tc_dL_531 : decode code 531 = .ok (.aload_n 0, 1) := by decide +kernel
theorem tc_dL_532 : decode code 532 = .ok (.iload_n 3, 1) := by decide +kernel
theorem tc_dL_533 : decode code 533 = .ok (.iconst 1, 1) := by decide +kernel
theorem tc_dL_534 : decode code 534 = .ok (.iadd, 1) := by decide +kernel
theorem tc_dL_535 : decode code 535 = .ok (.iaload, 1) := by decide +kernel
theorem tc_dL_536 : decode code 536 = .ok (.aload_n 0, 1) := by decide +kernel
theorem tc_dL_537 : decode code 537 = .ok (.iload_n 3, 1) := by decide +kernel
theorem tc_dL_538 : decode code 538 = .ok (.iconst 2, 1) := by decide +kernel
theorem tc_dL_539 : decode code 539 = .ok (.iadd, 1) := by decide +kernel
theorem tc_dL_540 : decode code 540 = .ok (.iaload, 1) := by decide +kernel
theorem tc_dL_541 : decode code 541 = .ok (.invokevirtual 60, 3) := by decide +kernel
theorem tc_dL_544 : decode code 544 = .ok (.if_icmp .eq 815, 3) := by decide +kernel
theorem tc_dL_547 : decode code 547 = .ok (.iconst 0, 1) := by decide +kernel
theorem tc_dL_548 : decode code 548 = .ok (.ireturn, 1) := by decide +kernel
theorem tc_dL_549 : decode code 549 = .ok (.aload_n 1, 1) := by decide +kernel
theorem tc_dL_550 : decode code 550 = .ok (.aload_n 0, 1) := by decide +kernel
theorem tc_dL_551 : decode code 551 = .ok (.iload_n 3, 1) := by decide +kernel
theorem tc_dL_552 : decode code 552 = .ok (.iconst 1, 1) := by decide +kernel
theorem tc_dL_553 : decode code 553 = .ok (.iadd, 1) := by decide +kernel
theorem tc_dL_554 : decode code 554 = .ok (.iaload, 1) := by decide +kernel
theorem tc_dL_555 : decode code 555 = .ok (.invokevirtual 61, 3) := by decide +kernel
theorem tc_dL_558 : decode code 558 = .ok (.aload_n 2, 1) := by decide +kernel
theorem tc_dL_559 : decode code 559 = .ok (.aload_n 0, 1) := by decide +kernel
theorem tc_dL_560 : decode code 560 = .ok (.iload_n 3, 1) := by decide +kernel
theorem tc_dL_561 : decode code 561 = .ok (.iconst 1, 1) := by decide +kernel
theorem tc_dL_562 : decode code 562 = .ok (.iadd, 1) := by decide +kernel
theorem tc_dL_563 : decode code 563 = .ok (.iaload, 1) := by decide +kernel
theorem tc_dL_564 : decode code 564 = .ok (.invokevirtual 65, 3) := by decide +kernel
theorem tc_dL_567 : decode code 567 = .ok (.if_icmp .eq 792, 3) := by decide +kernel
theorem tc_dL_570 : decode code 570 = .ok (.iconst 0, 1) := by decide +kernel
theorem tc_dL_571 : decode code 571 = .ok (.ireturn, 1) := by decide +kernel
theorem tc_dL_572 : decode code 572 = .ok (.aload_n 1, 1) := by decide +kernel
theorem tc_dL_573 : decode code 573 = .ok (.invokevirtual 66, 3) := by decide +kernel
theorem tc_dL_576 : decode code 576 = .ok (.aload_n 2, 1) := by decide +kernel
theorem tc_dL_577 : decode code 577 = .ok (.invokevirtual 69, 3) := by decide +kernel
theorem tc_dL_580 : decode code 580 = .ok (.if_icmp .eq 779, 3) := by decide +kernel
theorem tc_dL_583 : decode code 583 = .ok (.iconst 0, 1) := by decide +kernel
theorem tc_dL_584 : decode code 584 = .ok (.ireturn, 1) := by decide +kernel
theorem tc_dL_585 : decode code 585 = .ok (.aload_n 1, 1) := by decide +kernel
theorem tc_dL_586 : decode code 586 = .ok (.aload_n 0, 1) := by decide +kernel
theorem tc_dL_587 : decode code 587 = .ok (.iload_n 3, 1) := by decide +kernel
theorem tc_dL_588 : decode code 588 = .ok (.iconst 1, 1) := by decide +kernel
theorem tc_dL_589 : decode code 589 = .ok (.iadd, 1) := by decide +kernel
theorem tc_dL_590 : decode code 590 = .ok (.iaload, 1) := by decide +kernel
theorem tc_dL_591 : decode code 591 = .ok (.invokevirtual 70, 3) := by decide +kernel
theorem tc_dL_594 : decode code 594 = .ok (.aload_n 2, 1) := by decide +kernel
theorem tc_dL_595 : decode code 595 = .ok (.aload_n 0, 1) := by decide +kernel
theorem tc_dL_596 : decode code 596 = .ok (.iload_n 3, 1) := by decide +kernel
theorem tc_dL_597 : decode code 597 = .ok (.iconst 1, 1) := by decide +kernel
theorem tc_dL_598 : decode code 598 = .ok (.iadd, 1) := by decide +kernel
theorem tc_dL_599 : decode code 599 = .ok (.iaload, 1) := by decide +kernel
theorem tc_dL_600 : decode code 600 = .ok (.invokevirtual 73, 3) := by decide +kernel
theorem tc_dL_603 : decode code 603 = .ok (.if_icmp .eq 756, 3) := by decide +kernel
theorem tc_dL_606 : decode code 606 = .ok (.iconst 0, 1) := by decide +kernel
theorem tc_dL_607 : decode code 607 = .ok (.ireturn, 1) := by decide +kernel
theorem tc_dL_608 : decode code 608 = .ok (.aload_n 1, 1) := by decide +kernel
theorem tc_dL_609 : decode code 609 = .ok (.aload_n 0, 1) := by decide +kernel
theorem tc_dL_610 : decode code 610 = .ok (.iload_n 3, 1) := by decide +kernel
theorem tc_dL_611 : decode code 611 = .ok (.iconst 1, 1) := by decide +kernel
theorem tc_dL_612 : decode code 612 = .ok (.iadd, 1) := by decide +kernel
theorem tc_dL_613 : decode code 613 = .ok (.iaload, 1) := by decide +kernel
theorem tc_dL_614 : decode code 614 = .ok (.invokevirtual 74, 3) := by decide +kernel
theorem tc_dL_617 : decode code 617 = .ok (.aload_n 2, 1) := by decide +kernel
theorem tc_dL_618 : decode code 618 = .ok (.aload_n 0, 1) := by decide +kernel
theorem tc_dL_619 : decode code 619 = .ok (.iload_n 3, 1) := by decide +kernel
theorem tc_dL_620 : decode code 620 = .ok (.iconst 1, 1) := by decide +kernel
theorem tc_dL_621 : decode code 621 = .ok (.iadd, 1) := by decide +kernel
theorem tc_dL_622 : decode code 622 = .ok (.iaload, 1) := by decide +kernel
theorem tc_dL_623 : decode code 623 = .ok (.invokevirtual 77, 3) := by decide +kernel
theorem tc_dL_626 : decode code 626 = .ok (.if_icmp .eq 733, 3) := by decide +kernel
theorem tc_dL_629 : decode code 629 = .ok (.iconst 0, 1) := by decide +kernel
theorem tc_dL_630 : decode code 630 = .ok (.ireturn, 1) := by decide +kernel
theorem tc_dL_631 : decode code 631 = .ok (.aload_n 1, 1) := by decide +kernel
theorem tc_dL_632 : decode code 632 = .ok (.aload_n 0, 1) := by decide +kernel
theorem tc_dL_633 : decode code 633 = .ok (.iload_n 3, 1) := by decide +kernel
theorem tc_dL_634 : decode code 634 = .ok (.iconst 1, 1) := by decide +kernel
theorem tc_dL_635 : decode code 635 = .ok (.iadd, 1) := by decide +kernel
theorem tc_dL_636 : decode code 636 = .ok (.iaload, 1) := by decide +kernel
theorem tc_dL_637 : decode code 637 = .ok (.invokevirtual 78, 3) := by decide +kernel
theorem tc_dL_640 : decode code 640 = .ok (.aload_n 2, 1) := by decide +kernel
theorem tc_dL_641 : decode code 641 = .ok (.aload_n 0, 1) := by decide +kernel
theorem tc_dL_642 : decode code 642 = .ok (.iload_n 3, 1) := by decide +kernel
theorem tc_dL_643 : decode code 643 = .ok (.iconst 1, 1) := by decide +kernel
theorem tc_dL_644 : decode code 644 = .ok (.iadd, 1) := by decide +kernel
theorem tc_dL_645 : decode code 645 = .ok (.iaload, 1) := by decide +kernel
theorem tc_dL_646 : decode code 646 = .ok (.invokevirtual 81, 3) := by decide +kernel
theorem tc_dL_649 : decode code 649 = .ok (.if_icmp .eq 710, 3) := by decide +kernel
theorem tc_dL_652 : decode code 652 = .ok (.iconst 0, 1) := by decide +kernel
theorem tc_dL_653 : decode code 653 = .ok (.ireturn, 1) := by decide +kernel
theorem tc_dL_654 : decode code 654 = .ok (.aload_n 1, 1) := by decide +kernel
theorem tc_dL_655 : decode code 655 = .ok (.aload_n 0, 1) := by decide +kernel
