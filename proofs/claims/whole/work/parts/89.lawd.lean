/-! THE LAW, its instructions and words. Written by wip/whole/gen89.py -/
theorem dL_0 : decode code 0 = .ok (.new 7, 3) := by decide +kernel
theorem dL_3 : decode code 3 = .ok (.dup, 1) := by decide +kernel
theorem dL_4 : decode code 4 = .ok (.invokespecial 9, 3) := by decide +kernel
theorem dL_7 : decode code 7 = .ok (.astore_n 1, 1) := by decide +kernel
theorem dL_8 : decode code 8 = .ok (.new 10, 3) := by decide +kernel
theorem dL_11 : decode code 11 = .ok (.dup, 1) := by decide +kernel
theorem dL_12 : decode code 12 = .ok (.invokespecial 12, 3) := by decide +kernel
theorem dL_15 : decode code 15 = .ok (.astore_n 2, 1) := by decide +kernel
theorem dL_16 : decode code 16 = .ok (.iconst 0, 1) := by decide +kernel
theorem dL_17 : decode code 17 = .ok (.istore_n 3, 1) := by decide +kernel
theorem dL_18 : decode code 18 = .ok (.iload_n 3, 1) := by decide +kernel
theorem dL_19 : decode code 19 = .ok (.aload_n 0, 1) := by decide +kernel
theorem dL_20 : decode code 20 = .ok (.arraylength, 1) := by decide +kernel
theorem dL_21 : decode code 21 = .ok (.bipush 6, 2) := by decide +kernel
theorem dL_23 : decode code 23 = .ok (.isub, 1) := by decide +kernel
theorem dL_24 : decode code 24 = .ok (.if_icmp .gt 1636, 3) := by decide +kernel
theorem dL_27 : decode code 27 = .ok (.aload_n 0, 1) := by decide +kernel
theorem dL_28 : decode code 28 = .ok (.iload_n 3, 1) := by decide +kernel
theorem dL_29 : decode code 29 = .ok (.iaload, 1) := by decide +kernel
theorem dL_30 : decode code 30 = .ok (.bipush 63, 2) := by decide +kernel
theorem dL_32 : decode code 32 = .ok (.iand, 1) := by decide +kernel
theorem dL_33 : decode code 33 = .ok (.tableswitch 1621 0 45 #[199, 222, 265, 298, 341, 374, 397, 410, 433, 456, 490, 523, 546, 579, 602, 635, 668, 701, 724, 747, 780, 823, 867, 900, 933, 956, 990, 1023, 1076, 1099, 1132, 1155, 1178, 1191, 1204, 1217, 1230, 1253, 1296, 1319, 1352, 1395, 1468, 1502, 1565, 1598], 199) := by decide +kernel
theorem dL_232 : decode code 232 = .ok (.aload_n 1, 1) := by decide +kernel
theorem aL_233 : lw_ad 233 1 := ⟨by decide +kernel, by decide +kernel⟩
theorem dL_238 : decode code 238 = .ok (.invokevirtual 13, 3) := by decide +kernel
theorem dL_241 : decode code 241 = .ok (.aload_n 2, 1) := by decide +kernel
theorem aL_242 : lw_ad 242 1 := ⟨by decide +kernel, by decide +kernel⟩
theorem dL_247 : decode code 247 = .ok (.invokevirtual 17, 3) := by decide +kernel
theorem dL_250 : decode code 250 = .ok (.if_icmp .eq 1404, 3) := by decide +kernel
theorem dL_253 : decode code 253 = .ok (.iconst 0, 1) := by decide +kernel
theorem dL_254 : decode code 254 = .ok (.ireturn, 1) := by decide +kernel
theorem dL_255 : decode code 255 = .ok (.aload_n 1, 1) := by decide +kernel
theorem aL_256 : lw_ad 256 1 := ⟨by decide +kernel, by decide +kernel⟩
theorem aL_261 : lw_ad 261 2 := ⟨by decide +kernel, by decide +kernel⟩
theorem aL_266 : lw_ad 266 3 := ⟨by decide +kernel, by decide +kernel⟩
theorem dL_271 : decode code 271 = .ok (.invokevirtual 18, 3) := by decide +kernel
theorem dL_274 : decode code 274 = .ok (.aload_n 2, 1) := by decide +kernel
theorem aL_275 : lw_ad 275 1 := ⟨by decide +kernel, by decide +kernel⟩
theorem aL_280 : lw_ad 280 2 := ⟨by decide +kernel, by decide +kernel⟩
theorem aL_285 : lw_ad 285 3 := ⟨by decide +kernel, by decide +kernel⟩
theorem dL_290 : decode code 290 = .ok (.invokevirtual 22, 3) := by decide +kernel
theorem dL_293 : decode code 293 = .ok (.if_icmp .eq 1361, 3) := by decide +kernel
theorem dL_296 : decode code 296 = .ok (.iconst 0, 1) := by decide +kernel
theorem dL_297 : decode code 297 = .ok (.ireturn, 1) := by decide +kernel
theorem dL_298 : decode code 298 = .ok (.aload_n 1, 1) := by decide +kernel
theorem aL_299 : lw_ad 299 1 := ⟨by decide +kernel, by decide +kernel⟩
theorem aL_304 : lw_ad 304 2 := ⟨by decide +kernel, by decide +kernel⟩
theorem dL_309 : decode code 309 = .ok (.invokevirtual 23, 3) := by decide +kernel
theorem dL_312 : decode code 312 = .ok (.aload_n 2, 1) := by decide +kernel
theorem aL_313 : lw_ad 313 1 := ⟨by decide +kernel, by decide +kernel⟩
theorem aL_318 : lw_ad 318 2 := ⟨by decide +kernel, by decide +kernel⟩
theorem dL_323 : decode code 323 = .ok (.invokevirtual 27, 3) := by decide +kernel
theorem dL_326 : decode code 326 = .ok (.if_icmp .eq 1328, 3) := by decide +kernel
theorem dL_329 : decode code 329 = .ok (.iconst 0, 1) := by decide +kernel
theorem dL_330 : decode code 330 = .ok (.ireturn, 1) := by decide +kernel
theorem dL_331 : decode code 331 = .ok (.aload_n 1, 1) := by decide +kernel
theorem aL_332 : lw_ad 332 1 := ⟨by decide +kernel, by decide +kernel⟩
theorem aL_337 : lw_ad 337 2 := ⟨by decide +kernel, by decide +kernel⟩
theorem aL_342 : lw_ad 342 3 := ⟨by decide +kernel, by decide +kernel⟩
theorem dL_347 : decode code 347 = .ok (.invokevirtual 28, 3) := by decide +kernel
theorem dL_350 : decode code 350 = .ok (.aload_n 2, 1) := by decide +kernel
theorem aL_351 : lw_ad 351 1 := ⟨by decide +kernel, by decide +kernel⟩
theorem aL_356 : lw_ad 356 2 := ⟨by decide +kernel, by decide +kernel⟩
theorem aL_361 : lw_ad 361 3 := ⟨by decide +kernel, by decide +kernel⟩
theorem dL_366 : decode code 366 = .ok (.invokevirtual 31, 3) := by decide +kernel
theorem dL_369 : decode code 369 = .ok (.if_icmp .eq 1285, 3) := by decide +kernel
theorem dL_372 : decode code 372 = .ok (.iconst 0, 1) := by decide +kernel
theorem dL_373 : decode code 373 = .ok (.ireturn, 1) := by decide +kernel
theorem dL_374 : decode code 374 = .ok (.aload_n 1, 1) := by decide +kernel
theorem aL_375 : lw_ad 375 1 := ⟨by decide +kernel, by decide +kernel⟩
theorem aL_380 : lw_ad 380 2 := ⟨by decide +kernel, by decide +kernel⟩
theorem dL_385 : decode code 385 = .ok (.invokevirtual 32, 3) := by decide +kernel
theorem dL_388 : decode code 388 = .ok (.aload_n 2, 1) := by decide +kernel
theorem aL_389 : lw_ad 389 1 := ⟨by decide +kernel, by decide +kernel⟩
theorem aL_394 : lw_ad 394 2 := ⟨by decide +kernel, by decide +kernel⟩
theorem dL_399 : decode code 399 = .ok (.invokevirtual 35, 3) := by decide +kernel
theorem dL_402 : decode code 402 = .ok (.if_icmp .eq 1252, 3) := by decide +kernel
theorem dL_405 : decode code 405 = .ok (.iconst 0, 1) := by decide +kernel
theorem dL_406 : decode code 406 = .ok (.ireturn, 1) := by decide +kernel
theorem dL_407 : decode code 407 = .ok (.aload_n 1, 1) := by decide +kernel
theorem aL_408 : lw_ad 408 1 := ⟨by decide +kernel, by decide +kernel⟩
theorem dL_413 : decode code 413 = .ok (.invokevirtual 36, 3) := by decide +kernel
theorem dL_416 : decode code 416 = .ok (.aload_n 2, 1) := by decide +kernel
theorem aL_417 : lw_ad 417 1 := ⟨by decide +kernel, by decide +kernel⟩
theorem dL_422 : decode code 422 = .ok (.invokevirtual 39, 3) := by decide +kernel
theorem dL_425 : decode code 425 = .ok (.if_icmp .eq 1229, 3) := by decide +kernel
theorem dL_428 : decode code 428 = .ok (.iconst 0, 1) := by decide +kernel
theorem dL_429 : decode code 429 = .ok (.ireturn, 1) := by decide +kernel
theorem dL_430 : decode code 430 = .ok (.aload_n 1, 1) := by decide +kernel
theorem dL_431 : decode code 431 = .ok (.invokevirtual 40, 3) := by decide +kernel
theorem dL_434 : decode code 434 = .ok (.aload_n 2, 1) := by decide +kernel
theorem dL_435 : decode code 435 = .ok (.invokevirtual 44, 3) := by decide +kernel
theorem dL_438 : decode code 438 = .ok (.if_icmp .eq 1216, 3) := by decide +kernel
theorem dL_441 : decode code 441 = .ok (.iconst 0, 1) := by decide +kernel
theorem dL_442 : decode code 442 = .ok (.ireturn, 1) := by decide +kernel
theorem dL_443 : decode code 443 = .ok (.aload_n 1, 1) := by decide +kernel
theorem aL_444 : lw_ad 444 1 := ⟨by decide +kernel, by decide +kernel⟩
theorem dL_449 : decode code 449 = .ok (.invokevirtual 45, 3) := by decide +kernel
theorem dL_452 : decode code 452 = .ok (.aload_n 2, 1) := by decide +kernel
theorem aL_453 : lw_ad 453 1 := ⟨by decide +kernel, by decide +kernel⟩
theorem dL_458 : decode code 458 = .ok (.invokevirtual 48, 3) := by decide +kernel
theorem dL_461 : decode code 461 = .ok (.if_icmp .eq 1193, 3) := by decide +kernel
theorem dL_464 : decode code 464 = .ok (.iconst 0, 1) := by decide +kernel
theorem dL_465 : decode code 465 = .ok (.ireturn, 1) := by decide +kernel
theorem dL_466 : decode code 466 = .ok (.aload_n 1, 1) := by decide +kernel
theorem aL_467 : lw_ad 467 1 := ⟨by decide +kernel, by decide +kernel⟩
theorem dL_472 : decode code 472 = .ok (.invokevirtual 49, 3) := by decide +kernel
theorem dL_475 : decode code 475 = .ok (.aload_n 2, 1) := by decide +kernel
theorem aL_476 : lw_ad 476 1 := ⟨by decide +kernel, by decide +kernel⟩
theorem dL_481 : decode code 481 = .ok (.invokevirtual 52, 3) := by decide +kernel
theorem dL_484 : decode code 484 = .ok (.if_icmp .eq 1170, 3) := by decide +kernel
theorem dL_487 : decode code 487 = .ok (.iconst 0, 1) := by decide +kernel
theorem dL_488 : decode code 488 = .ok (.ireturn, 1) := by decide +kernel
theorem dL_489 : decode code 489 = .ok (.aload_n 1, 1) := by decide +kernel
theorem aL_490 : lw_ad 490 1 := ⟨by decide +kernel, by decide +kernel⟩
theorem aL_495 : lw_ad 495 2 := ⟨by decide +kernel, by decide +kernel⟩
theorem dL_500 : decode code 500 = .ok (.invokevirtual 53, 3) := by decide +kernel
theorem dL_503 : decode code 503 = .ok (.aload_n 2, 1) := by decide +kernel
theorem aL_504 : lw_ad 504 1 := ⟨by decide +kernel, by decide +kernel⟩
theorem aL_509 : lw_ad 509 2 := ⟨by decide +kernel, by decide +kernel⟩
theorem dL_514 : decode code 514 = .ok (.invokevirtual 57, 3) := by decide +kernel
theorem dL_517 : decode code 517 = .ok (.lcmp, 1) := by decide +kernel
theorem dL_518 : decode code 518 = .ok (.ifCond .eq 1136, 3) := by decide +kernel
theorem dL_521 : decode code 521 = .ok (.iconst 0, 1) := by decide +kernel
theorem dL_522 : decode code 522 = .ok (.ireturn, 1) := by decide +kernel
theorem dL_523 : decode code 523 = .ok (.aload_n 1, 1) := by decide +kernel
theorem aL_524 : lw_ad 524 1 := ⟨by decide +kernel, by decide +kernel⟩
theorem aL_529 : lw_ad 529 2 := ⟨by decide +kernel, by decide +kernel⟩
theorem dL_534 : decode code 534 = .ok (.invokevirtual 58, 3) := by decide +kernel
theorem dL_537 : decode code 537 = .ok (.aload_n 2, 1) := by decide +kernel
theorem aL_538 : lw_ad 538 1 := ⟨by decide +kernel, by decide +kernel⟩
theorem aL_543 : lw_ad 543 2 := ⟨by decide +kernel, by decide +kernel⟩
theorem dL_548 : decode code 548 = .ok (.invokevirtual 61, 3) := by decide +kernel
theorem dL_551 : decode code 551 = .ok (.if_icmp .eq 1103, 3) := by decide +kernel
theorem dL_554 : decode code 554 = .ok (.iconst 0, 1) := by decide +kernel
theorem dL_555 : decode code 555 = .ok (.ireturn, 1) := by decide +kernel
theorem dL_556 : decode code 556 = .ok (.aload_n 1, 1) := by decide +kernel
theorem aL_557 : lw_ad 557 1 := ⟨by decide +kernel, by decide +kernel⟩
theorem dL_562 : decode code 562 = .ok (.invokevirtual 62, 3) := by decide +kernel
theorem dL_565 : decode code 565 = .ok (.aload_n 2, 1) := by decide +kernel
theorem aL_566 : lw_ad 566 1 := ⟨by decide +kernel, by decide +kernel⟩
theorem dL_571 : decode code 571 = .ok (.invokevirtual 65, 3) := by decide +kernel
theorem dL_574 : decode code 574 = .ok (.if_icmp .eq 1080, 3) := by decide +kernel
theorem dL_577 : decode code 577 = .ok (.iconst 0, 1) := by decide +kernel
theorem dL_578 : decode code 578 = .ok (.ireturn, 1) := by decide +kernel
theorem dL_579 : decode code 579 = .ok (.aload_n 1, 1) := by decide +kernel
theorem aL_580 : lw_ad 580 1 := ⟨by decide +kernel, by decide +kernel⟩
theorem aL_585 : lw_ad 585 2 := ⟨by decide +kernel, by decide +kernel⟩
theorem dL_590 : decode code 590 = .ok (.invokevirtual 66, 3) := by decide +kernel
theorem dL_593 : decode code 593 = .ok (.aload_n 2, 1) := by decide +kernel
theorem aL_594 : lw_ad 594 1 := ⟨by decide +kernel, by decide +kernel⟩
theorem aL_599 : lw_ad 599 2 := ⟨by decide +kernel, by decide +kernel⟩
theorem dL_604 : decode code 604 = .ok (.invokevirtual 69, 3) := by decide +kernel
theorem dL_607 : decode code 607 = .ok (.if_icmp .eq 1047, 3) := by decide +kernel
theorem dL_610 : decode code 610 = .ok (.iconst 0, 1) := by decide +kernel
theorem dL_611 : decode code 611 = .ok (.ireturn, 1) := by decide +kernel
theorem dL_612 : decode code 612 = .ok (.aload_n 1, 1) := by decide +kernel
theorem aL_613 : lw_ad 613 1 := ⟨by decide +kernel, by decide +kernel⟩
theorem dL_618 : decode code 618 = .ok (.invokevirtual 70, 3) := by decide +kernel
theorem dL_621 : decode code 621 = .ok (.aload_n 2, 1) := by decide +kernel
theorem aL_622 : lw_ad 622 1 := ⟨by decide +kernel, by decide +kernel⟩
theorem dL_627 : decode code 627 = .ok (.invokevirtual 73, 3) := by decide +kernel
theorem dL_630 : decode code 630 = .ok (.if_icmp .eq 1024, 3) := by decide +kernel
theorem dL_633 : decode code 633 = .ok (.iconst 0, 1) := by decide +kernel
theorem dL_634 : decode code 634 = .ok (.ireturn, 1) := by decide +kernel
theorem dL_635 : decode code 635 = .ok (.aload_n 1, 1) := by decide +kernel
theorem aL_636 : lw_ad 636 1 := ⟨by decide +kernel, by decide +kernel⟩
theorem aL_641 : lw_ad 641 2 := ⟨by decide +kernel, by decide +kernel⟩
theorem dL_646 : decode code 646 = .ok (.invokevirtual 74, 3) := by decide +kernel
theorem dL_649 : decode code 649 = .ok (.aload_n 2, 1) := by decide +kernel
theorem aL_650 : lw_ad 650 1 := ⟨by decide +kernel, by decide +kernel⟩
theorem aL_655 : lw_ad 655 2 := ⟨by decide +kernel, by decide +kernel⟩
theorem dL_660 : decode code 660 = .ok (.invokevirtual 77, 3) := by decide +kernel
theorem dL_663 : decode code 663 = .ok (.if_icmp .eq 991, 3) := by decide +kernel
theorem dL_666 : decode code 666 = .ok (.iconst 0, 1) := by decide +kernel
theorem dL_667 : decode code 667 = .ok (.ireturn, 1) := by decide +kernel
theorem dL_668 : decode code 668 = .ok (.aload_n 1, 1) := by decide +kernel
theorem aL_669 : lw_ad 669 1 := ⟨by decide +kernel, by decide +kernel⟩
theorem aL_674 : lw_ad 674 2 := ⟨by decide +kernel, by decide +kernel⟩
theorem dL_679 : decode code 679 = .ok (.invokevirtual 78, 3) := by decide +kernel
theorem dL_682 : decode code 682 = .ok (.aload_n 2, 1) := by decide +kernel
theorem aL_683 : lw_ad 683 1 := ⟨by decide +kernel, by decide +kernel⟩
theorem aL_688 : lw_ad 688 2 := ⟨by decide +kernel, by decide +kernel⟩
theorem dL_693 : decode code 693 = .ok (.invokevirtual 81, 3) := by decide +kernel
theorem dL_696 : decode code 696 = .ok (.if_icmp .eq 958, 3) := by decide +kernel
theorem dL_699 : decode code 699 = .ok (.iconst 0, 1) := by decide +kernel
theorem dL_700 : decode code 700 = .ok (.ireturn, 1) := by decide +kernel
theorem dL_701 : decode code 701 = .ok (.aload_n 1, 1) := by decide +kernel
theorem aL_702 : lw_ad 702 1 := ⟨by decide +kernel, by decide +kernel⟩
theorem aL_707 : lw_ad 707 2 := ⟨by decide +kernel, by decide +kernel⟩
theorem dL_712 : decode code 712 = .ok (.invokevirtual 82, 3) := by decide +kernel
theorem dL_715 : decode code 715 = .ok (.aload_n 2, 1) := by decide +kernel
theorem aL_716 : lw_ad 716 1 := ⟨by decide +kernel, by decide +kernel⟩
theorem aL_721 : lw_ad 721 2 := ⟨by decide +kernel, by decide +kernel⟩
theorem dL_726 : decode code 726 = .ok (.invokevirtual 85, 3) := by decide +kernel
theorem dL_729 : decode code 729 = .ok (.if_icmp .eq 925, 3) := by decide +kernel
theorem dL_732 : decode code 732 = .ok (.iconst 0, 1) := by decide +kernel
theorem dL_733 : decode code 733 = .ok (.ireturn, 1) := by decide +kernel
theorem dL_734 : decode code 734 = .ok (.aload_n 1, 1) := by decide +kernel
theorem aL_735 : lw_ad 735 1 := ⟨by decide +kernel, by decide +kernel⟩
theorem dL_740 : decode code 740 = .ok (.invokevirtual 86, 3) := by decide +kernel
theorem dL_743 : decode code 743 = .ok (.aload_n 2, 1) := by decide +kernel
theorem aL_744 : lw_ad 744 1 := ⟨by decide +kernel, by decide +kernel⟩
theorem dL_749 : decode code 749 = .ok (.invokevirtual 89, 3) := by decide +kernel
theorem dL_752 : decode code 752 = .ok (.if_icmp .eq 902, 3) := by decide +kernel
theorem dL_755 : decode code 755 = .ok (.iconst 0, 1) := by decide +kernel
theorem dL_756 : decode code 756 = .ok (.ireturn, 1) := by decide +kernel
theorem dL_757 : decode code 757 = .ok (.aload_n 1, 1) := by decide +kernel
theorem aL_758 : lw_ad 758 1 := ⟨by decide +kernel, by decide +kernel⟩
theorem dL_763 : decode code 763 = .ok (.invokevirtual 90, 3) := by decide +kernel
theorem dL_766 : decode code 766 = .ok (.aload_n 2, 1) := by decide +kernel
theorem aL_767 : lw_ad 767 1 := ⟨by decide +kernel, by decide +kernel⟩
theorem dL_772 : decode code 772 = .ok (.invokevirtual 93, 3) := by decide +kernel
theorem dL_775 : decode code 775 = .ok (.if_icmp .eq 879, 3) := by decide +kernel
theorem dL_778 : decode code 778 = .ok (.iconst 0, 1) := by decide +kernel
theorem dL_779 : decode code 779 = .ok (.ireturn, 1) := by decide +kernel
theorem dL_780 : decode code 780 = .ok (.aload_n 1, 1) := by decide +kernel
theorem aL_781 : lw_ad 781 1 := ⟨by decide +kernel, by decide +kernel⟩
theorem aL_786 : lw_ad 786 2 := ⟨by decide +kernel, by decide +kernel⟩
theorem dL_791 : decode code 791 = .ok (.invokevirtual 94, 3) := by decide +kernel
theorem dL_794 : decode code 794 = .ok (.aload_n 2, 1) := by decide +kernel
theorem aL_795 : lw_ad 795 1 := ⟨by decide +kernel, by decide +kernel⟩
theorem aL_800 : lw_ad 800 2 := ⟨by decide +kernel, by decide +kernel⟩
theorem dL_805 : decode code 805 = .ok (.invokevirtual 97, 3) := by decide +kernel
theorem dL_808 : decode code 808 = .ok (.if_icmp .eq 846, 3) := by decide +kernel
theorem dL_811 : decode code 811 = .ok (.iconst 0, 1) := by decide +kernel
theorem dL_812 : decode code 812 = .ok (.ireturn, 1) := by decide +kernel
theorem dL_813 : decode code 813 = .ok (.aload_n 1, 1) := by decide +kernel
theorem aL_814 : lw_ad 814 1 := ⟨by decide +kernel, by decide +kernel⟩
theorem aL_819 : lw_ad 819 2 := ⟨by decide +kernel, by decide +kernel⟩
theorem aL_824 : lw_ad 824 3 := ⟨by decide +kernel, by decide +kernel⟩
theorem dL_829 : decode code 829 = .ok (.invokevirtual 98, 3) := by decide +kernel
theorem dL_832 : decode code 832 = .ok (.aload_n 2, 1) := by decide +kernel
theorem aL_833 : lw_ad 833 1 := ⟨by decide +kernel, by decide +kernel⟩
theorem aL_838 : lw_ad 838 2 := ⟨by decide +kernel, by decide +kernel⟩
theorem aL_843 : lw_ad 843 3 := ⟨by decide +kernel, by decide +kernel⟩
theorem dL_848 : decode code 848 = .ok (.invokevirtual 101, 3) := by decide +kernel
theorem dL_851 : decode code 851 = .ok (.if_icmp .eq 803, 3) := by decide +kernel
theorem dL_854 : decode code 854 = .ok (.iconst 0, 1) := by decide +kernel
theorem dL_855 : decode code 855 = .ok (.ireturn, 1) := by decide +kernel
theorem dL_856 : decode code 856 = .ok (.aload_n 1, 1) := by decide +kernel
theorem aL_857 : lw_ad 857 1 := ⟨by decide +kernel, by decide +kernel⟩
theorem aL_862 : lw_ad 862 2 := ⟨by decide +kernel, by decide +kernel⟩
theorem aL_867 : lw_ad 867 3 := ⟨by decide +kernel, by decide +kernel⟩
theorem dL_872 : decode code 872 = .ok (.invokevirtual 102, 3) := by decide +kernel
theorem dL_875 : decode code 875 = .ok (.aload_n 2, 1) := by decide +kernel
theorem aL_876 : lw_ad 876 1 := ⟨by decide +kernel, by decide +kernel⟩
theorem aL_881 : lw_ad 881 2 := ⟨by decide +kernel, by decide +kernel⟩
theorem aL_886 : lw_ad 886 3 := ⟨by decide +kernel, by decide +kernel⟩
theorem dL_891 : decode code 891 = .ok (.invokevirtual 106, 3) := by decide +kernel
theorem dL_894 : decode code 894 = .ok (.lcmp, 1) := by decide +kernel
theorem dL_895 : decode code 895 = .ok (.ifCond .eq 759, 3) := by decide +kernel
theorem dL_898 : decode code 898 = .ok (.iconst 0, 1) := by decide +kernel
theorem dL_899 : decode code 899 = .ok (.ireturn, 1) := by decide +kernel
theorem dL_900 : decode code 900 = .ok (.aload_n 1, 1) := by decide +kernel
theorem aL_901 : lw_ad 901 1 := ⟨by decide +kernel, by decide +kernel⟩
theorem aL_906 : lw_ad 906 2 := ⟨by decide +kernel, by decide +kernel⟩
theorem dL_911 : decode code 911 = .ok (.invokevirtual 107, 3) := by decide +kernel
theorem dL_914 : decode code 914 = .ok (.aload_n 2, 1) := by decide +kernel
theorem aL_915 : lw_ad 915 1 := ⟨by decide +kernel, by decide +kernel⟩
theorem aL_920 : lw_ad 920 2 := ⟨by decide +kernel, by decide +kernel⟩
theorem dL_925 : decode code 925 = .ok (.invokevirtual 110, 3) := by decide +kernel
theorem dL_928 : decode code 928 = .ok (.if_icmp .eq 726, 3) := by decide +kernel
theorem dL_931 : decode code 931 = .ok (.iconst 0, 1) := by decide +kernel
theorem dL_932 : decode code 932 = .ok (.ireturn, 1) := by decide +kernel
theorem dL_933 : decode code 933 = .ok (.aload_n 1, 1) := by decide +kernel
theorem aL_934 : lw_ad 934 1 := ⟨by decide +kernel, by decide +kernel⟩
theorem aL_939 : lw_ad 939 2 := ⟨by decide +kernel, by decide +kernel⟩
theorem dL_944 : decode code 944 = .ok (.invokevirtual 111, 3) := by decide +kernel
theorem dL_947 : decode code 947 = .ok (.aload_n 2, 1) := by decide +kernel
theorem aL_948 : lw_ad 948 1 := ⟨by decide +kernel, by decide +kernel⟩
theorem aL_953 : lw_ad 953 2 := ⟨by decide +kernel, by decide +kernel⟩
theorem dL_958 : decode code 958 = .ok (.invokevirtual 114, 3) := by decide +kernel
theorem dL_961 : decode code 961 = .ok (.if_icmp .eq 693, 3) := by decide +kernel
theorem dL_964 : decode code 964 = .ok (.iconst 0, 1) := by decide +kernel
theorem dL_965 : decode code 965 = .ok (.ireturn, 1) := by decide +kernel
theorem dL_966 : decode code 966 = .ok (.aload_n 1, 1) := by decide +kernel
theorem aL_967 : lw_ad 967 1 := ⟨by decide +kernel, by decide +kernel⟩
theorem dL_972 : decode code 972 = .ok (.invokevirtual 115, 3) := by decide +kernel
theorem dL_975 : decode code 975 = .ok (.aload_n 2, 1) := by decide +kernel
theorem aL_976 : lw_ad 976 1 := ⟨by decide +kernel, by decide +kernel⟩
theorem dL_981 : decode code 981 = .ok (.invokevirtual 118, 3) := by decide +kernel
theorem dL_984 : decode code 984 = .ok (.if_icmp .eq 670, 3) := by decide +kernel
theorem dL_987 : decode code 987 = .ok (.iconst 0, 1) := by decide +kernel
theorem dL_988 : decode code 988 = .ok (.ireturn, 1) := by decide +kernel
theorem dL_989 : decode code 989 = .ok (.aload_n 1, 1) := by decide +kernel
theorem aL_990 : lw_ad 990 1 := ⟨by decide +kernel, by decide +kernel⟩
theorem aL_995 : lw_ad 995 2 := ⟨by decide +kernel, by decide +kernel⟩
theorem dL_1000 : decode code 1000 = .ok (.invokevirtual 119, 3) := by decide +kernel
theorem dL_1003 : decode code 1003 = .ok (.aload_n 2, 1) := by decide +kernel
theorem aL_1004 : lw_ad 1004 1 := ⟨by decide +kernel, by decide +kernel⟩
theorem aL_1009 : lw_ad 1009 2 := ⟨by decide +kernel, by decide +kernel⟩
theorem dL_1014 : decode code 1014 = .ok (.invokevirtual 122, 3) := by decide +kernel
theorem dL_1017 : decode code 1017 = .ok (.lcmp, 1) := by decide +kernel
theorem dL_1018 : decode code 1018 = .ok (.ifCond .eq 636, 3) := by decide +kernel
theorem dL_1021 : decode code 1021 = .ok (.iconst 0, 1) := by decide +kernel
theorem dL_1022 : decode code 1022 = .ok (.ireturn, 1) := by decide +kernel
theorem dL_1023 : decode code 1023 = .ok (.aload_n 1, 1) := by decide +kernel
theorem aL_1024 : lw_ad 1024 1 := ⟨by decide +kernel, by decide +kernel⟩
theorem aL_1029 : lw_ad 1029 2 := ⟨by decide +kernel, by decide +kernel⟩
theorem dL_1034 : decode code 1034 = .ok (.invokevirtual 123, 3) := by decide +kernel
theorem dL_1037 : decode code 1037 = .ok (.aload_n 2, 1) := by decide +kernel
theorem aL_1038 : lw_ad 1038 1 := ⟨by decide +kernel, by decide +kernel⟩
theorem aL_1043 : lw_ad 1043 2 := ⟨by decide +kernel, by decide +kernel⟩
theorem dL_1048 : decode code 1048 = .ok (.invokevirtual 126, 3) := by decide +kernel
theorem dL_1051 : decode code 1051 = .ok (.if_icmp .eq 603, 3) := by decide +kernel
theorem dL_1054 : decode code 1054 = .ok (.iconst 0, 1) := by decide +kernel
theorem dL_1055 : decode code 1055 = .ok (.ireturn, 1) := by decide +kernel
theorem dL_1056 : decode code 1056 = .ok (.aload_n 1, 1) := by decide +kernel
theorem aL_1057 : lw_ad 1057 1 := ⟨by decide +kernel, by decide +kernel⟩
theorem aL_1062 : lw_ad 1062 2 := ⟨by decide +kernel, by decide +kernel⟩
theorem aL_1067 : lw_ad 1067 3 := ⟨by decide +kernel, by decide +kernel⟩
theorem aL_1072 : lw_ad 1072 4 := ⟨by decide +kernel, by decide +kernel⟩
theorem dL_1077 : decode code 1077 = .ok (.invokevirtual 127, 3) := by decide +kernel
theorem dL_1080 : decode code 1080 = .ok (.aload_n 2, 1) := by decide +kernel
theorem aL_1081 : lw_ad 1081 1 := ⟨by decide +kernel, by decide +kernel⟩
theorem aL_1086 : lw_ad 1086 2 := ⟨by decide +kernel, by decide +kernel⟩
theorem aL_1091 : lw_ad 1091 3 := ⟨by decide +kernel, by decide +kernel⟩
theorem aL_1096 : lw_ad 1096 4 := ⟨by decide +kernel, by decide +kernel⟩
theorem dL_1101 : decode code 1101 = .ok (.invokevirtual 131, 3) := by decide +kernel
theorem dL_1104 : decode code 1104 = .ok (.if_icmp .eq 550, 3) := by decide +kernel
theorem dL_1107 : decode code 1107 = .ok (.iconst 0, 1) := by decide +kernel
theorem dL_1108 : decode code 1108 = .ok (.ireturn, 1) := by decide +kernel
theorem dL_1109 : decode code 1109 = .ok (.aload_n 1, 1) := by decide +kernel
theorem aL_1110 : lw_ad 1110 1 := ⟨by decide +kernel, by decide +kernel⟩
theorem dL_1115 : decode code 1115 = .ok (.invokevirtual 132, 3) := by decide +kernel
theorem dL_1118 : decode code 1118 = .ok (.aload_n 2, 1) := by decide +kernel
theorem aL_1119 : lw_ad 1119 1 := ⟨by decide +kernel, by decide +kernel⟩
theorem dL_1124 : decode code 1124 = .ok (.invokevirtual 135, 3) := by decide +kernel
theorem dL_1127 : decode code 1127 = .ok (.if_icmp .eq 527, 3) := by decide +kernel
theorem dL_1130 : decode code 1130 = .ok (.iconst 0, 1) := by decide +kernel
theorem dL_1131 : decode code 1131 = .ok (.ireturn, 1) := by decide +kernel
theorem dL_1132 : decode code 1132 = .ok (.aload_n 1, 1) := by decide +kernel
theorem aL_1133 : lw_ad 1133 1 := ⟨by decide +kernel, by decide +kernel⟩
theorem aL_1138 : lw_ad 1138 2 := ⟨by decide +kernel, by decide +kernel⟩
theorem dL_1143 : decode code 1143 = .ok (.invokevirtual 136, 3) := by decide +kernel
theorem dL_1146 : decode code 1146 = .ok (.aload_n 2, 1) := by decide +kernel
theorem aL_1147 : lw_ad 1147 1 := ⟨by decide +kernel, by decide +kernel⟩
theorem aL_1152 : lw_ad 1152 2 := ⟨by decide +kernel, by decide +kernel⟩
theorem dL_1157 : decode code 1157 = .ok (.invokevirtual 139, 3) := by decide +kernel
theorem dL_1160 : decode code 1160 = .ok (.if_icmp .eq 494, 3) := by decide +kernel
theorem dL_1163 : decode code 1163 = .ok (.iconst 0, 1) := by decide +kernel
theorem dL_1164 : decode code 1164 = .ok (.ireturn, 1) := by decide +kernel
theorem dL_1165 : decode code 1165 = .ok (.aload_n 1, 1) := by decide +kernel
theorem aL_1166 : lw_ad 1166 1 := ⟨by decide +kernel, by decide +kernel⟩
theorem dL_1171 : decode code 1171 = .ok (.invokevirtual 140, 3) := by decide +kernel
theorem dL_1174 : decode code 1174 = .ok (.aload_n 2, 1) := by decide +kernel
theorem aL_1175 : lw_ad 1175 1 := ⟨by decide +kernel, by decide +kernel⟩
theorem dL_1180 : decode code 1180 = .ok (.invokevirtual 143, 3) := by decide +kernel
theorem dL_1183 : decode code 1183 = .ok (.if_icmp .eq 471, 3) := by decide +kernel
theorem dL_1186 : decode code 1186 = .ok (.iconst 0, 1) := by decide +kernel
theorem dL_1187 : decode code 1187 = .ok (.ireturn, 1) := by decide +kernel
theorem dL_1188 : decode code 1188 = .ok (.aload_n 1, 1) := by decide +kernel
theorem aL_1189 : lw_ad 1189 1 := ⟨by decide +kernel, by decide +kernel⟩
theorem dL_1194 : decode code 1194 = .ok (.invokevirtual 144, 3) := by decide +kernel
theorem dL_1197 : decode code 1197 = .ok (.aload_n 2, 1) := by decide +kernel
theorem aL_1198 : lw_ad 1198 1 := ⟨by decide +kernel, by decide +kernel⟩
theorem dL_1203 : decode code 1203 = .ok (.invokevirtual 147, 3) := by decide +kernel
theorem dL_1206 : decode code 1206 = .ok (.if_icmp .eq 448, 3) := by decide +kernel
theorem dL_1209 : decode code 1209 = .ok (.iconst 0, 1) := by decide +kernel
theorem dL_1210 : decode code 1210 = .ok (.ireturn, 1) := by decide +kernel
theorem dL_1211 : decode code 1211 = .ok (.aload_n 1, 1) := by decide +kernel
theorem dL_1212 : decode code 1212 = .ok (.invokevirtual 148, 3) := by decide +kernel
theorem dL_1215 : decode code 1215 = .ok (.aload_n 2, 1) := by decide +kernel
theorem dL_1216 : decode code 1216 = .ok (.invokevirtual 151, 3) := by decide +kernel
theorem dL_1219 : decode code 1219 = .ok (.if_icmp .eq 435, 3) := by decide +kernel
theorem dL_1222 : decode code 1222 = .ok (.iconst 0, 1) := by decide +kernel
theorem dL_1223 : decode code 1223 = .ok (.ireturn, 1) := by decide +kernel
theorem dL_1224 : decode code 1224 = .ok (.aload_n 1, 1) := by decide +kernel
theorem dL_1225 : decode code 1225 = .ok (.invokevirtual 152, 3) := by decide +kernel
theorem dL_1228 : decode code 1228 = .ok (.aload_n 2, 1) := by decide +kernel
theorem dL_1229 : decode code 1229 = .ok (.invokevirtual 155, 3) := by decide +kernel
theorem dL_1232 : decode code 1232 = .ok (.if_icmp .eq 422, 3) := by decide +kernel
theorem dL_1235 : decode code 1235 = .ok (.iconst 0, 1) := by decide +kernel
theorem dL_1236 : decode code 1236 = .ok (.ireturn, 1) := by decide +kernel
theorem dL_1237 : decode code 1237 = .ok (.aload_n 1, 1) := by decide +kernel
theorem dL_1238 : decode code 1238 = .ok (.invokevirtual 156, 3) := by decide +kernel
theorem dL_1241 : decode code 1241 = .ok (.aload_n 2, 1) := by decide +kernel
theorem dL_1242 : decode code 1242 = .ok (.invokevirtual 159, 3) := by decide +kernel
theorem dL_1245 : decode code 1245 = .ok (.if_icmp .eq 409, 3) := by decide +kernel
theorem dL_1248 : decode code 1248 = .ok (.iconst 0, 1) := by decide +kernel
theorem dL_1249 : decode code 1249 = .ok (.ireturn, 1) := by decide +kernel
theorem dL_1250 : decode code 1250 = .ok (.aload_n 1, 1) := by decide +kernel
theorem dL_1251 : decode code 1251 = .ok (.invokevirtual 160, 3) := by decide +kernel
theorem dL_1254 : decode code 1254 = .ok (.aload_n 2, 1) := by decide +kernel
theorem dL_1255 : decode code 1255 = .ok (.invokevirtual 163, 3) := by decide +kernel
theorem dL_1258 : decode code 1258 = .ok (.if_icmp .eq 396, 3) := by decide +kernel
theorem dL_1261 : decode code 1261 = .ok (.iconst 0, 1) := by decide +kernel
theorem dL_1262 : decode code 1262 = .ok (.ireturn, 1) := by decide +kernel
theorem dL_1263 : decode code 1263 = .ok (.aload_n 1, 1) := by decide +kernel
theorem aL_1264 : lw_ad 1264 1 := ⟨by decide +kernel, by decide +kernel⟩
theorem dL_1269 : decode code 1269 = .ok (.invokevirtual 164, 3) := by decide +kernel
theorem dL_1272 : decode code 1272 = .ok (.aload_n 2, 1) := by decide +kernel
theorem aL_1273 : lw_ad 1273 1 := ⟨by decide +kernel, by decide +kernel⟩
theorem dL_1278 : decode code 1278 = .ok (.invokevirtual 167, 3) := by decide +kernel
theorem dL_1281 : decode code 1281 = .ok (.if_icmp .eq 373, 3) := by decide +kernel
theorem dL_1284 : decode code 1284 = .ok (.iconst 0, 1) := by decide +kernel
theorem dL_1285 : decode code 1285 = .ok (.ireturn, 1) := by decide +kernel
theorem dL_1286 : decode code 1286 = .ok (.aload_n 1, 1) := by decide +kernel
theorem aL_1287 : lw_ad 1287 1 := ⟨by decide +kernel, by decide +kernel⟩
theorem aL_1292 : lw_ad 1292 2 := ⟨by decide +kernel, by decide +kernel⟩
theorem aL_1297 : lw_ad 1297 3 := ⟨by decide +kernel, by decide +kernel⟩
theorem dL_1302 : decode code 1302 = .ok (.invokevirtual 168, 3) := by decide +kernel
theorem dL_1305 : decode code 1305 = .ok (.aload_n 2, 1) := by decide +kernel
theorem aL_1306 : lw_ad 1306 1 := ⟨by decide +kernel, by decide +kernel⟩
theorem aL_1311 : lw_ad 1311 2 := ⟨by decide +kernel, by decide +kernel⟩
theorem aL_1316 : lw_ad 1316 3 := ⟨by decide +kernel, by decide +kernel⟩
theorem dL_1321 : decode code 1321 = .ok (.invokevirtual 171, 3) := by decide +kernel
theorem dL_1324 : decode code 1324 = .ok (.if_icmp .eq 330, 3) := by decide +kernel
theorem dL_1327 : decode code 1327 = .ok (.iconst 0, 1) := by decide +kernel
theorem dL_1328 : decode code 1328 = .ok (.ireturn, 1) := by decide +kernel
theorem dL_1329 : decode code 1329 = .ok (.aload_n 1, 1) := by decide +kernel
theorem aL_1330 : lw_ad 1330 1 := ⟨by decide +kernel, by decide +kernel⟩
theorem dL_1335 : decode code 1335 = .ok (.invokevirtual 172, 3) := by decide +kernel
theorem dL_1338 : decode code 1338 = .ok (.aload_n 2, 1) := by decide +kernel
theorem aL_1339 : lw_ad 1339 1 := ⟨by decide +kernel, by decide +kernel⟩
theorem dL_1344 : decode code 1344 = .ok (.invokevirtual 175, 3) := by decide +kernel
theorem dL_1347 : decode code 1347 = .ok (.if_icmp .eq 307, 3) := by decide +kernel
theorem dL_1350 : decode code 1350 = .ok (.iconst 0, 1) := by decide +kernel
theorem dL_1351 : decode code 1351 = .ok (.ireturn, 1) := by decide +kernel
theorem dL_1352 : decode code 1352 = .ok (.aload_n 1, 1) := by decide +kernel
theorem aL_1353 : lw_ad 1353 1 := ⟨by decide +kernel, by decide +kernel⟩
theorem aL_1358 : lw_ad 1358 2 := ⟨by decide +kernel, by decide +kernel⟩
theorem dL_1363 : decode code 1363 = .ok (.invokevirtual 176, 3) := by decide +kernel
theorem dL_1366 : decode code 1366 = .ok (.aload_n 2, 1) := by decide +kernel
theorem aL_1367 : lw_ad 1367 1 := ⟨by decide +kernel, by decide +kernel⟩
theorem aL_1372 : lw_ad 1372 2 := ⟨by decide +kernel, by decide +kernel⟩
theorem dL_1377 : decode code 1377 = .ok (.invokevirtual 179, 3) := by decide +kernel
theorem dL_1380 : decode code 1380 = .ok (.if_icmp .eq 274, 3) := by decide +kernel
theorem dL_1383 : decode code 1383 = .ok (.iconst 0, 1) := by decide +kernel
theorem dL_1384 : decode code 1384 = .ok (.ireturn, 1) := by decide +kernel
theorem dL_1385 : decode code 1385 = .ok (.aload_n 1, 1) := by decide +kernel
theorem aL_1386 : lw_ad 1386 1 := ⟨by decide +kernel, by decide +kernel⟩
theorem aL_1391 : lw_ad 1391 2 := ⟨by decide +kernel, by decide +kernel⟩
theorem aL_1396 : lw_ad 1396 3 := ⟨by decide +kernel, by decide +kernel⟩
theorem dL_1401 : decode code 1401 = .ok (.invokevirtual 180, 3) := by decide +kernel
theorem dL_1404 : decode code 1404 = .ok (.aload_n 2, 1) := by decide +kernel
theorem aL_1405 : lw_ad 1405 1 := ⟨by decide +kernel, by decide +kernel⟩
theorem aL_1410 : lw_ad 1410 2 := ⟨by decide +kernel, by decide +kernel⟩
theorem aL_1415 : lw_ad 1415 3 := ⟨by decide +kernel, by decide +kernel⟩
theorem dL_1420 : decode code 1420 = .ok (.invokevirtual 183, 3) := by decide +kernel
theorem dL_1423 : decode code 1423 = .ok (.if_icmp .eq 231, 3) := by decide +kernel
theorem dL_1426 : decode code 1426 = .ok (.iconst 0, 1) := by decide +kernel
theorem dL_1427 : decode code 1427 = .ok (.ireturn, 1) := by decide +kernel
theorem dL_1428 : decode code 1428 = .ok (.aload_n 1, 1) := by decide +kernel
theorem aL_1429 : lw_ad 1429 1 := ⟨by decide +kernel, by decide +kernel⟩
theorem aL_1434 : lw_ad 1434 2 := ⟨by decide +kernel, by decide +kernel⟩
theorem aL_1439 : lw_ad 1439 3 := ⟨by decide +kernel, by decide +kernel⟩
theorem dL_1444 : decode code 1444 = .ok (.i2l, 1) := by decide +kernel
theorem dL_1445 : decode code 1445 = .ok (.bipush 32, 2) := by decide +kernel
theorem dL_1447 : decode code 1447 = .ok (.lshl, 1) := by decide +kernel
theorem aL_1448 : lw_ad 1448 4 := ⟨by decide +kernel, by decide +kernel⟩
theorem dL_1453 : decode code 1453 = .ok (.i2l, 1) := by decide +kernel
theorem dL_1454 : decode code 1454 = .ok (.ldc2_w 184, 3) := by decide +kernel
theorem dL_1457 : decode code 1457 = .ok (.land, 1) := by decide +kernel
theorem dL_1458 : decode code 1458 = .ok (.lor, 1) := by decide +kernel
theorem dL_1459 : decode code 1459 = .ok (.invokevirtual 186, 3) := by decide +kernel
theorem dL_1462 : decode code 1462 = .ok (.aload_n 2, 1) := by decide +kernel
theorem aL_1463 : lw_ad 1463 1 := ⟨by decide +kernel, by decide +kernel⟩
theorem aL_1468 : lw_ad 1468 2 := ⟨by decide +kernel, by decide +kernel⟩
theorem aL_1473 : lw_ad 1473 3 := ⟨by decide +kernel, by decide +kernel⟩
theorem dL_1478 : decode code 1478 = .ok (.i2l, 1) := by decide +kernel
theorem dL_1479 : decode code 1479 = .ok (.bipush 32, 2) := by decide +kernel
theorem dL_1481 : decode code 1481 = .ok (.lshl, 1) := by decide +kernel
theorem aL_1482 : lw_ad 1482 4 := ⟨by decide +kernel, by decide +kernel⟩
theorem dL_1487 : decode code 1487 = .ok (.i2l, 1) := by decide +kernel
theorem dL_1488 : decode code 1488 = .ok (.ldc2_w 184, 3) := by decide +kernel
theorem dL_1491 : decode code 1491 = .ok (.land, 1) := by decide +kernel
theorem dL_1492 : decode code 1492 = .ok (.lor, 1) := by decide +kernel
theorem dL_1493 : decode code 1493 = .ok (.invokevirtual 190, 3) := by decide +kernel
theorem dL_1496 : decode code 1496 = .ok (.if_icmp .eq 158, 3) := by decide +kernel
theorem dL_1499 : decode code 1499 = .ok (.iconst 0, 1) := by decide +kernel
theorem dL_1500 : decode code 1500 = .ok (.ireturn, 1) := by decide +kernel
theorem dL_1501 : decode code 1501 = .ok (.aload_n 1, 1) := by decide +kernel
theorem aL_1502 : lw_ad 1502 1 := ⟨by decide +kernel, by decide +kernel⟩
theorem aL_1507 : lw_ad 1507 2 := ⟨by decide +kernel, by decide +kernel⟩
theorem dL_1512 : decode code 1512 = .ok (.invokevirtual 191, 3) := by decide +kernel
theorem dL_1515 : decode code 1515 = .ok (.aload_n 2, 1) := by decide +kernel
theorem aL_1516 : lw_ad 1516 1 := ⟨by decide +kernel, by decide +kernel⟩
theorem aL_1521 : lw_ad 1521 2 := ⟨by decide +kernel, by decide +kernel⟩
theorem dL_1526 : decode code 1526 = .ok (.invokevirtual 194, 3) := by decide +kernel
theorem dL_1529 : decode code 1529 = .ok (.lcmp, 1) := by decide +kernel
theorem dL_1530 : decode code 1530 = .ok (.ifCond .eq 124, 3) := by decide +kernel
theorem dL_1533 : decode code 1533 = .ok (.iconst 0, 1) := by decide +kernel
theorem dL_1534 : decode code 1534 = .ok (.ireturn, 1) := by decide +kernel
theorem dL_1535 : decode code 1535 = .ok (.aload_n 1, 1) := by decide +kernel
theorem aL_1536 : lw_ad 1536 1 := ⟨by decide +kernel, by decide +kernel⟩
theorem aL_1541 : lw_ad 1541 2 := ⟨by decide +kernel, by decide +kernel⟩
theorem aL_1546 : lw_ad 1546 3 := ⟨by decide +kernel, by decide +kernel⟩
theorem aL_1551 : lw_ad 1551 4 := ⟨by decide +kernel, by decide +kernel⟩
theorem aL_1556 : lw_ad 1556 5 := ⟨by decide +kernel, by decide +kernel⟩
theorem dL_1561 : decode code 1561 = .ok (.invokevirtual 195, 3) := by decide +kernel
theorem dL_1564 : decode code 1564 = .ok (.aload_n 2, 1) := by decide +kernel
theorem aL_1565 : lw_ad 1565 1 := ⟨by decide +kernel, by decide +kernel⟩
theorem aL_1570 : lw_ad 1570 2 := ⟨by decide +kernel, by decide +kernel⟩
theorem aL_1575 : lw_ad 1575 3 := ⟨by decide +kernel, by decide +kernel⟩
theorem aL_1580 : lw_ad 1580 4 := ⟨by decide +kernel, by decide +kernel⟩
theorem aL_1585 : lw_ad 1585 5 := ⟨by decide +kernel, by decide +kernel⟩
theorem dL_1590 : decode code 1590 = .ok (.invokevirtual 199, 3) := by decide +kernel
theorem dL_1593 : decode code 1593 = .ok (.if_icmp .eq 61, 3) := by decide +kernel
theorem dL_1596 : decode code 1596 = .ok (.iconst 0, 1) := by decide +kernel
theorem dL_1597 : decode code 1597 = .ok (.ireturn, 1) := by decide +kernel
theorem dL_1598 : decode code 1598 = .ok (.aload_n 1, 1) := by decide +kernel
theorem aL_1599 : lw_ad 1599 1 := ⟨by decide +kernel, by decide +kernel⟩
theorem aL_1604 : lw_ad 1604 2 := ⟨by decide +kernel, by decide +kernel⟩
theorem dL_1609 : decode code 1609 = .ok (.invokevirtual 200, 3) := by decide +kernel
theorem dL_1612 : decode code 1612 = .ok (.aload_n 2, 1) := by decide +kernel
theorem aL_1613 : lw_ad 1613 1 := ⟨by decide +kernel, by decide +kernel⟩
theorem aL_1618 : lw_ad 1618 2 := ⟨by decide +kernel, by decide +kernel⟩
theorem dL_1623 : decode code 1623 = .ok (.invokevirtual 203, 3) := by decide +kernel
theorem dL_1626 : decode code 1626 = .ok (.if_icmp .eq 28, 3) := by decide +kernel
theorem dL_1629 : decode code 1629 = .ok (.iconst 0, 1) := by decide +kernel
theorem dL_1630 : decode code 1630 = .ok (.ireturn, 1) := by decide +kernel
theorem dL_1631 : decode code 1631 = .ok (.aload_n 1, 1) := by decide +kernel
theorem aL_1632 : lw_ad 1632 1 := ⟨by decide +kernel, by decide +kernel⟩
theorem dL_1637 : decode code 1637 = .ok (.invokevirtual 204, 3) := by decide +kernel
theorem dL_1640 : decode code 1640 = .ok (.aload_n 2, 1) := by decide +kernel
theorem aL_1641 : lw_ad 1641 1 := ⟨by decide +kernel, by decide +kernel⟩
theorem dL_1646 : decode code 1646 = .ok (.invokevirtual 207, 3) := by decide +kernel
theorem dL_1649 : decode code 1649 = .ok (.if_icmp .eq 5, 3) := by decide +kernel
theorem dL_1652 : decode code 1652 = .ok (.iconst 0, 1) := by decide +kernel
theorem dL_1653 : decode code 1653 = .ok (.ireturn, 1) := by decide +kernel
theorem dL_1654 : decode code 1654 = .ok (.iinc 3 6, 3) := by decide +kernel
theorem dL_1657 : decode code 1657 = .ok (.goto (-1639), 3) := by decide +kernel
theorem dL_1660 : decode code 1660 = .ok (.iconst 1, 1) := by decide +kernel
theorem dL_1661 : decode code 1661 = .ok (.ireturn, 1) := by decide +kernel
theorem mL_13 : Cond.methodLink R_law 13 (zk_mt 105).1.1 ∈ zk_uw := zk_wi1 461 (by decide +kernel)
theorem mL_17 : Cond.methodLink R_law 17 (zk_mt 165).1.1 ∈ zk_uw := zk_wi1 1391 (by decide +kernel)
theorem mL_18 : Cond.methodLink R_law 18 (zk_mt 106).1.1 ∈ zk_uw := zk_wi1 477 (by decide +kernel)
theorem mL_22 : Cond.methodLink R_law 22 (zk_mt 166).1.1 ∈ zk_uw := zk_wi1 1402 (by decide +kernel)
theorem mL_23 : Cond.methodLink R_law 23 (zk_mt 107).1.1 ∈ zk_uw := zk_wi1 499 (by decide +kernel)
theorem mL_27 : Cond.methodLink R_law 27 (zk_mt 169).1.1 ∈ zk_uw := zk_wi1 1410 (by decide +kernel)
theorem mL_28 : Cond.methodLink R_law 28 (zk_mt 108).1.1 ∈ zk_uw := zk_wi1 519 (by decide +kernel)
theorem mL_31 : Cond.methodLink R_law 31 (zk_mt 174).1.1 ∈ zk_uw := zk_wi1 1429 (by decide +kernel)
theorem mL_32 : Cond.methodLink R_law 32 (zk_mt 109).1.1 ∈ zk_uw := zk_wi1 544 (by decide +kernel)
theorem mL_35 : Cond.methodLink R_law 35 (zk_mt 175).1.1 ∈ zk_uw := zk_wi1 1456 (by decide +kernel)
theorem mL_36 : Cond.methodLink R_law 36 (zk_mt 110).1.1 ∈ zk_uw := zk_wi1 548 (by decide +kernel)
theorem mL_39 : Cond.methodLink R_law 39 (zk_mt 178).1.1 ∈ zk_uw := zk_wi1 1468 (by decide +kernel)
theorem mL_40 : Cond.methodLink R_law 40 (zk_mt 111).1.1 ∈ zk_uw := zk_wi1 556 (by decide +kernel)
theorem mL_44 : Cond.methodLink R_law 44 (zk_mt 191).1.1 ∈ zk_uw := zk_wi1 1472 (by decide +kernel)
theorem mL_45 : Cond.methodLink R_law 45 (zk_mt 112).1.1 ∈ zk_uw := zk_wi1 699 (by decide +kernel)
theorem mL_48 : Cond.methodLink R_law 48 (zk_mt 200).1.1 ∈ zk_uw := zk_wi1 1523 (by decide +kernel)
theorem mL_49 : Cond.methodLink R_law 49 (zk_mt 113).1.1 ∈ zk_uw := zk_wi1 732 (by decide +kernel)
theorem mL_52 : Cond.methodLink R_law 52 (zk_mt 201).1.1 ∈ zk_uw := zk_wi1 1542 (by decide +kernel)
theorem mL_53 : Cond.methodLink R_law 53 (zk_mt 114).1.1 ∈ zk_uw := zk_wi1 787 (by decide +kernel)
theorem mL_57 : Cond.methodLink R_law 57 (zk_mt 203).1.1 ∈ zk_uw := zk_wi1 1567 (by decide +kernel)
theorem mL_58 : Cond.methodLink R_law 58 (zk_mt 115).1.1 ∈ zk_uw := zk_wi1 803 (by decide +kernel)
theorem mL_61 : Cond.methodLink R_law 61 (zk_mt 206).1.1 ∈ zk_uw := zk_wi1 1579 (by decide +kernel)
theorem mL_62 : Cond.methodLink R_law 62 (zk_mt 116).1.1 ∈ zk_uw := zk_wi1 819 (by decide +kernel)
theorem mL_65 : Cond.methodLink R_law 65 (zk_mt 207).1.1 ∈ zk_uw := zk_wi1 1591 (by decide +kernel)
theorem mL_66 : Cond.methodLink R_law 66 (zk_mt 117).1.1 ∈ zk_uw := zk_wi1 832 (by decide +kernel)
theorem mL_69 : Cond.methodLink R_law 69 (zk_mt 209).1.1 ∈ zk_uw := zk_wi1 1599 (by decide +kernel)
theorem mL_70 : Cond.methodLink R_law 70 (zk_mt 118).1.1 ∈ zk_uw := zk_wi1 845 (by decide +kernel)
theorem mL_73 : Cond.methodLink R_law 73 (zk_mt 211).1.1 ∈ zk_uw := zk_wi1 1608 (by decide +kernel)
theorem mL_74 : Cond.methodLink R_law 74 (zk_mt 119).1.1 ∈ zk_uw := zk_wi1 858 (by decide +kernel)
theorem mL_77 : Cond.methodLink R_law 77 (zk_mt 213).1.1 ∈ zk_uw := zk_wi1 1616 (by decide +kernel)
theorem mL_78 : Cond.methodLink R_law 78 (zk_mt 120).1.1 ∈ zk_uw := zk_wi1 874 (by decide +kernel)
theorem mL_81 : Cond.methodLink R_law 81 (zk_mt 214).1.1 ∈ zk_uw := zk_wi1 1627 (by decide +kernel)
theorem mL_82 : Cond.methodLink R_law 82 (zk_mt 121).1.1 ∈ zk_uw := zk_wi1 882 (by decide +kernel)
theorem mL_85 : Cond.methodLink R_law 85 (zk_mt 217).1.1 ∈ zk_uw := zk_wi1 1631 (by decide +kernel)
theorem mL_86 : Cond.methodLink R_law 86 (zk_mt 122).1.1 ∈ zk_uw := zk_wi1 902 (by decide +kernel)
theorem mL_89 : Cond.methodLink R_law 89 (zk_mt 219).1.1 ∈ zk_uw := zk_wi1 1643 (by decide +kernel)
theorem mL_90 : Cond.methodLink R_law 90 (zk_mt 123).1.1 ∈ zk_uw := zk_wi1 910 (by decide +kernel)
theorem mL_93 : Cond.methodLink R_law 93 (zk_mt 220).1.1 ∈ zk_uw := zk_wi1 1651 (by decide +kernel)
theorem mL_94 : Cond.methodLink R_law 94 (zk_mt 124).1.1 ∈ zk_uw := zk_wi1 919 (by decide +kernel)
theorem mL_97 : Cond.methodLink R_law 97 (zk_mt 221).1.1 ∈ zk_uw := zk_wi1 1655 (by decide +kernel)
theorem mL_98 : Cond.methodLink R_law 98 (zk_mt 125).1.1 ∈ zk_uw := zk_wi1 929 (by decide +kernel)
theorem mL_101 : Cond.methodLink R_law 101 (zk_mt 223).1.1 ∈ zk_uw := zk_wi1 1659 (by decide +kernel)
theorem mL_102 : Cond.methodLink R_law 102 (zk_mt 126).1.1 ∈ zk_uw := zk_wi1 950 (by decide +kernel)
theorem mL_106 : Cond.methodLink R_law 106 (zk_mt 224).1.1 ∈ zk_uw := zk_wi1 1671 (by decide +kernel)
theorem mL_107 : Cond.methodLink R_law 107 (zk_mt 127).1.1 ∈ zk_uw := zk_wi1 954 (by decide +kernel)
theorem mL_110 : Cond.methodLink R_law 110 (zk_mt 230).1.1 ∈ zk_uw := zk_wi1 1675 (by decide +kernel)
theorem mL_111 : Cond.methodLink R_law 111 (zk_mt 128).1.1 ∈ zk_uw := zk_wi1 978 (by decide +kernel)
theorem mL_114 : Cond.methodLink R_law 114 (zk_mt 231).1.1 ∈ zk_uw := zk_wi1 1699 (by decide +kernel)
theorem mL_115 : Cond.methodLink R_law 115 (zk_mt 129).1.1 ∈ zk_uw := zk_wi1 982 (by decide +kernel)
theorem mL_118 : Cond.methodLink R_law 118 (zk_mt 234).1.1 ∈ zk_uw := zk_wi1 1703 (by decide +kernel)
theorem mL_119 : Cond.methodLink R_law 119 (zk_mt 130).1.1 ∈ zk_uw := zk_wi1 996 (by decide +kernel)
theorem mL_122 : Cond.methodLink R_law 122 (zk_mt 235).1.1 ∈ zk_uw := zk_wi1 1715 (by decide +kernel)
theorem mL_123 : Cond.methodLink R_law 123 (zk_mt 131).1.1 ∈ zk_uw := zk_wi1 1014 (by decide +kernel)
theorem mL_126 : Cond.methodLink R_law 126 (zk_mt 236).1.1 ∈ zk_uw := zk_wi1 1719 (by decide +kernel)
theorem mL_127 : Cond.methodLink R_law 127 (zk_mt 132).1.1 ∈ zk_uw := zk_wi1 1025 (by decide +kernel)
theorem mL_131 : Cond.methodLink R_law 131 (zk_mt 237).1.1 ∈ zk_uw := zk_wi1 1724 (by decide +kernel)
theorem mL_132 : Cond.methodLink R_law 132 (zk_mt 133).1.1 ∈ zk_uw := zk_wi1 1039 (by decide +kernel)
theorem mL_135 : Cond.methodLink R_law 135 (zk_mt 238).1.1 ∈ zk_uw := zk_wi1 1729 (by decide +kernel)
theorem mL_136 : Cond.methodLink R_law 136 (zk_mt 134).1.1 ∈ zk_uw := zk_wi1 1047 (by decide +kernel)
theorem mL_139 : Cond.methodLink R_law 139 (zk_mt 239).1.1 ∈ zk_uw := zk_wi1 1733 (by decide +kernel)
theorem mL_140 : Cond.methodLink R_law 140 (zk_mt 135).1.1 ∈ zk_uw := zk_wi1 1057 (by decide +kernel)
theorem mL_143 : Cond.methodLink R_law 143 (zk_mt 240).1.1 ∈ zk_uw := zk_wi1 1737 (by decide +kernel)
theorem mL_144 : Cond.methodLink R_law 144 (zk_mt 136).1.1 ∈ zk_uw := zk_wi1 1069 (by decide +kernel)
theorem mL_147 : Cond.methodLink R_law 147 (zk_mt 241).1.1 ∈ zk_uw := zk_wi1 1741 (by decide +kernel)
theorem mL_148 : Cond.methodLink R_law 148 (zk_mt 137).1.1 ∈ zk_uw := zk_wi1 1073 (by decide +kernel)
theorem mL_151 : Cond.methodLink R_law 151 (zk_mt 242).1.1 ∈ zk_uw := zk_wi1 1745 (by decide +kernel)
theorem mL_152 : Cond.methodLink R_law 152 (zk_mt 138).1.1 ∈ zk_uw := zk_wi1 1082 (by decide +kernel)
theorem mL_155 : Cond.methodLink R_law 155 (zk_mt 243).1.1 ∈ zk_uw := zk_wi1 1749 (by decide +kernel)
theorem mL_156 : Cond.methodLink R_law 156 (zk_mt 139).1.1 ∈ zk_uw := zk_wi1 1090 (by decide +kernel)
theorem mL_159 : Cond.methodLink R_law 159 (zk_mt 176).1.1 ∈ zk_uw := zk_wi1 1460 (by decide +kernel)
theorem mL_160 : Cond.methodLink R_law 160 (zk_mt 140).1.1 ∈ zk_uw := zk_wi1 1098 (by decide +kernel)
theorem mL_163 : Cond.methodLink R_law 163 (zk_mt 177).1.1 ∈ zk_uw := zk_wi1 1464 (by decide +kernel)
theorem mL_164 : Cond.methodLink R_law 164 (zk_mt 141).1.1 ∈ zk_uw := zk_wi1 1106 (by decide +kernel)
theorem mL_167 : Cond.methodLink R_law 167 (zk_mt 250).1.1 ∈ zk_uw := zk_wi1 1753 (by decide +kernel)
theorem mL_168 : Cond.methodLink R_law 168 (zk_mt 142).1.1 ∈ zk_uw := zk_wi1 1118 (by decide +kernel)
theorem mL_171 : Cond.methodLink R_law 171 (zk_mt 251).1.1 ∈ zk_uw := zk_wi1 1757 (by decide +kernel)
theorem mL_172 : Cond.methodLink R_law 172 (zk_mt 143).1.1 ∈ zk_uw := zk_wi1 1150 (by decide +kernel)
theorem mL_175 : Cond.methodLink R_law 175 (zk_mt 252).1.1 ∈ zk_uw := zk_wi1 1784 (by decide +kernel)
theorem mL_176 : Cond.methodLink R_law 176 (zk_mt 144).1.1 ∈ zk_uw := zk_wi1 1159 (by decide +kernel)
theorem mL_179 : Cond.methodLink R_law 179 (zk_mt 253).1.1 ∈ zk_uw := zk_wi1 1788 (by decide +kernel)
theorem mL_180 : Cond.methodLink R_law 180 (zk_mt 145).1.1 ∈ zk_uw := zk_wi1 1168 (by decide +kernel)
theorem mL_183 : Cond.methodLink R_law 183 (zk_mt 254).1.1 ∈ zk_uw := zk_wi1 1792 (by decide +kernel)
theorem mL_186 : Cond.methodLink R_law 186 (zk_mt 146).1.1 ∈ zk_uw := zk_wi1 1179 (by decide +kernel)
theorem mL_190 : Cond.methodLink R_law 190 (zk_mt 257).1.1 ∈ zk_uw := zk_wi1 1796 (by decide +kernel)
theorem mL_191 : Cond.methodLink R_law 191 (zk_mt 147).1.1 ∈ zk_uw := zk_wi1 1191 (by decide +kernel)
theorem mL_194 : Cond.methodLink R_law 194 (zk_mt 258).1.1 ∈ zk_uw := zk_wi1 1807 (by decide +kernel)
theorem mL_195 : Cond.methodLink R_law 195 (zk_mt 148).1.1 ∈ zk_uw := zk_wi1 1195 (by decide +kernel)
theorem mL_199 : Cond.methodLink R_law 199 (zk_mt 259).1.1 ∈ zk_uw := zk_wi1 1811 (by decide +kernel)
theorem mL_200 : Cond.methodLink R_law 200 (zk_mt 149).1.1 ∈ zk_uw := zk_wi1 1204 (by decide +kernel)
theorem mL_203 : Cond.methodLink R_law 203 (zk_mt 260).1.1 ∈ zk_uw := zk_wi1 1815 (by decide +kernel)
theorem mL_204 : Cond.methodLink R_law 204 (zk_mt 150).1.1 ∈ zk_uw := zk_wi1 1212 (by decide +kernel)
theorem mL_207 : Cond.methodLink R_law 207 (zk_mt 261).1.1 ∈ zk_uw := zk_wi1 1819 (by decide +kernel)
theorem kL_184 : Cond.constantLong R_law 184 4294967295 ∈ lw_tbl := List.mem_of_getElem? (i := 1823) (by decide +kernel)
