/-! THE LAW: its rows, its words, its 36 calls (printed by gen/g6.py) -/
theorem dl_192 : decode cL_law 192 = .ok (.aload_n 1, 1) := by decide +kernel
theorem dl5_193 : lw_a5 193 1 := by unfold lw_a5; decide +kernel
theorem dl5_198 : lw_a5 198 2 := by unfold lw_a5; decide +kernel
theorem dl5_203 : lw_a5 203 3 := by unfold lw_a5; decide +kernel
theorem dl_208 : decode cL_law 208 = .ok (.invokevirtual 13, 3) := by decide +kernel
theorem dl_211 : decode cL_law 211 = .ok (.aload_n 2, 1) := by decide +kernel
theorem dl5_212 : lw_a5 212 1 := by unfold lw_a5; decide +kernel
theorem dl5_217 : lw_a5 217 2 := by unfold lw_a5; decide +kernel
theorem dl5_222 : lw_a5 222 3 := by unfold lw_a5; decide +kernel
theorem dl_227 : decode cL_law 227 = .ok (.invokevirtual 17, 3) := by decide +kernel
theorem dl_230 : decode cL_law 230 = .ok (.if_icmp .eq 1251, 3) := by decide +kernel
theorem dl_235 : decode cL_law 235 = .ok (.aload_n 1, 1) := by decide +kernel
theorem dl5_236 : lw_a5 236 1 := by unfold lw_a5; decide +kernel
theorem dl5_241 : lw_a5 241 2 := by unfold lw_a5; decide +kernel
theorem dl5_246 : lw_a5 246 3 := by unfold lw_a5; decide +kernel
theorem dl8_251 : lw_l8 251 := by unfold lw_l8 lw_a5; decide +kernel
theorem dl_266 : decode cL_law 266 = .ok (.invokevirtual 20, 3) := by decide +kernel
theorem dl_269 : decode cL_law 269 = .ok (.aload_n 2, 1) := by decide +kernel
theorem dl5_270 : lw_a5 270 1 := by unfold lw_a5; decide +kernel
theorem dl5_275 : lw_a5 275 2 := by unfold lw_a5; decide +kernel
theorem dl5_280 : lw_a5 280 3 := by unfold lw_a5; decide +kernel
theorem dl8_285 : lw_l8 285 := by unfold lw_l8 lw_a5; decide +kernel
theorem dl_300 : decode cL_law 300 = .ok (.invokevirtual 24, 3) := by decide +kernel
theorem dl_303 : decode cL_law 303 = .ok (.if_icmp .eq 1178, 3) := by decide +kernel
theorem dl_308 : decode cL_law 308 = .ok (.aload_n 1, 1) := by decide +kernel
theorem dl5_309 : lw_a5 309 1 := by unfold lw_a5; decide +kernel
theorem dl5_314 : lw_a5 314 2 := by unfold lw_a5; decide +kernel
theorem dl5_319 : lw_a5 319 3 := by unfold lw_a5; decide +kernel
theorem dl5_324 : lw_a5 324 4 := by unfold lw_a5; decide +kernel
theorem dl5_329 : lw_a5 329 5 := by unfold lw_a5; decide +kernel
theorem dl_334 : decode cL_law 334 = .ok (.invokevirtual 25, 3) := by decide +kernel
theorem dl_337 : decode cL_law 337 = .ok (.aload_n 2, 1) := by decide +kernel
theorem dl5_338 : lw_a5 338 1 := by unfold lw_a5; decide +kernel
theorem dl5_343 : lw_a5 343 2 := by unfold lw_a5; decide +kernel
theorem dl5_348 : lw_a5 348 3 := by unfold lw_a5; decide +kernel
theorem dl5_353 : lw_a5 353 4 := by unfold lw_a5; decide +kernel
theorem dl5_358 : lw_a5 358 5 := by unfold lw_a5; decide +kernel
theorem dl_363 : decode cL_law 363 = .ok (.invokevirtual 29, 3) := by decide +kernel
theorem dl_366 : decode cL_law 366 = .ok (.if_icmp .eq 1115, 3) := by decide +kernel
theorem dl_371 : decode cL_law 371 = .ok (.aload_n 1, 1) := by decide +kernel
theorem dl5_372 : lw_a5 372 1 := by unfold lw_a5; decide +kernel
theorem dl5_377 : lw_a5 377 2 := by unfold lw_a5; decide +kernel
theorem dl_382 : decode cL_law 382 = .ok (.invokevirtual 30, 3) := by decide +kernel
theorem dl_385 : decode cL_law 385 = .ok (.aload_n 2, 1) := by decide +kernel
theorem dl5_386 : lw_a5 386 1 := by unfold lw_a5; decide +kernel
theorem dl5_391 : lw_a5 391 2 := by unfold lw_a5; decide +kernel
theorem dl_396 : decode cL_law 396 = .ok (.invokevirtual 34, 3) := by decide +kernel
theorem dl_399 : decode cL_law 399 = .ok (.lcmp, 1) := by decide +kernel
theorem dl_400 : decode cL_law 400 = .ok (.ifCond .eq 1081, 3) := by decide +kernel
theorem dl_405 : decode cL_law 405 = .ok (.aload_n 1, 1) := by decide +kernel
theorem dl5_406 : lw_a5 406 1 := by unfold lw_a5; decide +kernel
theorem dl5_411 : lw_a5 411 2 := by unfold lw_a5; decide +kernel
theorem dl_416 : decode cL_law 416 = .ok (.invokevirtual 35, 3) := by decide +kernel
theorem dl_419 : decode cL_law 419 = .ok (.aload_n 2, 1) := by decide +kernel
theorem dl5_420 : lw_a5 420 1 := by unfold lw_a5; decide +kernel
theorem dl5_425 : lw_a5 425 2 := by unfold lw_a5; decide +kernel
theorem dl_430 : decode cL_law 430 = .ok (.invokevirtual 39, 3) := by decide +kernel
theorem dl_433 : decode cL_law 433 = .ok (.if_icmp .eq 1048, 3) := by decide +kernel
theorem dl_438 : decode cL_law 438 = .ok (.aload_n 1, 1) := by decide +kernel
theorem dl5_439 : lw_a5 439 1 := by unfold lw_a5; decide +kernel
theorem dl_444 : decode cL_law 444 = .ok (.invokevirtual 40, 3) := by decide +kernel
theorem dl_447 : decode cL_law 447 = .ok (.aload_n 2, 1) := by decide +kernel
theorem dl5_448 : lw_a5 448 1 := by unfold lw_a5; decide +kernel
theorem dl_453 : decode cL_law 453 = .ok (.invokevirtual 44, 3) := by decide +kernel
theorem dl_456 : decode cL_law 456 = .ok (.if_icmp .eq 1025, 3) := by decide +kernel
theorem dl_461 : decode cL_law 461 = .ok (.aload_n 1, 1) := by decide +kernel
theorem dl5_462 : lw_a5 462 1 := by unfold lw_a5; decide +kernel
theorem dl5_467 : lw_a5 467 2 := by unfold lw_a5; decide +kernel
theorem dl_472 : decode cL_law 472 = .ok (.invokevirtual 45, 3) := by decide +kernel
theorem dl_475 : decode cL_law 475 = .ok (.aload_n 2, 1) := by decide +kernel
theorem dl5_476 : lw_a5 476 1 := by unfold lw_a5; decide +kernel
theorem dl5_481 : lw_a5 481 2 := by unfold lw_a5; decide +kernel
theorem dl_486 : decode cL_law 486 = .ok (.invokevirtual 48, 3) := by decide +kernel
theorem dl_489 : decode cL_law 489 = .ok (.if_icmp .eq 992, 3) := by decide +kernel
theorem dl_494 : decode cL_law 494 = .ok (.aload_n 1, 1) := by decide +kernel
theorem dl5_495 : lw_a5 495 1 := by unfold lw_a5; decide +kernel
theorem dl5_500 : lw_a5 500 2 := by unfold lw_a5; decide +kernel
theorem dl5_505 : lw_a5 505 3 := by unfold lw_a5; decide +kernel
theorem dl_510 : decode cL_law 510 = .ok (.invokevirtual 49, 3) := by decide +kernel
theorem dl_513 : decode cL_law 513 = .ok (.aload_n 2, 1) := by decide +kernel
theorem dl5_514 : lw_a5 514 1 := by unfold lw_a5; decide +kernel
theorem dl5_519 : lw_a5 519 2 := by unfold lw_a5; decide +kernel
theorem dl5_524 : lw_a5 524 3 := by unfold lw_a5; decide +kernel
theorem dl_529 : decode cL_law 529 = .ok (.invokevirtual 52, 3) := by decide +kernel
theorem dl_532 : decode cL_law 532 = .ok (.if_icmp .eq 949, 3) := by decide +kernel
theorem dl_537 : decode cL_law 537 = .ok (.aload_n 1, 1) := by decide +kernel
theorem dl5_538 : lw_a5 538 1 := by unfold lw_a5; decide +kernel
theorem dl5_543 : lw_a5 543 2 := by unfold lw_a5; decide +kernel
theorem dl_548 : decode cL_law 548 = .ok (.invokevirtual 53, 3) := by decide +kernel
theorem dl_551 : decode cL_law 551 = .ok (.aload_n 2, 1) := by decide +kernel
theorem dl5_552 : lw_a5 552 1 := by unfold lw_a5; decide +kernel
theorem dl5_557 : lw_a5 557 2 := by unfold lw_a5; decide +kernel
theorem dl_562 : decode cL_law 562 = .ok (.invokevirtual 56, 3) := by decide +kernel
theorem dl_565 : decode cL_law 565 = .ok (.if_icmp .eq 916, 3) := by decide +kernel
theorem dl_570 : decode cL_law 570 = .ok (.aload_n 1, 1) := by decide +kernel
theorem dl5_571 : lw_a5 571 1 := by unfold lw_a5; decide +kernel
theorem dl5_576 : lw_a5 576 2 := by unfold lw_a5; decide +kernel
theorem dl5_581 : lw_a5 581 3 := by unfold lw_a5; decide +kernel
theorem dl_586 : decode cL_law 586 = .ok (.invokevirtual 57, 3) := by decide +kernel
theorem dl_589 : decode cL_law 589 = .ok (.aload_n 2, 1) := by decide +kernel
theorem dl5_590 : lw_a5 590 1 := by unfold lw_a5; decide +kernel
theorem dl5_595 : lw_a5 595 2 := by unfold lw_a5; decide +kernel
theorem dl5_600 : lw_a5 600 3 := by unfold lw_a5; decide +kernel
theorem dl_605 : decode cL_law 605 = .ok (.invokevirtual 60, 3) := by decide +kernel
theorem dl_608 : decode cL_law 608 = .ok (.if_icmp .eq 873, 3) := by decide +kernel
theorem dl_613 : decode cL_law 613 = .ok (.aload_n 1, 1) := by decide +kernel
theorem dl5_614 : lw_a5 614 1 := by unfold lw_a5; decide +kernel
theorem dl5_619 : lw_a5 619 2 := by unfold lw_a5; decide +kernel
theorem dl_624 : decode cL_law 624 = .ok (.invokevirtual 61, 3) := by decide +kernel
theorem dl_627 : decode cL_law 627 = .ok (.aload_n 2, 1) := by decide +kernel
theorem dl5_628 : lw_a5 628 1 := by unfold lw_a5; decide +kernel
theorem dl5_633 : lw_a5 633 2 := by unfold lw_a5; decide +kernel
theorem dl_638 : decode cL_law 638 = .ok (.invokevirtual 64, 3) := by decide +kernel
theorem dl_641 : decode cL_law 641 = .ok (.if_icmp .eq 840, 3) := by decide +kernel
theorem dl_646 : decode cL_law 646 = .ok (.aload_n 1, 1) := by decide +kernel
theorem dl5_647 : lw_a5 647 1 := by unfold lw_a5; decide +kernel
theorem dl5_652 : lw_a5 652 2 := by unfold lw_a5; decide +kernel
theorem dl_657 : decode cL_law 657 = .ok (.invokevirtual 65, 3) := by decide +kernel
theorem dl_660 : decode cL_law 660 = .ok (.aload_n 2, 1) := by decide +kernel
theorem dl5_661 : lw_a5 661 1 := by unfold lw_a5; decide +kernel
theorem dl5_666 : lw_a5 666 2 := by unfold lw_a5; decide +kernel
theorem dl_671 : decode cL_law 671 = .ok (.invokevirtual 68, 3) := by decide +kernel
theorem dl_674 : decode cL_law 674 = .ok (.if_icmp .eq 807, 3) := by decide +kernel
theorem dl_679 : decode cL_law 679 = .ok (.aload_n 1, 1) := by decide +kernel
theorem dl5_680 : lw_a5 680 1 := by unfold lw_a5; decide +kernel
theorem dl_685 : decode cL_law 685 = .ok (.invokevirtual 69, 3) := by decide +kernel
theorem dl_688 : decode cL_law 688 = .ok (.aload_n 2, 1) := by decide +kernel
theorem dl5_689 : lw_a5 689 1 := by unfold lw_a5; decide +kernel
theorem dl_694 : decode cL_law 694 = .ok (.invokevirtual 72, 3) := by decide +kernel
theorem dl_697 : decode cL_law 697 = .ok (.if_icmp .eq 784, 3) := by decide +kernel
theorem dl_702 : decode cL_law 702 = .ok (.aload_n 1, 1) := by decide +kernel
theorem dl_703 : decode cL_law 703 = .ok (.invokevirtual 73, 3) := by decide +kernel
theorem dl_706 : decode cL_law 706 = .ok (.aload_n 2, 1) := by decide +kernel
theorem dl_707 : decode cL_law 707 = .ok (.invokevirtual 77, 3) := by decide +kernel
theorem dl_710 : decode cL_law 710 = .ok (.if_icmp .eq 771, 3) := by decide +kernel
theorem dl_715 : decode cL_law 715 = .ok (.aload_n 1, 1) := by decide +kernel
theorem dl5_716 : lw_a5 716 1 := by unfold lw_a5; decide +kernel
theorem dl5_721 : lw_a5 721 2 := by unfold lw_a5; decide +kernel
theorem dl5_726 : lw_a5 726 3 := by unfold lw_a5; decide +kernel
theorem dl_731 : decode cL_law 731 = .ok (.invokevirtual 78, 3) := by decide +kernel
theorem dl_734 : decode cL_law 734 = .ok (.aload_n 2, 1) := by decide +kernel
theorem dl5_735 : lw_a5 735 1 := by unfold lw_a5; decide +kernel
theorem dl5_740 : lw_a5 740 2 := by unfold lw_a5; decide +kernel
theorem dl5_745 : lw_a5 745 3 := by unfold lw_a5; decide +kernel
theorem dl_750 : decode cL_law 750 = .ok (.invokevirtual 81, 3) := by decide +kernel
theorem dl_753 : decode cL_law 753 = .ok (.if_icmp .eq 728, 3) := by decide +kernel
theorem dl_758 : decode cL_law 758 = .ok (.aload_n 1, 1) := by decide +kernel
theorem dl5_759 : lw_a5 759 1 := by unfold lw_a5; decide +kernel
theorem dl5_764 : lw_a5 764 2 := by unfold lw_a5; decide +kernel
theorem dl5_769 : lw_a5 769 3 := by unfold lw_a5; decide +kernel
theorem dl_774 : decode cL_law 774 = .ok (.invokevirtual 82, 3) := by decide +kernel
theorem dl_777 : decode cL_law 777 = .ok (.aload_n 2, 1) := by decide +kernel
theorem dl5_778 : lw_a5 778 1 := by unfold lw_a5; decide +kernel
theorem dl5_783 : lw_a5 783 2 := by unfold lw_a5; decide +kernel
theorem dl5_788 : lw_a5 788 3 := by unfold lw_a5; decide +kernel
theorem dl_793 : decode cL_law 793 = .ok (.invokevirtual 85, 3) := by decide +kernel
theorem dl_796 : decode cL_law 796 = .ok (.if_icmp .eq 685, 3) := by decide +kernel
theorem dl_801 : decode cL_law 801 = .ok (.aload_n 1, 1) := by decide +kernel
theorem dl5_802 : lw_a5 802 1 := by unfold lw_a5; decide +kernel
theorem dl5_807 : lw_a5 807 2 := by unfold lw_a5; decide +kernel
theorem dl5_812 : lw_a5 812 3 := by unfold lw_a5; decide +kernel
theorem dl_817 : decode cL_law 817 = .ok (.invokevirtual 86, 3) := by decide +kernel
theorem dl_820 : decode cL_law 820 = .ok (.aload_n 2, 1) := by decide +kernel
theorem dl5_821 : lw_a5 821 1 := by unfold lw_a5; decide +kernel
theorem dl5_826 : lw_a5 826 2 := by unfold lw_a5; decide +kernel
theorem dl5_831 : lw_a5 831 3 := by unfold lw_a5; decide +kernel
theorem dl_836 : decode cL_law 836 = .ok (.invokevirtual 89, 3) := by decide +kernel
theorem dl_839 : decode cL_law 839 = .ok (.if_icmp .eq 642, 3) := by decide +kernel
theorem dl_844 : decode cL_law 844 = .ok (.aload_n 1, 1) := by decide +kernel
theorem dl5_845 : lw_a5 845 1 := by unfold lw_a5; decide +kernel
theorem dl_850 : decode cL_law 850 = .ok (.invokevirtual 90, 3) := by decide +kernel
theorem dl_853 : decode cL_law 853 = .ok (.aload_n 2, 1) := by decide +kernel
theorem dl5_854 : lw_a5 854 1 := by unfold lw_a5; decide +kernel
theorem dl_859 : decode cL_law 859 = .ok (.invokevirtual 93, 3) := by decide +kernel
theorem dl_862 : decode cL_law 862 = .ok (.if_icmp .eq 619, 3) := by decide +kernel
theorem dl_867 : decode cL_law 867 = .ok (.aload_n 1, 1) := by decide +kernel
theorem dl5_868 : lw_a5 868 1 := by unfold lw_a5; decide +kernel
theorem dl5_873 : lw_a5 873 2 := by unfold lw_a5; decide +kernel
theorem dl5_878 : lw_a5 878 3 := by unfold lw_a5; decide +kernel
theorem dl5_883 : lw_a5 883 4 := by unfold lw_a5; decide +kernel
theorem dl_888 : decode cL_law 888 = .ok (.invokevirtual 94, 3) := by decide +kernel
theorem dl_891 : decode cL_law 891 = .ok (.aload_n 2, 1) := by decide +kernel
theorem dl5_892 : lw_a5 892 1 := by unfold lw_a5; decide +kernel
theorem dl5_897 : lw_a5 897 2 := by unfold lw_a5; decide +kernel
theorem dl5_902 : lw_a5 902 3 := by unfold lw_a5; decide +kernel
theorem dl5_907 : lw_a5 907 4 := by unfold lw_a5; decide +kernel
theorem dl_912 : decode cL_law 912 = .ok (.invokevirtual 98, 3) := by decide +kernel
theorem dl_915 : decode cL_law 915 = .ok (.if_icmp .eq 566, 3) := by decide +kernel
theorem dl_920 : decode cL_law 920 = .ok (.aload_n 1, 1) := by decide +kernel
theorem dl5_921 : lw_a5 921 1 := by unfold lw_a5; decide +kernel
theorem dl5_926 : lw_a5 926 2 := by unfold lw_a5; decide +kernel
theorem dl5_931 : lw_a5 931 3 := by unfold lw_a5; decide +kernel
theorem dl5_936 : lw_a5 936 4 := by unfold lw_a5; decide +kernel
theorem dl_941 : decode cL_law 941 = .ok (.invokevirtual 99, 3) := by decide +kernel
theorem dl_944 : decode cL_law 944 = .ok (.aload_n 2, 1) := by decide +kernel
theorem dl5_945 : lw_a5 945 1 := by unfold lw_a5; decide +kernel
theorem dl5_950 : lw_a5 950 2 := by unfold lw_a5; decide +kernel
theorem dl5_955 : lw_a5 955 3 := by unfold lw_a5; decide +kernel
theorem dl5_960 : lw_a5 960 4 := by unfold lw_a5; decide +kernel
theorem dl_965 : decode cL_law 965 = .ok (.invokevirtual 102, 3) := by decide +kernel
theorem dl_968 : decode cL_law 968 = .ok (.if_icmp .eq 513, 3) := by decide +kernel
theorem dl_973 : decode cL_law 973 = .ok (.aload_n 1, 1) := by decide +kernel
theorem dl5_974 : lw_a5 974 1 := by unfold lw_a5; decide +kernel
theorem dl_979 : decode cL_law 979 = .ok (.invokevirtual 103, 3) := by decide +kernel
theorem dl_982 : decode cL_law 982 = .ok (.aload_n 2, 1) := by decide +kernel
theorem dl5_983 : lw_a5 983 1 := by unfold lw_a5; decide +kernel
theorem dl_988 : decode cL_law 988 = .ok (.invokevirtual 106, 3) := by decide +kernel
theorem dl_991 : decode cL_law 991 = .ok (.if_icmp .eq 490, 3) := by decide +kernel
theorem dl_996 : decode cL_law 996 = .ok (.aload_n 1, 1) := by decide +kernel
theorem dl5_997 : lw_a5 997 1 := by unfold lw_a5; decide +kernel
theorem dl5_1002 : lw_a5 1002 2 := by unfold lw_a5; decide +kernel
theorem dl5_1007 : lw_a5 1007 3 := by unfold lw_a5; decide +kernel
theorem dl5_1012 : lw_a5 1012 4 := by unfold lw_a5; decide +kernel
theorem dl_1017 : decode cL_law 1017 = .ok (.invokevirtual 107, 3) := by decide +kernel
theorem dl_1020 : decode cL_law 1020 = .ok (.aload_n 2, 1) := by decide +kernel
theorem dl5_1021 : lw_a5 1021 1 := by unfold lw_a5; decide +kernel
theorem dl5_1026 : lw_a5 1026 2 := by unfold lw_a5; decide +kernel
theorem dl5_1031 : lw_a5 1031 3 := by unfold lw_a5; decide +kernel
theorem dl5_1036 : lw_a5 1036 4 := by unfold lw_a5; decide +kernel
theorem dl_1041 : decode cL_law 1041 = .ok (.invokevirtual 110, 3) := by decide +kernel
theorem dl_1044 : decode cL_law 1044 = .ok (.if_icmp .eq 437, 3) := by decide +kernel
theorem dl_1049 : decode cL_law 1049 = .ok (.aload_n 1, 1) := by decide +kernel
theorem dl5_1050 : lw_a5 1050 1 := by unfold lw_a5; decide +kernel
theorem dl5_1055 : lw_a5 1055 2 := by unfold lw_a5; decide +kernel
theorem dl_1060 : decode cL_law 1060 = .ok (.invokevirtual 111, 3) := by decide +kernel
theorem dl_1063 : decode cL_law 1063 = .ok (.aload_n 2, 1) := by decide +kernel
theorem dl5_1064 : lw_a5 1064 1 := by unfold lw_a5; decide +kernel
theorem dl5_1069 : lw_a5 1069 2 := by unfold lw_a5; decide +kernel
theorem dl_1074 : decode cL_law 1074 = .ok (.invokevirtual 114, 3) := by decide +kernel
theorem dl_1077 : decode cL_law 1077 = .ok (.if_icmp .eq 404, 3) := by decide +kernel
theorem dl_1082 : decode cL_law 1082 = .ok (.aload_n 1, 1) := by decide +kernel
theorem dl5_1083 : lw_a5 1083 1 := by unfold lw_a5; decide +kernel
theorem dl5_1088 : lw_a5 1088 2 := by unfold lw_a5; decide +kernel
theorem dl5_1093 : lw_a5 1093 3 := by unfold lw_a5; decide +kernel
theorem dl_1098 : decode cL_law 1098 = .ok (.invokevirtual 115, 3) := by decide +kernel
theorem dl_1101 : decode cL_law 1101 = .ok (.aload_n 2, 1) := by decide +kernel
theorem dl5_1102 : lw_a5 1102 1 := by unfold lw_a5; decide +kernel
theorem dl5_1107 : lw_a5 1107 2 := by unfold lw_a5; decide +kernel
theorem dl5_1112 : lw_a5 1112 3 := by unfold lw_a5; decide +kernel
theorem dl_1117 : decode cL_law 1117 = .ok (.invokevirtual 118, 3) := by decide +kernel
theorem dl_1120 : decode cL_law 1120 = .ok (.if_icmp .eq 361, 3) := by decide +kernel
theorem dl_1125 : decode cL_law 1125 = .ok (.aload_n 1, 1) := by decide +kernel
theorem dl5_1126 : lw_a5 1126 1 := by unfold lw_a5; decide +kernel
theorem dl5_1131 : lw_a5 1131 2 := by unfold lw_a5; decide +kernel
theorem dl5_1136 : lw_a5 1136 3 := by unfold lw_a5; decide +kernel
theorem dl_1141 : decode cL_law 1141 = .ok (.invokevirtual 119, 3) := by decide +kernel
theorem dl_1144 : decode cL_law 1144 = .ok (.aload_n 2, 1) := by decide +kernel
theorem dl5_1145 : lw_a5 1145 1 := by unfold lw_a5; decide +kernel
theorem dl5_1150 : lw_a5 1150 2 := by unfold lw_a5; decide +kernel
theorem dl5_1155 : lw_a5 1155 3 := by unfold lw_a5; decide +kernel
theorem dl_1160 : decode cL_law 1160 = .ok (.invokevirtual 122, 3) := by decide +kernel
theorem dl_1163 : decode cL_law 1163 = .ok (.if_icmp .eq 318, 3) := by decide +kernel
theorem dl_1168 : decode cL_law 1168 = .ok (.aload_n 1, 1) := by decide +kernel
theorem dl5_1169 : lw_a5 1169 1 := by unfold lw_a5; decide +kernel
theorem dl5_1174 : lw_a5 1174 2 := by unfold lw_a5; decide +kernel
theorem dl5_1179 : lw_a5 1179 3 := by unfold lw_a5; decide +kernel
theorem dl_1184 : decode cL_law 1184 = .ok (.invokevirtual 123, 3) := by decide +kernel
theorem dl_1187 : decode cL_law 1187 = .ok (.aload_n 2, 1) := by decide +kernel
theorem dl5_1188 : lw_a5 1188 1 := by unfold lw_a5; decide +kernel
theorem dl5_1193 : lw_a5 1193 2 := by unfold lw_a5; decide +kernel
theorem dl5_1198 : lw_a5 1198 3 := by unfold lw_a5; decide +kernel
theorem dl_1203 : decode cL_law 1203 = .ok (.invokevirtual 126, 3) := by decide +kernel
theorem dl_1206 : decode cL_law 1206 = .ok (.if_icmp .eq 275, 3) := by decide +kernel
theorem dl_1211 : decode cL_law 1211 = .ok (.aload_n 1, 1) := by decide +kernel
theorem dl5_1212 : lw_a5 1212 1 := by unfold lw_a5; decide +kernel
theorem dl5_1217 : lw_a5 1217 2 := by unfold lw_a5; decide +kernel
theorem dl_1222 : decode cL_law 1222 = .ok (.invokevirtual 127, 3) := by decide +kernel
theorem dl_1225 : decode cL_law 1225 = .ok (.aload_n 2, 1) := by decide +kernel
theorem dl5_1226 : lw_a5 1226 1 := by unfold lw_a5; decide +kernel
theorem dl5_1231 : lw_a5 1231 2 := by unfold lw_a5; decide +kernel
theorem dl_1236 : decode cL_law 1236 = .ok (.invokevirtual 130, 3) := by decide +kernel
theorem dl_1239 : decode cL_law 1239 = .ok (.if_icmp .eq 242, 3) := by decide +kernel
theorem dl_1244 : decode cL_law 1244 = .ok (.aload_n 1, 1) := by decide +kernel
theorem dl5_1245 : lw_a5 1245 1 := by unfold lw_a5; decide +kernel
theorem dl5_1250 : lw_a5 1250 2 := by unfold lw_a5; decide +kernel
theorem dl5_1255 : lw_a5 1255 3 := by unfold lw_a5; decide +kernel
theorem dl_1260 : decode cL_law 1260 = .ok (.invokevirtual 131, 3) := by decide +kernel
theorem dl_1263 : decode cL_law 1263 = .ok (.aload_n 2, 1) := by decide +kernel
theorem dl5_1264 : lw_a5 1264 1 := by unfold lw_a5; decide +kernel
theorem dl5_1269 : lw_a5 1269 2 := by unfold lw_a5; decide +kernel
theorem dl5_1274 : lw_a5 1274 3 := by unfold lw_a5; decide +kernel
theorem dl_1279 : decode cL_law 1279 = .ok (.invokevirtual 134, 3) := by decide +kernel
theorem dl_1282 : decode cL_law 1282 = .ok (.if_icmp .eq 199, 3) := by decide +kernel
theorem dl_1287 : decode cL_law 1287 = .ok (.aload_n 1, 1) := by decide +kernel
theorem dl5_1288 : lw_a5 1288 1 := by unfold lw_a5; decide +kernel
theorem dl5_1293 : lw_a5 1293 2 := by unfold lw_a5; decide +kernel
theorem dl_1298 : decode cL_law 1298 = .ok (.invokevirtual 135, 3) := by decide +kernel
theorem dl_1301 : decode cL_law 1301 = .ok (.aload_n 2, 1) := by decide +kernel
theorem dl5_1302 : lw_a5 1302 1 := by unfold lw_a5; decide +kernel
theorem dl5_1307 : lw_a5 1307 2 := by unfold lw_a5; decide +kernel
theorem dl_1312 : decode cL_law 1312 = .ok (.invokevirtual 138, 3) := by decide +kernel
theorem dl_1315 : decode cL_law 1315 = .ok (.if_icmp .eq 166, 3) := by decide +kernel
theorem dl_1320 : decode cL_law 1320 = .ok (.aload_n 1, 1) := by decide +kernel
theorem dl5_1321 : lw_a5 1321 1 := by unfold lw_a5; decide +kernel
theorem dl_1326 : decode cL_law 1326 = .ok (.invokevirtual 139, 3) := by decide +kernel
theorem dl_1329 : decode cL_law 1329 = .ok (.aload_n 2, 1) := by decide +kernel
theorem dl5_1330 : lw_a5 1330 1 := by unfold lw_a5; decide +kernel
theorem dl_1335 : decode cL_law 1335 = .ok (.invokevirtual 142, 3) := by decide +kernel
theorem dl_1338 : decode cL_law 1338 = .ok (.if_icmp .eq 143, 3) := by decide +kernel
theorem dl_1343 : decode cL_law 1343 = .ok (.aload_n 1, 1) := by decide +kernel
theorem dl5_1344 : lw_a5 1344 1 := by unfold lw_a5; decide +kernel
theorem dl_1349 : decode cL_law 1349 = .ok (.invokevirtual 143, 3) := by decide +kernel
theorem dl_1352 : decode cL_law 1352 = .ok (.aload_n 2, 1) := by decide +kernel
theorem dl5_1353 : lw_a5 1353 1 := by unfold lw_a5; decide +kernel
theorem dl_1358 : decode cL_law 1358 = .ok (.invokevirtual 146, 3) := by decide +kernel
theorem dl_1361 : decode cL_law 1361 = .ok (.if_icmp .eq 120, 3) := by decide +kernel
theorem dl_1366 : decode cL_law 1366 = .ok (.aload_n 1, 1) := by decide +kernel
theorem dl5_1367 : lw_a5 1367 1 := by unfold lw_a5; decide +kernel
theorem dl5_1372 : lw_a5 1372 2 := by unfold lw_a5; decide +kernel
theorem dl5_1377 : lw_a5 1377 3 := by unfold lw_a5; decide +kernel
theorem dl_1382 : decode cL_law 1382 = .ok (.invokevirtual 147, 3) := by decide +kernel
theorem dl_1385 : decode cL_law 1385 = .ok (.aload_n 2, 1) := by decide +kernel
theorem dl5_1386 : lw_a5 1386 1 := by unfold lw_a5; decide +kernel
theorem dl5_1391 : lw_a5 1391 2 := by unfold lw_a5; decide +kernel
theorem dl5_1396 : lw_a5 1396 3 := by unfold lw_a5; decide +kernel
theorem dl_1401 : decode cL_law 1401 = .ok (.invokevirtual 150, 3) := by decide +kernel
theorem dl_1404 : decode cL_law 1404 = .ok (.if_icmp .eq 77, 3) := by decide +kernel
theorem dl_1409 : decode cL_law 1409 = .ok (.aload_n 1, 1) := by decide +kernel
theorem dl5_1410 : lw_a5 1410 1 := by unfold lw_a5; decide +kernel
theorem dl_1415 : decode cL_law 1415 = .ok (.invokevirtual 151, 3) := by decide +kernel
theorem dl_1418 : decode cL_law 1418 = .ok (.aload_n 2, 1) := by decide +kernel
theorem dl5_1419 : lw_a5 1419 1 := by unfold lw_a5; decide +kernel
theorem dl_1424 : decode cL_law 1424 = .ok (.invokevirtual 154, 3) := by decide +kernel
theorem dl_1427 : decode cL_law 1427 = .ok (.if_icmp .eq 54, 3) := by decide +kernel
theorem dl_1432 : decode cL_law 1432 = .ok (.aload_n 1, 1) := by decide +kernel
theorem dl_1433 : decode cL_law 1433 = .ok (.invokevirtual 155, 3) := by decide +kernel
theorem dl_1436 : decode cL_law 1436 = .ok (.aload_n 2, 1) := by decide +kernel
theorem dl_1437 : decode cL_law 1437 = .ok (.invokevirtual 158, 3) := by decide +kernel
theorem dl_1440 : decode cL_law 1440 = .ok (.if_icmp .eq 41, 3) := by decide +kernel
theorem dl_1445 : decode cL_law 1445 = .ok (.aload_n 1, 1) := by decide +kernel
theorem dl_1446 : decode cL_law 1446 = .ok (.invokevirtual 159, 3) := by decide +kernel
theorem dl_1449 : decode cL_law 1449 = .ok (.aload_n 2, 1) := by decide +kernel
theorem dl_1450 : decode cL_law 1450 = .ok (.invokevirtual 162, 3) := by decide +kernel
theorem dl_1453 : decode cL_law 1453 = .ok (.if_icmp .eq 28, 3) := by decide +kernel
theorem dl_1458 : decode cL_law 1458 = .ok (.aload_n 1, 1) := by decide +kernel
theorem dl5_1459 : lw_a5 1459 1 := by unfold lw_a5; decide +kernel
theorem dl_1464 : decode cL_law 1464 = .ok (.invokevirtual 163, 3) := by decide +kernel
theorem dl_1467 : decode cL_law 1467 = .ok (.aload_n 2, 1) := by decide +kernel
theorem dl5_1468 : lw_a5 1468 1 := by unfold lw_a5; decide +kernel
theorem dl_1473 : decode cL_law 1473 = .ok (.invokevirtual 166, 3) := by decide +kernel
theorem dl_1476 : decode cL_law 1476 = .ok (.if_icmp .eq 5, 3) := by decide +kernel
theorem dl_18 : decode cL_law 18 = .ok (.iload_n 3, 1) := by decide +kernel
theorem dl_19 : decode cL_law 19 = .ok (.aload_n 0, 1) := by decide +kernel
theorem dl_20 : decode cL_law 20 = .ok (.arraylength, 1) := by decide +kernel
theorem dl_21 : decode cL_law 21 = .ok (.bipush 6, 2) := by decide +kernel
theorem dl_23 : decode cL_law 23 = .ok (.isub, 1) := by decide +kernel
theorem dl_24 : decode cL_law 24 = .ok (.if_icmp .gt 1463, 3) := by decide +kernel
theorem dl_27 : decode cL_law 27 = .ok (.aload_n 0, 1) := by decide +kernel
theorem dl_28 : decode cL_law 28 = .ok (.iload_n 3, 1) := by decide +kernel
theorem dl_29 : decode cL_law 29 = .ok (.iaload, 1) := by decide +kernel
theorem dl_30 : decode cL_law 30 = .ok (.bipush 63, 2) := by decide +kernel
theorem dl_32 : decode cL_law 32 = .ok (.iand, 1) := by decide +kernel
theorem dl_33 : decode cL_law 33 = .ok (.tableswitch 1448 0 35 #[159, 202, 275, 338, 372, 405, 428, 461, 504, 537, 580, 613, 646, 669, 682, 725, 768, 811, 834, 887, 940, 963, 1016, 1049, 1092, 1135, 1178, 1211, 1254, 1287, 1310, 1333, 1376, 1399, 1412, 1425], 159) := by decide +kernel
theorem dl_1481 : decode cL_law 1481 = .ok (.iinc 3 6, 3) := by decide +kernel
theorem dl_1484 : decode cL_law 1484 = .ok (.goto (-1466), 3) := by decide +kernel
theorem dl_1487 : decode cL_law 1487 = .ok (.iconst 1, 1) := by decide +kernel
theorem dl_1488 : decode cL_law 1488 = .ok (.ireturn, 1) := by decide +kernel
theorem dl_0 : decode cL_law 0 = .ok (.new 7, 3) := by decide +kernel
theorem dl_3 : decode cL_law 3 = .ok (.dup, 1) := by decide +kernel
theorem dl_4 : decode cL_law 4 = .ok (.invokespecial 9, 3) := by decide +kernel
theorem dl_7 : decode cL_law 7 = .ok (.astore_n 1, 1) := by decide +kernel
theorem dl_8 : decode cL_law 8 = .ok (.new 10, 3) := by decide +kernel
theorem dl_11 : decode cL_law 11 = .ok (.dup, 1) := by decide +kernel
theorem dl_12 : decode cL_law 12 = .ok (.invokespecial 12, 3) := by decide +kernel
theorem dl_15 : decode cL_law 15 = .ok (.astore_n 2, 1) := by decide +kernel
theorem dl_16 : decode cL_law 16 = .ok (.iconst 0, 1) := by decide +kernel
theorem dl_17 : decode cL_law 17 = .ok (.istore_n 3, 1) := by decide +kernel
theorem wlc_7 : Cond.classLink RL 7 RX7 ∈ fkB := fkB_in (tb_in1 (List.mem_of_getElem? (i := 16) (by decide +kernel))) rfl
theorem wl_9 : Cond.methodLink RL 9 yX7_init ∈ fkB := fkB_in (tb_in1 (List.mem_of_getElem? (i := 18) (by decide +kernel))) rfl
theorem wl_13 : Cond.methodLink RL 13 yX7_row ∈ fkB := fkB_in (tb_in2 (List.mem_of_getElem? (i := 32) (by decide +kernel))) rfl
theorem wl_20 : Cond.methodLink RL 20 yX7_set ∈ fkB := fkB_in (tb_in2 (List.mem_of_getElem? (i := 54) (by decide +kernel))) rfl
theorem wl_25 : Cond.methodLink RL 25 yX7_copy ∈ fkB := fkB_in (tb_in2 (List.mem_of_getElem? (i := 70) (by decide +kernel))) rfl
theorem wl_30 : Cond.methodLink RL 30 yX7_element ∈ fkB := fkB_in (tb_in2 (List.mem_of_getElem? (i := 81) (by decide +kernel))) rfl
theorem wl_35 : Cond.methodLink RL 35 yX7_show ∈ fkB := fkB_in (tb_in2 (List.mem_of_getElem? (i := 89) (by decide +kernel))) rfl
theorem wl_40 : Cond.methodLink RL 40 yX7_holds ∈ fkB := fkB_in (tb_in2 (List.mem_of_getElem? (i := 105) (by decide +kernel))) rfl
theorem wl_45 : Cond.methodLink RL 45 yX7_says ∈ fkB := fkB_in (tb_in2 (List.mem_of_getElem? (i := 109) (by decide +kernel))) rfl
theorem wl_49 : Cond.methodLink RL 49 yX7_bird ∈ fkB := fkB_in (tb_in2 (List.mem_of_getElem? (i := 179) (by decide +kernel))) rfl
theorem wl_53 : Cond.methodLink RL 53 yX7_ask ∈ fkB := fkB_in (tb_in2 (List.mem_of_getElem? (i := 187) (by decide +kernel))) rfl
theorem wl_57 : Cond.methodLink RL 57 yX7_table ∈ fkB := fkB_in (tb_in2 (List.mem_of_getElem? (i := 191) (by decide +kernel))) rfl
theorem wl_61 : Cond.methodLink RL 61 yX7_comes ∈ fkB := fkB_in (tb_in2 (List.mem_of_getElem? (i := 204) (by decide +kernel))) rfl
theorem wl_65 : Cond.methodLink RL 65 yX7_birdOf ∈ fkB := fkB_in (tb_in2 (List.mem_of_getElem? (i := 208) (by decide +kernel))) rfl
theorem wl_69 : Cond.methodLink RL 69 yX7_bakery ∈ fkB := fkB_in (tb_in2 (List.mem_of_getElem? (i := 212) (by decide +kernel))) rfl
theorem wl_73 : Cond.methodLink RL 73 yX7_fault ∈ fkB := fkB_in (tb_in3 (List.mem_of_getElem? (i := 84) (by decide +kernel))) rfl
theorem wl_78 : Cond.methodLink RL 78 yX7_said ∈ fkB := fkB_in (tb_in3 (List.mem_of_getElem? (i := 88) (by decide +kernel))) rfl
theorem wl_82 : Cond.methodLink RL 82 yX7_brings ∈ fkB := fkB_in (tb_in3 (List.mem_of_getElem? (i := 109) (by decide +kernel))) rfl
theorem wl_86 : Cond.methodLink RL 86 yX7_soonest ∈ fkB := fkB_in (tb_in3 (List.mem_of_getElem? (i := 121) (by decide +kernel))) rfl
theorem wl_90 : Cond.methodLink RL 90 yX7_safe ∈ fkB := fkB_in (tb_in3 (List.mem_of_getElem? (i := 133) (by decide +kernel))) rfl
theorem wl_94 : Cond.methodLink RL 94 yX7_fits ∈ fkB := fkB_in (tb_in3 (List.mem_of_getElem? (i := 137) (by decide +kernel))) rfl
theorem wl_99 : Cond.methodLink RL 99 yX7_pies ∈ fkB := fkB_in (tb_in3 (List.mem_of_getElem? (i := 158) (by decide +kernel))) rfl
theorem wl_103 : Cond.methodLink RL 103 yX7_next ∈ fkB := fkB_in (tb_in3 (List.mem_of_getElem? (i := 162) (by decide +kernel))) rfl
theorem wl_107 : Cond.methodLink RL 107 yX7_chance ∈ fkB := fkB_in (tb_in3 (List.mem_of_getElem? (i := 175) (by decide +kernel))) rfl
theorem wl_111 : Cond.methodLink RL 111 yX7_minutes ∈ fkB := fkB_in (tb_in3 (List.mem_of_getElem? (i := 188) (by decide +kernel))) rfl
theorem wl_115 : Cond.methodLink RL 115 yX7_after ∈ fkB := fkB_in (tb_in3 (List.mem_of_getElem? (i := 192) (by decide +kernel))) rfl
theorem wl_119 : Cond.methodLink RL 119 yX7_kings ∈ fkB := fkB_in (tb_in3 (List.mem_of_getElem? (i := 196) (by decide +kernel))) rfl
theorem wl_123 : Cond.methodLink RL 123 yX7_tribes ∈ fkB := fkB_in (tb_in3 (List.mem_of_getElem? (i := 209) (by decide +kernel))) rfl
theorem wl_127 : Cond.methodLink RL 127 yX7_alike ∈ fkB := fkB_in (tb_in3 (List.mem_of_getElem? (i := 234) (by decide +kernel))) rfl
theorem wl_131 : Cond.methodLink RL 131 yX7_judge ∈ fkB := fkB_in (tb_in3 (List.mem_of_getElem? (i := 238) (by decide +kernel))) rfl
theorem wl_135 : Cond.methodLink RL 135 yX7_bake ∈ fkB := fkB_in (tb_in4 (List.mem_of_getElem? (i := 3) (by decide +kernel))) rfl
theorem wl_139 : Cond.methodLink RL 139 yX7_years ∈ fkB := fkB_in (tb_in4 (List.mem_of_getElem? (i := 11) (by decide +kernel))) rfl
theorem wl_143 : Cond.methodLink RL 143 yX7_seed ∈ fkB := fkB_in (tb_in4 (List.mem_of_getElem? (i := 20) (by decide +kernel))) rfl
theorem wl_147 : Cond.methodLink RL 147 yX7_act ∈ fkB := fkB_in (tb_in4 (List.mem_of_getElem? (i := 24) (by decide +kernel))) rfl
theorem wl_151 : Cond.methodLink RL 151 yX7_trace ∈ fkB := fkB_in (tb_in4 (List.mem_of_getElem? (i := 51) (by decide +kernel))) rfl
theorem wl_155 : Cond.methodLink RL 155 yX7_image ∈ fkB := fkB_in (tb_in4 (List.mem_of_getElem? (i := 60) (by decide +kernel))) rfl
theorem wl_159 : Cond.methodLink RL 159 yX7_restore ∈ fkB := fkB_in (tb_in4 (List.mem_of_getElem? (i := 64) (by decide +kernel))) rfl
theorem wl_163 : Cond.methodLink RL 163 yX7_status ∈ fkB := fkB_in (tb_in4 (List.mem_of_getElem? (i := 68) (by decide +kernel))) rfl
theorem wlc_10 : Cond.classLink RL 10 RX8 ∈ fkB := fkB_in (tb_in4 (List.mem_of_getElem? (i := 72) (by decide +kernel))) rfl
theorem wl_12 : Cond.methodLink RL 12 yX8_init ∈ fkB := fkB_in (tb_in4 (List.mem_of_getElem? (i := 74) (by decide +kernel))) rfl
theorem wl_17 : Cond.methodLink RL 17 yX8_row ∈ fkB := fkB_in (tb_in4 (List.mem_of_getElem? (i := 190) (by decide +kernel))) rfl
theorem wl_24 : Cond.methodLink RL 24 yX8_set ∈ fkB := fkB_in (tb_in4 (List.mem_of_getElem? (i := 201) (by decide +kernel))) rfl
theorem wl_29 : Cond.methodLink RL 29 yX8_copy ∈ fkB := fkB_in (tb_in4 (List.mem_of_getElem? (i := 213) (by decide +kernel))) rfl
theorem wl_34 : Cond.methodLink RL 34 yX8_element ∈ fkB := fkB_in (tb_in4 (List.mem_of_getElem? (i := 217) (by decide +kernel))) rfl
theorem wl_39 : Cond.methodLink RL 39 yX8_show ∈ fkB := fkB_in (tb_in4 (List.mem_of_getElem? (i := 221) (by decide +kernel))) rfl
theorem wl_44 : Cond.methodLink RL 44 yX8_holds ∈ fkB := fkB_in (tb_in4 (List.mem_of_getElem? (i := 229) (by decide +kernel))) rfl
theorem wl_48 : Cond.methodLink RL 48 yX8_says ∈ fkB := fkB_in (tb_in4 (List.mem_of_getElem? (i := 233) (by decide +kernel))) rfl
theorem wl_52 : Cond.methodLink RL 52 yX8_bird ∈ fkB := fkB_in (tb_in5 (List.mem_of_getElem? (i := 28) (by decide +kernel))) rfl
theorem wl_56 : Cond.methodLink RL 56 yX8_ask ∈ fkB := fkB_in (tb_in5 (List.mem_of_getElem? (i := 36) (by decide +kernel))) rfl
theorem wl_60 : Cond.methodLink RL 60 yX8_table ∈ fkB := fkB_in (tb_in5 (List.mem_of_getElem? (i := 40) (by decide +kernel))) rfl
theorem wl_64 : Cond.methodLink RL 64 yX8_comes ∈ fkB := fkB_in (tb_in5 (List.mem_of_getElem? (i := 50) (by decide +kernel))) rfl
theorem wl_68 : Cond.methodLink RL 68 yX8_birdOf ∈ fkB := fkB_in (tb_in5 (List.mem_of_getElem? (i := 54) (by decide +kernel))) rfl
theorem wl_72 : Cond.methodLink RL 72 yX8_bakery ∈ fkB := fkB_in (tb_in5 (List.mem_of_getElem? (i := 58) (by decide +kernel))) rfl
theorem wl_77 : Cond.methodLink RL 77 yX8_fault ∈ fkB := fkB_in (tb_in5 (List.mem_of_getElem? (i := 102) (by decide +kernel))) rfl
theorem wl_81 : Cond.methodLink RL 81 yX8_said ∈ fkB := fkB_in (tb_in5 (List.mem_of_getElem? (i := 106) (by decide +kernel))) rfl
theorem wl_85 : Cond.methodLink RL 85 yX8_brings ∈ fkB := fkB_in (tb_in5 (List.mem_of_getElem? (i := 122) (by decide +kernel))) rfl
theorem wl_89 : Cond.methodLink RL 89 yX8_soonest ∈ fkB := fkB_in (tb_in5 (List.mem_of_getElem? (i := 133) (by decide +kernel))) rfl
theorem wl_93 : Cond.methodLink RL 93 yX8_safe ∈ fkB := fkB_in (tb_in5 (List.mem_of_getElem? (i := 144) (by decide +kernel))) rfl
theorem wl_98 : Cond.methodLink RL 98 yX8_fits ∈ fkB := fkB_in (tb_in5 (List.mem_of_getElem? (i := 148) (by decide +kernel))) rfl
theorem wl_102 : Cond.methodLink RL 102 yX8_pies ∈ fkB := fkB_in (tb_in5 (List.mem_of_getElem? (i := 172) (by decide +kernel))) rfl
theorem wl_106 : Cond.methodLink RL 106 yX8_next ∈ fkB := fkB_in (tb_in5 (List.mem_of_getElem? (i := 176) (by decide +kernel))) rfl
theorem wl_110 : Cond.methodLink RL 110 yX8_chance ∈ fkB := fkB_in (tb_in5 (List.mem_of_getElem? (i := 185) (by decide +kernel))) rfl
theorem wl_114 : Cond.methodLink RL 114 yX8_minutes ∈ fkB := fkB_in (tb_in5 (List.mem_of_getElem? (i := 194) (by decide +kernel))) rfl
theorem wl_118 : Cond.methodLink RL 118 yX8_after ∈ fkB := fkB_in (tb_in5 (List.mem_of_getElem? (i := 198) (by decide +kernel))) rfl
theorem wl_122 : Cond.methodLink RL 122 yX8_kings ∈ fkB := fkB_in (tb_in5 (List.mem_of_getElem? (i := 202) (by decide +kernel))) rfl
theorem wl_126 : Cond.methodLink RL 126 yX8_tribes ∈ fkB := fkB_in (tb_in5 (List.mem_of_getElem? (i := 210) (by decide +kernel))) rfl
theorem wl_130 : Cond.methodLink RL 130 yX8_alike ∈ fkB := fkB_in (tb_in5 (List.mem_of_getElem? (i := 222) (by decide +kernel))) rfl
theorem wl_134 : Cond.methodLink RL 134 yX8_judge ∈ fkB := fkB_in (tb_in5 (List.mem_of_getElem? (i := 226) (by decide +kernel))) rfl
theorem wl_138 : Cond.methodLink RL 138 yX8_bake ∈ fkB := fkB_in (tb_in5 (List.mem_of_getElem? (i := 231) (by decide +kernel))) rfl
theorem wl_142 : Cond.methodLink RL 142 yX8_years ∈ fkB := fkB_in (tb_in5 (List.mem_of_getElem? (i := 239) (by decide +kernel))) rfl
theorem wl_146 : Cond.methodLink RL 146 yX8_seed ∈ fkB := fkB_in (tb_in6 (List.mem_of_getElem? (i := 8) (by decide +kernel))) rfl
theorem wl_150 : Cond.methodLink RL 150 yX8_act ∈ fkB := fkB_in (tb_in6 (List.mem_of_getElem? (i := 12) (by decide +kernel))) rfl
theorem wl_154 : Cond.methodLink RL 154 yX8_trace ∈ fkB := fkB_in (tb_in6 (List.mem_of_getElem? (i := 32) (by decide +kernel))) rfl
theorem wl_158 : Cond.methodLink RL 158 yX8_image ∈ fkB := fkB_in (tb_in6 (List.mem_of_getElem? (i := 36) (by decide +kernel))) rfl
theorem wl_162 : Cond.methodLink RL 162 yX8_restore ∈ fkB := fkB_in (tb_in6 (List.mem_of_getElem? (i := 40) (by decide +kernel))) rfl
theorem wl_166 : Cond.methodLink RL 166 yX8_status ∈ fkB := fkB_in (tb_in6 (List.mem_of_getElem? (i := 44) (by decide +kernel))) rfl
theorem lw_c_row {k : lwK} {gC gM : fkG} {i : Nat} {cS mS : fkS} (hk : lw_ok k gC gM) (hi : i + 5 < lwL k) (hR : Rel cS mS) (kk : ∀ c' m', Rel c' m' → lw_J k gC gM 1481 i [] c' m') : lw_J k gC gM 192 i [] cS mS := by
  obtain ⟨r, c', m', e1, e2, hR'⟩ := op_row hR (lwx k (i + 1)) (lwx k (i + 2)) (lwx k (i + 3))
  refine lw_a0 hk dl_192 ?_
  refine lw_arg hk hi 1 dl5_193 (by decide) rfl ?_
  refine lw_arg hk hi 2 dl5_198 (by decide) rfl ?_
  refine lw_arg hk hi 3 dl5_203 (by decide) rfl ?_
  refine lw_callC hk [.int (lwx k (i + 1)), .int (lwx k (i + 2)), .int (lwx k (i + 3))] rfl (fun l => C7_row _ _ _ cS l (r, c') e1) rfl yv_X7_row wl_13 rfl (Nat.le_of_ble_eq_true rfl) (Nat.le_of_ble_eq_true rfl) (Nat.le_of_ble_eq_true rfl) dl_208 ?_
  refine lw_a2 hk dl_211 ?_
  refine lw_arg hk hi 1 dl5_212 (by decide) rfl ?_
  refine lw_arg hk hi 2 dl5_217 (by decide) rfl ?_
  refine lw_arg hk hi 3 dl5_222 (by decide) rfl ?_
  refine lw_callM hk [.int (lwx k (i + 1)), .int (lwx k (i + 2)), .int (lwx k (i + 3))] rfl (fun l => C8_row _ _ _ mS l (r, m') e2) rfl yv_X8_row wl_17 rfl (Nat.le_of_ble_eq_true rfl) (Nat.le_of_ble_eq_true rfl) (Nat.le_of_ble_eq_true rfl) dl_227 ?_
  exact lw_same hk dl_230 (by decide) (kk c' m' hR')
theorem lw_c_set {k : lwK} {gC gM : fkG} {i : Nat} {cS mS : fkS} (hk : lw_ok k gC gM) (hi : i + 5 < lwL k) (hR : Rel cS mS) (kk : ∀ c' m', Rel c' m' → lw_J k gC gM 1481 i [] c' m') : lw_J k gC gM 235 i [] cS mS := by
  obtain ⟨r, c', m', e1, e2, hR'⟩ := op_set hR (lwx k (i + 1)) (lwx k (i + 2)) (lw_lg (lwx k (i + 3)) (lwx k (i + 4)))
  refine lw_a0 hk dl_235 ?_
  refine lw_arg hk hi 1 dl5_236 (by decide) rfl ?_
  refine lw_arg hk hi 2 dl5_241 (by decide) rfl ?_
  refine lw_arg hk hi 3 dl5_246 (by decide) rfl ?_
  refine lw_long hk hi dl8_251 ?_
  refine lw_callC hk [.int (lwx k (i + 1)), .int (lwx k (i + 2)), .long (lw_lg (lwx k (i + 3)) (lwx k (i + 4)))] rfl (fun l => C7_set _ _ _ cS l (r, c') e1) rfl yv_X7_set wl_20 rfl (Nat.le_of_ble_eq_true rfl) (Nat.le_of_ble_eq_true rfl) (Nat.le_of_ble_eq_true rfl) dl_266 ?_
  refine lw_a2 hk dl_269 ?_
  refine lw_arg hk hi 1 dl5_270 (by decide) rfl ?_
  refine lw_arg hk hi 2 dl5_275 (by decide) rfl ?_
  refine lw_arg hk hi 3 dl5_280 (by decide) rfl ?_
  refine lw_long hk hi dl8_285 ?_
  refine lw_callM hk [.int (lwx k (i + 1)), .int (lwx k (i + 2)), .long (lw_lg (lwx k (i + 3)) (lwx k (i + 4)))] rfl (fun l => C8_set _ _ _ mS l (r, m') e2) rfl yv_X8_set wl_24 rfl (Nat.le_of_ble_eq_true rfl) (Nat.le_of_ble_eq_true rfl) (Nat.le_of_ble_eq_true rfl) dl_300 ?_
  exact lw_same hk dl_303 (by decide) (kk c' m' hR')
theorem lw_c_copy {k : lwK} {gC gM : fkG} {i : Nat} {cS mS : fkS} (hk : lw_ok k gC gM) (hi : i + 5 < lwL k) (hR : Rel cS mS) (kk : ∀ c' m', Rel c' m' → lw_J k gC gM 1481 i [] c' m') : lw_J k gC gM 308 i [] cS mS := by
  obtain ⟨r, c', m', e1, e2, hR'⟩ := op_copy hR (lwx k (i + 1)) (lwx k (i + 2)) (lwx k (i + 3)) (lwx k (i + 4)) (lwx k (i + 5))
  refine lw_a0 hk dl_308 ?_
  refine lw_arg hk hi 1 dl5_309 (by decide) rfl ?_
  refine lw_arg hk hi 2 dl5_314 (by decide) rfl ?_
  refine lw_arg hk hi 3 dl5_319 (by decide) rfl ?_
  refine lw_arg hk hi 4 dl5_324 (by decide) rfl ?_
  refine lw_arg hk hi 5 dl5_329 (by decide) rfl ?_
  refine lw_callC hk [.int (lwx k (i + 1)), .int (lwx k (i + 2)), .int (lwx k (i + 3)), .int (lwx k (i + 4)), .int (lwx k (i + 5))] rfl (fun l => C7_copy _ _ _ _ _ cS l (r, c') e1) rfl yv_X7_copy wl_25 rfl (Nat.le_of_ble_eq_true rfl) (Nat.le_of_ble_eq_true rfl) (Nat.le_of_ble_eq_true rfl) dl_334 ?_
  refine lw_a2 hk dl_337 ?_
  refine lw_arg hk hi 1 dl5_338 (by decide) rfl ?_
  refine lw_arg hk hi 2 dl5_343 (by decide) rfl ?_
  refine lw_arg hk hi 3 dl5_348 (by decide) rfl ?_
  refine lw_arg hk hi 4 dl5_353 (by decide) rfl ?_
  refine lw_arg hk hi 5 dl5_358 (by decide) rfl ?_
  refine lw_callM hk [.int (lwx k (i + 1)), .int (lwx k (i + 2)), .int (lwx k (i + 3)), .int (lwx k (i + 4)), .int (lwx k (i + 5))] rfl (fun l => C8_copy _ _ _ _ _ mS l (r, m') e2) rfl yv_X8_copy wl_29 rfl (Nat.le_of_ble_eq_true rfl) (Nat.le_of_ble_eq_true rfl) (Nat.le_of_ble_eq_true rfl) dl_363 ?_
  exact lw_same hk dl_366 (by decide) (kk c' m' hR')
theorem lw_c_element {k : lwK} {gC gM : fkG} {i : Nat} {cS mS : fkS} (hk : lw_ok k gC gM) (hi : i + 5 < lwL k) (hR : Rel cS mS) (kk : ∀ c' m', Rel c' m' → lw_J k gC gM 1481 i [] c' m') : lw_J k gC gM 371 i [] cS mS := by
  obtain ⟨r, c', m', e1, e2, hR'⟩ := op_element hR (lwx k (i + 1)) (lwx k (i + 2))
  refine lw_a0 hk dl_371 ?_
  refine lw_arg hk hi 1 dl5_372 (by decide) rfl ?_
  refine lw_arg hk hi 2 dl5_377 (by decide) rfl ?_
  refine lw_callC hk [.int (lwx k (i + 1)), .int (lwx k (i + 2))] rfl (fun l => C7_element _ _ cS l (r, c') e1) rfl yv_X7_element wl_30 rfl (Nat.le_of_ble_eq_true rfl) (Nat.le_of_ble_eq_true rfl) (Nat.le_of_ble_eq_true rfl) dl_382 ?_
  refine lw_a2 hk dl_385 ?_
  refine lw_arg hk hi 1 dl5_386 (by decide) rfl ?_
  refine lw_arg hk hi 2 dl5_391 (by decide) rfl ?_
  refine lw_callM hk [.int (lwx k (i + 1)), .int (lwx k (i + 2))] rfl (fun l => C8_element _ _ mS l (r, m') e2) rfl yv_X8_element wl_34 rfl (Nat.le_of_ble_eq_true rfl) (Nat.le_of_ble_eq_true rfl) (Nat.le_of_ble_eq_true rfl) dl_396 ?_
  exact lw_sameL hk dl_399 dl_400 (by decide) (kk c' m' hR')
theorem lw_c_show {k : lwK} {gC gM : fkG} {i : Nat} {cS mS : fkS} (hk : lw_ok k gC gM) (hi : i + 5 < lwL k) (hR : Rel cS mS) (kk : ∀ c' m', Rel c' m' → lw_J k gC gM 1481 i [] c' m') : lw_J k gC gM 405 i [] cS mS := by
  obtain ⟨r, c', m', e1, e2, hR'⟩ := op_show hR (lwx k (i + 1)) (lwx k (i + 2))
  refine lw_a0 hk dl_405 ?_
  refine lw_arg hk hi 1 dl5_406 (by decide) rfl ?_
  refine lw_arg hk hi 2 dl5_411 (by decide) rfl ?_
  refine lw_callC hk [.int (lwx k (i + 1)), .int (lwx k (i + 2))] rfl (fun l => C7_show _ _ cS l (r, c') e1) rfl yv_X7_show wl_35 rfl (Nat.le_of_ble_eq_true rfl) (Nat.le_of_ble_eq_true rfl) (Nat.le_of_ble_eq_true rfl) dl_416 ?_
  refine lw_a2 hk dl_419 ?_
  refine lw_arg hk hi 1 dl5_420 (by decide) rfl ?_
  refine lw_arg hk hi 2 dl5_425 (by decide) rfl ?_
  refine lw_callM hk [.int (lwx k (i + 1)), .int (lwx k (i + 2))] rfl (fun l => C8_show _ _ mS l (r, m') e2) rfl yv_X8_show wl_39 rfl (Nat.le_of_ble_eq_true rfl) (Nat.le_of_ble_eq_true rfl) (Nat.le_of_ble_eq_true rfl) dl_430 ?_
  exact lw_same hk dl_433 (by decide) (kk c' m' hR')
theorem lw_c_holds {k : lwK} {gC gM : fkG} {i : Nat} {cS mS : fkS} (hk : lw_ok k gC gM) (hi : i + 5 < lwL k) (hR : Rel cS mS) (kk : ∀ c' m', Rel c' m' → lw_J k gC gM 1481 i [] c' m') : lw_J k gC gM 438 i [] cS mS := by
  obtain ⟨r, c', m', e1, e2, hR'⟩ := op_holds hR (lwx k (i + 1))
  refine lw_a0 hk dl_438 ?_
  refine lw_arg hk hi 1 dl5_439 (by decide) rfl ?_
  refine lw_callC hk [.int (lwx k (i + 1))] rfl (fun l => C7_holds _ cS l (r, c') e1) rfl yv_X7_holds wl_40 rfl (Nat.le_of_ble_eq_true rfl) (Nat.le_of_ble_eq_true rfl) (Nat.le_of_ble_eq_true rfl) dl_444 ?_
  refine lw_a2 hk dl_447 ?_
  refine lw_arg hk hi 1 dl5_448 (by decide) rfl ?_
  refine lw_callM hk [.int (lwx k (i + 1))] rfl (fun l => C8_holds _ mS l (r, m') e2) rfl yv_X8_holds wl_44 rfl (Nat.le_of_ble_eq_true rfl) (Nat.le_of_ble_eq_true rfl) (Nat.le_of_ble_eq_true rfl) dl_453 ?_
  exact lw_same hk dl_456 (by decide) (kk c' m' hR')
theorem lw_c_says {k : lwK} {gC gM : fkG} {i : Nat} {cS mS : fkS} (hk : lw_ok k gC gM) (hi : i + 5 < lwL k) (hR : Rel cS mS) (kk : ∀ c' m', Rel c' m' → lw_J k gC gM 1481 i [] c' m') : lw_J k gC gM 461 i [] cS mS := by
  obtain ⟨r, c', m', e1, e2, hR'⟩ := op_says hR (lwx k (i + 1)) (lwx k (i + 2))
  refine lw_a0 hk dl_461 ?_
  refine lw_arg hk hi 1 dl5_462 (by decide) rfl ?_
  refine lw_arg hk hi 2 dl5_467 (by decide) rfl ?_
  refine lw_callC hk [.int (lwx k (i + 1)), .int (lwx k (i + 2))] rfl (fun l => C7_says _ _ cS l (r, c') e1) rfl yv_X7_says wl_45 rfl (Nat.le_of_ble_eq_true rfl) (Nat.le_of_ble_eq_true rfl) (Nat.le_of_ble_eq_true rfl) dl_472 ?_
  refine lw_a2 hk dl_475 ?_
  refine lw_arg hk hi 1 dl5_476 (by decide) rfl ?_
  refine lw_arg hk hi 2 dl5_481 (by decide) rfl ?_
  refine lw_callM hk [.int (lwx k (i + 1)), .int (lwx k (i + 2))] rfl (fun l => C8_says _ _ mS l (r, m') e2) rfl yv_X8_says wl_48 rfl (Nat.le_of_ble_eq_true rfl) (Nat.le_of_ble_eq_true rfl) (Nat.le_of_ble_eq_true rfl) dl_486 ?_
  exact lw_same hk dl_489 (by decide) (kk c' m' hR')
theorem lw_c_bird {k : lwK} {gC gM : fkG} {i : Nat} {cS mS : fkS} (hk : lw_ok k gC gM) (hi : i + 5 < lwL k) (hR : Rel cS mS) (kk : ∀ c' m', Rel c' m' → lw_J k gC gM 1481 i [] c' m') : lw_J k gC gM 494 i [] cS mS := by
  obtain ⟨r, c', m', e1, e2, hR'⟩ := op_bird hR (lwx k (i + 1)) (lwx k (i + 2)) (lwx k (i + 3))
  refine lw_a0 hk dl_494 ?_
  refine lw_arg hk hi 1 dl5_495 (by decide) rfl ?_
  refine lw_arg hk hi 2 dl5_500 (by decide) rfl ?_
  refine lw_arg hk hi 3 dl5_505 (by decide) rfl ?_
  refine lw_callC hk [.int (lwx k (i + 1)), .int (lwx k (i + 2)), .int (lwx k (i + 3))] rfl (fun l => C7_bird _ _ _ cS l (r, c') e1) rfl yv_X7_bird wl_49 rfl (Nat.le_of_ble_eq_true rfl) (Nat.le_of_ble_eq_true rfl) (Nat.le_of_ble_eq_true rfl) dl_510 ?_
  refine lw_a2 hk dl_513 ?_
  refine lw_arg hk hi 1 dl5_514 (by decide) rfl ?_
  refine lw_arg hk hi 2 dl5_519 (by decide) rfl ?_
  refine lw_arg hk hi 3 dl5_524 (by decide) rfl ?_
  refine lw_callM hk [.int (lwx k (i + 1)), .int (lwx k (i + 2)), .int (lwx k (i + 3))] rfl (fun l => C8_bird _ _ _ mS l (r, m') e2) rfl yv_X8_bird wl_52 rfl (Nat.le_of_ble_eq_true rfl) (Nat.le_of_ble_eq_true rfl) (Nat.le_of_ble_eq_true rfl) dl_529 ?_
  exact lw_same hk dl_532 (by decide) (kk c' m' hR')
theorem lw_c_ask {k : lwK} {gC gM : fkG} {i : Nat} {cS mS : fkS} (hk : lw_ok k gC gM) (hi : i + 5 < lwL k) (hR : Rel cS mS) (kk : ∀ c' m', Rel c' m' → lw_J k gC gM 1481 i [] c' m') : lw_J k gC gM 537 i [] cS mS := by
  obtain ⟨r, c', m', e1, e2, hR'⟩ := op_ask hR (lwx k (i + 1)) (lwx k (i + 2))
  refine lw_a0 hk dl_537 ?_
  refine lw_arg hk hi 1 dl5_538 (by decide) rfl ?_
  refine lw_arg hk hi 2 dl5_543 (by decide) rfl ?_
  refine lw_callC hk [.int (lwx k (i + 1)), .int (lwx k (i + 2))] rfl (fun l => C7_ask _ _ cS l (r, c') e1) rfl yv_X7_ask wl_53 rfl (Nat.le_of_ble_eq_true rfl) (Nat.le_of_ble_eq_true rfl) (Nat.le_of_ble_eq_true rfl) dl_548 ?_
  refine lw_a2 hk dl_551 ?_
  refine lw_arg hk hi 1 dl5_552 (by decide) rfl ?_
  refine lw_arg hk hi 2 dl5_557 (by decide) rfl ?_
  refine lw_callM hk [.int (lwx k (i + 1)), .int (lwx k (i + 2))] rfl (fun l => C8_ask _ _ mS l (r, m') e2) rfl yv_X8_ask wl_56 rfl (Nat.le_of_ble_eq_true rfl) (Nat.le_of_ble_eq_true rfl) (Nat.le_of_ble_eq_true rfl) dl_562 ?_
  exact lw_same hk dl_565 (by decide) (kk c' m' hR')
theorem lw_c_table {k : lwK} {gC gM : fkG} {i : Nat} {cS mS : fkS} (hk : lw_ok k gC gM) (hi : i + 5 < lwL k) (hR : Rel cS mS) (kk : ∀ c' m', Rel c' m' → lw_J k gC gM 1481 i [] c' m') : lw_J k gC gM 570 i [] cS mS := by
  obtain ⟨r, c', m', e1, e2, hR'⟩ := op_table hR (lwx k (i + 1)) (lwx k (i + 2)) (lwx k (i + 3))
  refine lw_a0 hk dl_570 ?_
  refine lw_arg hk hi 1 dl5_571 (by decide) rfl ?_
  refine lw_arg hk hi 2 dl5_576 (by decide) rfl ?_
  refine lw_arg hk hi 3 dl5_581 (by decide) rfl ?_
  refine lw_callC hk [.int (lwx k (i + 1)), .int (lwx k (i + 2)), .int (lwx k (i + 3))] rfl (fun l => C7_table _ _ _ cS l (r, c') e1) rfl yv_X7_table wl_57 rfl (Nat.le_of_ble_eq_true rfl) (Nat.le_of_ble_eq_true rfl) (Nat.le_of_ble_eq_true rfl) dl_586 ?_
  refine lw_a2 hk dl_589 ?_
  refine lw_arg hk hi 1 dl5_590 (by decide) rfl ?_
  refine lw_arg hk hi 2 dl5_595 (by decide) rfl ?_
  refine lw_arg hk hi 3 dl5_600 (by decide) rfl ?_
  refine lw_callM hk [.int (lwx k (i + 1)), .int (lwx k (i + 2)), .int (lwx k (i + 3))] rfl (fun l => C8_table _ _ _ mS l (r, m') e2) rfl yv_X8_table wl_60 rfl (Nat.le_of_ble_eq_true rfl) (Nat.le_of_ble_eq_true rfl) (Nat.le_of_ble_eq_true rfl) dl_605 ?_
  exact lw_same hk dl_608 (by decide) (kk c' m' hR')
theorem lw_c_comes {k : lwK} {gC gM : fkG} {i : Nat} {cS mS : fkS} (hk : lw_ok k gC gM) (hi : i + 5 < lwL k) (hR : Rel cS mS) (kk : ∀ c' m', Rel c' m' → lw_J k gC gM 1481 i [] c' m') : lw_J k gC gM 613 i [] cS mS := by
  obtain ⟨r, c', m', e1, e2, hR'⟩ := op_comes hR (lwx k (i + 1)) (lwx k (i + 2))
  refine lw_a0 hk dl_613 ?_
  refine lw_arg hk hi 1 dl5_614 (by decide) rfl ?_
  refine lw_arg hk hi 2 dl5_619 (by decide) rfl ?_
  refine lw_callC hk [.int (lwx k (i + 1)), .int (lwx k (i + 2))] rfl (fun l => C7_comes _ _ cS l (r, c') e1) rfl yv_X7_comes wl_61 rfl (Nat.le_of_ble_eq_true rfl) (Nat.le_of_ble_eq_true rfl) (Nat.le_of_ble_eq_true rfl) dl_624 ?_
  refine lw_a2 hk dl_627 ?_
  refine lw_arg hk hi 1 dl5_628 (by decide) rfl ?_
  refine lw_arg hk hi 2 dl5_633 (by decide) rfl ?_
  refine lw_callM hk [.int (lwx k (i + 1)), .int (lwx k (i + 2))] rfl (fun l => C8_comes _ _ mS l (r, m') e2) rfl yv_X8_comes wl_64 rfl (Nat.le_of_ble_eq_true rfl) (Nat.le_of_ble_eq_true rfl) (Nat.le_of_ble_eq_true rfl) dl_638 ?_
  exact lw_same hk dl_641 (by decide) (kk c' m' hR')
theorem lw_c_birdOf {k : lwK} {gC gM : fkG} {i : Nat} {cS mS : fkS} (hk : lw_ok k gC gM) (hi : i + 5 < lwL k) (hR : Rel cS mS) (kk : ∀ c' m', Rel c' m' → lw_J k gC gM 1481 i [] c' m') : lw_J k gC gM 646 i [] cS mS := by
  obtain ⟨r, c', m', e1, e2, hR'⟩ := op_birdOf hR (lwx k (i + 1)) (lwx k (i + 2))
  refine lw_a0 hk dl_646 ?_
  refine lw_arg hk hi 1 dl5_647 (by decide) rfl ?_
  refine lw_arg hk hi 2 dl5_652 (by decide) rfl ?_
  refine lw_callC hk [.int (lwx k (i + 1)), .int (lwx k (i + 2))] rfl (fun l => C7_birdOf _ _ cS l (r, c') e1) rfl yv_X7_birdOf wl_65 rfl (Nat.le_of_ble_eq_true rfl) (Nat.le_of_ble_eq_true rfl) (Nat.le_of_ble_eq_true rfl) dl_657 ?_
  refine lw_a2 hk dl_660 ?_
  refine lw_arg hk hi 1 dl5_661 (by decide) rfl ?_
  refine lw_arg hk hi 2 dl5_666 (by decide) rfl ?_
  refine lw_callM hk [.int (lwx k (i + 1)), .int (lwx k (i + 2))] rfl (fun l => C8_birdOf _ _ mS l (r, m') e2) rfl yv_X8_birdOf wl_68 rfl (Nat.le_of_ble_eq_true rfl) (Nat.le_of_ble_eq_true rfl) (Nat.le_of_ble_eq_true rfl) dl_671 ?_
  exact lw_same hk dl_674 (by decide) (kk c' m' hR')
theorem lw_c_bakery {k : lwK} {gC gM : fkG} {i : Nat} {cS mS : fkS} (hk : lw_ok k gC gM) (hi : i + 5 < lwL k) (hR : Rel cS mS) (kk : ∀ c' m', Rel c' m' → lw_J k gC gM 1481 i [] c' m') : lw_J k gC gM 679 i [] cS mS := by
  obtain ⟨r, c', m', e1, e2, hR'⟩ := op_bakery hR (lwx k (i + 1))
  refine lw_a0 hk dl_679 ?_
  refine lw_arg hk hi 1 dl5_680 (by decide) rfl ?_
  refine lw_callC hk [.int (lwx k (i + 1))] rfl (fun l => C7_bakery _ cS l (r, c') e1) rfl yv_X7_bakery wl_69 rfl (Nat.le_of_ble_eq_true rfl) (Nat.le_of_ble_eq_true rfl) (Nat.le_of_ble_eq_true rfl) dl_685 ?_
  refine lw_a2 hk dl_688 ?_
  refine lw_arg hk hi 1 dl5_689 (by decide) rfl ?_
  refine lw_callM hk [.int (lwx k (i + 1))] rfl (fun l => C8_bakery _ mS l (r, m') e2) rfl yv_X8_bakery wl_72 rfl (Nat.le_of_ble_eq_true rfl) (Nat.le_of_ble_eq_true rfl) (Nat.le_of_ble_eq_true rfl) dl_694 ?_
  exact lw_same hk dl_697 (by decide) (kk c' m' hR')
theorem lw_c_fault {k : lwK} {gC gM : fkG} {i : Nat} {cS mS : fkS} (hk : lw_ok k gC gM) (hi : i + 5 < lwL k) (hR : Rel cS mS) (kk : ∀ c' m', Rel c' m' → lw_J k gC gM 1481 i [] c' m') : lw_J k gC gM 702 i [] cS mS := by
  obtain ⟨r, c', m', e1, e2, hR'⟩ := op_fault hR
  refine lw_a0 hk dl_702 ?_
  refine lw_callC hk [] rfl (fun l => C7_fault cS l (r, c') e1) rfl yv_X7_fault wl_73 rfl (Nat.le_of_ble_eq_true rfl) (Nat.le_of_ble_eq_true rfl) (Nat.le_of_ble_eq_true rfl) dl_703 ?_
  refine lw_a2 hk dl_706 ?_
  refine lw_callM hk [] rfl (fun l => C8_fault mS l (r, m') e2) rfl yv_X8_fault wl_77 rfl (Nat.le_of_ble_eq_true rfl) (Nat.le_of_ble_eq_true rfl) (Nat.le_of_ble_eq_true rfl) dl_707 ?_
  exact lw_same hk dl_710 (by decide) (kk c' m' hR')
theorem lw_c_said {k : lwK} {gC gM : fkG} {i : Nat} {cS mS : fkS} (hk : lw_ok k gC gM) (hi : i + 5 < lwL k) (hR : Rel cS mS) (kk : ∀ c' m', Rel c' m' → lw_J k gC gM 1481 i [] c' m') : lw_J k gC gM 715 i [] cS mS := by
  obtain ⟨r, c', m', e1, e2, hR'⟩ := op_said hR (lwx k (i + 1)) (lwx k (i + 2)) (lwx k (i + 3))
  refine lw_a0 hk dl_715 ?_
  refine lw_arg hk hi 1 dl5_716 (by decide) rfl ?_
  refine lw_arg hk hi 2 dl5_721 (by decide) rfl ?_
  refine lw_arg hk hi 3 dl5_726 (by decide) rfl ?_
  refine lw_callC hk [.int (lwx k (i + 1)), .int (lwx k (i + 2)), .int (lwx k (i + 3))] rfl (fun l => C7_said _ _ _ cS l (r, c') e1) rfl yv_X7_said wl_78 rfl (Nat.le_of_ble_eq_true rfl) (Nat.le_of_ble_eq_true rfl) (Nat.le_of_ble_eq_true rfl) dl_731 ?_
  refine lw_a2 hk dl_734 ?_
  refine lw_arg hk hi 1 dl5_735 (by decide) rfl ?_
  refine lw_arg hk hi 2 dl5_740 (by decide) rfl ?_
  refine lw_arg hk hi 3 dl5_745 (by decide) rfl ?_
  refine lw_callM hk [.int (lwx k (i + 1)), .int (lwx k (i + 2)), .int (lwx k (i + 3))] rfl (fun l => C8_said _ _ _ mS l (r, m') e2) rfl yv_X8_said wl_81 rfl (Nat.le_of_ble_eq_true rfl) (Nat.le_of_ble_eq_true rfl) (Nat.le_of_ble_eq_true rfl) dl_750 ?_
  exact lw_same hk dl_753 (by decide) (kk c' m' hR')
theorem lw_c_brings {k : lwK} {gC gM : fkG} {i : Nat} {cS mS : fkS} (hk : lw_ok k gC gM) (hi : i + 5 < lwL k) (hR : Rel cS mS) (kk : ∀ c' m', Rel c' m' → lw_J k gC gM 1481 i [] c' m') : lw_J k gC gM 758 i [] cS mS := by
  obtain ⟨r, c', m', e1, e2, hR'⟩ := op_brings hR (lwx k (i + 1)) (lwx k (i + 2)) (lwx k (i + 3))
  refine lw_a0 hk dl_758 ?_
  refine lw_arg hk hi 1 dl5_759 (by decide) rfl ?_
  refine lw_arg hk hi 2 dl5_764 (by decide) rfl ?_
  refine lw_arg hk hi 3 dl5_769 (by decide) rfl ?_
  refine lw_callC hk [.int (lwx k (i + 1)), .int (lwx k (i + 2)), .int (lwx k (i + 3))] rfl (fun l => C7_brings _ _ _ cS l (r, c') e1) rfl yv_X7_brings wl_82 rfl (Nat.le_of_ble_eq_true rfl) (Nat.le_of_ble_eq_true rfl) (Nat.le_of_ble_eq_true rfl) dl_774 ?_
  refine lw_a2 hk dl_777 ?_
  refine lw_arg hk hi 1 dl5_778 (by decide) rfl ?_
  refine lw_arg hk hi 2 dl5_783 (by decide) rfl ?_
  refine lw_arg hk hi 3 dl5_788 (by decide) rfl ?_
  refine lw_callM hk [.int (lwx k (i + 1)), .int (lwx k (i + 2)), .int (lwx k (i + 3))] rfl (fun l => C8_brings _ _ _ mS l (r, m') e2) rfl yv_X8_brings wl_85 rfl (Nat.le_of_ble_eq_true rfl) (Nat.le_of_ble_eq_true rfl) (Nat.le_of_ble_eq_true rfl) dl_793 ?_
  exact lw_same hk dl_796 (by decide) (kk c' m' hR')
theorem lw_c_soonest {k : lwK} {gC gM : fkG} {i : Nat} {cS mS : fkS} (hk : lw_ok k gC gM) (hi : i + 5 < lwL k) (hR : Rel cS mS) (kk : ∀ c' m', Rel c' m' → lw_J k gC gM 1481 i [] c' m') : lw_J k gC gM 801 i [] cS mS := by
  obtain ⟨r, c', m', e1, e2, hR'⟩ := op_soonest hR (lwx k (i + 1)) (lwx k (i + 2)) (lwx k (i + 3))
  refine lw_a0 hk dl_801 ?_
  refine lw_arg hk hi 1 dl5_802 (by decide) rfl ?_
  refine lw_arg hk hi 2 dl5_807 (by decide) rfl ?_
  refine lw_arg hk hi 3 dl5_812 (by decide) rfl ?_
  refine lw_callC hk [.int (lwx k (i + 1)), .int (lwx k (i + 2)), .int (lwx k (i + 3))] rfl (fun l => C7_soonest _ _ _ cS l (r, c') e1) rfl yv_X7_soonest wl_86 rfl (Nat.le_of_ble_eq_true rfl) (Nat.le_of_ble_eq_true rfl) (Nat.le_of_ble_eq_true rfl) dl_817 ?_
  refine lw_a2 hk dl_820 ?_
  refine lw_arg hk hi 1 dl5_821 (by decide) rfl ?_
  refine lw_arg hk hi 2 dl5_826 (by decide) rfl ?_
  refine lw_arg hk hi 3 dl5_831 (by decide) rfl ?_
  refine lw_callM hk [.int (lwx k (i + 1)), .int (lwx k (i + 2)), .int (lwx k (i + 3))] rfl (fun l => C8_soonest _ _ _ mS l (r, m') e2) rfl yv_X8_soonest wl_89 rfl (Nat.le_of_ble_eq_true rfl) (Nat.le_of_ble_eq_true rfl) (Nat.le_of_ble_eq_true rfl) dl_836 ?_
  exact lw_same hk dl_839 (by decide) (kk c' m' hR')
theorem lw_c_safe {k : lwK} {gC gM : fkG} {i : Nat} {cS mS : fkS} (hk : lw_ok k gC gM) (hi : i + 5 < lwL k) (hR : Rel cS mS) (kk : ∀ c' m', Rel c' m' → lw_J k gC gM 1481 i [] c' m') : lw_J k gC gM 844 i [] cS mS := by
  obtain ⟨r, c', m', e1, e2, hR'⟩ := op_safe hR (lwx k (i + 1))
  refine lw_a0 hk dl_844 ?_
  refine lw_arg hk hi 1 dl5_845 (by decide) rfl ?_
  refine lw_callC hk [.int (lwx k (i + 1))] rfl (fun l => C7_safe _ cS l (r, c') e1) rfl yv_X7_safe wl_90 rfl (Nat.le_of_ble_eq_true rfl) (Nat.le_of_ble_eq_true rfl) (Nat.le_of_ble_eq_true rfl) dl_850 ?_
  refine lw_a2 hk dl_853 ?_
  refine lw_arg hk hi 1 dl5_854 (by decide) rfl ?_
  refine lw_callM hk [.int (lwx k (i + 1))] rfl (fun l => C8_safe _ mS l (r, m') e2) rfl yv_X8_safe wl_93 rfl (Nat.le_of_ble_eq_true rfl) (Nat.le_of_ble_eq_true rfl) (Nat.le_of_ble_eq_true rfl) dl_859 ?_
  exact lw_same hk dl_862 (by decide) (kk c' m' hR')
theorem lw_c_fits {k : lwK} {gC gM : fkG} {i : Nat} {cS mS : fkS} (hk : lw_ok k gC gM) (hi : i + 5 < lwL k) (hR : Rel cS mS) (kk : ∀ c' m', Rel c' m' → lw_J k gC gM 1481 i [] c' m') : lw_J k gC gM 867 i [] cS mS := by
  obtain ⟨r, c', m', e1, e2, hR'⟩ := op_fits hR (lwx k (i + 1)) (lwx k (i + 2)) (lwx k (i + 3)) (lwx k (i + 4))
  refine lw_a0 hk dl_867 ?_
  refine lw_arg hk hi 1 dl5_868 (by decide) rfl ?_
  refine lw_arg hk hi 2 dl5_873 (by decide) rfl ?_
  refine lw_arg hk hi 3 dl5_878 (by decide) rfl ?_
  refine lw_arg hk hi 4 dl5_883 (by decide) rfl ?_
  refine lw_callC hk [.int (lwx k (i + 1)), .int (lwx k (i + 2)), .int (lwx k (i + 3)), .int (lwx k (i + 4))] rfl (fun l => C7_fits _ _ _ _ cS l (r, c') e1) rfl yv_X7_fits wl_94 rfl (Nat.le_of_ble_eq_true rfl) (Nat.le_of_ble_eq_true rfl) (Nat.le_of_ble_eq_true rfl) dl_888 ?_
  refine lw_a2 hk dl_891 ?_
  refine lw_arg hk hi 1 dl5_892 (by decide) rfl ?_
  refine lw_arg hk hi 2 dl5_897 (by decide) rfl ?_
  refine lw_arg hk hi 3 dl5_902 (by decide) rfl ?_
  refine lw_arg hk hi 4 dl5_907 (by decide) rfl ?_
  refine lw_callM hk [.int (lwx k (i + 1)), .int (lwx k (i + 2)), .int (lwx k (i + 3)), .int (lwx k (i + 4))] rfl (fun l => C8_fits _ _ _ _ mS l (r, m') e2) rfl yv_X8_fits wl_98 rfl (Nat.le_of_ble_eq_true rfl) (Nat.le_of_ble_eq_true rfl) (Nat.le_of_ble_eq_true rfl) dl_912 ?_
  exact lw_same hk dl_915 (by decide) (kk c' m' hR')
theorem lw_c_pies {k : lwK} {gC gM : fkG} {i : Nat} {cS mS : fkS} (hk : lw_ok k gC gM) (hi : i + 5 < lwL k) (hR : Rel cS mS) (kk : ∀ c' m', Rel c' m' → lw_J k gC gM 1481 i [] c' m') : lw_J k gC gM 920 i [] cS mS := by
  obtain ⟨r, c', m', e1, e2, hR'⟩ := op_pies hR (lwx k (i + 1)) (lwx k (i + 2)) (lwx k (i + 3)) (lwx k (i + 4))
  refine lw_a0 hk dl_920 ?_
  refine lw_arg hk hi 1 dl5_921 (by decide) rfl ?_
  refine lw_arg hk hi 2 dl5_926 (by decide) rfl ?_
  refine lw_arg hk hi 3 dl5_931 (by decide) rfl ?_
  refine lw_arg hk hi 4 dl5_936 (by decide) rfl ?_
  refine lw_callC hk [.int (lwx k (i + 1)), .int (lwx k (i + 2)), .int (lwx k (i + 3)), .int (lwx k (i + 4))] rfl (fun l => C7_pies _ _ _ _ cS l (r, c') e1) rfl yv_X7_pies wl_99 rfl (Nat.le_of_ble_eq_true rfl) (Nat.le_of_ble_eq_true rfl) (Nat.le_of_ble_eq_true rfl) dl_941 ?_
  refine lw_a2 hk dl_944 ?_
  refine lw_arg hk hi 1 dl5_945 (by decide) rfl ?_
  refine lw_arg hk hi 2 dl5_950 (by decide) rfl ?_
  refine lw_arg hk hi 3 dl5_955 (by decide) rfl ?_
  refine lw_arg hk hi 4 dl5_960 (by decide) rfl ?_
  refine lw_callM hk [.int (lwx k (i + 1)), .int (lwx k (i + 2)), .int (lwx k (i + 3)), .int (lwx k (i + 4))] rfl (fun l => C8_pies _ _ _ _ mS l (r, m') e2) rfl yv_X8_pies wl_102 rfl (Nat.le_of_ble_eq_true rfl) (Nat.le_of_ble_eq_true rfl) (Nat.le_of_ble_eq_true rfl) dl_965 ?_
  exact lw_same hk dl_968 (by decide) (kk c' m' hR')
theorem lw_c_next {k : lwK} {gC gM : fkG} {i : Nat} {cS mS : fkS} (hk : lw_ok k gC gM) (hi : i + 5 < lwL k) (hR : Rel cS mS) (kk : ∀ c' m', Rel c' m' → lw_J k gC gM 1481 i [] c' m') : lw_J k gC gM 973 i [] cS mS := by
  obtain ⟨r, c', m', e1, e2, hR'⟩ := op_next hR (lwx k (i + 1))
  refine lw_a0 hk dl_973 ?_
  refine lw_arg hk hi 1 dl5_974 (by decide) rfl ?_
  refine lw_callC hk [.int (lwx k (i + 1))] rfl (fun l => C7_next _ cS l (r, c') e1) rfl yv_X7_next wl_103 rfl (Nat.le_of_ble_eq_true rfl) (Nat.le_of_ble_eq_true rfl) (Nat.le_of_ble_eq_true rfl) dl_979 ?_
  refine lw_a2 hk dl_982 ?_
  refine lw_arg hk hi 1 dl5_983 (by decide) rfl ?_
  refine lw_callM hk [.int (lwx k (i + 1))] rfl (fun l => C8_next _ mS l (r, m') e2) rfl yv_X8_next wl_106 rfl (Nat.le_of_ble_eq_true rfl) (Nat.le_of_ble_eq_true rfl) (Nat.le_of_ble_eq_true rfl) dl_988 ?_
  exact lw_same hk dl_991 (by decide) (kk c' m' hR')
theorem lw_c_chance {k : lwK} {gC gM : fkG} {i : Nat} {cS mS : fkS} (hk : lw_ok k gC gM) (hi : i + 5 < lwL k) (hR : Rel cS mS) (kk : ∀ c' m', Rel c' m' → lw_J k gC gM 1481 i [] c' m') : lw_J k gC gM 996 i [] cS mS := by
  obtain ⟨r, c', m', e1, e2, hR'⟩ := op_chance hR (lwx k (i + 1)) (lwx k (i + 2)) (lwx k (i + 3)) (lwx k (i + 4))
  refine lw_a0 hk dl_996 ?_
  refine lw_arg hk hi 1 dl5_997 (by decide) rfl ?_
  refine lw_arg hk hi 2 dl5_1002 (by decide) rfl ?_
  refine lw_arg hk hi 3 dl5_1007 (by decide) rfl ?_
  refine lw_arg hk hi 4 dl5_1012 (by decide) rfl ?_
  refine lw_callC hk [.int (lwx k (i + 1)), .int (lwx k (i + 2)), .int (lwx k (i + 3)), .int (lwx k (i + 4))] rfl (fun l => C7_chance _ _ _ _ cS l (r, c') e1) rfl yv_X7_chance wl_107 rfl (Nat.le_of_ble_eq_true rfl) (Nat.le_of_ble_eq_true rfl) (Nat.le_of_ble_eq_true rfl) dl_1017 ?_
  refine lw_a2 hk dl_1020 ?_
  refine lw_arg hk hi 1 dl5_1021 (by decide) rfl ?_
  refine lw_arg hk hi 2 dl5_1026 (by decide) rfl ?_
  refine lw_arg hk hi 3 dl5_1031 (by decide) rfl ?_
  refine lw_arg hk hi 4 dl5_1036 (by decide) rfl ?_
  refine lw_callM hk [.int (lwx k (i + 1)), .int (lwx k (i + 2)), .int (lwx k (i + 3)), .int (lwx k (i + 4))] rfl (fun l => C8_chance _ _ _ _ mS l (r, m') e2) rfl yv_X8_chance wl_110 rfl (Nat.le_of_ble_eq_true rfl) (Nat.le_of_ble_eq_true rfl) (Nat.le_of_ble_eq_true rfl) dl_1041 ?_
  exact lw_same hk dl_1044 (by decide) (kk c' m' hR')
theorem lw_c_minutes {k : lwK} {gC gM : fkG} {i : Nat} {cS mS : fkS} (hk : lw_ok k gC gM) (hi : i + 5 < lwL k) (hR : Rel cS mS) (kk : ∀ c' m', Rel c' m' → lw_J k gC gM 1481 i [] c' m') : lw_J k gC gM 1049 i [] cS mS := by
  obtain ⟨r, c', m', e1, e2, hR'⟩ := op_minutes hR (lwx k (i + 1)) (lwx k (i + 2))
  refine lw_a0 hk dl_1049 ?_
  refine lw_arg hk hi 1 dl5_1050 (by decide) rfl ?_
  refine lw_arg hk hi 2 dl5_1055 (by decide) rfl ?_
  refine lw_callC hk [.int (lwx k (i + 1)), .int (lwx k (i + 2))] rfl (fun l => C7_minutes _ _ cS l (r, c') e1) rfl yv_X7_minutes wl_111 rfl (Nat.le_of_ble_eq_true rfl) (Nat.le_of_ble_eq_true rfl) (Nat.le_of_ble_eq_true rfl) dl_1060 ?_
  refine lw_a2 hk dl_1063 ?_
  refine lw_arg hk hi 1 dl5_1064 (by decide) rfl ?_
  refine lw_arg hk hi 2 dl5_1069 (by decide) rfl ?_
  refine lw_callM hk [.int (lwx k (i + 1)), .int (lwx k (i + 2))] rfl (fun l => C8_minutes _ _ mS l (r, m') e2) rfl yv_X8_minutes wl_114 rfl (Nat.le_of_ble_eq_true rfl) (Nat.le_of_ble_eq_true rfl) (Nat.le_of_ble_eq_true rfl) dl_1074 ?_
  exact lw_same hk dl_1077 (by decide) (kk c' m' hR')
theorem lw_c_after {k : lwK} {gC gM : fkG} {i : Nat} {cS mS : fkS} (hk : lw_ok k gC gM) (hi : i + 5 < lwL k) (hR : Rel cS mS) (kk : ∀ c' m', Rel c' m' → lw_J k gC gM 1481 i [] c' m') : lw_J k gC gM 1082 i [] cS mS := by
  obtain ⟨r, c', m', e1, e2, hR'⟩ := op_after hR (lwx k (i + 1)) (lwx k (i + 2)) (lwx k (i + 3))
  refine lw_a0 hk dl_1082 ?_
  refine lw_arg hk hi 1 dl5_1083 (by decide) rfl ?_
  refine lw_arg hk hi 2 dl5_1088 (by decide) rfl ?_
  refine lw_arg hk hi 3 dl5_1093 (by decide) rfl ?_
  refine lw_callC hk [.int (lwx k (i + 1)), .int (lwx k (i + 2)), .int (lwx k (i + 3))] rfl (fun l => C7_after _ _ _ cS l (r, c') e1) rfl yv_X7_after wl_115 rfl (Nat.le_of_ble_eq_true rfl) (Nat.le_of_ble_eq_true rfl) (Nat.le_of_ble_eq_true rfl) dl_1098 ?_
  refine lw_a2 hk dl_1101 ?_
  refine lw_arg hk hi 1 dl5_1102 (by decide) rfl ?_
  refine lw_arg hk hi 2 dl5_1107 (by decide) rfl ?_
  refine lw_arg hk hi 3 dl5_1112 (by decide) rfl ?_
  refine lw_callM hk [.int (lwx k (i + 1)), .int (lwx k (i + 2)), .int (lwx k (i + 3))] rfl (fun l => C8_after _ _ _ mS l (r, m') e2) rfl yv_X8_after wl_118 rfl (Nat.le_of_ble_eq_true rfl) (Nat.le_of_ble_eq_true rfl) (Nat.le_of_ble_eq_true rfl) dl_1117 ?_
  exact lw_same hk dl_1120 (by decide) (kk c' m' hR')
theorem lw_c_kings {k : lwK} {gC gM : fkG} {i : Nat} {cS mS : fkS} (hk : lw_ok k gC gM) (hi : i + 5 < lwL k) (hR : Rel cS mS) (kk : ∀ c' m', Rel c' m' → lw_J k gC gM 1481 i [] c' m') : lw_J k gC gM 1125 i [] cS mS := by
  obtain ⟨r, c', m', e1, e2, hR'⟩ := op_kings hR (lwx k (i + 1)) (lwx k (i + 2)) (lwx k (i + 3))
  refine lw_a0 hk dl_1125 ?_
  refine lw_arg hk hi 1 dl5_1126 (by decide) rfl ?_
  refine lw_arg hk hi 2 dl5_1131 (by decide) rfl ?_
  refine lw_arg hk hi 3 dl5_1136 (by decide) rfl ?_
  refine lw_callC hk [.int (lwx k (i + 1)), .int (lwx k (i + 2)), .int (lwx k (i + 3))] rfl (fun l => C7_kings _ _ _ cS l (r, c') e1) rfl yv_X7_kings wl_119 rfl (Nat.le_of_ble_eq_true rfl) (Nat.le_of_ble_eq_true rfl) (Nat.le_of_ble_eq_true rfl) dl_1141 ?_
  refine lw_a2 hk dl_1144 ?_
  refine lw_arg hk hi 1 dl5_1145 (by decide) rfl ?_
  refine lw_arg hk hi 2 dl5_1150 (by decide) rfl ?_
  refine lw_arg hk hi 3 dl5_1155 (by decide) rfl ?_
  refine lw_callM hk [.int (lwx k (i + 1)), .int (lwx k (i + 2)), .int (lwx k (i + 3))] rfl (fun l => C8_kings _ _ _ mS l (r, m') e2) rfl yv_X8_kings wl_122 rfl (Nat.le_of_ble_eq_true rfl) (Nat.le_of_ble_eq_true rfl) (Nat.le_of_ble_eq_true rfl) dl_1160 ?_
  exact lw_same hk dl_1163 (by decide) (kk c' m' hR')
theorem lw_c_tribes {k : lwK} {gC gM : fkG} {i : Nat} {cS mS : fkS} (hk : lw_ok k gC gM) (hi : i + 5 < lwL k) (hR : Rel cS mS) (kk : ∀ c' m', Rel c' m' → lw_J k gC gM 1481 i [] c' m') : lw_J k gC gM 1168 i [] cS mS := by
  obtain ⟨r, c', m', e1, e2, hR'⟩ := op_tribes hR (lwx k (i + 1)) (lwx k (i + 2)) (lwx k (i + 3))
  refine lw_a0 hk dl_1168 ?_
  refine lw_arg hk hi 1 dl5_1169 (by decide) rfl ?_
  refine lw_arg hk hi 2 dl5_1174 (by decide) rfl ?_
  refine lw_arg hk hi 3 dl5_1179 (by decide) rfl ?_
  refine lw_callC hk [.int (lwx k (i + 1)), .int (lwx k (i + 2)), .int (lwx k (i + 3))] rfl (fun l => C7_tribes _ _ _ cS l (r, c') e1) rfl yv_X7_tribes wl_123 rfl (Nat.le_of_ble_eq_true rfl) (Nat.le_of_ble_eq_true rfl) (Nat.le_of_ble_eq_true rfl) dl_1184 ?_
  refine lw_a2 hk dl_1187 ?_
  refine lw_arg hk hi 1 dl5_1188 (by decide) rfl ?_
  refine lw_arg hk hi 2 dl5_1193 (by decide) rfl ?_
  refine lw_arg hk hi 3 dl5_1198 (by decide) rfl ?_
  refine lw_callM hk [.int (lwx k (i + 1)), .int (lwx k (i + 2)), .int (lwx k (i + 3))] rfl (fun l => C8_tribes _ _ _ mS l (r, m') e2) rfl yv_X8_tribes wl_126 rfl (Nat.le_of_ble_eq_true rfl) (Nat.le_of_ble_eq_true rfl) (Nat.le_of_ble_eq_true rfl) dl_1203 ?_
  exact lw_same hk dl_1206 (by decide) (kk c' m' hR')
theorem lw_c_alike {k : lwK} {gC gM : fkG} {i : Nat} {cS mS : fkS} (hk : lw_ok k gC gM) (hi : i + 5 < lwL k) (hR : Rel cS mS) (kk : ∀ c' m', Rel c' m' → lw_J k gC gM 1481 i [] c' m') : lw_J k gC gM 1211 i [] cS mS := by
  obtain ⟨r, c', m', e1, e2, hR'⟩ := op_alike hR (lwx k (i + 1)) (lwx k (i + 2))
  refine lw_a0 hk dl_1211 ?_
  refine lw_arg hk hi 1 dl5_1212 (by decide) rfl ?_
  refine lw_arg hk hi 2 dl5_1217 (by decide) rfl ?_
  refine lw_callC hk [.int (lwx k (i + 1)), .int (lwx k (i + 2))] rfl (fun l => C7_alike _ _ cS l (r, c') e1) rfl yv_X7_alike wl_127 rfl (Nat.le_of_ble_eq_true rfl) (Nat.le_of_ble_eq_true rfl) (Nat.le_of_ble_eq_true rfl) dl_1222 ?_
  refine lw_a2 hk dl_1225 ?_
  refine lw_arg hk hi 1 dl5_1226 (by decide) rfl ?_
  refine lw_arg hk hi 2 dl5_1231 (by decide) rfl ?_
  refine lw_callM hk [.int (lwx k (i + 1)), .int (lwx k (i + 2))] rfl (fun l => C8_alike _ _ mS l (r, m') e2) rfl yv_X8_alike wl_130 rfl (Nat.le_of_ble_eq_true rfl) (Nat.le_of_ble_eq_true rfl) (Nat.le_of_ble_eq_true rfl) dl_1236 ?_
  exact lw_same hk dl_1239 (by decide) (kk c' m' hR')
theorem lw_c_judge {k : lwK} {gC gM : fkG} {i : Nat} {cS mS : fkS} (hk : lw_ok k gC gM) (hi : i + 5 < lwL k) (hR : Rel cS mS) (kk : ∀ c' m', Rel c' m' → lw_J k gC gM 1481 i [] c' m') : lw_J k gC gM 1244 i [] cS mS := by
  obtain ⟨r, c', m', e1, e2, hR'⟩ := op_judge hR (lwx k (i + 1)) (lwx k (i + 2)) (lwx k (i + 3))
  refine lw_a0 hk dl_1244 ?_
  refine lw_arg hk hi 1 dl5_1245 (by decide) rfl ?_
  refine lw_arg hk hi 2 dl5_1250 (by decide) rfl ?_
  refine lw_arg hk hi 3 dl5_1255 (by decide) rfl ?_
  refine lw_callC hk [.int (lwx k (i + 1)), .int (lwx k (i + 2)), .int (lwx k (i + 3))] rfl (fun l => C7_judge _ _ _ cS l (r, c') e1) rfl yv_X7_judge wl_131 rfl (Nat.le_of_ble_eq_true rfl) (Nat.le_of_ble_eq_true rfl) (Nat.le_of_ble_eq_true rfl) dl_1260 ?_
  refine lw_a2 hk dl_1263 ?_
  refine lw_arg hk hi 1 dl5_1264 (by decide) rfl ?_
  refine lw_arg hk hi 2 dl5_1269 (by decide) rfl ?_
  refine lw_arg hk hi 3 dl5_1274 (by decide) rfl ?_
  refine lw_callM hk [.int (lwx k (i + 1)), .int (lwx k (i + 2)), .int (lwx k (i + 3))] rfl (fun l => C8_judge _ _ _ mS l (r, m') e2) rfl yv_X8_judge wl_134 rfl (Nat.le_of_ble_eq_true rfl) (Nat.le_of_ble_eq_true rfl) (Nat.le_of_ble_eq_true rfl) dl_1279 ?_
  exact lw_same hk dl_1282 (by decide) (kk c' m' hR')
theorem lw_c_bake {k : lwK} {gC gM : fkG} {i : Nat} {cS mS : fkS} (hk : lw_ok k gC gM) (hi : i + 5 < lwL k) (hR : Rel cS mS) (kk : ∀ c' m', Rel c' m' → lw_J k gC gM 1481 i [] c' m') : lw_J k gC gM 1287 i [] cS mS := by
  obtain ⟨r, c', m', e1, e2, hR'⟩ := op_bake hR (lwx k (i + 1)) (lwx k (i + 2))
  refine lw_a0 hk dl_1287 ?_
  refine lw_arg hk hi 1 dl5_1288 (by decide) rfl ?_
  refine lw_arg hk hi 2 dl5_1293 (by decide) rfl ?_
  refine lw_callC hk [.int (lwx k (i + 1)), .int (lwx k (i + 2))] rfl (fun l => C7_bake _ _ cS l (r, c') e1) rfl yv_X7_bake wl_135 rfl (Nat.le_of_ble_eq_true rfl) (Nat.le_of_ble_eq_true rfl) (Nat.le_of_ble_eq_true rfl) dl_1298 ?_
  refine lw_a2 hk dl_1301 ?_
  refine lw_arg hk hi 1 dl5_1302 (by decide) rfl ?_
  refine lw_arg hk hi 2 dl5_1307 (by decide) rfl ?_
  refine lw_callM hk [.int (lwx k (i + 1)), .int (lwx k (i + 2))] rfl (fun l => C8_bake _ _ mS l (r, m') e2) rfl yv_X8_bake wl_138 rfl (Nat.le_of_ble_eq_true rfl) (Nat.le_of_ble_eq_true rfl) (Nat.le_of_ble_eq_true rfl) dl_1312 ?_
  exact lw_same hk dl_1315 (by decide) (kk c' m' hR')
theorem lw_c_years {k : lwK} {gC gM : fkG} {i : Nat} {cS mS : fkS} (hk : lw_ok k gC gM) (hi : i + 5 < lwL k) (hR : Rel cS mS) (kk : ∀ c' m', Rel c' m' → lw_J k gC gM 1481 i [] c' m') : lw_J k gC gM 1320 i [] cS mS := by
  obtain ⟨r, c', m', e1, e2, hR'⟩ := op_years hR (lwx k (i + 1))
  refine lw_a0 hk dl_1320 ?_
  refine lw_arg hk hi 1 dl5_1321 (by decide) rfl ?_
  refine lw_callC hk [.int (lwx k (i + 1))] rfl (fun l => C7_years _ cS l (r, c') e1) rfl yv_X7_years wl_139 rfl (Nat.le_of_ble_eq_true rfl) (Nat.le_of_ble_eq_true rfl) (Nat.le_of_ble_eq_true rfl) dl_1326 ?_
  refine lw_a2 hk dl_1329 ?_
  refine lw_arg hk hi 1 dl5_1330 (by decide) rfl ?_
  refine lw_callM hk [.int (lwx k (i + 1))] rfl (fun l => C8_years _ mS l (r, m') e2) rfl yv_X8_years wl_142 rfl (Nat.le_of_ble_eq_true rfl) (Nat.le_of_ble_eq_true rfl) (Nat.le_of_ble_eq_true rfl) dl_1335 ?_
  exact lw_same hk dl_1338 (by decide) (kk c' m' hR')
theorem lw_c_seed {k : lwK} {gC gM : fkG} {i : Nat} {cS mS : fkS} (hk : lw_ok k gC gM) (hi : i + 5 < lwL k) (hR : Rel cS mS) (kk : ∀ c' m', Rel c' m' → lw_J k gC gM 1481 i [] c' m') : lw_J k gC gM 1343 i [] cS mS := by
  obtain ⟨r, c', m', e1, e2, hR'⟩ := op_seed hR (lwx k (i + 1))
  refine lw_a0 hk dl_1343 ?_
  refine lw_arg hk hi 1 dl5_1344 (by decide) rfl ?_
  refine lw_callC hk [.int (lwx k (i + 1))] rfl (fun l => C7_seed _ cS l (r, c') e1) rfl yv_X7_seed wl_143 rfl (Nat.le_of_ble_eq_true rfl) (Nat.le_of_ble_eq_true rfl) (Nat.le_of_ble_eq_true rfl) dl_1349 ?_
  refine lw_a2 hk dl_1352 ?_
  refine lw_arg hk hi 1 dl5_1353 (by decide) rfl ?_
  refine lw_callM hk [.int (lwx k (i + 1))] rfl (fun l => C8_seed _ mS l (r, m') e2) rfl yv_X8_seed wl_146 rfl (Nat.le_of_ble_eq_true rfl) (Nat.le_of_ble_eq_true rfl) (Nat.le_of_ble_eq_true rfl) dl_1358 ?_
  exact lw_same hk dl_1361 (by decide) (kk c' m' hR')
theorem lw_c_act {k : lwK} {gC gM : fkG} {i : Nat} {cS mS : fkS} (hk : lw_ok k gC gM) (hi : i + 5 < lwL k) (hR : Rel cS mS) (kk : ∀ c' m', Rel c' m' → lw_J k gC gM 1481 i [] c' m') : lw_J k gC gM 1366 i [] cS mS := by
  obtain ⟨r, c', m', e1, e2, hR'⟩ := op_act hR (lwx k (i + 1)) (lwx k (i + 2)) (lwx k (i + 3))
  refine lw_a0 hk dl_1366 ?_
  refine lw_arg hk hi 1 dl5_1367 (by decide) rfl ?_
  refine lw_arg hk hi 2 dl5_1372 (by decide) rfl ?_
  refine lw_arg hk hi 3 dl5_1377 (by decide) rfl ?_
  refine lw_callC hk [.int (lwx k (i + 1)), .int (lwx k (i + 2)), .int (lwx k (i + 3))] rfl (fun l => C7_act _ _ _ cS l (r, c') e1) rfl yv_X7_act wl_147 rfl (Nat.le_of_ble_eq_true rfl) (Nat.le_of_ble_eq_true rfl) (Nat.le_of_ble_eq_true rfl) dl_1382 ?_
  refine lw_a2 hk dl_1385 ?_
  refine lw_arg hk hi 1 dl5_1386 (by decide) rfl ?_
  refine lw_arg hk hi 2 dl5_1391 (by decide) rfl ?_
  refine lw_arg hk hi 3 dl5_1396 (by decide) rfl ?_
  refine lw_callM hk [.int (lwx k (i + 1)), .int (lwx k (i + 2)), .int (lwx k (i + 3))] rfl (fun l => C8_act _ _ _ mS l (r, m') e2) rfl yv_X8_act wl_150 rfl (Nat.le_of_ble_eq_true rfl) (Nat.le_of_ble_eq_true rfl) (Nat.le_of_ble_eq_true rfl) dl_1401 ?_
  exact lw_same hk dl_1404 (by decide) (kk c' m' hR')
theorem lw_c_trace {k : lwK} {gC gM : fkG} {i : Nat} {cS mS : fkS} (hk : lw_ok k gC gM) (hi : i + 5 < lwL k) (hR : Rel cS mS) (kk : ∀ c' m', Rel c' m' → lw_J k gC gM 1481 i [] c' m') : lw_J k gC gM 1409 i [] cS mS := by
  obtain ⟨r, c', m', e1, e2, hR'⟩ := op_trace hR (lwx k (i + 1))
  refine lw_a0 hk dl_1409 ?_
  refine lw_arg hk hi 1 dl5_1410 (by decide) rfl ?_
  refine lw_callC hk [.int (lwx k (i + 1))] rfl (fun l => C7_trace _ cS l (r, c') e1) rfl yv_X7_trace wl_151 rfl (Nat.le_of_ble_eq_true rfl) (Nat.le_of_ble_eq_true rfl) (Nat.le_of_ble_eq_true rfl) dl_1415 ?_
  refine lw_a2 hk dl_1418 ?_
  refine lw_arg hk hi 1 dl5_1419 (by decide) rfl ?_
  refine lw_callM hk [.int (lwx k (i + 1))] rfl (fun l => C8_trace _ mS l (r, m') e2) rfl yv_X8_trace wl_154 rfl (Nat.le_of_ble_eq_true rfl) (Nat.le_of_ble_eq_true rfl) (Nat.le_of_ble_eq_true rfl) dl_1424 ?_
  exact lw_same hk dl_1427 (by decide) (kk c' m' hR')
theorem lw_c_image {k : lwK} {gC gM : fkG} {i : Nat} {cS mS : fkS} (hk : lw_ok k gC gM) (hi : i + 5 < lwL k) (hR : Rel cS mS) (kk : ∀ c' m', Rel c' m' → lw_J k gC gM 1481 i [] c' m') : lw_J k gC gM 1432 i [] cS mS := by
  obtain ⟨r, c', m', e1, e2, hR'⟩ := op_image hR
  refine lw_a0 hk dl_1432 ?_
  refine lw_callC hk [] rfl (fun l => C7_image cS l (r, c') e1) rfl yv_X7_image wl_155 rfl (Nat.le_of_ble_eq_true rfl) (Nat.le_of_ble_eq_true rfl) (Nat.le_of_ble_eq_true rfl) dl_1433 ?_
  refine lw_a2 hk dl_1436 ?_
  refine lw_callM hk [] rfl (fun l => C8_image mS l (r, m') e2) rfl yv_X8_image wl_158 rfl (Nat.le_of_ble_eq_true rfl) (Nat.le_of_ble_eq_true rfl) (Nat.le_of_ble_eq_true rfl) dl_1437 ?_
  exact lw_same hk dl_1440 (by decide) (kk c' m' hR')
theorem lw_c_restore {k : lwK} {gC gM : fkG} {i : Nat} {cS mS : fkS} (hk : lw_ok k gC gM) (hi : i + 5 < lwL k) (hR : Rel cS mS) (kk : ∀ c' m', Rel c' m' → lw_J k gC gM 1481 i [] c' m') : lw_J k gC gM 1445 i [] cS mS := by
  obtain ⟨r, c', m', e1, e2, hR'⟩ := op_restore hR
  refine lw_a0 hk dl_1445 ?_
  refine lw_callC hk [] rfl (fun l => C7_restore cS l (r, c') e1) rfl yv_X7_restore wl_159 rfl (Nat.le_of_ble_eq_true rfl) (Nat.le_of_ble_eq_true rfl) (Nat.le_of_ble_eq_true rfl) dl_1446 ?_
  refine lw_a2 hk dl_1449 ?_
  refine lw_callM hk [] rfl (fun l => C8_restore mS l (r, m') e2) rfl yv_X8_restore wl_162 rfl (Nat.le_of_ble_eq_true rfl) (Nat.le_of_ble_eq_true rfl) (Nat.le_of_ble_eq_true rfl) dl_1450 ?_
  exact lw_same hk dl_1453 (by decide) (kk c' m' hR')
theorem lw_c_status {k : lwK} {gC gM : fkG} {i : Nat} {cS mS : fkS} (hk : lw_ok k gC gM) (hi : i + 5 < lwL k) (hR : Rel cS mS) (kk : ∀ c' m', Rel c' m' → lw_J k gC gM 1481 i [] c' m') : lw_J k gC gM 1458 i [] cS mS := by
  obtain ⟨r, c', m', e1, e2, hR'⟩ := op_status hR (lwx k (i + 1))
  refine lw_a0 hk dl_1458 ?_
  refine lw_arg hk hi 1 dl5_1459 (by decide) rfl ?_
  refine lw_callC hk [.int (lwx k (i + 1))] rfl (fun l => C7_status _ cS l (r, c') e1) rfl yv_X7_status wl_163 rfl (Nat.le_of_ble_eq_true rfl) (Nat.le_of_ble_eq_true rfl) (Nat.le_of_ble_eq_true rfl) dl_1464 ?_
  refine lw_a2 hk dl_1467 ?_
  refine lw_arg hk hi 1 dl5_1468 (by decide) rfl ?_
  refine lw_callM hk [.int (lwx k (i + 1))] rfl (fun l => C8_status _ mS l (r, m') e2) rfl yv_X8_status wl_166 rfl (Nat.le_of_ble_eq_true rfl) (Nat.le_of_ble_eq_true rfl) (Nat.le_of_ble_eq_true rfl) dl_1473 ?_
  exact lw_same hk dl_1476 (by decide) (kk c' m' hR')
theorem lw_sw {k : lwK} {gC gM : fkG} {i : Nat} {cS mS : fkS} (hk : lw_ok k gC gM) (n : Nat) {off : Int} {tgt : Nat} {x : Int32} (hn : x.toInt = (n : Int)) (ho : (#[159, 202, 275, 338, 372, 405, 428, 461, 504, 537, 580, 613, 646, 669, 682, 725, 768, 811, 834, 887, 940, 963, 1016, 1049, 1092, 1135, 1178, 1211, 1254, 1287, 1310, 1333, 1376, 1399, 1412, 1425] : Array Int)[n]? = some off) (ht : ((33 : Nat) : Int) + off = (tgt : Int)) (kk : lw_J k gC gM tgt i [] cS mS) : lw_J k gC gM 33 i [.int x] cS mS := by
  obtain ⟨p, l, e, s, m, below, meth, c, b, L, xs⟩ := k
  obtain ⟨hx, hb, hml, hown, hts, hX, hbl, hr, hlk, hL, h2, hK, hE, hiC, hiM, hgC, hgM, hne⟩ := hk
  have hn36 : n < 36 := (Array.getElem?_eq_some_iff.mp ho).1
  intro H locs ls hl hC hM hS
  refine lv_tableIn hx hb dl_33 (by omega) (by omega) ?_ ht (kk H locs ls hl hC hM hS)
  rw [hn, show ((n : Int) - 0).toNat = n by omega]
  exact ho
theorem lw_swOut {k : lwK} {gC gM : fkG} {i : Nat} {cS mS : fkS} (hk : lw_ok k gC gM) {x : Int32} (hn : x.toInt < 0 ∨ 35 < x.toInt) (kk : lw_J k gC gM 1481 i [] cS mS) : lw_J k gC gM 33 i [.int x] cS mS := by
  obtain ⟨p, l, e, s, m, below, meth, c, b, L, xs⟩ := k
  obtain ⟨hx, hb, hml, hown, hts, hX, hbl, hr, hlk, hL, h2, hK, hE, hiC, hiM, hgC, hgM, hne⟩ := hk
  intro H locs ls hl hC hM hS
  exact lv_tableOut hx hb dl_33 hn (by decide) (kk H locs ls hl hC hM hS)
/-- one call of the script -/
theorem lw_one {k : lwK} {gC gM : fkG} {i : Nat} {cS mS : fkS} (hk : lw_ok k gC gM) (hi : i + 5 < lwL k) (hR : Rel cS mS) (kk : ∀ c' m', Rel c' m' → lw_J k gC gM 1481 i [] c' m') : lw_J k gC gM 27 i [] cS mS := by
  have h33 : lw_J k gC gM 33 i [.int (lwx k i &&& 63)] cS mS := by
    by_cases ho : (lwx k i &&& 63).toInt < 0 ∨ 35 < (lwx k i &&& 63).toInt
    · exact lw_swOut hk ho (kk cS mS hR)
    rcases (show (lwx k i &&& 63).toInt = 0 ∨ (lwx k i &&& 63).toInt = 1 ∨ (lwx k i &&& 63).toInt = 2 ∨ (lwx k i &&& 63).toInt = 3 ∨ (lwx k i &&& 63).toInt = 4 ∨ (lwx k i &&& 63).toInt = 5 ∨ (lwx k i &&& 63).toInt = 6 ∨ (lwx k i &&& 63).toInt = 7 ∨ (lwx k i &&& 63).toInt = 8 ∨ (lwx k i &&& 63).toInt = 9 ∨ (lwx k i &&& 63).toInt = 10 ∨ (lwx k i &&& 63).toInt = 11 ∨ (lwx k i &&& 63).toInt = 12 ∨ (lwx k i &&& 63).toInt = 13 ∨ (lwx k i &&& 63).toInt = 14 ∨ (lwx k i &&& 63).toInt = 15 ∨ (lwx k i &&& 63).toInt = 16 ∨ (lwx k i &&& 63).toInt = 17 ∨ (lwx k i &&& 63).toInt = 18 ∨ (lwx k i &&& 63).toInt = 19 ∨ (lwx k i &&& 63).toInt = 20 ∨ (lwx k i &&& 63).toInt = 21 ∨ (lwx k i &&& 63).toInt = 22 ∨ (lwx k i &&& 63).toInt = 23 ∨ (lwx k i &&& 63).toInt = 24 ∨ (lwx k i &&& 63).toInt = 25 ∨ (lwx k i &&& 63).toInt = 26 ∨ (lwx k i &&& 63).toInt = 27 ∨ (lwx k i &&& 63).toInt = 28 ∨ (lwx k i &&& 63).toInt = 29 ∨ (lwx k i &&& 63).toInt = 30 ∨ (lwx k i &&& 63).toInt = 31 ∨ (lwx k i &&& 63).toInt = 32 ∨ (lwx k i &&& 63).toInt = 33 ∨ (lwx k i &&& 63).toInt = 34 ∨ (lwx k i &&& 63).toInt = 35 by omega) with hz | hz | hz | hz | hz | hz | hz | hz | hz | hz | hz | hz | hz | hz | hz | hz | hz | hz | hz | hz | hz | hz | hz | hz | hz | hz | hz | hz | hz | hz | hz | hz | hz | hz | hz | hz
    · exact lw_sw hk 0 (off := 159) (tgt := 192) hz rfl (by decide) (lw_c_row hk hi hR kk)
    · exact lw_sw hk 1 (off := 202) (tgt := 235) hz rfl (by decide) (lw_c_set hk hi hR kk)
    · exact lw_sw hk 2 (off := 275) (tgt := 308) hz rfl (by decide) (lw_c_copy hk hi hR kk)
    · exact lw_sw hk 3 (off := 338) (tgt := 371) hz rfl (by decide) (lw_c_element hk hi hR kk)
    · exact lw_sw hk 4 (off := 372) (tgt := 405) hz rfl (by decide) (lw_c_show hk hi hR kk)
    · exact lw_sw hk 5 (off := 405) (tgt := 438) hz rfl (by decide) (lw_c_holds hk hi hR kk)
    · exact lw_sw hk 6 (off := 428) (tgt := 461) hz rfl (by decide) (lw_c_says hk hi hR kk)
    · exact lw_sw hk 7 (off := 461) (tgt := 494) hz rfl (by decide) (lw_c_bird hk hi hR kk)
    · exact lw_sw hk 8 (off := 504) (tgt := 537) hz rfl (by decide) (lw_c_ask hk hi hR kk)
    · exact lw_sw hk 9 (off := 537) (tgt := 570) hz rfl (by decide) (lw_c_table hk hi hR kk)
    · exact lw_sw hk 10 (off := 580) (tgt := 613) hz rfl (by decide) (lw_c_comes hk hi hR kk)
    · exact lw_sw hk 11 (off := 613) (tgt := 646) hz rfl (by decide) (lw_c_birdOf hk hi hR kk)
    · exact lw_sw hk 12 (off := 646) (tgt := 679) hz rfl (by decide) (lw_c_bakery hk hi hR kk)
    · exact lw_sw hk 13 (off := 669) (tgt := 702) hz rfl (by decide) (lw_c_fault hk hi hR kk)
    · exact lw_sw hk 14 (off := 682) (tgt := 715) hz rfl (by decide) (lw_c_said hk hi hR kk)
    · exact lw_sw hk 15 (off := 725) (tgt := 758) hz rfl (by decide) (lw_c_brings hk hi hR kk)
    · exact lw_sw hk 16 (off := 768) (tgt := 801) hz rfl (by decide) (lw_c_soonest hk hi hR kk)
    · exact lw_sw hk 17 (off := 811) (tgt := 844) hz rfl (by decide) (lw_c_safe hk hi hR kk)
    · exact lw_sw hk 18 (off := 834) (tgt := 867) hz rfl (by decide) (lw_c_fits hk hi hR kk)
    · exact lw_sw hk 19 (off := 887) (tgt := 920) hz rfl (by decide) (lw_c_pies hk hi hR kk)
    · exact lw_sw hk 20 (off := 940) (tgt := 973) hz rfl (by decide) (lw_c_next hk hi hR kk)
    · exact lw_sw hk 21 (off := 963) (tgt := 996) hz rfl (by decide) (lw_c_chance hk hi hR kk)
    · exact lw_sw hk 22 (off := 1016) (tgt := 1049) hz rfl (by decide) (lw_c_minutes hk hi hR kk)
    · exact lw_sw hk 23 (off := 1049) (tgt := 1082) hz rfl (by decide) (lw_c_after hk hi hR kk)
    · exact lw_sw hk 24 (off := 1092) (tgt := 1125) hz rfl (by decide) (lw_c_kings hk hi hR kk)
    · exact lw_sw hk 25 (off := 1135) (tgt := 1168) hz rfl (by decide) (lw_c_tribes hk hi hR kk)
    · exact lw_sw hk 26 (off := 1178) (tgt := 1211) hz rfl (by decide) (lw_c_alike hk hi hR kk)
    · exact lw_sw hk 27 (off := 1211) (tgt := 1244) hz rfl (by decide) (lw_c_judge hk hi hR kk)
    · exact lw_sw hk 28 (off := 1254) (tgt := 1287) hz rfl (by decide) (lw_c_bake hk hi hR kk)
    · exact lw_sw hk 29 (off := 1287) (tgt := 1320) hz rfl (by decide) (lw_c_years hk hi hR kk)
    · exact lw_sw hk 30 (off := 1310) (tgt := 1343) hz rfl (by decide) (lw_c_seed hk hi hR kk)
    · exact lw_sw hk 31 (off := 1333) (tgt := 1366) hz rfl (by decide) (lw_c_act hk hi hR kk)
    · exact lw_sw hk 32 (off := 1376) (tgt := 1409) hz rfl (by decide) (lw_c_trace hk hi hR kk)
    · exact lw_sw hk 33 (off := 1399) (tgt := 1432) hz rfl (by decide) (lw_c_image hk hi hR kk)
    · exact lw_sw hk 34 (off := 1412) (tgt := 1445) hz rfl (by decide) (lw_c_restore hk hi hR kk)
    · exact lw_sw hk 35 (off := 1425) (tgt := 1458) hz rfl (by decide) (lw_c_status hk hi hR kk)
  have hk' := hk
  obtain ⟨p, l, e, s, m, below, meth, c, b, L, xs⟩ := k
  obtain ⟨hx, hb, hml, hown, hts, hX, hbl, hr, hlk, hL, h2, hK, hE, hiC, hiM, hgC, hgM, hne⟩ := hk
  have hi : i + 5 < L := hi
  intro H locs ls hl hC hM hS
  refine lv_aload_n hx hb dl_27 rfl (lv_at hl 3 rfl) ?_
  refine lv_iload_n hx hb dl_28 rfl (lv_at hl 0 rfl) ?_
  refine va_sld hx hb hX hbl (Nat.not_le_of_lt hbl) hS (vp_in_nI (by omega) (by omega)) dl_29 ?_
  rw [nI_clamp (by omega)]
  refine lv_bipush (v := 63) hx hb dl_30 (by decide) ?_
  refine lv_iand hx hb dl_32 ?_
  exact h33 H locs ls hl hC hM hS
theorem lw_end {k : lwK} {gC gM : fkG} {i : Nat} {cS mS : fkS} (hk : lw_ok k gC gM) : lw_J k gC gM 1487 i [] cS mS := by
  obtain ⟨p, l, e, s, m, below, meth, c, b, L, xs⟩ := k
  obtain ⟨hx, hb, hml, hown, hts, hX, hbl, hr, hlk, hL, h2, hK, hE, hiC, hiM, hgC, hgM, hne⟩ := hk
  intro H locs ls hl hC hM hS
  refine lv_iconst (v := 1) hx hb dl_1487 (by decide) ?_
  exact va_forget hS.2.2 (lw_ret hx hb hr hlk dl_1488)
/-- the script's calls, one behind another -/
theorem lw_loop {k : lwK} {gC gM : fkG} (hk : lw_ok k gC gM) : ∀ (n i : Nat) (cS mS : fkS), lwL k ≤ i + n → i ≤ lwL k → Rel cS mS → lw_J k gC gM 18 i [] cS mS := by
  intro n
  induction n with
  | zero =>
    intro i cS mS h1 h2 hR
    have hend := lw_end (i := i) (cS := cS) (mS := mS) hk
    obtain ⟨p, l, e, s, m, below, meth, c, b, L, xs⟩ := k
    obtain ⟨hx, hb, hml, hown, hts, hX, hbl, hr, hlk, hL, -, hK, hE, hiC, hiM, hgC, hgM, hne⟩ := hk
    have h1 : L ≤ i + 0 := h1
    have h2 : i ≤ L := h2
    intro H locs ls hl hC hM hS
    refine lv_iload_n hx hb dl_18 rfl (lv_at hl 0 rfl) ?_
    refine lv_aload_n hx hb dl_19 rfl (lv_at hl 3 rfl) ?_
    refine va_slen hx hb hX hbl (Nat.not_le_of_lt hbl) hS dl_20 ?_
    refine lv_bipush (v := 6) hx hb dl_21 (by decide) ?_
    refine lv_isub hx hb dl_23 ?_
    refine lv_icmp_gt (tgt := 1487) hx hb dl_24 (by decide) (fun _ => hend H locs ls hl hC hM hS) (fun z => absurd ?_ z)
    have e1 := nI_sub6 (n := L) (by omega)
    rw [Int32.lt_iff_toInt_lt, show Int32.ofNat L - 6 = nI L - 6 from rfl, e1, nI_toInt (by omega)]
    omega
  | succ n ih =>
    intro i cS mS h1 h2 hR
    have hend := lw_end (i := i) (cS := cS) (mS := mS) hk
    have hnext : i + 5 < lwL k → lw_J k gC gM 27 i [] cS mS := fun hi => lw_one hk hi hR (fun c' m' hR' => by
      have hgo := ih (i + 6) c' m' (by omega) (by omega) hR'
      clear hend
      obtain ⟨p, l, e, s, m, below, meth, c, b, L, xs⟩ := k
      obtain ⟨hx, hb, hml, hown, hts, hX, hbl, hr, hlk, hL, -, hK, hE, hiC, hiM, hgC, hgM, hne⟩ := hk
      intro H locs ls hl hC hM hS
      refine lv_iinc (v := nI (i + 6)) (lv' := [(3, .int (nI (i + 6))), (2, fk_r gM 0), (1, fk_r gC 0), (0, .ref b)]) hx hb dl_1481 hl (k := 0) rfl (nI_add i 6) (by decide) rfl (fun ls hl => ?_)
      exact lv_goto (tgt := 18) hx hb dl_1484 (by decide) (hgo H locs ls hl hC hM hS))
    obtain ⟨p, l, e, s, m, below, meth, c, b, L, xs⟩ := k
    obtain ⟨hx, hb, hml, hown, hts, hX, hbl, hr, hlk, hL, -, hK, hE, hiC, hiM, hgC, hgM, hne⟩ := hk
    have hnext : i + 5 < L → lw_J (p, l, e, s, m, below, meth, c, b, L, xs) gC gM 27 i [] cS mS := hnext
    have h2 : i ≤ L := h2
    intro H locs ls hl hC hM hS
    refine lv_iload_n hx hb dl_18 rfl (lv_at hl 0 rfl) ?_
    refine lv_aload_n hx hb dl_19 rfl (lv_at hl 3 rfl) ?_
    refine va_slen hx hb hX hbl (Nat.not_le_of_lt hbl) hS dl_20 ?_
    refine lv_bipush (v := 6) hx hb dl_21 (by decide) ?_
    refine lv_isub hx hb dl_23 ?_
    have e1 := nI_sub6 (n := L) (by omega)
    refine lv_icmp_gt (tgt := 1487) hx hb dl_24 (by decide) (fun _ => hend H locs ls hl hC hM hS) (fun z => hnext ?_ H locs ls hl hC hM hS)
    rw [Int32.lt_iff_toInt_lt, show Int32.ofNat L - 6 = nI L - 6 from rfl, e1, nI_toInt (by omega)] at z
    omega

