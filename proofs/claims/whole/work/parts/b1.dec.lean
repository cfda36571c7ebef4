/-! Decode rows, words of the law. -/
theorem zd_0 : decode code 0 = .ok (.new 7, 3) := by decide +kernel
theorem zd_3 : decode code 3 = .ok (.dup, 1) := by decide +kernel
theorem zd_4 : decode code 4 = .ok (.invokespecial 9, 3) := by decide +kernel
theorem zd_7 : decode code 7 = .ok (.astore_n 1, 1) := by decide +kernel
theorem zd_8 : decode code 8 = .ok (.new 10, 3) := by decide +kernel
theorem zd_11 : decode code 11 = .ok (.dup, 1) := by decide +kernel
theorem zd_12 : decode code 12 = .ok (.invokespecial 12, 3) := by decide +kernel
theorem zd_15 : decode code 15 = .ok (.astore_n 2, 1) := by decide +kernel
theorem zd_16 : decode code 16 = .ok (.iconst 0, 1) := by decide +kernel
theorem zd_17 : decode code 17 = .ok (.istore_n 3, 1) := by decide +kernel
theorem zd_18 : decode code 18 = .ok (.iload_n 3, 1) := by decide +kernel
theorem zd_19 : decode code 19 = .ok (.aload_n 0, 1) := by decide +kernel
theorem zd_20 : decode code 20 = .ok (.arraylength, 1) := by decide +kernel
theorem zd_21 : decode code 21 = .ok (.bipush 6, 2) := by decide +kernel
theorem zd_23 : decode code 23 = .ok (.isub, 1) := by decide +kernel
theorem zd_24 : decode code 24 = .ok (.if_icmp .gt 1853, 3) := by decide +kernel
theorem zd_27 : decode code 27 = .ok (.aload_n 0, 1) := by decide +kernel
theorem zd_28 : decode code 28 = .ok (.iload_n 3, 1) := by decide +kernel
theorem zd_29 : decode code 29 = .ok (.iaload, 1) := by decide +kernel
theorem zd_30 : decode code 30 = .ok (.bipush 63, 2) := by decide +kernel
theorem zd_32 : decode code 32 = .ok (.iand, 1) := by decide +kernel
theorem zd_33 : decode code 33 = .ok (.tableswitch 1838 0 48 #[211, 244, 277, 310, 343, 376, 419, 452, 475, 498, 521, 544, 557, 590, 623, 666, 699, 732, 755, 788, 821, 864, 907, 960, 1003, 1036, 1069, 1122, 1175, 1228, 1251, 1274, 1317, 1340, 1353, 1386, 1409, 1452, 1495, 1528, 1591, 1634, 1667, 1700, 1733, 1756, 1789, 1802, 1815], 211) := by decide +kernel
theorem zd_244 : decode code 244 = .ok (.aload_n 1, 1) := by decide +kernel
theorem zd_255 : decode code 255 = .ok (.invokevirtual 13, 3) := by decide +kernel
theorem zd_258 : decode code 258 = .ok (.aload_n 2, 1) := by decide +kernel
theorem zd_269 : decode code 269 = .ok (.invokevirtual 17, 3) := by decide +kernel
theorem zd_272 : decode code 272 = .ok (.if_icmp .eq 1599, 3) := by decide +kernel
theorem zd_277 : decode code 277 = .ok (.aload_n 1, 1) := by decide +kernel
theorem zd_288 : decode code 288 = .ok (.invokevirtual 18, 3) := by decide +kernel
theorem zd_291 : decode code 291 = .ok (.aload_n 2, 1) := by decide +kernel
theorem zd_302 : decode code 302 = .ok (.invokevirtual 21, 3) := by decide +kernel
theorem zd_305 : decode code 305 = .ok (.if_icmp .eq 1566, 3) := by decide +kernel
theorem zd_310 : decode code 310 = .ok (.aload_n 1, 1) := by decide +kernel
theorem zd_321 : decode code 321 = .ok (.invokevirtual 22, 3) := by decide +kernel
theorem zd_324 : decode code 324 = .ok (.aload_n 2, 1) := by decide +kernel
theorem zd_335 : decode code 335 = .ok (.invokevirtual 25, 3) := by decide +kernel
theorem zd_338 : decode code 338 = .ok (.if_icmp .eq 1533, 3) := by decide +kernel
theorem zd_343 : decode code 343 = .ok (.aload_n 1, 1) := by decide +kernel
theorem zd_354 : decode code 354 = .ok (.invokevirtual 26, 3) := by decide +kernel
theorem zd_357 : decode code 357 = .ok (.aload_n 2, 1) := by decide +kernel
theorem zd_368 : decode code 368 = .ok (.invokevirtual 29, 3) := by decide +kernel
theorem zd_371 : decode code 371 = .ok (.if_icmp .eq 1500, 3) := by decide +kernel
theorem zd_376 : decode code 376 = .ok (.aload_n 1, 1) := by decide +kernel
theorem zd_387 : decode code 387 = .ok (.invokevirtual 30, 3) := by decide +kernel
theorem zd_390 : decode code 390 = .ok (.aload_n 2, 1) := by decide +kernel
theorem zd_401 : decode code 401 = .ok (.invokevirtual 33, 3) := by decide +kernel
theorem zd_404 : decode code 404 = .ok (.if_icmp .eq 1467, 3) := by decide +kernel
theorem zd_409 : decode code 409 = .ok (.aload_n 1, 1) := by decide +kernel
theorem zd_425 : decode code 425 = .ok (.invokevirtual 34, 3) := by decide +kernel
theorem zd_428 : decode code 428 = .ok (.aload_n 2, 1) := by decide +kernel
theorem zd_444 : decode code 444 = .ok (.invokevirtual 38, 3) := by decide +kernel
theorem zd_447 : decode code 447 = .ok (.if_icmp .eq 1424, 3) := by decide +kernel
theorem zd_452 : decode code 452 = .ok (.aload_n 1, 1) := by decide +kernel
theorem zd_463 : decode code 463 = .ok (.invokevirtual 39, 3) := by decide +kernel
theorem zd_466 : decode code 466 = .ok (.aload_n 2, 1) := by decide +kernel
theorem zd_477 : decode code 477 = .ok (.invokevirtual 42, 3) := by decide +kernel
theorem zd_480 : decode code 480 = .ok (.if_icmp .eq 1391, 3) := by decide +kernel
theorem zd_485 : decode code 485 = .ok (.aload_n 1, 1) := by decide +kernel
theorem zd_491 : decode code 491 = .ok (.invokevirtual 43, 3) := by decide +kernel
theorem zd_494 : decode code 494 = .ok (.aload_n 2, 1) := by decide +kernel
theorem zd_500 : decode code 500 = .ok (.invokevirtual 47, 3) := by decide +kernel
theorem zd_503 : decode code 503 = .ok (.if_icmp .eq 1368, 3) := by decide +kernel
theorem zd_508 : decode code 508 = .ok (.aload_n 1, 1) := by decide +kernel
theorem zd_514 : decode code 514 = .ok (.invokevirtual 48, 3) := by decide +kernel
theorem zd_517 : decode code 517 = .ok (.aload_n 2, 1) := by decide +kernel
theorem zd_523 : decode code 523 = .ok (.invokevirtual 51, 3) := by decide +kernel
theorem zd_526 : decode code 526 = .ok (.if_icmp .eq 1345, 3) := by decide +kernel
theorem zd_531 : decode code 531 = .ok (.aload_n 1, 1) := by decide +kernel
theorem zd_537 : decode code 537 = .ok (.invokevirtual 52, 3) := by decide +kernel
theorem zd_540 : decode code 540 = .ok (.aload_n 2, 1) := by decide +kernel
theorem zd_546 : decode code 546 = .ok (.invokevirtual 55, 3) := by decide +kernel
theorem zd_549 : decode code 549 = .ok (.if_icmp .eq 1322, 3) := by decide +kernel
theorem zd_554 : decode code 554 = .ok (.aload_n 1, 1) := by decide +kernel
theorem zd_560 : decode code 560 = .ok (.invokevirtual 56, 3) := by decide +kernel
theorem zd_563 : decode code 563 = .ok (.aload_n 2, 1) := by decide +kernel
theorem zd_569 : decode code 569 = .ok (.invokevirtual 59, 3) := by decide +kernel
theorem zd_572 : decode code 572 = .ok (.if_icmp .eq 1299, 3) := by decide +kernel
theorem zd_577 : decode code 577 = .ok (.aload_n 1, 1) := by decide +kernel
theorem zd_578 : decode code 578 = .ok (.invokevirtual 60, 3) := by decide +kernel
theorem zd_581 : decode code 581 = .ok (.aload_n 2, 1) := by decide +kernel
theorem zd_582 : decode code 582 = .ok (.invokevirtual 64, 3) := by decide +kernel
theorem zd_585 : decode code 585 = .ok (.if_icmp .eq 1286, 3) := by decide +kernel
theorem zd_590 : decode code 590 = .ok (.aload_n 1, 1) := by decide +kernel
theorem zd_601 : decode code 601 = .ok (.invokevirtual 65, 3) := by decide +kernel
theorem zd_604 : decode code 604 = .ok (.aload_n 2, 1) := by decide +kernel
theorem zd_615 : decode code 615 = .ok (.invokevirtual 68, 3) := by decide +kernel
theorem zd_618 : decode code 618 = .ok (.if_icmp .eq 1253, 3) := by decide +kernel
theorem zd_623 : decode code 623 = .ok (.aload_n 1, 1) := by decide +kernel
theorem zd_634 : decode code 634 = .ok (.invokevirtual 69, 3) := by decide +kernel
theorem zd_637 : decode code 637 = .ok (.aload_n 2, 1) := by decide +kernel
theorem zd_648 : decode code 648 = .ok (.invokevirtual 72, 3) := by decide +kernel
theorem zd_651 : decode code 651 = .ok (.if_icmp .eq 1220, 3) := by decide +kernel
theorem zd_656 : decode code 656 = .ok (.aload_n 1, 1) := by decide +kernel
theorem zd_672 : decode code 672 = .ok (.invokevirtual 73, 3) := by decide +kernel
theorem zd_675 : decode code 675 = .ok (.aload_n 2, 1) := by decide +kernel
theorem zd_691 : decode code 691 = .ok (.invokevirtual 76, 3) := by decide +kernel
theorem zd_694 : decode code 694 = .ok (.if_icmp .eq 1177, 3) := by decide +kernel
theorem zd_699 : decode code 699 = .ok (.aload_n 1, 1) := by decide +kernel
theorem zd_710 : decode code 710 = .ok (.invokevirtual 77, 3) := by decide +kernel
theorem zd_713 : decode code 713 = .ok (.aload_n 2, 1) := by decide +kernel
theorem zd_724 : decode code 724 = .ok (.invokevirtual 80, 3) := by decide +kernel
theorem zd_727 : decode code 727 = .ok (.if_icmp .eq 1144, 3) := by decide +kernel
theorem zd_732 : decode code 732 = .ok (.aload_n 1, 1) := by decide +kernel
theorem zd_743 : decode code 743 = .ok (.invokevirtual 81, 3) := by decide +kernel
theorem zd_746 : decode code 746 = .ok (.aload_n 2, 1) := by decide +kernel
theorem zd_757 : decode code 757 = .ok (.invokevirtual 84, 3) := by decide +kernel
theorem zd_760 : decode code 760 = .ok (.if_icmp .eq 1111, 3) := by decide +kernel
theorem zd_765 : decode code 765 = .ok (.aload_n 1, 1) := by decide +kernel
theorem zd_771 : decode code 771 = .ok (.invokevirtual 85, 3) := by decide +kernel
theorem zd_774 : decode code 774 = .ok (.aload_n 2, 1) := by decide +kernel
theorem zd_780 : decode code 780 = .ok (.invokevirtual 88, 3) := by decide +kernel
theorem zd_783 : decode code 783 = .ok (.if_icmp .eq 1088, 3) := by decide +kernel
theorem zd_788 : decode code 788 = .ok (.aload_n 1, 1) := by decide +kernel
theorem zd_799 : decode code 799 = .ok (.invokevirtual 89, 3) := by decide +kernel
theorem zd_802 : decode code 802 = .ok (.aload_n 2, 1) := by decide +kernel
theorem zd_813 : decode code 813 = .ok (.invokevirtual 92, 3) := by decide +kernel
theorem zd_816 : decode code 816 = .ok (.if_icmp .eq 1055, 3) := by decide +kernel
theorem zd_821 : decode code 821 = .ok (.aload_n 1, 1) := by decide +kernel
theorem zd_832 : decode code 832 = .ok (.invokevirtual 93, 3) := by decide +kernel
theorem zd_835 : decode code 835 = .ok (.aload_n 2, 1) := by decide +kernel
theorem zd_846 : decode code 846 = .ok (.invokevirtual 96, 3) := by decide +kernel
theorem zd_849 : decode code 849 = .ok (.if_icmp .eq 1022, 3) := by decide +kernel
theorem zd_854 : decode code 854 = .ok (.aload_n 1, 1) := by decide +kernel
theorem zd_870 : decode code 870 = .ok (.invokevirtual 97, 3) := by decide +kernel
theorem zd_873 : decode code 873 = .ok (.aload_n 2, 1) := by decide +kernel
theorem zd_889 : decode code 889 = .ok (.invokevirtual 100, 3) := by decide +kernel
theorem zd_892 : decode code 892 = .ok (.if_icmp .eq 979, 3) := by decide +kernel
theorem zd_897 : decode code 897 = .ok (.aload_n 1, 1) := by decide +kernel
theorem zd_913 : decode code 913 = .ok (.invokevirtual 101, 3) := by decide +kernel
theorem zd_916 : decode code 916 = .ok (.aload_n 2, 1) := by decide +kernel
theorem zd_932 : decode code 932 = .ok (.invokevirtual 104, 3) := by decide +kernel
theorem zd_935 : decode code 935 = .ok (.if_icmp .eq 936, 3) := by decide +kernel
theorem zd_940 : decode code 940 = .ok (.aload_n 1, 1) := by decide +kernel
theorem zd_961 : decode code 961 = .ok (.invokevirtual 105, 3) := by decide +kernel
theorem zd_964 : decode code 964 = .ok (.aload_n 2, 1) := by decide +kernel
theorem zd_985 : decode code 985 = .ok (.invokevirtual 109, 3) := by decide +kernel
theorem zd_988 : decode code 988 = .ok (.if_icmp .eq 883, 3) := by decide +kernel
theorem zd_993 : decode code 993 = .ok (.aload_n 1, 1) := by decide +kernel
theorem zd_1009 : decode code 1009 = .ok (.invokevirtual 110, 3) := by decide +kernel
theorem zd_1012 : decode code 1012 = .ok (.aload_n 2, 1) := by decide +kernel
theorem zd_1028 : decode code 1028 = .ok (.invokevirtual 113, 3) := by decide +kernel
theorem zd_1031 : decode code 1031 = .ok (.if_icmp .eq 840, 3) := by decide +kernel
theorem zd_1036 : decode code 1036 = .ok (.aload_n 1, 1) := by decide +kernel
theorem zd_1047 : decode code 1047 = .ok (.invokevirtual 114, 3) := by decide +kernel
theorem zd_1050 : decode code 1050 = .ok (.aload_n 2, 1) := by decide +kernel
theorem zd_1061 : decode code 1061 = .ok (.invokevirtual 117, 3) := by decide +kernel
theorem zd_1064 : decode code 1064 = .ok (.if_icmp .eq 807, 3) := by decide +kernel
theorem zd_1069 : decode code 1069 = .ok (.aload_n 1, 1) := by decide +kernel
theorem zd_1080 : decode code 1080 = .ok (.invokevirtual 118, 3) := by decide +kernel
theorem zd_1083 : decode code 1083 = .ok (.aload_n 2, 1) := by decide +kernel
theorem zd_1094 : decode code 1094 = .ok (.invokevirtual 121, 3) := by decide +kernel
theorem zd_1097 : decode code 1097 = .ok (.if_icmp .eq 774, 3) := by decide +kernel
theorem zd_1102 : decode code 1102 = .ok (.aload_n 1, 1) := by decide +kernel
theorem zd_1123 : decode code 1123 = .ok (.invokevirtual 122, 3) := by decide +kernel
theorem zd_1126 : decode code 1126 = .ok (.aload_n 2, 1) := by decide +kernel
theorem zd_1147 : decode code 1147 = .ok (.invokevirtual 125, 3) := by decide +kernel
theorem zd_1150 : decode code 1150 = .ok (.if_icmp .eq 721, 3) := by decide +kernel
theorem zd_1155 : decode code 1155 = .ok (.aload_n 1, 1) := by decide +kernel
theorem zd_1176 : decode code 1176 = .ok (.invokevirtual 126, 3) := by decide +kernel
theorem zd_1179 : decode code 1179 = .ok (.aload_n 2, 1) := by decide +kernel
theorem zd_1200 : decode code 1200 = .ok (.invokevirtual 129, 3) := by decide +kernel
theorem zd_1203 : decode code 1203 = .ok (.if_icmp .eq 668, 3) := by decide +kernel
theorem zd_1208 : decode code 1208 = .ok (.aload_n 1, 1) := by decide +kernel
theorem zd_1229 : decode code 1229 = .ok (.invokevirtual 130, 3) := by decide +kernel
theorem zd_1232 : decode code 1232 = .ok (.aload_n 2, 1) := by decide +kernel
theorem zd_1253 : decode code 1253 = .ok (.invokevirtual 133, 3) := by decide +kernel
theorem zd_1256 : decode code 1256 = .ok (.if_icmp .eq 615, 3) := by decide +kernel
theorem zd_1261 : decode code 1261 = .ok (.aload_n 1, 1) := by decide +kernel
theorem zd_1267 : decode code 1267 = .ok (.invokevirtual 134, 3) := by decide +kernel
theorem zd_1270 : decode code 1270 = .ok (.aload_n 2, 1) := by decide +kernel
theorem zd_1276 : decode code 1276 = .ok (.invokevirtual 137, 3) := by decide +kernel
theorem zd_1279 : decode code 1279 = .ok (.if_icmp .eq 592, 3) := by decide +kernel
theorem zd_1284 : decode code 1284 = .ok (.aload_n 1, 1) := by decide +kernel
theorem zd_1290 : decode code 1290 = .ok (.invokevirtual 138, 3) := by decide +kernel
theorem zd_1293 : decode code 1293 = .ok (.aload_n 2, 1) := by decide +kernel
theorem zd_1299 : decode code 1299 = .ok (.invokevirtual 141, 3) := by decide +kernel
theorem zd_1302 : decode code 1302 = .ok (.if_icmp .eq 569, 3) := by decide +kernel
theorem zd_1307 : decode code 1307 = .ok (.aload_n 1, 1) := by decide +kernel
theorem zd_1323 : decode code 1323 = .ok (.invokevirtual 142, 3) := by decide +kernel
theorem zd_1326 : decode code 1326 = .ok (.aload_n 2, 1) := by decide +kernel
theorem zd_1342 : decode code 1342 = .ok (.invokevirtual 145, 3) := by decide +kernel
theorem zd_1345 : decode code 1345 = .ok (.if_icmp .eq 526, 3) := by decide +kernel
theorem zd_1350 : decode code 1350 = .ok (.aload_n 1, 1) := by decide +kernel
theorem zd_1356 : decode code 1356 = .ok (.invokevirtual 146, 3) := by decide +kernel
theorem zd_1359 : decode code 1359 = .ok (.aload_n 2, 1) := by decide +kernel
theorem zd_1365 : decode code 1365 = .ok (.invokevirtual 149, 3) := by decide +kernel
theorem zd_1368 : decode code 1368 = .ok (.if_icmp .eq 503, 3) := by decide +kernel
theorem zd_1373 : decode code 1373 = .ok (.aload_n 1, 1) := by decide +kernel
theorem zd_1374 : decode code 1374 = .ok (.invokevirtual 150, 3) := by decide +kernel
theorem zd_1377 : decode code 1377 = .ok (.aload_n 2, 1) := by decide +kernel
theorem zd_1378 : decode code 1378 = .ok (.invokevirtual 153, 3) := by decide +kernel
theorem zd_1381 : decode code 1381 = .ok (.if_icmp .eq 490, 3) := by decide +kernel
theorem zd_1386 : decode code 1386 = .ok (.aload_n 1, 1) := by decide +kernel
theorem zd_1397 : decode code 1397 = .ok (.invokevirtual 154, 3) := by decide +kernel
theorem zd_1400 : decode code 1400 = .ok (.aload_n 2, 1) := by decide +kernel
theorem zd_1411 : decode code 1411 = .ok (.invokevirtual 157, 3) := by decide +kernel
theorem zd_1414 : decode code 1414 = .ok (.if_icmp .eq 457, 3) := by decide +kernel
theorem zd_1419 : decode code 1419 = .ok (.aload_n 1, 1) := by decide +kernel
theorem zd_1425 : decode code 1425 = .ok (.invokevirtual 158, 3) := by decide +kernel
theorem zd_1428 : decode code 1428 = .ok (.aload_n 2, 1) := by decide +kernel
theorem zd_1434 : decode code 1434 = .ok (.invokevirtual 161, 3) := by decide +kernel
theorem zd_1437 : decode code 1437 = .ok (.if_icmp .eq 434, 3) := by decide +kernel
theorem zd_1442 : decode code 1442 = .ok (.aload_n 1, 1) := by decide +kernel
theorem zd_1458 : decode code 1458 = .ok (.invokevirtual 162, 3) := by decide +kernel
theorem zd_1461 : decode code 1461 = .ok (.aload_n 2, 1) := by decide +kernel
theorem zd_1477 : decode code 1477 = .ok (.invokevirtual 165, 3) := by decide +kernel
theorem zd_1480 : decode code 1480 = .ok (.if_icmp .eq 391, 3) := by decide +kernel
theorem zd_1485 : decode code 1485 = .ok (.aload_n 1, 1) := by decide +kernel
theorem zd_1501 : decode code 1501 = .ok (.invokevirtual 166, 3) := by decide +kernel
theorem zd_1504 : decode code 1504 = .ok (.aload_n 2, 1) := by decide +kernel
theorem zd_1520 : decode code 1520 = .ok (.invokevirtual 169, 3) := by decide +kernel
theorem zd_1523 : decode code 1523 = .ok (.if_icmp .eq 348, 3) := by decide +kernel
theorem zd_1528 : decode code 1528 = .ok (.aload_n 1, 1) := by decide +kernel
theorem zd_1539 : decode code 1539 = .ok (.invokevirtual 170, 3) := by decide +kernel
theorem zd_1542 : decode code 1542 = .ok (.aload_n 2, 1) := by decide +kernel
theorem zd_1553 : decode code 1553 = .ok (.invokevirtual 173, 3) := by decide +kernel
theorem zd_1556 : decode code 1556 = .ok (.if_icmp .eq 315, 3) := by decide +kernel
theorem zd_1561 : decode code 1561 = .ok (.aload_n 1, 1) := by decide +kernel
theorem zd_1587 : decode code 1587 = .ok (.invokevirtual 174, 3) := by decide +kernel
theorem zd_1590 : decode code 1590 = .ok (.aload_n 2, 1) := by decide +kernel
theorem zd_1616 : decode code 1616 = .ok (.invokevirtual 178, 3) := by decide +kernel
theorem zd_1619 : decode code 1619 = .ok (.if_icmp .eq 252, 3) := by decide +kernel
theorem zd_1624 : decode code 1624 = .ok (.aload_n 1, 1) := by decide +kernel
theorem zd_1640 : decode code 1640 = .ok (.invokevirtual 179, 3) := by decide +kernel
theorem zd_1643 : decode code 1643 = .ok (.aload_n 2, 1) := by decide +kernel
theorem zd_1659 : decode code 1659 = .ok (.invokevirtual 182, 3) := by decide +kernel
theorem zd_1662 : decode code 1662 = .ok (.if_icmp .eq 209, 3) := by decide +kernel
theorem zd_1667 : decode code 1667 = .ok (.aload_n 1, 1) := by decide +kernel
theorem zd_1678 : decode code 1678 = .ok (.invokevirtual 183, 3) := by decide +kernel
theorem zd_1681 : decode code 1681 = .ok (.aload_n 2, 1) := by decide +kernel
theorem zd_1692 : decode code 1692 = .ok (.invokevirtual 186, 3) := by decide +kernel
theorem zd_1695 : decode code 1695 = .ok (.if_icmp .eq 176, 3) := by decide +kernel
theorem zd_1700 : decode code 1700 = .ok (.aload_n 1, 1) := by decide +kernel
theorem zd_1711 : decode code 1711 = .ok (.invokevirtual 187, 3) := by decide +kernel
theorem zd_1714 : decode code 1714 = .ok (.aload_n 2, 1) := by decide +kernel
