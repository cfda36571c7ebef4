/-! Decode rows, words of the law. -/
theorem zd_1725 : decode code 1725 = .ok (.invokevirtual 190, 3) := by decide +kernel
theorem zd_1728 : decode code 1728 = .ok (.if_icmp .eq 143, 3) := by decide +kernel
theorem zd_1733 : decode code 1733 = .ok (.aload_n 1, 1) := by decide +kernel
theorem zd_1744 : decode code 1744 = .ok (.invokevirtual 191, 3) := by decide +kernel
theorem zd_1747 : decode code 1747 = .ok (.aload_n 2, 1) := by decide +kernel
theorem zd_1758 : decode code 1758 = .ok (.invokevirtual 194, 3) := by decide +kernel
theorem zd_1761 : decode code 1761 = .ok (.if_icmp .eq 110, 3) := by decide +kernel
theorem zd_1766 : decode code 1766 = .ok (.aload_n 1, 1) := by decide +kernel
theorem zd_1772 : decode code 1772 = .ok (.invokevirtual 195, 3) := by decide +kernel
theorem zd_1775 : decode code 1775 = .ok (.aload_n 2, 1) := by decide +kernel
theorem zd_1781 : decode code 1781 = .ok (.invokevirtual 198, 3) := by decide +kernel
theorem zd_1784 : decode code 1784 = .ok (.if_icmp .eq 87, 3) := by decide +kernel
theorem zd_1789 : decode code 1789 = .ok (.aload_n 1, 1) := by decide +kernel
theorem zd_1800 : decode code 1800 = .ok (.invokevirtual 199, 3) := by decide +kernel
theorem zd_1803 : decode code 1803 = .ok (.aload_n 2, 1) := by decide +kernel
theorem zd_1814 : decode code 1814 = .ok (.invokevirtual 202, 3) := by decide +kernel
theorem zd_1817 : decode code 1817 = .ok (.if_icmp .eq 54, 3) := by decide +kernel
theorem zd_1822 : decode code 1822 = .ok (.aload_n 1, 1) := by decide +kernel
theorem zd_1823 : decode code 1823 = .ok (.invokevirtual 203, 3) := by decide +kernel
theorem zd_1826 : decode code 1826 = .ok (.aload_n 2, 1) := by decide +kernel
theorem zd_1827 : decode code 1827 = .ok (.invokevirtual 206, 3) := by decide +kernel
theorem zd_1830 : decode code 1830 = .ok (.if_icmp .eq 41, 3) := by decide +kernel
theorem zd_1835 : decode code 1835 = .ok (.aload_n 1, 1) := by decide +kernel
theorem zd_1836 : decode code 1836 = .ok (.invokevirtual 207, 3) := by decide +kernel
theorem zd_1839 : decode code 1839 = .ok (.aload_n 2, 1) := by decide +kernel
theorem zd_1840 : decode code 1840 = .ok (.invokevirtual 210, 3) := by decide +kernel
theorem zd_1843 : decode code 1843 = .ok (.if_icmp .eq 28, 3) := by decide +kernel
theorem zd_1848 : decode code 1848 = .ok (.aload_n 1, 1) := by decide +kernel
theorem zd_1854 : decode code 1854 = .ok (.invokevirtual 211, 3) := by decide +kernel
theorem zd_1857 : decode code 1857 = .ok (.aload_n 2, 1) := by decide +kernel
theorem zd_1863 : decode code 1863 = .ok (.invokevirtual 214, 3) := by decide +kernel
theorem zd_1866 : decode code 1866 = .ok (.if_icmp .eq 5, 3) := by decide +kernel
theorem zd_1871 : decode code 1871 = .ok (.iinc 3 6, 3) := by decide +kernel
theorem zd_1874 : decode code 1874 = .ok (.goto (-1856), 3) := by decide +kernel
theorem zd_1877 : decode code 1877 = .ok (.iconst 1, 1) := by decide +kernel
theorem zd_1878 : decode code 1878 = .ok (.ireturn, 1) := by decide +kernel
theorem za_245 : z_argAt 245 1 := ⟨by decide +kernel, by decide +kernel, by decide +kernel, by decide +kernel, by decide +kernel⟩
theorem za_250 : z_argAt 250 2 := ⟨by decide +kernel, by decide +kernel, by decide +kernel, by decide +kernel, by decide +kernel⟩
theorem za_259 : z_argAt 259 1 := ⟨by decide +kernel, by decide +kernel, by decide +kernel, by decide +kernel, by decide +kernel⟩
theorem za_264 : z_argAt 264 2 := ⟨by decide +kernel, by decide +kernel, by decide +kernel, by decide +kernel, by decide +kernel⟩
theorem za_278 : z_argAt 278 1 := ⟨by decide +kernel, by decide +kernel, by decide +kernel, by decide +kernel, by decide +kernel⟩
theorem za_283 : z_argAt 283 2 := ⟨by decide +kernel, by decide +kernel, by decide +kernel, by decide +kernel, by decide +kernel⟩
theorem za_292 : z_argAt 292 1 := ⟨by decide +kernel, by decide +kernel, by decide +kernel, by decide +kernel, by decide +kernel⟩
theorem za_297 : z_argAt 297 2 := ⟨by decide +kernel, by decide +kernel, by decide +kernel, by decide +kernel, by decide +kernel⟩
theorem za_311 : z_argAt 311 1 := ⟨by decide +kernel, by decide +kernel, by decide +kernel, by decide +kernel, by decide +kernel⟩
theorem za_316 : z_argAt 316 2 := ⟨by decide +kernel, by decide +kernel, by decide +kernel, by decide +kernel, by decide +kernel⟩
theorem za_325 : z_argAt 325 1 := ⟨by decide +kernel, by decide +kernel, by decide +kernel, by decide +kernel, by decide +kernel⟩
theorem za_330 : z_argAt 330 2 := ⟨by decide +kernel, by decide +kernel, by decide +kernel, by decide +kernel, by decide +kernel⟩
theorem za_344 : z_argAt 344 1 := ⟨by decide +kernel, by decide +kernel, by decide +kernel, by decide +kernel, by decide +kernel⟩
theorem za_349 : z_argAt 349 2 := ⟨by decide +kernel, by decide +kernel, by decide +kernel, by decide +kernel, by decide +kernel⟩
theorem za_358 : z_argAt 358 1 := ⟨by decide +kernel, by decide +kernel, by decide +kernel, by decide +kernel, by decide +kernel⟩
theorem za_363 : z_argAt 363 2 := ⟨by decide +kernel, by decide +kernel, by decide +kernel, by decide +kernel, by decide +kernel⟩
theorem za_377 : z_argAt 377 1 := ⟨by decide +kernel, by decide +kernel, by decide +kernel, by decide +kernel, by decide +kernel⟩
theorem za_382 : z_argAt 382 2 := ⟨by decide +kernel, by decide +kernel, by decide +kernel, by decide +kernel, by decide +kernel⟩
theorem za_391 : z_argAt 391 1 := ⟨by decide +kernel, by decide +kernel, by decide +kernel, by decide +kernel, by decide +kernel⟩
theorem za_396 : z_argAt 396 2 := ⟨by decide +kernel, by decide +kernel, by decide +kernel, by decide +kernel, by decide +kernel⟩
theorem za_410 : z_argAt 410 1 := ⟨by decide +kernel, by decide +kernel, by decide +kernel, by decide +kernel, by decide +kernel⟩
theorem za_415 : z_argAt 415 2 := ⟨by decide +kernel, by decide +kernel, by decide +kernel, by decide +kernel, by decide +kernel⟩
theorem za_420 : z_argAt 420 3 := ⟨by decide +kernel, by decide +kernel, by decide +kernel, by decide +kernel, by decide +kernel⟩
theorem za_429 : z_argAt 429 1 := ⟨by decide +kernel, by decide +kernel, by decide +kernel, by decide +kernel, by decide +kernel⟩
theorem za_434 : z_argAt 434 2 := ⟨by decide +kernel, by decide +kernel, by decide +kernel, by decide +kernel, by decide +kernel⟩
theorem za_439 : z_argAt 439 3 := ⟨by decide +kernel, by decide +kernel, by decide +kernel, by decide +kernel, by decide +kernel⟩
theorem za_453 : z_argAt 453 1 := ⟨by decide +kernel, by decide +kernel, by decide +kernel, by decide +kernel, by decide +kernel⟩
theorem za_458 : z_argAt 458 2 := ⟨by decide +kernel, by decide +kernel, by decide +kernel, by decide +kernel, by decide +kernel⟩
theorem za_467 : z_argAt 467 1 := ⟨by decide +kernel, by decide +kernel, by decide +kernel, by decide +kernel, by decide +kernel⟩
theorem za_472 : z_argAt 472 2 := ⟨by decide +kernel, by decide +kernel, by decide +kernel, by decide +kernel, by decide +kernel⟩
theorem za_486 : z_argAt 486 1 := ⟨by decide +kernel, by decide +kernel, by decide +kernel, by decide +kernel, by decide +kernel⟩
theorem za_495 : z_argAt 495 1 := ⟨by decide +kernel, by decide +kernel, by decide +kernel, by decide +kernel, by decide +kernel⟩
theorem za_509 : z_argAt 509 1 := ⟨by decide +kernel, by decide +kernel, by decide +kernel, by decide +kernel, by decide +kernel⟩
theorem za_518 : z_argAt 518 1 := ⟨by decide +kernel, by decide +kernel, by decide +kernel, by decide +kernel, by decide +kernel⟩
theorem za_532 : z_argAt 532 1 := ⟨by decide +kernel, by decide +kernel, by decide +kernel, by decide +kernel, by decide +kernel⟩
theorem za_541 : z_argAt 541 1 := ⟨by decide +kernel, by decide +kernel, by decide +kernel, by decide +kernel, by decide +kernel⟩
theorem za_555 : z_argAt 555 1 := ⟨by decide +kernel, by decide +kernel, by decide +kernel, by decide +kernel, by decide +kernel⟩
theorem za_564 : z_argAt 564 1 := ⟨by decide +kernel, by decide +kernel, by decide +kernel, by decide +kernel, by decide +kernel⟩
theorem za_591 : z_argAt 591 1 := ⟨by decide +kernel, by decide +kernel, by decide +kernel, by decide +kernel, by decide +kernel⟩
theorem za_596 : z_argAt 596 2 := ⟨by decide +kernel, by decide +kernel, by decide +kernel, by decide +kernel, by decide +kernel⟩
theorem za_605 : z_argAt 605 1 := ⟨by decide +kernel, by decide +kernel, by decide +kernel, by decide +kernel, by decide +kernel⟩
theorem za_610 : z_argAt 610 2 := ⟨by decide +kernel, by decide +kernel, by decide +kernel, by decide +kernel, by decide +kernel⟩
theorem za_624 : z_argAt 624 1 := ⟨by decide +kernel, by decide +kernel, by decide +kernel, by decide +kernel, by decide +kernel⟩
theorem za_629 : z_argAt 629 2 := ⟨by decide +kernel, by decide +kernel, by decide +kernel, by decide +kernel, by decide +kernel⟩
theorem za_638 : z_argAt 638 1 := ⟨by decide +kernel, by decide +kernel, by decide +kernel, by decide +kernel, by decide +kernel⟩
theorem za_643 : z_argAt 643 2 := ⟨by decide +kernel, by decide +kernel, by decide +kernel, by decide +kernel, by decide +kernel⟩
theorem za_657 : z_argAt 657 1 := ⟨by decide +kernel, by decide +kernel, by decide +kernel, by decide +kernel, by decide +kernel⟩
theorem za_662 : z_argAt 662 2 := ⟨by decide +kernel, by decide +kernel, by decide +kernel, by decide +kernel, by decide +kernel⟩
theorem za_667 : z_argAt 667 3 := ⟨by decide +kernel, by decide +kernel, by decide +kernel, by decide +kernel, by decide +kernel⟩
theorem za_676 : z_argAt 676 1 := ⟨by decide +kernel, by decide +kernel, by decide +kernel, by decide +kernel, by decide +kernel⟩
theorem za_681 : z_argAt 681 2 := ⟨by decide +kernel, by decide +kernel, by decide +kernel, by decide +kernel, by decide +kernel⟩
theorem za_686 : z_argAt 686 3 := ⟨by decide +kernel, by decide +kernel, by decide +kernel, by decide +kernel, by decide +kernel⟩
theorem za_700 : z_argAt 700 1 := ⟨by decide +kernel, by decide +kernel, by decide +kernel, by decide +kernel, by decide +kernel⟩
theorem za_705 : z_argAt 705 2 := ⟨by decide +kernel, by decide +kernel, by decide +kernel, by decide +kernel, by decide +kernel⟩
theorem za_714 : z_argAt 714 1 := ⟨by decide +kernel, by decide +kernel, by decide +kernel, by decide +kernel, by decide +kernel⟩
theorem za_719 : z_argAt 719 2 := ⟨by decide +kernel, by decide +kernel, by decide +kernel, by decide +kernel, by decide +kernel⟩
theorem za_733 : z_argAt 733 1 := ⟨by decide +kernel, by decide +kernel, by decide +kernel, by decide +kernel, by decide +kernel⟩
theorem za_738 : z_argAt 738 2 := ⟨by decide +kernel, by decide +kernel, by decide +kernel, by decide +kernel, by decide +kernel⟩
theorem za_747 : z_argAt 747 1 := ⟨by decide +kernel, by decide +kernel, by decide +kernel, by decide +kernel, by decide +kernel⟩
theorem za_752 : z_argAt 752 2 := ⟨by decide +kernel, by decide +kernel, by decide +kernel, by decide +kernel, by decide +kernel⟩
theorem za_766 : z_argAt 766 1 := ⟨by decide +kernel, by decide +kernel, by decide +kernel, by decide +kernel, by decide +kernel⟩
theorem za_775 : z_argAt 775 1 := ⟨by decide +kernel, by decide +kernel, by decide +kernel, by decide +kernel, by decide +kernel⟩
theorem za_789 : z_argAt 789 1 := ⟨by decide +kernel, by decide +kernel, by decide +kernel, by decide +kernel, by decide +kernel⟩
theorem za_794 : z_argAt 794 2 := ⟨by decide +kernel, by decide +kernel, by decide +kernel, by decide +kernel, by decide +kernel⟩
theorem za_803 : z_argAt 803 1 := ⟨by decide +kernel, by decide +kernel, by decide +kernel, by decide +kernel, by decide +kernel⟩
theorem za_808 : z_argAt 808 2 := ⟨by decide +kernel, by decide +kernel, by decide +kernel, by decide +kernel, by decide +kernel⟩
theorem za_822 : z_argAt 822 1 := ⟨by decide +kernel, by decide +kernel, by decide +kernel, by decide +kernel, by decide +kernel⟩
theorem za_827 : z_argAt 827 2 := ⟨by decide +kernel, by decide +kernel, by decide +kernel, by decide +kernel, by decide +kernel⟩
theorem za_836 : z_argAt 836 1 := ⟨by decide +kernel, by decide +kernel, by decide +kernel, by decide +kernel, by decide +kernel⟩
theorem za_841 : z_argAt 841 2 := ⟨by decide +kernel, by decide +kernel, by decide +kernel, by decide +kernel, by decide +kernel⟩
theorem za_855 : z_argAt 855 1 := ⟨by decide +kernel, by decide +kernel, by decide +kernel, by decide +kernel, by decide +kernel⟩
theorem za_860 : z_argAt 860 2 := ⟨by decide +kernel, by decide +kernel, by decide +kernel, by decide +kernel, by decide +kernel⟩
theorem za_865 : z_argAt 865 3 := ⟨by decide +kernel, by decide +kernel, by decide +kernel, by decide +kernel, by decide +kernel⟩
theorem za_874 : z_argAt 874 1 := ⟨by decide +kernel, by decide +kernel, by decide +kernel, by decide +kernel, by decide +kernel⟩
theorem za_879 : z_argAt 879 2 := ⟨by decide +kernel, by decide +kernel, by decide +kernel, by decide +kernel, by decide +kernel⟩
theorem za_884 : z_argAt 884 3 := ⟨by decide +kernel, by decide +kernel, by decide +kernel, by decide +kernel, by decide +kernel⟩
theorem za_898 : z_argAt 898 1 := ⟨by decide +kernel, by decide +kernel, by decide +kernel, by decide +kernel, by decide +kernel⟩
theorem za_903 : z_argAt 903 2 := ⟨by decide +kernel, by decide +kernel, by decide +kernel, by decide +kernel, by decide +kernel⟩
theorem za_908 : z_argAt 908 3 := ⟨by decide +kernel, by decide +kernel, by decide +kernel, by decide +kernel, by decide +kernel⟩
theorem za_917 : z_argAt 917 1 := ⟨by decide +kernel, by decide +kernel, by decide +kernel, by decide +kernel, by decide +kernel⟩
theorem za_922 : z_argAt 922 2 := ⟨by decide +kernel, by decide +kernel, by decide +kernel, by decide +kernel, by decide +kernel⟩
theorem za_927 : z_argAt 927 3 := ⟨by decide +kernel, by decide +kernel, by decide +kernel, by decide +kernel, by decide +kernel⟩
theorem za_941 : z_argAt 941 1 := ⟨by decide +kernel, by decide +kernel, by decide +kernel, by decide +kernel, by decide +kernel⟩
theorem za_946 : z_argAt 946 2 := ⟨by decide +kernel, by decide +kernel, by decide +kernel, by decide +kernel, by decide +kernel⟩
theorem za_951 : z_argAt 951 3 := ⟨by decide +kernel, by decide +kernel, by decide +kernel, by decide +kernel, by decide +kernel⟩
theorem za_956 : z_argAt 956 4 := ⟨by decide +kernel, by decide +kernel, by decide +kernel, by decide +kernel, by decide +kernel⟩
theorem za_965 : z_argAt 965 1 := ⟨by decide +kernel, by decide +kernel, by decide +kernel, by decide +kernel, by decide +kernel⟩
theorem za_970 : z_argAt 970 2 := ⟨by decide +kernel, by decide +kernel, by decide +kernel, by decide +kernel, by decide +kernel⟩
theorem za_975 : z_argAt 975 3 := ⟨by decide +kernel, by decide +kernel, by decide +kernel, by decide +kernel, by decide +kernel⟩
theorem za_980 : z_argAt 980 4 := ⟨by decide +kernel, by decide +kernel, by decide +kernel, by decide +kernel, by decide +kernel⟩
theorem za_994 : z_argAt 994 1 := ⟨by decide +kernel, by decide +kernel, by decide +kernel, by decide +kernel, by decide +kernel⟩
theorem za_999 : z_argAt 999 2 := ⟨by decide +kernel, by decide +kernel, by decide +kernel, by decide +kernel, by decide +kernel⟩
theorem za_1004 : z_argAt 1004 3 := ⟨by decide +kernel, by decide +kernel, by decide +kernel, by decide +kernel, by decide +kernel⟩
theorem za_1013 : z_argAt 1013 1 := ⟨by decide +kernel, by decide +kernel, by decide +kernel, by decide +kernel, by decide +kernel⟩
theorem za_1018 : z_argAt 1018 2 := ⟨by decide +kernel, by decide +kernel, by decide +kernel, by decide +kernel, by decide +kernel⟩
theorem za_1023 : z_argAt 1023 3 := ⟨by decide +kernel, by decide +kernel, by decide +kernel, by decide +kernel, by decide +kernel⟩
theorem za_1037 : z_argAt 1037 1 := ⟨by decide +kernel, by decide +kernel, by decide +kernel, by decide +kernel, by decide +kernel⟩
theorem za_1042 : z_argAt 1042 2 := ⟨by decide +kernel, by decide +kernel, by decide +kernel, by decide +kernel, by decide +kernel⟩
theorem za_1051 : z_argAt 1051 1 := ⟨by decide +kernel, by decide +kernel, by decide +kernel, by decide +kernel, by decide +kernel⟩
theorem za_1056 : z_argAt 1056 2 := ⟨by decide +kernel, by decide +kernel, by decide +kernel, by decide +kernel, by decide +kernel⟩
theorem za_1070 : z_argAt 1070 1 := ⟨by decide +kernel, by decide +kernel, by decide +kernel, by decide +kernel, by decide +kernel⟩
theorem za_1075 : z_argAt 1075 2 := ⟨by decide +kernel, by decide +kernel, by decide +kernel, by decide +kernel, by decide +kernel⟩
theorem za_1084 : z_argAt 1084 1 := ⟨by decide +kernel, by decide +kernel, by decide +kernel, by decide +kernel, by decide +kernel⟩
theorem za_1089 : z_argAt 1089 2 := ⟨by decide +kernel, by decide +kernel, by decide +kernel, by decide +kernel, by decide +kernel⟩
theorem za_1103 : z_argAt 1103 1 := ⟨by decide +kernel, by decide +kernel, by decide +kernel, by decide +kernel, by decide +kernel⟩
theorem za_1108 : z_argAt 1108 2 := ⟨by decide +kernel, by decide +kernel, by decide +kernel, by decide +kernel, by decide +kernel⟩
theorem za_1113 : z_argAt 1113 3 := ⟨by decide +kernel, by decide +kernel, by decide +kernel, by decide +kernel, by decide +kernel⟩
theorem za_1118 : z_argAt 1118 4 := ⟨by decide +kernel, by decide +kernel, by decide +kernel, by decide +kernel, by decide +kernel⟩
theorem za_1127 : z_argAt 1127 1 := ⟨by decide +kernel, by decide +kernel, by decide +kernel, by decide +kernel, by decide +kernel⟩
theorem za_1132 : z_argAt 1132 2 := ⟨by decide +kernel, by decide +kernel, by decide +kernel, by decide +kernel, by decide +kernel⟩
theorem za_1137 : z_argAt 1137 3 := ⟨by decide +kernel, by decide +kernel, by decide +kernel, by decide +kernel, by decide +kernel⟩
theorem za_1142 : z_argAt 1142 4 := ⟨by decide +kernel, by decide +kernel, by decide +kernel, by decide +kernel, by decide +kernel⟩
theorem za_1156 : z_argAt 1156 1 := ⟨by decide +kernel, by decide +kernel, by decide +kernel, by decide +kernel, by decide +kernel⟩
theorem za_1161 : z_argAt 1161 2 := ⟨by decide +kernel, by decide +kernel, by decide +kernel, by decide +kernel, by decide +kernel⟩
theorem za_1166 : z_argAt 1166 3 := ⟨by decide +kernel, by decide +kernel, by decide +kernel, by decide +kernel, by decide +kernel⟩
theorem za_1171 : z_argAt 1171 4 := ⟨by decide +kernel, by decide +kernel, by decide +kernel, by decide +kernel, by decide +kernel⟩
theorem za_1180 : z_argAt 1180 1 := ⟨by decide +kernel, by decide +kernel, by decide +kernel, by decide +kernel, by decide +kernel⟩
theorem za_1185 : z_argAt 1185 2 := ⟨by decide +kernel, by decide +kernel, by decide +kernel, by decide +kernel, by decide +kernel⟩
theorem za_1190 : z_argAt 1190 3 := ⟨by decide +kernel, by decide +kernel, by decide +kernel, by decide +kernel, by decide +kernel⟩
theorem za_1195 : z_argAt 1195 4 := ⟨by decide +kernel, by decide +kernel, by decide +kernel, by decide +kernel, by decide +kernel⟩
theorem za_1209 : z_argAt 1209 1 := ⟨by decide +kernel, by decide +kernel, by decide +kernel, by decide +kernel, by decide +kernel⟩
theorem za_1214 : z_argAt 1214 2 := ⟨by decide +kernel, by decide +kernel, by decide +kernel, by decide +kernel, by decide +kernel⟩
theorem za_1219 : z_argAt 1219 3 := ⟨by decide +kernel, by decide +kernel, by decide +kernel, by decide +kernel, by decide +kernel⟩
theorem za_1224 : z_argAt 1224 4 := ⟨by decide +kernel, by decide +kernel, by decide +kernel, by decide +kernel, by decide +kernel⟩
theorem za_1233 : z_argAt 1233 1 := ⟨by decide +kernel, by decide +kernel, by decide +kernel, by decide +kernel, by decide +kernel⟩
theorem za_1238 : z_argAt 1238 2 := ⟨by decide +kernel, by decide +kernel, by decide +kernel, by decide +kernel, by decide +kernel⟩
theorem za_1243 : z_argAt 1243 3 := ⟨by decide +kernel, by decide +kernel, by decide +kernel, by decide +kernel, by decide +kernel⟩
theorem za_1248 : z_argAt 1248 4 := ⟨by decide +kernel, by decide +kernel, by decide +kernel, by decide +kernel, by decide +kernel⟩
theorem za_1262 : z_argAt 1262 1 := ⟨by decide +kernel, by decide +kernel, by decide +kernel, by decide +kernel, by decide +kernel⟩
theorem za_1271 : z_argAt 1271 1 := ⟨by decide +kernel, by decide +kernel, by decide +kernel, by decide +kernel, by decide +kernel⟩
theorem za_1285 : z_argAt 1285 1 := ⟨by decide +kernel, by decide +kernel, by decide +kernel, by decide +kernel, by decide +kernel⟩
theorem za_1294 : z_argAt 1294 1 := ⟨by decide +kernel, by decide +kernel, by decide +kernel, by decide +kernel, by decide +kernel⟩
theorem za_1308 : z_argAt 1308 1 := ⟨by decide +kernel, by decide +kernel, by decide +kernel, by decide +kernel, by decide +kernel⟩
theorem za_1313 : z_argAt 1313 2 := ⟨by decide +kernel, by decide +kernel, by decide +kernel, by decide +kernel, by decide +kernel⟩
theorem za_1318 : z_argAt 1318 3 := ⟨by decide +kernel, by decide +kernel, by decide +kernel, by decide +kernel, by decide +kernel⟩
theorem za_1327 : z_argAt 1327 1 := ⟨by decide +kernel, by decide +kernel, by decide +kernel, by decide +kernel, by decide +kernel⟩
theorem za_1332 : z_argAt 1332 2 := ⟨by decide +kernel, by decide +kernel, by decide +kernel, by decide +kernel, by decide +kernel⟩
theorem za_1337 : z_argAt 1337 3 := ⟨by decide +kernel, by decide +kernel, by decide +kernel, by decide +kernel, by decide +kernel⟩
theorem za_1351 : z_argAt 1351 1 := ⟨by decide +kernel, by decide +kernel, by decide +kernel, by decide +kernel, by decide +kernel⟩
theorem za_1360 : z_argAt 1360 1 := ⟨by decide +kernel, by decide +kernel, by decide +kernel, by decide +kernel, by decide +kernel⟩
theorem za_1387 : z_argAt 1387 1 := ⟨by decide +kernel, by decide +kernel, by decide +kernel, by decide +kernel, by decide +kernel⟩
theorem za_1392 : z_argAt 1392 2 := ⟨by decide +kernel, by decide +kernel, by decide +kernel, by decide +kernel, by decide +kernel⟩
theorem za_1401 : z_argAt 1401 1 := ⟨by decide +kernel, by decide +kernel, by decide +kernel, by decide +kernel, by decide +kernel⟩
theorem za_1406 : z_argAt 1406 2 := ⟨by decide +kernel, by decide +kernel, by decide +kernel, by decide +kernel, by decide +kernel⟩
theorem za_1420 : z_argAt 1420 1 := ⟨by decide +kernel, by decide +kernel, by decide +kernel, by decide +kernel, by decide +kernel⟩
theorem za_1429 : z_argAt 1429 1 := ⟨by decide +kernel, by decide +kernel, by decide +kernel, by decide +kernel, by decide +kernel⟩
theorem za_1443 : z_argAt 1443 1 := ⟨by decide +kernel, by decide +kernel, by decide +kernel, by decide +kernel, by decide +kernel⟩
theorem za_1448 : z_argAt 1448 2 := ⟨by decide +kernel, by decide +kernel, by decide +kernel, by decide +kernel, by decide +kernel⟩
theorem za_1453 : z_argAt 1453 3 := ⟨by decide +kernel, by decide +kernel, by decide +kernel, by decide +kernel, by decide +kernel⟩
theorem za_1462 : z_argAt 1462 1 := ⟨by decide +kernel, by decide +kernel, by decide +kernel, by decide +kernel, by decide +kernel⟩
theorem za_1467 : z_argAt 1467 2 := ⟨by decide +kernel, by decide +kernel, by decide +kernel, by decide +kernel, by decide +kernel⟩
theorem za_1472 : z_argAt 1472 3 := ⟨by decide +kernel, by decide +kernel, by decide +kernel, by decide +kernel, by decide +kernel⟩
theorem za_1486 : z_argAt 1486 1 := ⟨by decide +kernel, by decide +kernel, by decide +kernel, by decide +kernel, by decide +kernel⟩
theorem za_1491 : z_argAt 1491 2 := ⟨by decide +kernel, by decide +kernel, by decide +kernel, by decide +kernel, by decide +kernel⟩
theorem za_1496 : z_argAt 1496 3 := ⟨by decide +kernel, by decide +kernel, by decide +kernel, by decide +kernel, by decide +kernel⟩
theorem za_1505 : z_argAt 1505 1 := ⟨by decide +kernel, by decide +kernel, by decide +kernel, by decide +kernel, by decide +kernel⟩
theorem za_1510 : z_argAt 1510 2 := ⟨by decide +kernel, by decide +kernel, by decide +kernel, by decide +kernel, by decide +kernel⟩
theorem za_1515 : z_argAt 1515 3 := ⟨by decide +kernel, by decide +kernel, by decide +kernel, by decide +kernel, by decide +kernel⟩
theorem za_1529 : z_argAt 1529 1 := ⟨by decide +kernel, by decide +kernel, by decide +kernel, by decide +kernel, by decide +kernel⟩
theorem za_1534 : z_argAt 1534 2 := ⟨by decide +kernel, by decide +kernel, by decide +kernel, by decide +kernel, by decide +kernel⟩
theorem za_1543 : z_argAt 1543 1 := ⟨by decide +kernel, by decide +kernel, by decide +kernel, by decide +kernel, by decide +kernel⟩
theorem za_1548 : z_argAt 1548 2 := ⟨by decide +kernel, by decide +kernel, by decide +kernel, by decide +kernel, by decide +kernel⟩
theorem za_1562 : z_argAt 1562 1 := ⟨by decide +kernel, by decide +kernel, by decide +kernel, by decide +kernel, by decide +kernel⟩
theorem za_1567 : z_argAt 1567 2 := ⟨by decide +kernel, by decide +kernel, by decide +kernel, by decide +kernel, by decide +kernel⟩
theorem za_1572 : z_argAt 1572 3 := ⟨by decide +kernel, by decide +kernel, by decide +kernel, by decide +kernel, by decide +kernel⟩
theorem za_1577 : z_argAt 1577 4 := ⟨by decide +kernel, by decide +kernel, by decide +kernel, by decide +kernel, by decide +kernel⟩
theorem za_1582 : z_argAt 1582 5 := ⟨by decide +kernel, by decide +kernel, by decide +kernel, by decide +kernel, by decide +kernel⟩
theorem za_1591 : z_argAt 1591 1 := ⟨by decide +kernel, by decide +kernel, by decide +kernel, by decide +kernel, by decide +kernel⟩
theorem za_1596 : z_argAt 1596 2 := ⟨by decide +kernel, by decide +kernel, by decide +kernel, by decide +kernel, by decide +kernel⟩
theorem za_1601 : z_argAt 1601 3 := ⟨by decide +kernel, by decide +kernel, by decide +kernel, by decide +kernel, by decide +kernel⟩
theorem za_1606 : z_argAt 1606 4 := ⟨by decide +kernel, by decide +kernel, by decide +kernel, by decide +kernel, by decide +kernel⟩
theorem za_1611 : z_argAt 1611 5 := ⟨by decide +kernel, by decide +kernel, by decide +kernel, by decide +kernel, by decide +kernel⟩
theorem za_1625 : z_argAt 1625 1 := ⟨by decide +kernel, by decide +kernel, by decide +kernel, by decide +kernel, by decide +kernel⟩
theorem za_1630 : z_argAt 1630 2 := ⟨by decide +kernel, by decide +kernel, by decide +kernel, by decide +kernel, by decide +kernel⟩
theorem za_1635 : z_argAt 1635 3 := ⟨by decide +kernel, by decide +kernel, by decide +kernel, by decide +kernel, by decide +kernel⟩
theorem za_1644 : z_argAt 1644 1 := ⟨by decide +kernel, by decide +kernel, by decide +kernel, by decide +kernel, by decide +kernel⟩
theorem za_1649 : z_argAt 1649 2 := ⟨by decide +kernel, by decide +kernel, by decide +kernel, by decide +kernel, by decide +kernel⟩
theorem za_1654 : z_argAt 1654 3 := ⟨by decide +kernel, by decide +kernel, by decide +kernel, by decide +kernel, by decide +kernel⟩
theorem za_1668 : z_argAt 1668 1 := ⟨by decide +kernel, by decide +kernel, by decide +kernel, by decide +kernel, by decide +kernel⟩
theorem za_1673 : z_argAt 1673 2 := ⟨by decide +kernel, by decide +kernel, by decide +kernel, by decide +kernel, by decide +kernel⟩
theorem za_1682 : z_argAt 1682 1 := ⟨by decide +kernel, by decide +kernel, by decide +kernel, by decide +kernel, by decide +kernel⟩
theorem za_1687 : z_argAt 1687 2 := ⟨by decide +kernel, by decide +kernel, by decide +kernel, by decide +kernel, by decide +kernel⟩
theorem za_1701 : z_argAt 1701 1 := ⟨by decide +kernel, by decide +kernel, by decide +kernel, by decide +kernel, by decide +kernel⟩
theorem za_1706 : z_argAt 1706 2 := ⟨by decide +kernel, by decide +kernel, by decide +kernel, by decide +kernel, by decide +kernel⟩
theorem za_1715 : z_argAt 1715 1 := ⟨by decide +kernel, by decide +kernel, by decide +kernel, by decide +kernel, by decide +kernel⟩
theorem za_1720 : z_argAt 1720 2 := ⟨by decide +kernel, by decide +kernel, by decide +kernel, by decide +kernel, by decide +kernel⟩
theorem za_1734 : z_argAt 1734 1 := ⟨by decide +kernel, by decide +kernel, by decide +kernel, by decide +kernel, by decide +kernel⟩
theorem za_1739 : z_argAt 1739 2 := ⟨by decide +kernel, by decide +kernel, by decide +kernel, by decide +kernel, by decide +kernel⟩
theorem za_1748 : z_argAt 1748 1 := ⟨by decide +kernel, by decide +kernel, by decide +kernel, by decide +kernel, by decide +kernel⟩
theorem za_1753 : z_argAt 1753 2 := ⟨by decide +kernel, by decide +kernel, by decide +kernel, by decide +kernel, by decide +kernel⟩
theorem za_1767 : z_argAt 1767 1 := ⟨by decide +kernel, by decide +kernel, by decide +kernel, by decide +kernel, by decide +kernel⟩
theorem za_1776 : z_argAt 1776 1 := ⟨by decide +kernel, by decide +kernel, by decide +kernel, by decide +kernel, by decide +kernel⟩
theorem za_1790 : z_argAt 1790 1 := ⟨by decide +kernel, by decide +kernel, by decide +kernel, by decide +kernel, by decide +kernel⟩
theorem za_1795 : z_argAt 1795 2 := ⟨by decide +kernel, by decide +kernel, by decide +kernel, by decide +kernel, by decide +kernel⟩
theorem za_1804 : z_argAt 1804 1 := ⟨by decide +kernel, by decide +kernel, by decide +kernel, by decide +kernel, by decide +kernel⟩
theorem za_1809 : z_argAt 1809 2 := ⟨by decide +kernel, by decide +kernel, by decide +kernel, by decide +kernel, by decide +kernel⟩
theorem za_1849 : z_argAt 1849 1 := ⟨by decide +kernel, by decide +kernel, by decide +kernel, by decide +kernel, by decide +kernel⟩
theorem za_1858 : z_argAt 1858 1 := ⟨by decide +kernel, by decide +kernel, by decide +kernel, by decide +kernel, by decide +kernel⟩
theorem kw_337 : Cond.methodLink R_law 13 yX6_scent ∈ sk_W := sk_m (i := 337) (by decide +kernel) (by decide +kernel)
theorem kw_338 : Cond.instanceMethod yX6_scent ∈ sk_W := sk_m (i := 338) (by decide +kernel) (by decide +kernel)
theorem kw_339 : Cond.selects RX6 yX6_scent yX6_scent ∈ sk_W := sk_m (i := 339) (by decide +kernel) (by decide +kernel)
theorem kw_340 : Cond.code yX6_scent cX6_scent 3 (some .int) ∈ sk_W := sk_m (i := 340) (by decide +kernel) (by decide +kernel)
theorem kw_353 : Cond.methodLink R_law 18 yX6_told ∈ sk_W := sk_m (i := 353) (by decide +kernel) (by decide +kernel)
theorem kw_354 : Cond.instanceMethod yX6_told ∈ sk_W := sk_m (i := 354) (by decide +kernel) (by decide +kernel)
theorem kw_355 : Cond.selects RX6 yX6_told yX6_told ∈ sk_W := sk_m (i := 355) (by decide +kernel) (by decide +kernel)
theorem kw_356 : Cond.code yX6_told cX6_told 3 (some .int) ∈ sk_W := sk_m (i := 356) (by decide +kernel) (by decide +kernel)
theorem kw_364 : Cond.methodLink R_law 22 yX6_as ∈ sk_W := sk_m (i := 364) (by decide +kernel) (by decide +kernel)
theorem kw_365 : Cond.instanceMethod yX6_as ∈ sk_W := sk_m (i := 365) (by decide +kernel) (by decide +kernel)
theorem kw_366 : Cond.selects RX6 yX6_as yX6_as ∈ sk_W := sk_m (i := 366) (by decide +kernel) (by decide +kernel)
theorem kw_367 : Cond.code yX6_as cX6_as 3 (some .int) ∈ sk_W := sk_m (i := 367) (by decide +kernel) (by decide +kernel)
theorem kw_374 : Cond.methodLink R_law 26 yX6_turns ∈ sk_W := sk_m (i := 374) (by decide +kernel) (by decide +kernel)
theorem kw_375 : Cond.instanceMethod yX6_turns ∈ sk_W := sk_m (i := 375) (by decide +kernel) (by decide +kernel)
theorem kw_376 : Cond.selects RX6 yX6_turns yX6_turns ∈ sk_W := sk_m (i := 376) (by decide +kernel) (by decide +kernel)
theorem kw_377 : Cond.code yX6_turns cX6_turns 4 (some .int) ∈ sk_W := sk_m (i := 377) (by decide +kernel) (by decide +kernel)
theorem kw_378 : Cond.methodLink R_law 30 yX6_pace ∈ sk_W := sk_m (i := 378) (by decide +kernel) (by decide +kernel)
theorem kw_379 : Cond.instanceMethod yX6_pace ∈ sk_W := sk_m (i := 379) (by decide +kernel) (by decide +kernel)
theorem kw_380 : Cond.selects RX6 yX6_pace yX6_pace ∈ sk_W := sk_m (i := 380) (by decide +kernel) (by decide +kernel)
theorem kw_381 : Cond.code yX6_pace cX6_pace 4 (some .int) ∈ sk_W := sk_m (i := 381) (by decide +kernel) (by decide +kernel)
theorem kw_382 : Cond.methodLink R_law 34 yX6_hide ∈ sk_W := sk_m (i := 382) (by decide +kernel) (by decide +kernel)
theorem kw_383 : Cond.instanceMethod yX6_hide ∈ sk_W := sk_m (i := 383) (by decide +kernel) (by decide +kernel)
theorem kw_384 : Cond.selects RX6 yX6_hide yX6_hide ∈ sk_W := sk_m (i := 384) (by decide +kernel) (by decide +kernel)
theorem kw_385 : Cond.code yX6_hide cX6_hide 5 (some .int) ∈ sk_W := sk_m (i := 385) (by decide +kernel) (by decide +kernel)
theorem kw_386 : Cond.methodLink R_law 39 yX6_nose ∈ sk_W := sk_m (i := 386) (by decide +kernel) (by decide +kernel)
theorem kw_387 : Cond.instanceMethod yX6_nose ∈ sk_W := sk_m (i := 387) (by decide +kernel) (by decide +kernel)
theorem kw_388 : Cond.selects RX6 yX6_nose yX6_nose ∈ sk_W := sk_m (i := 388) (by decide +kernel) (by decide +kernel)
theorem kw_389 : Cond.code yX6_nose cX6_nose 4 (some .int) ∈ sk_W := sk_m (i := 389) (by decide +kernel) (by decide +kernel)
theorem kw_393 : Cond.methodLink R_law 43 yX6_word ∈ sk_W := sk_m (i := 393) (by decide +kernel) (by decide +kernel)
theorem kw_394 : Cond.instanceMethod yX6_word ∈ sk_W := sk_m (i := 394) (by decide +kernel) (by decide +kernel)
theorem kw_395 : Cond.selects RX6 yX6_word yX6_word ∈ sk_W := sk_m (i := 395) (by decide +kernel) (by decide +kernel)
theorem kw_396 : Cond.code yX6_word cX6_word 3 (some .int) ∈ sk_W := sk_m (i := 396) (by decide +kernel) (by decide +kernel)
theorem kw_398 : Cond.methodLink R_law 48 yX6_wordOf ∈ sk_W := sk_m (i := 398) (by decide +kernel) (by decide +kernel)
theorem kw_399 : Cond.instanceMethod yX6_wordOf ∈ sk_W := sk_m (i := 399) (by decide +kernel) (by decide +kernel)
theorem kw_400 : Cond.selects RX6 yX6_wordOf yX6_wordOf ∈ sk_W := sk_m (i := 400) (by decide +kernel) (by decide +kernel)
theorem kw_401 : Cond.code yX6_wordOf cX6_wordOf 2 (some .int) ∈ sk_W := sk_m (i := 401) (by decide +kernel) (by decide +kernel)
theorem kw_406 : Cond.methodLink R_law 52 yX6_deal ∈ sk_W := sk_m (i := 406) (by decide +kernel) (by decide +kernel)
theorem kw_407 : Cond.instanceMethod yX6_deal ∈ sk_W := sk_m (i := 407) (by decide +kernel) (by decide +kernel)
theorem kw_408 : Cond.selects RX6 yX6_deal yX6_deal ∈ sk_W := sk_m (i := 408) (by decide +kernel) (by decide +kernel)
theorem kw_409 : Cond.code yX6_deal cX6_deal 6 (some .int) ∈ sk_W := sk_m (i := 409) (by decide +kernel) (by decide +kernel)
theorem kw_418 : Cond.methodLink R_law 56 yX6_seed ∈ sk_W := sk_m (i := 418) (by decide +kernel) (by decide +kernel)
theorem kw_419 : Cond.instanceMethod yX6_seed ∈ sk_W := sk_m (i := 419) (by decide +kernel) (by decide +kernel)
theorem kw_420 : Cond.selects RX6 yX6_seed yX6_seed ∈ sk_W := sk_m (i := 420) (by decide +kernel) (by decide +kernel)
theorem kw_421 : Cond.code yX6_seed cX6_seed 3 (some .int) ∈ sk_W := sk_m (i := 421) (by decide +kernel) (by decide +kernel)
theorem kw_422 : Cond.methodLink R_law 60 yX6_cloth ∈ sk_W := sk_m (i := 422) (by decide +kernel) (by decide +kernel)
theorem kw_423 : Cond.instanceMethod yX6_cloth ∈ sk_W := sk_m (i := 423) (by decide +kernel) (by decide +kernel)
theorem kw_424 : Cond.selects RX6 yX6_cloth yX6_cloth ∈ sk_W := sk_m (i := 424) (by decide +kernel) (by decide +kernel)
theorem kw_425 : Cond.code yX6_cloth cX6_cloth 1 (some .int) ∈ sk_W := sk_m (i := 425) (by decide +kernel) (by decide +kernel)
theorem kw_426 : Cond.methodLink R_law 65 yX6_strength ∈ sk_W := sk_m (i := 426) (by decide +kernel) (by decide +kernel)
theorem kw_427 : Cond.instanceMethod yX6_strength ∈ sk_W := sk_m (i := 427) (by decide +kernel) (by decide +kernel)
theorem kw_428 : Cond.selects RX6 yX6_strength yX6_strength ∈ sk_W := sk_m (i := 428) (by decide +kernel) (by decide +kernel)
theorem kw_429 : Cond.code yX6_strength cX6_strength 3 (some .int) ∈ sk_W := sk_m (i := 429) (by decide +kernel) (by decide +kernel)
theorem kw_438 : Cond.methodLink R_law 69 yX6_loses ∈ sk_W := sk_m (i := 438) (by decide +kernel) (by decide +kernel)
theorem kw_439 : Cond.instanceMethod yX6_loses ∈ sk_W := sk_m (i := 439) (by decide +kernel) (by decide +kernel)
theorem kw_440 : Cond.selects RX6 yX6_loses yX6_loses ∈ sk_W := sk_m (i := 440) (by decide +kernel) (by decide +kernel)
theorem kw_441 : Cond.code yX6_loses cX6_loses 3 (some .int) ∈ sk_W := sk_m (i := 441) (by decide +kernel) (by decide +kernel)
theorem kw_460 : Cond.methodLink R_law 73 yX6_dab ∈ sk_W := sk_m (i := 460) (by decide +kernel) (by decide +kernel)
theorem kw_461 : Cond.instanceMethod yX6_dab ∈ sk_W := sk_m (i := 461) (by decide +kernel) (by decide +kernel)
theorem kw_462 : Cond.selects RX6 yX6_dab yX6_dab ∈ sk_W := sk_m (i := 462) (by decide +kernel) (by decide +kernel)
theorem kw_463 : Cond.code yX6_dab cX6_dab 4 (some .int) ∈ sk_W := sk_m (i := 463) (by decide +kernel) (by decide +kernel)
theorem kw_468 : Cond.methodLink R_law 77 yX6_warm ∈ sk_W := sk_m (i := 468) (by decide +kernel) (by decide +kernel)
theorem kw_469 : Cond.instanceMethod yX6_warm ∈ sk_W := sk_m (i := 469) (by decide +kernel) (by decide +kernel)
theorem kw_470 : Cond.selects RX6 yX6_warm yX6_warm ∈ sk_W := sk_m (i := 470) (by decide +kernel) (by decide +kernel)
theorem kw_471 : Cond.code yX6_warm cX6_warm 4 (some .int) ∈ sk_W := sk_m (i := 471) (by decide +kernel) (by decide +kernel)
theorem kw_472 : Cond.methodLink R_law 81 yX6_touch ∈ sk_W := sk_m (i := 472) (by decide +kernel) (by decide +kernel)
theorem kw_473 : Cond.instanceMethod yX6_touch ∈ sk_W := sk_m (i := 473) (by decide +kernel) (by decide +kernel)
theorem kw_474 : Cond.selects RX6 yX6_touch yX6_touch ∈ sk_W := sk_m (i := 474) (by decide +kernel) (by decide +kernel)
theorem kw_475 : Cond.code yX6_touch cX6_touch 6 (some .int) ∈ sk_W := sk_m (i := 475) (by decide +kernel) (by decide +kernel)
theorem kw_480 : Cond.methodLink R_law 85 yX6_days ∈ sk_W := sk_m (i := 480) (by decide +kernel) (by decide +kernel)
theorem kw_481 : Cond.instanceMethod yX6_days ∈ sk_W := sk_m (i := 481) (by decide +kernel) (by decide +kernel)
theorem kw_482 : Cond.selects RX6 yX6_days yX6_days ∈ sk_W := sk_m (i := 482) (by decide +kernel) (by decide +kernel)
theorem kw_483 : Cond.code yX6_days cX6_days 3 (some .int) ∈ sk_W := sk_m (i := 483) (by decide +kernel) (by decide +kernel)
theorem kw_493 : Cond.methodLink R_law 89 yX6_smells ∈ sk_W := sk_m (i := 493) (by decide +kernel) (by decide +kernel)
theorem kw_494 : Cond.instanceMethod yX6_smells ∈ sk_W := sk_m (i := 494) (by decide +kernel) (by decide +kernel)
theorem kw_495 : Cond.selects RX6 yX6_smells yX6_smells ∈ sk_W := sk_m (i := 495) (by decide +kernel) (by decide +kernel)
theorem kw_496 : Cond.code yX6_smells cX6_smells 3 (some .int) ∈ sk_W := sk_m (i := 496) (by decide +kernel) (by decide +kernel)
theorem kw_505 : Cond.methodLink R_law 93 yX6_says ∈ sk_W := sk_m (i := 505) (by decide +kernel) (by decide +kernel)
theorem kw_506 : Cond.instanceMethod yX6_says ∈ sk_W := sk_m (i := 506) (by decide +kernel) (by decide +kernel)
theorem kw_507 : Cond.selects RX6 yX6_says yX6_says ∈ sk_W := sk_m (i := 507) (by decide +kernel) (by decide +kernel)
theorem kw_508 : Cond.code yX6_says cX6_says 3 (some .int) ∈ sk_W := sk_m (i := 508) (by decide +kernel) (by decide +kernel)
theorem kw_514 : Cond.methodLink R_law 97 yX6_behind ∈ sk_W := sk_m (i := 514) (by decide +kernel) (by decide +kernel)
theorem kw_515 : Cond.instanceMethod yX6_behind ∈ sk_W := sk_m (i := 515) (by decide +kernel) (by decide +kernel)
theorem kw_516 : Cond.selects RX6 yX6_behind yX6_behind ∈ sk_W := sk_m (i := 516) (by decide +kernel) (by decide +kernel)
theorem kw_517 : Cond.code yX6_behind cX6_behind 4 (some .int) ∈ sk_W := sk_m (i := 517) (by decide +kernel) (by decide +kernel)
theorem kw_539 : Cond.methodLink R_law 101 yX6_first ∈ sk_W := sk_m (i := 539) (by decide +kernel) (by decide +kernel)
theorem kw_540 : Cond.instanceMethod yX6_first ∈ sk_W := sk_m (i := 540) (by decide +kernel) (by decide +kernel)
theorem kw_541 : Cond.selects RX6 yX6_first yX6_first ∈ sk_W := sk_m (i := 541) (by decide +kernel) (by decide +kernel)
theorem kw_542 : Cond.code yX6_first cX6_first 5 (some .int) ∈ sk_W := sk_m (i := 542) (by decide +kernel) (by decide +kernel)
theorem kw_545 : Cond.methodLink R_law 105 yX6_lasts ∈ sk_W := sk_m (i := 545) (by decide +kernel) (by decide +kernel)
theorem kw_546 : Cond.instanceMethod yX6_lasts ∈ sk_W := sk_m (i := 546) (by decide +kernel) (by decide +kernel)
theorem kw_547 : Cond.selects RX6 yX6_lasts yX6_lasts ∈ sk_W := sk_m (i := 547) (by decide +kernel) (by decide +kernel)
theorem kw_548 : Cond.code yX6_lasts cX6_lasts 7 (some .int) ∈ sk_W := sk_m (i := 548) (by decide +kernel) (by decide +kernel)
theorem kw_549 : Cond.methodLink R_law 110 yX6_whispers ∈ sk_W := sk_m (i := 549) (by decide +kernel) (by decide +kernel)
theorem kw_550 : Cond.instanceMethod yX6_whispers ∈ sk_W := sk_m (i := 550) (by decide +kernel) (by decide +kernel)
theorem kw_551 : Cond.selects RX6 yX6_whispers yX6_whispers ∈ sk_W := sk_m (i := 551) (by decide +kernel) (by decide +kernel)
theorem kw_552 : Cond.code yX6_whispers cX6_whispers 7 (some .int) ∈ sk_W := sk_m (i := 552) (by decide +kernel) (by decide +kernel)
theorem kw_559 : Cond.methodLink R_law 114 yX6_dumb ∈ sk_W := sk_m (i := 559) (by decide +kernel) (by decide +kernel)
theorem kw_560 : Cond.instanceMethod yX6_dumb ∈ sk_W := sk_m (i := 560) (by decide +kernel) (by decide +kernel)
theorem kw_561 : Cond.selects RX6 yX6_dumb yX6_dumb ∈ sk_W := sk_m (i := 561) (by decide +kernel) (by decide +kernel)
theorem kw_562 : Cond.code yX6_dumb cX6_dumb 4 (some .int) ∈ sk_W := sk_m (i := 562) (by decide +kernel) (by decide +kernel)
theorem kw_568 : Cond.methodLink R_law 118 yX6_secret ∈ sk_W := sk_m (i := 568) (by decide +kernel) (by decide +kernel)
theorem kw_569 : Cond.instanceMethod yX6_secret ∈ sk_W := sk_m (i := 569) (by decide +kernel) (by decide +kernel)
theorem kw_570 : Cond.selects RX6 yX6_secret yX6_secret ∈ sk_W := sk_m (i := 570) (by decide +kernel) (by decide +kernel)
theorem kw_571 : Cond.code yX6_secret cX6_secret 5 (some .int) ∈ sk_W := sk_m (i := 571) (by decide +kernel) (by decide +kernel)
theorem kw_572 : Cond.methodLink R_law 122 yX6_least ∈ sk_W := sk_m (i := 572) (by decide +kernel) (by decide +kernel)
theorem kw_573 : Cond.instanceMethod yX6_least ∈ sk_W := sk_m (i := 573) (by decide +kernel) (by decide +kernel)
theorem kw_574 : Cond.selects RX6 yX6_least yX6_least ∈ sk_W := sk_m (i := 574) (by decide +kernel) (by decide +kernel)
theorem kw_575 : Cond.code yX6_least cX6_least 5 (some .int) ∈ sk_W := sk_m (i := 575) (by decide +kernel) (by decide +kernel)
theorem kw_584 : Cond.methodLink R_law 126 yX6_letter ∈ sk_W := sk_m (i := 584) (by decide +kernel) (by decide +kernel)
theorem kw_585 : Cond.instanceMethod yX6_letter ∈ sk_W := sk_m (i := 585) (by decide +kernel) (by decide +kernel)
theorem kw_586 : Cond.selects RX6 yX6_letter yX6_letter ∈ sk_W := sk_m (i := 586) (by decide +kernel) (by decide +kernel)
theorem kw_587 : Cond.code yX6_letter cX6_letter 8 (some .int) ∈ sk_W := sk_m (i := 587) (by decide +kernel) (by decide +kernel)
theorem kw_590 : Cond.methodLink R_law 130 yX6_dated ∈ sk_W := sk_m (i := 590) (by decide +kernel) (by decide +kernel)
theorem kw_591 : Cond.instanceMethod yX6_dated ∈ sk_W := sk_m (i := 591) (by decide +kernel) (by decide +kernel)
theorem kw_592 : Cond.selects RX6 yX6_dated yX6_dated ∈ sk_W := sk_m (i := 592) (by decide +kernel) (by decide +kernel)
theorem kw_593 : Cond.code yX6_dated cX6_dated 9 (some .int) ∈ sk_W := sk_m (i := 593) (by decide +kernel) (by decide +kernel)
theorem kw_609 : Cond.methodLink R_law 134 yX6_price ∈ sk_W := sk_m (i := 609) (by decide +kernel) (by decide +kernel)
theorem kw_610 : Cond.instanceMethod yX6_price ∈ sk_W := sk_m (i := 610) (by decide +kernel) (by decide +kernel)
theorem kw_611 : Cond.selects RX6 yX6_price yX6_price ∈ sk_W := sk_m (i := 611) (by decide +kernel) (by decide +kernel)
theorem kw_612 : Cond.code yX6_price cX6_price 4 (some .int) ∈ sk_W := sk_m (i := 612) (by decide +kernel) (by decide +kernel)
theorem kw_622 : Cond.methodLink R_law 138 yX6_lie ∈ sk_W := sk_m (i := 622) (by decide +kernel) (by decide +kernel)
theorem kw_623 : Cond.instanceMethod yX6_lie ∈ sk_W := sk_m (i := 623) (by decide +kernel) (by decide +kernel)
theorem kw_624 : Cond.selects RX6 yX6_lie yX6_lie ∈ sk_W := sk_m (i := 624) (by decide +kernel) (by decide +kernel)
theorem kw_625 : Cond.code yX6_lie cX6_lie 3 (some .int) ∈ sk_W := sk_m (i := 625) (by decide +kernel) (by decide +kernel)
theorem kw_629 : Cond.methodLink R_law 142 yX6_feed ∈ sk_W := sk_m (i := 629) (by decide +kernel) (by decide +kernel)
theorem kw_630 : Cond.instanceMethod yX6_feed ∈ sk_W := sk_m (i := 630) (by decide +kernel) (by decide +kernel)
theorem kw_631 : Cond.selects RX6 yX6_feed yX6_feed ∈ sk_W := sk_m (i := 631) (by decide +kernel) (by decide +kernel)
theorem kw_632 : Cond.code yX6_feed cX6_feed 4 (some .int) ∈ sk_W := sk_m (i := 632) (by decide +kernel) (by decide +kernel)
theorem kw_637 : Cond.methodLink R_law 146 yX6_trim ∈ sk_W := sk_m (i := 637) (by decide +kernel) (by decide +kernel)
theorem kw_638 : Cond.instanceMethod yX6_trim ∈ sk_W := sk_m (i := 638) (by decide +kernel) (by decide +kernel)
theorem kw_639 : Cond.selects RX6 yX6_trim yX6_trim ∈ sk_W := sk_m (i := 639) (by decide +kernel) (by decide +kernel)
theorem kw_640 : Cond.code yX6_trim cX6_trim 2 (some .int) ∈ sk_W := sk_m (i := 640) (by decide +kernel) (by decide +kernel)
theorem kw_641 : Cond.methodLink R_law 150 yX6_text ∈ sk_W := sk_m (i := 641) (by decide +kernel) (by decide +kernel)
theorem kw_642 : Cond.instanceMethod yX6_text ∈ sk_W := sk_m (i := 642) (by decide +kernel) (by decide +kernel)
theorem kw_643 : Cond.selects RX6 yX6_text yX6_text ∈ sk_W := sk_m (i := 643) (by decide +kernel) (by decide +kernel)
theorem kw_644 : Cond.code yX6_text cX6_text 3 (some .int) ∈ sk_W := sk_m (i := 644) (by decide +kernel) (by decide +kernel)
theorem kw_829 : Cond.methodLink R_law 154 yX6_textTold ∈ sk_W := sk_m (i := 829) (by decide +kernel) (by decide +kernel)
theorem kw_830 : Cond.instanceMethod yX6_textTold ∈ sk_W := sk_m (i := 830) (by decide +kernel) (by decide +kernel)
theorem kw_831 : Cond.selects RX6 yX6_textTold yX6_textTold ∈ sk_W := sk_m (i := 831) (by decide +kernel) (by decide +kernel)
theorem kw_832 : Cond.code yX6_textTold cX6_textTold 3 (some .int) ∈ sk_W := sk_m (i := 832) (by decide +kernel) (by decide +kernel)
theorem kw_833 : Cond.methodLink R_law 158 yX6_why ∈ sk_W := sk_m (i := 833) (by decide +kernel) (by decide +kernel)
theorem kw_834 : Cond.instanceMethod yX6_why ∈ sk_W := sk_m (i := 834) (by decide +kernel) (by decide +kernel)
theorem kw_835 : Cond.selects RX6 yX6_why yX6_why ∈ sk_W := sk_m (i := 835) (by decide +kernel) (by decide +kernel)
theorem kw_836 : Cond.code yX6_why cX6_why 2 (some .int) ∈ sk_W := sk_m (i := 836) (by decide +kernel) (by decide +kernel)
theorem kw_837 : Cond.methodLink R_law 162 yX6_sheet ∈ sk_W := sk_m (i := 837) (by decide +kernel) (by decide +kernel)
theorem kw_838 : Cond.instanceMethod yX6_sheet ∈ sk_W := sk_m (i := 838) (by decide +kernel) (by decide +kernel)
theorem kw_839 : Cond.selects RX6 yX6_sheet yX6_sheet ∈ sk_W := sk_m (i := 839) (by decide +kernel) (by decide +kernel)
theorem kw_840 : Cond.code yX6_sheet cX6_sheet 4 (some .int) ∈ sk_W := sk_m (i := 840) (by decide +kernel) (by decide +kernel)
theorem kw_847 : Cond.methodLink R_law 166 yX6_mark ∈ sk_W := sk_m (i := 847) (by decide +kernel) (by decide +kernel)
theorem kw_848 : Cond.instanceMethod yX6_mark ∈ sk_W := sk_m (i := 848) (by decide +kernel) (by decide +kernel)
theorem kw_849 : Cond.selects RX6 yX6_mark yX6_mark ∈ sk_W := sk_m (i := 849) (by decide +kernel) (by decide +kernel)
theorem kw_850 : Cond.code yX6_mark cX6_mark 5 (some .int) ∈ sk_W := sk_m (i := 850) (by decide +kernel) (by decide +kernel)
theorem kw_854 : Cond.methodLink R_law 170 yX6_pour ∈ sk_W := sk_m (i := 854) (by decide +kernel) (by decide +kernel)
theorem kw_855 : Cond.instanceMethod yX6_pour ∈ sk_W := sk_m (i := 855) (by decide +kernel) (by decide +kernel)
theorem kw_856 : Cond.selects RX6 yX6_pour yX6_pour ∈ sk_W := sk_m (i := 856) (by decide +kernel) (by decide +kernel)
theorem kw_857 : Cond.code yX6_pour cX6_pour 7 (some .int) ∈ sk_W := sk_m (i := 857) (by decide +kernel) (by decide +kernel)
theorem kw_858 : Cond.methodLink R_law 174 yX6_copy ∈ sk_W := sk_m (i := 858) (by decide +kernel) (by decide +kernel)
theorem kw_859 : Cond.instanceMethod yX6_copy ∈ sk_W := sk_m (i := 859) (by decide +kernel) (by decide +kernel)
theorem kw_860 : Cond.selects RX6 yX6_copy yX6_copy ∈ sk_W := sk_m (i := 860) (by decide +kernel) (by decide +kernel)
theorem kw_861 : Cond.code yX6_copy cX6_copy 8 (some .int) ∈ sk_W := sk_m (i := 861) (by decide +kernel) (by decide +kernel)
theorem kw_866 : Cond.methodLink R_law 179 yX6_lay ∈ sk_W := sk_m (i := 866) (by decide +kernel) (by decide +kernel)
theorem kw_867 : Cond.instanceMethod yX6_lay ∈ sk_W := sk_m (i := 867) (by decide +kernel) (by decide +kernel)
theorem kw_868 : Cond.selects RX6 yX6_lay yX6_lay ∈ sk_W := sk_m (i := 868) (by decide +kernel) (by decide +kernel)
theorem kw_869 : Cond.code yX6_lay cX6_lay 6 (some .int) ∈ sk_W := sk_m (i := 869) (by decide +kernel) (by decide +kernel)
theorem kw_878 : Cond.methodLink R_law 183 yX6_ask ∈ sk_W := sk_m (i := 878) (by decide +kernel) (by decide +kernel)
theorem kw_879 : Cond.instanceMethod yX6_ask ∈ sk_W := sk_m (i := 879) (by decide +kernel) (by decide +kernel)
theorem kw_880 : Cond.selects RX6 yX6_ask yX6_ask ∈ sk_W := sk_m (i := 880) (by decide +kernel) (by decide +kernel)
theorem kw_881 : Cond.code yX6_ask cX6_ask 4 (some .int) ∈ sk_W := sk_m (i := 881) (by decide +kernel) (by decide +kernel)
theorem kw_882 : Cond.methodLink R_law 187 yX6_item ∈ sk_W := sk_m (i := 882) (by decide +kernel) (by decide +kernel)
theorem kw_883 : Cond.instanceMethod yX6_item ∈ sk_W := sk_m (i := 883) (by decide +kernel) (by decide +kernel)
theorem kw_884 : Cond.selects RX6 yX6_item yX6_item ∈ sk_W := sk_m (i := 884) (by decide +kernel) (by decide +kernel)
theorem kw_885 : Cond.code yX6_item cX6_item 5 (some .int) ∈ sk_W := sk_m (i := 885) (by decide +kernel) (by decide +kernel)
theorem kw_886 : Cond.methodLink R_law 191 yX6_rest ∈ sk_W := sk_m (i := 886) (by decide +kernel) (by decide +kernel)
theorem kw_887 : Cond.instanceMethod yX6_rest ∈ sk_W := sk_m (i := 887) (by decide +kernel) (by decide +kernel)
theorem kw_888 : Cond.selects RX6 yX6_rest yX6_rest ∈ sk_W := sk_m (i := 888) (by decide +kernel) (by decide +kernel)
theorem kw_889 : Cond.code yX6_rest cX6_rest 4 (some .int) ∈ sk_W := sk_m (i := 889) (by decide +kernel) (by decide +kernel)
theorem kw_890 : Cond.methodLink R_law 195 yX6_tell ∈ sk_W := sk_m (i := 890) (by decide +kernel) (by decide +kernel)
theorem kw_891 : Cond.instanceMethod yX6_tell ∈ sk_W := sk_m (i := 891) (by decide +kernel) (by decide +kernel)
theorem kw_892 : Cond.selects RX6 yX6_tell yX6_tell ∈ sk_W := sk_m (i := 892) (by decide +kernel) (by decide +kernel)
theorem kw_893 : Cond.code yX6_tell cX6_tell 2 (some .int) ∈ sk_W := sk_m (i := 893) (by decide +kernel) (by decide +kernel)
theorem kw_894 : Cond.methodLink R_law 199 yX6_check ∈ sk_W := sk_m (i := 894) (by decide +kernel) (by decide +kernel)
theorem kw_895 : Cond.instanceMethod yX6_check ∈ sk_W := sk_m (i := 895) (by decide +kernel) (by decide +kernel)
theorem kw_896 : Cond.selects RX6 yX6_check yX6_check ∈ sk_W := sk_m (i := 896) (by decide +kernel) (by decide +kernel)
theorem kw_897 : Cond.code yX6_check cX6_check 6 (some .int) ∈ sk_W := sk_m (i := 897) (by decide +kernel) (by decide +kernel)
theorem kw_907 : Cond.methodLink R_law 203 yX6_keep ∈ sk_W := sk_m (i := 907) (by decide +kernel) (by decide +kernel)
theorem kw_908 : Cond.instanceMethod yX6_keep ∈ sk_W := sk_m (i := 908) (by decide +kernel) (by decide +kernel)
theorem kw_909 : Cond.selects RX6 yX6_keep yX6_keep ∈ sk_W := sk_m (i := 909) (by decide +kernel) (by decide +kernel)
theorem kw_910 : Cond.code yX6_keep cX6_keep 1 (some .int) ∈ sk_W := sk_m (i := 910) (by decide +kernel) (by decide +kernel)
theorem kw_916 : Cond.methodLink R_law 207 yX6_back ∈ sk_W := sk_m (i := 916) (by decide +kernel) (by decide +kernel)
theorem kw_917 : Cond.instanceMethod yX6_back ∈ sk_W := sk_m (i := 917) (by decide +kernel) (by decide +kernel)
theorem kw_918 : Cond.selects RX6 yX6_back yX6_back ∈ sk_W := sk_m (i := 918) (by decide +kernel) (by decide +kernel)
theorem kw_919 : Cond.code yX6_back cX6_back 1 (some .int) ∈ sk_W := sk_m (i := 919) (by decide +kernel) (by decide +kernel)
theorem kw_920 : Cond.methodLink R_law 211 yX6_count ∈ sk_W := sk_m (i := 920) (by decide +kernel) (by decide +kernel)
theorem kw_921 : Cond.instanceMethod yX6_count ∈ sk_W := sk_m (i := 921) (by decide +kernel) (by decide +kernel)
theorem kw_922 : Cond.selects RX6 yX6_count yX6_count ∈ sk_W := sk_m (i := 922) (by decide +kernel) (by decide +kernel)
theorem kw_923 : Cond.code yX6_count cX6_count 2 (some .int) ∈ sk_W := sk_m (i := 923) (by decide +kernel) (by decide +kernel)
theorem kw_1035 : Cond.methodLink R_law 17 yX7_scent ∈ sk_W := sk_m (i := 1035) (by decide +kernel) (by decide +kernel)
theorem kw_1036 : Cond.instanceMethod yX7_scent ∈ sk_W := sk_m (i := 1036) (by decide +kernel) (by decide +kernel)
theorem kw_1037 : Cond.selects RX7 yX7_scent yX7_scent ∈ sk_W := sk_m (i := 1037) (by decide +kernel) (by decide +kernel)
theorem kw_1038 : Cond.code yX7_scent cX7_scent 3 (some .int) ∈ sk_W := sk_m (i := 1038) (by decide +kernel) (by decide +kernel)
theorem kw_1050 : Cond.methodLink R_law 21 yX7_told ∈ sk_W := sk_m (i := 1050) (by decide +kernel) (by decide +kernel)
theorem kw_1051 : Cond.instanceMethod yX7_told ∈ sk_W := sk_m (i := 1051) (by decide +kernel) (by decide +kernel)
theorem kw_1052 : Cond.selects RX7 yX7_told yX7_told ∈ sk_W := sk_m (i := 1052) (by decide +kernel) (by decide +kernel)
theorem kw_1053 : Cond.code yX7_told cX7_told 3 (some .int) ∈ sk_W := sk_m (i := 1053) (by decide +kernel) (by decide +kernel)
theorem kw_1067 : Cond.methodLink R_law 25 yX7_as ∈ sk_W := sk_m (i := 1067) (by decide +kernel) (by decide +kernel)
theorem kw_1068 : Cond.instanceMethod yX7_as ∈ sk_W := sk_m (i := 1068) (by decide +kernel) (by decide +kernel)
theorem kw_1069 : Cond.selects RX7 yX7_as yX7_as ∈ sk_W := sk_m (i := 1069) (by decide +kernel) (by decide +kernel)
theorem kw_1070 : Cond.code yX7_as cX7_as 3 (some .int) ∈ sk_W := sk_m (i := 1070) (by decide +kernel) (by decide +kernel)
theorem kw_1075 : Cond.methodLink R_law 29 yX7_turns ∈ sk_W := sk_m (i := 1075) (by decide +kernel) (by decide +kernel)
theorem kw_1076 : Cond.instanceMethod yX7_turns ∈ sk_W := sk_m (i := 1076) (by decide +kernel) (by decide +kernel)
theorem kw_1077 : Cond.selects RX7 yX7_turns yX7_turns ∈ sk_W := sk_m (i := 1077) (by decide +kernel) (by decide +kernel)
theorem kw_1078 : Cond.code yX7_turns cX7_turns 3 (some .int) ∈ sk_W := sk_m (i := 1078) (by decide +kernel) (by decide +kernel)
theorem kw_1083 : Cond.methodLink R_law 33 yX7_pace ∈ sk_W := sk_m (i := 1083) (by decide +kernel) (by decide +kernel)
theorem kw_1084 : Cond.instanceMethod yX7_pace ∈ sk_W := sk_m (i := 1084) (by decide +kernel) (by decide +kernel)
theorem kw_1085 : Cond.selects RX7 yX7_pace yX7_pace ∈ sk_W := sk_m (i := 1085) (by decide +kernel) (by decide +kernel)
theorem kw_1086 : Cond.code yX7_pace cX7_pace 3 (some .int) ∈ sk_W := sk_m (i := 1086) (by decide +kernel) (by decide +kernel)
theorem kw_1087 : Cond.methodLink R_law 38 yX7_hide ∈ sk_W := sk_m (i := 1087) (by decide +kernel) (by decide +kernel)
theorem kw_1088 : Cond.instanceMethod yX7_hide ∈ sk_W := sk_m (i := 1088) (by decide +kernel) (by decide +kernel)
theorem kw_1089 : Cond.selects RX7 yX7_hide yX7_hide ∈ sk_W := sk_m (i := 1089) (by decide +kernel) (by decide +kernel)
theorem kw_1090 : Cond.code yX7_hide cX7_hide 6 (some .int) ∈ sk_W := sk_m (i := 1090) (by decide +kernel) (by decide +kernel)
theorem kw_1091 : Cond.methodLink R_law 42 yX7_nose ∈ sk_W := sk_m (i := 1091) (by decide +kernel) (by decide +kernel)
theorem kw_1092 : Cond.instanceMethod yX7_nose ∈ sk_W := sk_m (i := 1092) (by decide +kernel) (by decide +kernel)
theorem kw_1093 : Cond.selects RX7 yX7_nose yX7_nose ∈ sk_W := sk_m (i := 1093) (by decide +kernel) (by decide +kernel)
theorem kw_1094 : Cond.code yX7_nose cX7_nose 3 (some .int) ∈ sk_W := sk_m (i := 1094) (by decide +kernel) (by decide +kernel)
theorem kw_1099 : Cond.methodLink R_law 47 yX7_word ∈ sk_W := sk_m (i := 1099) (by decide +kernel) (by decide +kernel)
theorem kw_1100 : Cond.instanceMethod yX7_word ∈ sk_W := sk_m (i := 1100) (by decide +kernel) (by decide +kernel)
theorem kw_1101 : Cond.selects RX7 yX7_word yX7_word ∈ sk_W := sk_m (i := 1101) (by decide +kernel) (by decide +kernel)
theorem kw_1102 : Cond.code yX7_word cX7_word 2 (some .int) ∈ sk_W := sk_m (i := 1102) (by decide +kernel) (by decide +kernel)
theorem kw_1103 : Cond.methodLink R_law 51 yX7_wordOf ∈ sk_W := sk_m (i := 1103) (by decide +kernel) (by decide +kernel)
theorem kw_1104 : Cond.instanceMethod yX7_wordOf ∈ sk_W := sk_m (i := 1104) (by decide +kernel) (by decide +kernel)
theorem kw_1105 : Cond.selects RX7 yX7_wordOf yX7_wordOf ∈ sk_W := sk_m (i := 1105) (by decide +kernel) (by decide +kernel)
theorem kw_1106 : Cond.code yX7_wordOf cX7_wordOf 2 (some .int) ∈ sk_W := sk_m (i := 1106) (by decide +kernel) (by decide +kernel)
theorem kw_1111 : Cond.methodLink R_law 55 yX7_deal ∈ sk_W := sk_m (i := 1111) (by decide +kernel) (by decide +kernel)
theorem kw_1112 : Cond.instanceMethod yX7_deal ∈ sk_W := sk_m (i := 1112) (by decide +kernel) (by decide +kernel)
theorem kw_1113 : Cond.selects RX7 yX7_deal yX7_deal ∈ sk_W := sk_m (i := 1113) (by decide +kernel) (by decide +kernel)
theorem kw_1114 : Cond.code yX7_deal cX7_deal 4 (some .int) ∈ sk_W := sk_m (i := 1114) (by decide +kernel) (by decide +kernel)
theorem kw_1121 : Cond.methodLink R_law 59 yX7_seed ∈ sk_W := sk_m (i := 1121) (by decide +kernel) (by decide +kernel)
theorem kw_1122 : Cond.instanceMethod yX7_seed ∈ sk_W := sk_m (i := 1122) (by decide +kernel) (by decide +kernel)
theorem kw_1123 : Cond.selects RX7 yX7_seed yX7_seed ∈ sk_W := sk_m (i := 1123) (by decide +kernel) (by decide +kernel)
theorem kw_1124 : Cond.code yX7_seed cX7_seed 2 (some .int) ∈ sk_W := sk_m (i := 1124) (by decide +kernel) (by decide +kernel)
theorem kw_1125 : Cond.methodLink R_law 64 yX7_cloth ∈ sk_W := sk_m (i := 1125) (by decide +kernel) (by decide +kernel)
theorem kw_1126 : Cond.instanceMethod yX7_cloth ∈ sk_W := sk_m (i := 1126) (by decide +kernel) (by decide +kernel)
theorem kw_1127 : Cond.selects RX7 yX7_cloth yX7_cloth ∈ sk_W := sk_m (i := 1127) (by decide +kernel) (by decide +kernel)
theorem kw_1128 : Cond.code yX7_cloth cX7_cloth 3 (some .int) ∈ sk_W := sk_m (i := 1128) (by decide +kernel) (by decide +kernel)
theorem kw_1129 : Cond.methodLink R_law 68 yX7_strength ∈ sk_W := sk_m (i := 1129) (by decide +kernel) (by decide +kernel)
theorem kw_1130 : Cond.instanceMethod yX7_strength ∈ sk_W := sk_m (i := 1130) (by decide +kernel) (by decide +kernel)
theorem kw_1131 : Cond.selects RX7 yX7_strength yX7_strength ∈ sk_W := sk_m (i := 1131) (by decide +kernel) (by decide +kernel)
theorem kw_1132 : Cond.code yX7_strength cX7_strength 3 (some .int) ∈ sk_W := sk_m (i := 1132) (by decide +kernel) (by decide +kernel)
theorem kw_1141 : Cond.methodLink R_law 72 yX7_loses ∈ sk_W := sk_m (i := 1141) (by decide +kernel) (by decide +kernel)
theorem kw_1142 : Cond.instanceMethod yX7_loses ∈ sk_W := sk_m (i := 1142) (by decide +kernel) (by decide +kernel)
theorem kw_1143 : Cond.selects RX7 yX7_loses yX7_loses ∈ sk_W := sk_m (i := 1143) (by decide +kernel) (by decide +kernel)
theorem kw_1144 : Cond.code yX7_loses cX7_loses 3 (some .int) ∈ sk_W := sk_m (i := 1144) (by decide +kernel) (by decide +kernel)
theorem kw_1171 : Cond.methodLink R_law 76 yX7_dab ∈ sk_W := sk_m (i := 1171) (by decide +kernel) (by decide +kernel)
theorem kw_1172 : Cond.instanceMethod yX7_dab ∈ sk_W := sk_m (i := 1172) (by decide +kernel) (by decide +kernel)
theorem kw_1173 : Cond.selects RX7 yX7_dab yX7_dab ∈ sk_W := sk_m (i := 1173) (by decide +kernel) (by decide +kernel)
theorem kw_1174 : Cond.code yX7_dab cX7_dab 5 (some .int) ∈ sk_W := sk_m (i := 1174) (by decide +kernel) (by decide +kernel)
theorem kw_1176 : Cond.methodLink R_law 80 yX7_warm ∈ sk_W := sk_m (i := 1176) (by decide +kernel) (by decide +kernel)
theorem kw_1177 : Cond.instanceMethod yX7_warm ∈ sk_W := sk_m (i := 1177) (by decide +kernel) (by decide +kernel)
theorem kw_1178 : Cond.selects RX7 yX7_warm yX7_warm ∈ sk_W := sk_m (i := 1178) (by decide +kernel) (by decide +kernel)
theorem kw_1179 : Cond.code yX7_warm cX7_warm 3 (some .int) ∈ sk_W := sk_m (i := 1179) (by decide +kernel) (by decide +kernel)
theorem kw_1180 : Cond.methodLink R_law 84 yX7_touch ∈ sk_W := sk_m (i := 1180) (by decide +kernel) (by decide +kernel)
theorem kw_1181 : Cond.instanceMethod yX7_touch ∈ sk_W := sk_m (i := 1181) (by decide +kernel) (by decide +kernel)
theorem kw_1182 : Cond.selects RX7 yX7_touch yX7_touch ∈ sk_W := sk_m (i := 1182) (by decide +kernel) (by decide +kernel)
theorem kw_1183 : Cond.code yX7_touch cX7_touch 6 (some .int) ∈ sk_W := sk_m (i := 1183) (by decide +kernel) (by decide +kernel)
theorem kw_1184 : Cond.methodLink R_law 88 yX7_days ∈ sk_W := sk_m (i := 1184) (by decide +kernel) (by decide +kernel)
theorem kw_1185 : Cond.instanceMethod yX7_days ∈ sk_W := sk_m (i := 1185) (by decide +kernel) (by decide +kernel)
theorem kw_1186 : Cond.selects RX7 yX7_days yX7_days ∈ sk_W := sk_m (i := 1186) (by decide +kernel) (by decide +kernel)
theorem kw_1187 : Cond.code yX7_days cX7_days 3 (some .int) ∈ sk_W := sk_m (i := 1187) (by decide +kernel) (by decide +kernel)
theorem kw_1193 : Cond.methodLink R_law 92 yX7_smells ∈ sk_W := sk_m (i := 1193) (by decide +kernel) (by decide +kernel)
theorem kw_1194 : Cond.instanceMethod yX7_smells ∈ sk_W := sk_m (i := 1194) (by decide +kernel) (by decide +kernel)
theorem kw_1195 : Cond.selects RX7 yX7_smells yX7_smells ∈ sk_W := sk_m (i := 1195) (by decide +kernel) (by decide +kernel)
theorem kw_1196 : Cond.code yX7_smells cX7_smells 3 (some .int) ∈ sk_W := sk_m (i := 1196) (by decide +kernel) (by decide +kernel)
theorem kw_1201 : Cond.methodLink R_law 96 yX7_says ∈ sk_W := sk_m (i := 1201) (by decide +kernel) (by decide +kernel)
theorem kw_1202 : Cond.instanceMethod yX7_says ∈ sk_W := sk_m (i := 1202) (by decide +kernel) (by decide +kernel)
theorem kw_1203 : Cond.selects RX7 yX7_says yX7_says ∈ sk_W := sk_m (i := 1203) (by decide +kernel) (by decide +kernel)
theorem kw_1204 : Cond.code yX7_says cX7_says 3 (some .int) ∈ sk_W := sk_m (i := 1204) (by decide +kernel) (by decide +kernel)
theorem kw_1213 : Cond.methodLink R_law 100 yX7_behind ∈ sk_W := sk_m (i := 1213) (by decide +kernel) (by decide +kernel)
theorem kw_1214 : Cond.instanceMethod yX7_behind ∈ sk_W := sk_m (i := 1214) (by decide +kernel) (by decide +kernel)
theorem kw_1215 : Cond.selects RX7 yX7_behind yX7_behind ∈ sk_W := sk_m (i := 1215) (by decide +kernel) (by decide +kernel)
theorem kw_1216 : Cond.code yX7_behind cX7_behind 5 (some .int) ∈ sk_W := sk_m (i := 1216) (by decide +kernel) (by decide +kernel)
theorem kw_1230 : Cond.methodLink R_law 104 yX7_first ∈ sk_W := sk_m (i := 1230) (by decide +kernel) (by decide +kernel)
theorem kw_1231 : Cond.instanceMethod yX7_first ∈ sk_W := sk_m (i := 1231) (by decide +kernel) (by decide +kernel)
theorem kw_1232 : Cond.selects RX7 yX7_first yX7_first ∈ sk_W := sk_m (i := 1232) (by decide +kernel) (by decide +kernel)
theorem kw_1233 : Cond.code yX7_first cX7_first 6 (some .int) ∈ sk_W := sk_m (i := 1233) (by decide +kernel) (by decide +kernel)
theorem kw_1234 : Cond.methodLink R_law 109 yX7_lasts ∈ sk_W := sk_m (i := 1234) (by decide +kernel) (by decide +kernel)
theorem kw_1235 : Cond.instanceMethod yX7_lasts ∈ sk_W := sk_m (i := 1235) (by decide +kernel) (by decide +kernel)
theorem kw_1236 : Cond.selects RX7 yX7_lasts yX7_lasts ∈ sk_W := sk_m (i := 1236) (by decide +kernel) (by decide +kernel)
theorem kw_1237 : Cond.code yX7_lasts cX7_lasts 7 (some .int) ∈ sk_W := sk_m (i := 1237) (by decide +kernel) (by decide +kernel)
theorem kw_1239 : Cond.methodLink R_law 113 yX7_whispers ∈ sk_W := sk_m (i := 1239) (by decide +kernel) (by decide +kernel)
theorem kw_1240 : Cond.instanceMethod yX7_whispers ∈ sk_W := sk_m (i := 1240) (by decide +kernel) (by decide +kernel)
theorem kw_1241 : Cond.selects RX7 yX7_whispers yX7_whispers ∈ sk_W := sk_m (i := 1241) (by decide +kernel) (by decide +kernel)
theorem kw_1242 : Cond.code yX7_whispers cX7_whispers 7 (some .int) ∈ sk_W := sk_m (i := 1242) (by decide +kernel) (by decide +kernel)
theorem kw_1246 : Cond.methodLink R_law 117 yX7_dumb ∈ sk_W := sk_m (i := 1246) (by decide +kernel) (by decide +kernel)
theorem kw_1247 : Cond.instanceMethod yX7_dumb ∈ sk_W := sk_m (i := 1247) (by decide +kernel) (by decide +kernel)
theorem kw_1248 : Cond.selects RX7 yX7_dumb yX7_dumb ∈ sk_W := sk_m (i := 1248) (by decide +kernel) (by decide +kernel)
theorem kw_1249 : Cond.code yX7_dumb cX7_dumb 5 (some .int) ∈ sk_W := sk_m (i := 1249) (by decide +kernel) (by decide +kernel)
theorem kw_1250 : Cond.methodLink R_law 121 yX7_secret ∈ sk_W := sk_m (i := 1250) (by decide +kernel) (by decide +kernel)
theorem kw_1251 : Cond.instanceMethod yX7_secret ∈ sk_W := sk_m (i := 1251) (by decide +kernel) (by decide +kernel)
theorem kw_1252 : Cond.selects RX7 yX7_secret yX7_secret ∈ sk_W := sk_m (i := 1252) (by decide +kernel) (by decide +kernel)
theorem kw_1253 : Cond.code yX7_secret cX7_secret 5 (some .int) ∈ sk_W := sk_m (i := 1253) (by decide +kernel) (by decide +kernel)
theorem kw_1254 : Cond.methodLink R_law 125 yX7_least ∈ sk_W := sk_m (i := 1254) (by decide +kernel) (by decide +kernel)
theorem kw_1255 : Cond.instanceMethod yX7_least ∈ sk_W := sk_m (i := 1255) (by decide +kernel) (by decide +kernel)
theorem kw_1256 : Cond.selects RX7 yX7_least yX7_least ∈ sk_W := sk_m (i := 1256) (by decide +kernel) (by decide +kernel)
theorem kw_1257 : Cond.code yX7_least cX7_least 5 (some .int) ∈ sk_W := sk_m (i := 1257) (by decide +kernel) (by decide +kernel)
theorem kw_1267 : Cond.methodLink R_law 129 yX7_letter ∈ sk_W := sk_m (i := 1267) (by decide +kernel) (by decide +kernel)
theorem kw_1268 : Cond.instanceMethod yX7_letter ∈ sk_W := sk_m (i := 1268) (by decide +kernel) (by decide +kernel)
theorem kw_1269 : Cond.selects RX7 yX7_letter yX7_letter ∈ sk_W := sk_m (i := 1269) (by decide +kernel) (by decide +kernel)
theorem kw_1270 : Cond.code yX7_letter cX7_letter 7 (some .int) ∈ sk_W := sk_m (i := 1270) (by decide +kernel) (by decide +kernel)
theorem kw_1272 : Cond.methodLink R_law 137 yX7_price ∈ sk_W := sk_m (i := 1272) (by decide +kernel) (by decide +kernel)
theorem kw_1273 : Cond.instanceMethod yX7_price ∈ sk_W := sk_m (i := 1273) (by decide +kernel) (by decide +kernel)
theorem kw_1274 : Cond.selects RX7 yX7_price yX7_price ∈ sk_W := sk_m (i := 1274) (by decide +kernel) (by decide +kernel)
theorem kw_1275 : Cond.code yX7_price cX7_price 5 (some .int) ∈ sk_W := sk_m (i := 1275) (by decide +kernel) (by decide +kernel)
theorem kw_1280 : Cond.methodLink R_law 141 yX7_lie ∈ sk_W := sk_m (i := 1280) (by decide +kernel) (by decide +kernel)
theorem kw_1281 : Cond.instanceMethod yX7_lie ∈ sk_W := sk_m (i := 1281) (by decide +kernel) (by decide +kernel)
theorem kw_1282 : Cond.selects RX7 yX7_lie yX7_lie ∈ sk_W := sk_m (i := 1282) (by decide +kernel) (by decide +kernel)
theorem kw_1283 : Cond.code yX7_lie cX7_lie 3 (some .int) ∈ sk_W := sk_m (i := 1283) (by decide +kernel) (by decide +kernel)
theorem kw_1288 : Cond.methodLink R_law 145 yX7_feed ∈ sk_W := sk_m (i := 1288) (by decide +kernel) (by decide +kernel)
theorem kw_1289 : Cond.instanceMethod yX7_feed ∈ sk_W := sk_m (i := 1289) (by decide +kernel) (by decide +kernel)
theorem kw_1290 : Cond.selects RX7 yX7_feed yX7_feed ∈ sk_W := sk_m (i := 1290) (by decide +kernel) (by decide +kernel)
theorem kw_1291 : Cond.code yX7_feed cX7_feed 6 (some .int) ∈ sk_W := sk_m (i := 1291) (by decide +kernel) (by decide +kernel)
theorem kw_1292 : Cond.methodLink R_law 149 yX7_trim ∈ sk_W := sk_m (i := 1292) (by decide +kernel) (by decide +kernel)
theorem kw_1293 : Cond.instanceMethod yX7_trim ∈ sk_W := sk_m (i := 1293) (by decide +kernel) (by decide +kernel)
theorem kw_1294 : Cond.selects RX7 yX7_trim yX7_trim ∈ sk_W := sk_m (i := 1294) (by decide +kernel) (by decide +kernel)
theorem kw_1295 : Cond.code yX7_trim cX7_trim 2 (some .int) ∈ sk_W := sk_m (i := 1295) (by decide +kernel) (by decide +kernel)
theorem kw_1296 : Cond.methodLink R_law 153 yX7_text ∈ sk_W := sk_m (i := 1296) (by decide +kernel) (by decide +kernel)
theorem kw_1297 : Cond.instanceMethod yX7_text ∈ sk_W := sk_m (i := 1297) (by decide +kernel) (by decide +kernel)
theorem kw_1298 : Cond.selects RX7 yX7_text yX7_text ∈ sk_W := sk_m (i := 1298) (by decide +kernel) (by decide +kernel)
theorem kw_1299 : Cond.code yX7_text cX7_text 3 (some .int) ∈ sk_W := sk_m (i := 1299) (by decide +kernel) (by decide +kernel)
theorem kw_1367 : Cond.methodLink R_law 157 yX7_textTold ∈ sk_W := sk_m (i := 1367) (by decide +kernel) (by decide +kernel)
theorem kw_1368 : Cond.instanceMethod yX7_textTold ∈ sk_W := sk_m (i := 1368) (by decide +kernel) (by decide +kernel)
theorem kw_1369 : Cond.selects RX7 yX7_textTold yX7_textTold ∈ sk_W := sk_m (i := 1369) (by decide +kernel) (by decide +kernel)
theorem kw_1370 : Cond.code yX7_textTold cX7_textTold 3 (some .int) ∈ sk_W := sk_m (i := 1370) (by decide +kernel) (by decide +kernel)
theorem kw_1375 : Cond.methodLink R_law 161 yX7_why ∈ sk_W := sk_m (i := 1375) (by decide +kernel) (by decide +kernel)
theorem kw_1376 : Cond.instanceMethod yX7_why ∈ sk_W := sk_m (i := 1376) (by decide +kernel) (by decide +kernel)
theorem kw_1377 : Cond.selects RX7 yX7_why yX7_why ∈ sk_W := sk_m (i := 1377) (by decide +kernel) (by decide +kernel)
theorem kw_1378 : Cond.code yX7_why cX7_why 2 (some .int) ∈ sk_W := sk_m (i := 1378) (by decide +kernel) (by decide +kernel)
theorem kw_1380 : Cond.methodLink R_law 165 yX7_sheet ∈ sk_W := sk_m (i := 1380) (by decide +kernel) (by decide +kernel)
theorem kw_1381 : Cond.instanceMethod yX7_sheet ∈ sk_W := sk_m (i := 1381) (by decide +kernel) (by decide +kernel)
theorem kw_1382 : Cond.selects RX7 yX7_sheet yX7_sheet ∈ sk_W := sk_m (i := 1382) (by decide +kernel) (by decide +kernel)
theorem kw_1383 : Cond.code yX7_sheet cX7_sheet 5 (some .int) ∈ sk_W := sk_m (i := 1383) (by decide +kernel) (by decide +kernel)
theorem kw_1389 : Cond.methodLink R_law 169 yX7_mark ∈ sk_W := sk_m (i := 1389) (by decide +kernel) (by decide +kernel)
theorem kw_1390 : Cond.instanceMethod yX7_mark ∈ sk_W := sk_m (i := 1390) (by decide +kernel) (by decide +kernel)
theorem kw_1391 : Cond.selects RX7 yX7_mark yX7_mark ∈ sk_W := sk_m (i := 1391) (by decide +kernel) (by decide +kernel)
theorem kw_1392 : Cond.code yX7_mark cX7_mark 4 (some .int) ∈ sk_W := sk_m (i := 1392) (by decide +kernel) (by decide +kernel)
theorem kw_1397 : Cond.methodLink R_law 173 yX7_pour ∈ sk_W := sk_m (i := 1397) (by decide +kernel) (by decide +kernel)
theorem kw_1398 : Cond.instanceMethod yX7_pour ∈ sk_W := sk_m (i := 1398) (by decide +kernel) (by decide +kernel)
theorem kw_1399 : Cond.selects RX7 yX7_pour yX7_pour ∈ sk_W := sk_m (i := 1399) (by decide +kernel) (by decide +kernel)
theorem kw_1400 : Cond.code yX7_pour cX7_pour 7 (some .int) ∈ sk_W := sk_m (i := 1400) (by decide +kernel) (by decide +kernel)
theorem kw_1401 : Cond.methodLink R_law 133 yX7_dated ∈ sk_W := sk_m (i := 1401) (by decide +kernel) (by decide +kernel)
theorem kw_1402 : Cond.instanceMethod yX7_dated ∈ sk_W := sk_m (i := 1402) (by decide +kernel) (by decide +kernel)
theorem kw_1403 : Cond.selects RX7 yX7_dated yX7_dated ∈ sk_W := sk_m (i := 1403) (by decide +kernel) (by decide +kernel)
theorem kw_1404 : Cond.code yX7_dated cX7_dated 13 (some .int) ∈ sk_W := sk_m (i := 1404) (by decide +kernel) (by decide +kernel)
theorem kw_1405 : Cond.methodLink R_law 178 yX7_copy ∈ sk_W := sk_m (i := 1405) (by decide +kernel) (by decide +kernel)
theorem kw_1406 : Cond.instanceMethod yX7_copy ∈ sk_W := sk_m (i := 1406) (by decide +kernel) (by decide +kernel)
theorem kw_1407 : Cond.selects RX7 yX7_copy yX7_copy ∈ sk_W := sk_m (i := 1407) (by decide +kernel) (by decide +kernel)
theorem kw_1408 : Cond.code yX7_copy cX7_copy 7 (some .int) ∈ sk_W := sk_m (i := 1408) (by decide +kernel) (by decide +kernel)
theorem kw_1409 : Cond.methodLink R_law 182 yX7_lay ∈ sk_W := sk_m (i := 1409) (by decide +kernel) (by decide +kernel)
theorem kw_1410 : Cond.instanceMethod yX7_lay ∈ sk_W := sk_m (i := 1410) (by decide +kernel) (by decide +kernel)
theorem kw_1411 : Cond.selects RX7 yX7_lay yX7_lay ∈ sk_W := sk_m (i := 1411) (by decide +kernel) (by decide +kernel)
theorem kw_1412 : Cond.code yX7_lay cX7_lay 7 (some .int) ∈ sk_W := sk_m (i := 1412) (by decide +kernel) (by decide +kernel)
theorem kw_1417 : Cond.methodLink R_law 186 yX7_ask ∈ sk_W := sk_m (i := 1417) (by decide +kernel) (by decide +kernel)
theorem kw_1418 : Cond.instanceMethod yX7_ask ∈ sk_W := sk_m (i := 1418) (by decide +kernel) (by decide +kernel)
theorem kw_1419 : Cond.selects RX7 yX7_ask yX7_ask ∈ sk_W := sk_m (i := 1419) (by decide +kernel) (by decide +kernel)
theorem kw_1420 : Cond.code yX7_ask cX7_ask 3 (some .int) ∈ sk_W := sk_m (i := 1420) (by decide +kernel) (by decide +kernel)
theorem kw_1421 : Cond.methodLink R_law 190 yX7_item ∈ sk_W := sk_m (i := 1421) (by decide +kernel) (by decide +kernel)
theorem kw_1422 : Cond.instanceMethod yX7_item ∈ sk_W := sk_m (i := 1422) (by decide +kernel) (by decide +kernel)
theorem kw_1423 : Cond.selects RX7 yX7_item yX7_item ∈ sk_W := sk_m (i := 1423) (by decide +kernel) (by decide +kernel)
theorem kw_1424 : Cond.code yX7_item cX7_item 4 (some .int) ∈ sk_W := sk_m (i := 1424) (by decide +kernel) (by decide +kernel)
theorem kw_1425 : Cond.methodLink R_law 194 yX7_rest ∈ sk_W := sk_m (i := 1425) (by decide +kernel) (by decide +kernel)
theorem kw_1426 : Cond.instanceMethod yX7_rest ∈ sk_W := sk_m (i := 1426) (by decide +kernel) (by decide +kernel)
theorem kw_1427 : Cond.selects RX7 yX7_rest yX7_rest ∈ sk_W := sk_m (i := 1427) (by decide +kernel) (by decide +kernel)
theorem kw_1428 : Cond.code yX7_rest cX7_rest 3 (some .int) ∈ sk_W := sk_m (i := 1428) (by decide +kernel) (by decide +kernel)
theorem kw_1429 : Cond.methodLink R_law 198 yX7_tell ∈ sk_W := sk_m (i := 1429) (by decide +kernel) (by decide +kernel)
theorem kw_1430 : Cond.instanceMethod yX7_tell ∈ sk_W := sk_m (i := 1430) (by decide +kernel) (by decide +kernel)
theorem kw_1431 : Cond.selects RX7 yX7_tell yX7_tell ∈ sk_W := sk_m (i := 1431) (by decide +kernel) (by decide +kernel)
theorem kw_1432 : Cond.code yX7_tell cX7_tell 2 (some .int) ∈ sk_W := sk_m (i := 1432) (by decide +kernel) (by decide +kernel)
theorem kw_1433 : Cond.methodLink R_law 202 yX7_check ∈ sk_W := sk_m (i := 1433) (by decide +kernel) (by decide +kernel)
theorem kw_1434 : Cond.instanceMethod yX7_check ∈ sk_W := sk_m (i := 1434) (by decide +kernel) (by decide +kernel)
theorem kw_1435 : Cond.selects RX7 yX7_check yX7_check ∈ sk_W := sk_m (i := 1435) (by decide +kernel) (by decide +kernel)
theorem kw_1436 : Cond.code yX7_check cX7_check 6 (some .int) ∈ sk_W := sk_m (i := 1436) (by decide +kernel) (by decide +kernel)
theorem kw_1442 : Cond.methodLink R_law 206 yX7_keep ∈ sk_W := sk_m (i := 1442) (by decide +kernel) (by decide +kernel)
theorem kw_1443 : Cond.instanceMethod yX7_keep ∈ sk_W := sk_m (i := 1443) (by decide +kernel) (by decide +kernel)
theorem kw_1444 : Cond.selects RX7 yX7_keep yX7_keep ∈ sk_W := sk_m (i := 1444) (by decide +kernel) (by decide +kernel)
theorem kw_1445 : Cond.code yX7_keep cX7_keep 1 (some .int) ∈ sk_W := sk_m (i := 1445) (by decide +kernel) (by decide +kernel)
theorem kw_1446 : Cond.methodLink R_law 210 yX7_back ∈ sk_W := sk_m (i := 1446) (by decide +kernel) (by decide +kernel)
theorem kw_1447 : Cond.instanceMethod yX7_back ∈ sk_W := sk_m (i := 1447) (by decide +kernel) (by decide +kernel)
theorem kw_1448 : Cond.selects RX7 yX7_back yX7_back ∈ sk_W := sk_m (i := 1448) (by decide +kernel) (by decide +kernel)
theorem kw_1449 : Cond.code yX7_back cX7_back 1 (some .int) ∈ sk_W := sk_m (i := 1449) (by decide +kernel) (by decide +kernel)
theorem kw_1450 : Cond.methodLink R_law 214 yX7_count ∈ sk_W := sk_m (i := 1450) (by decide +kernel) (by decide +kernel)
theorem kw_1451 : Cond.instanceMethod yX7_count ∈ sk_W := sk_m (i := 1451) (by decide +kernel) (by decide +kernel)
theorem kw_1452 : Cond.selects RX7 yX7_count yX7_count ∈ sk_W := sk_m (i := 1452) (by decide +kernel) (by decide +kernel)
theorem kw_1453 : Cond.code yX7_count cX7_count 2 (some .int) ∈ sk_W := sk_m (i := 1453) (by decide +kernel) (by decide +kernel)
theorem yo_X6_scent : sk_yV yX6_scent cX6_scent 3 (some .int) 2 := ⟨⟨by decide, by decide, by decide +kernel⟩, by decide, kw_340, kw_338, kw_339, kw_62⟩
theorem yo_X7_scent : sk_yV yX7_scent cX7_scent 3 (some .int) 2 := ⟨⟨by decide, by decide, by decide +kernel⟩, by decide, kw_1038, kw_1036, kw_1037, kw_70⟩
theorem yo_X6_told : sk_yV yX6_told cX6_told 3 (some .int) 2 := ⟨⟨by decide, by decide, by decide +kernel⟩, by decide, kw_356, kw_354, kw_355, kw_62⟩
theorem yo_X7_told : sk_yV yX7_told cX7_told 3 (some .int) 2 := ⟨⟨by decide, by decide, by decide +kernel⟩, by decide, kw_1053, kw_1051, kw_1052, kw_70⟩
theorem yo_X6_as : sk_yV yX6_as cX6_as 3 (some .int) 2 := ⟨⟨by decide, by decide, by decide +kernel⟩, by decide, kw_367, kw_365, kw_366, kw_62⟩
theorem yo_X7_as : sk_yV yX7_as cX7_as 3 (some .int) 2 := ⟨⟨by decide, by decide, by decide +kernel⟩, by decide, kw_1070, kw_1068, kw_1069, kw_70⟩
theorem yo_X6_turns : sk_yV yX6_turns cX6_turns 4 (some .int) 2 := ⟨⟨by decide, by decide, by decide +kernel⟩, by decide, kw_377, kw_375, kw_376, kw_62⟩
theorem yo_X7_turns : sk_yV yX7_turns cX7_turns 3 (some .int) 2 := ⟨⟨by decide, by decide, by decide +kernel⟩, by decide, kw_1078, kw_1076, kw_1077, kw_70⟩
theorem yo_X6_pace : sk_yV yX6_pace cX6_pace 4 (some .int) 2 := ⟨⟨by decide, by decide, by decide +kernel⟩, by decide, kw_381, kw_379, kw_380, kw_62⟩
theorem yo_X7_pace : sk_yV yX7_pace cX7_pace 3 (some .int) 2 := ⟨⟨by decide, by decide, by decide +kernel⟩, by decide, kw_1086, kw_1084, kw_1085, kw_70⟩
theorem yo_X6_hide : sk_yV yX6_hide cX6_hide 5 (some .int) 3 := ⟨⟨by decide, by decide, by decide +kernel⟩, by decide, kw_385, kw_383, kw_384, kw_62⟩
theorem yo_X7_hide : sk_yV yX7_hide cX7_hide 6 (some .int) 3 := ⟨⟨by decide, by decide, by decide +kernel⟩, by decide, kw_1090, kw_1088, kw_1089, kw_70⟩
theorem yo_X6_nose : sk_yV yX6_nose cX6_nose 4 (some .int) 2 := ⟨⟨by decide, by decide, by decide +kernel⟩, by decide, kw_389, kw_387, kw_388, kw_62⟩
theorem yo_X7_nose : sk_yV yX7_nose cX7_nose 3 (some .int) 2 := ⟨⟨by decide, by decide, by decide +kernel⟩, by decide, kw_1094, kw_1092, kw_1093, kw_70⟩
theorem yo_X6_word : sk_yV yX6_word cX6_word 3 (some .int) 1 := ⟨⟨by decide, by decide, by decide +kernel⟩, by decide, kw_396, kw_394, kw_395, kw_62⟩
theorem yo_X7_word : sk_yV yX7_word cX7_word 2 (some .int) 1 := ⟨⟨by decide, by decide, by decide +kernel⟩, by decide, kw_1102, kw_1100, kw_1101, kw_70⟩
theorem yo_X6_wordOf : sk_yV yX6_wordOf cX6_wordOf 2 (some .int) 1 := ⟨⟨by decide, by decide, by decide +kernel⟩, by decide, kw_401, kw_399, kw_400, kw_62⟩
theorem yo_X7_wordOf : sk_yV yX7_wordOf cX7_wordOf 2 (some .int) 1 := ⟨⟨by decide, by decide, by decide +kernel⟩, by decide, kw_1106, kw_1104, kw_1105, kw_70⟩
theorem yo_X6_deal : sk_yV yX6_deal cX6_deal 6 (some .int) 1 := ⟨⟨by decide, by decide, by decide +kernel⟩, by decide, kw_409, kw_407, kw_408, kw_62⟩
theorem yo_X7_deal : sk_yV yX7_deal cX7_deal 4 (some .int) 1 := ⟨⟨by decide, by decide, by decide +kernel⟩, by decide, kw_1114, kw_1112, kw_1113, kw_70⟩
theorem yo_X6_seed : sk_yV yX6_seed cX6_seed 3 (some .int) 1 := ⟨⟨by decide, by decide, by decide +kernel⟩, by decide, kw_421, kw_419, kw_420, kw_62⟩
theorem yo_X7_seed : sk_yV yX7_seed cX7_seed 2 (some .int) 1 := ⟨⟨by decide, by decide, by decide +kernel⟩, by decide, kw_1124, kw_1122, kw_1123, kw_70⟩
theorem yo_X6_cloth : sk_yV yX6_cloth cX6_cloth 1 (some .int) 0 := ⟨⟨by decide, by decide, by decide +kernel⟩, by decide, kw_425, kw_423, kw_424, kw_62⟩
theorem yo_X7_cloth : sk_yV yX7_cloth cX7_cloth 3 (some .int) 0 := ⟨⟨by decide, by decide, by decide +kernel⟩, by decide, kw_1128, kw_1126, kw_1127, kw_70⟩
theorem yo_X6_strength : sk_yV yX6_strength cX6_strength 3 (some .int) 2 := ⟨⟨by decide, by decide, by decide +kernel⟩, by decide, kw_429, kw_427, kw_428, kw_62⟩
theorem yo_X7_strength : sk_yV yX7_strength cX7_strength 3 (some .int) 2 := ⟨⟨by decide, by decide, by decide +kernel⟩, by decide, kw_1132, kw_1130, kw_1131, kw_70⟩
theorem yo_X6_loses : sk_yV yX6_loses cX6_loses 3 (some .int) 2 := ⟨⟨by decide, by decide, by decide +kernel⟩, by decide, kw_441, kw_439, kw_440, kw_62⟩
theorem yo_X7_loses : sk_yV yX7_loses cX7_loses 3 (some .int) 2 := ⟨⟨by decide, by decide, by decide +kernel⟩, by decide, kw_1144, kw_1142, kw_1143, kw_70⟩
theorem yo_X6_dab : sk_yV yX6_dab cX6_dab 4 (some .int) 3 := ⟨⟨by decide, by decide, by decide +kernel⟩, by decide, kw_463, kw_461, kw_462, kw_62⟩
theorem yo_X7_dab : sk_yV yX7_dab cX7_dab 5 (some .int) 3 := ⟨⟨by decide, by decide, by decide +kernel⟩, by decide, kw_1174, kw_1172, kw_1173, kw_70⟩
theorem yo_X6_warm : sk_yV yX6_warm cX6_warm 4 (some .int) 2 := ⟨⟨by decide, by decide, by decide +kernel⟩, by decide, kw_471, kw_469, kw_470, kw_62⟩
theorem yo_X7_warm : sk_yV yX7_warm cX7_warm 3 (some .int) 2 := ⟨⟨by decide, by decide, by decide +kernel⟩, by decide, kw_1179, kw_1177, kw_1178, kw_70⟩
theorem yo_X6_touch : sk_yV yX6_touch cX6_touch 6 (some .int) 2 := ⟨⟨by decide, by decide, by decide +kernel⟩, by decide, kw_475, kw_473, kw_474, kw_62⟩
theorem yo_X7_touch : sk_yV yX7_touch cX7_touch 6 (some .int) 2 := ⟨⟨by decide, by decide, by decide +kernel⟩, by decide, kw_1183, kw_1181, kw_1182, kw_70⟩
theorem yo_X6_days : sk_yV yX6_days cX6_days 3 (some .int) 1 := ⟨⟨by decide, by decide, by decide +kernel⟩, by decide, kw_483, kw_481, kw_482, kw_62⟩
theorem yo_X7_days : sk_yV yX7_days cX7_days 3 (some .int) 1 := ⟨⟨by decide, by decide, by decide +kernel⟩, by decide, kw_1187, kw_1185, kw_1186, kw_70⟩
theorem yo_X6_smells : sk_yV yX6_smells cX6_smells 3 (some .int) 2 := ⟨⟨by decide, by decide, by decide +kernel⟩, by decide, kw_496, kw_494, kw_495, kw_62⟩
theorem yo_X7_smells : sk_yV yX7_smells cX7_smells 3 (some .int) 2 := ⟨⟨by decide, by decide, by decide +kernel⟩, by decide, kw_1196, kw_1194, kw_1195, kw_70⟩
theorem yo_X6_says : sk_yV yX6_says cX6_says 3 (some .int) 2 := ⟨⟨by decide, by decide, by decide +kernel⟩, by decide, kw_508, kw_506, kw_507, kw_62⟩
theorem yo_X7_says : sk_yV yX7_says cX7_says 3 (some .int) 2 := ⟨⟨by decide, by decide, by decide +kernel⟩, by decide, kw_1204, kw_1202, kw_1203, kw_70⟩
theorem yo_X6_behind : sk_yV yX6_behind cX6_behind 4 (some .int) 3 := ⟨⟨by decide, by decide, by decide +kernel⟩, by decide, kw_517, kw_515, kw_516, kw_62⟩
theorem yo_X7_behind : sk_yV yX7_behind cX7_behind 5 (some .int) 3 := ⟨⟨by decide, by decide, by decide +kernel⟩, by decide, kw_1216, kw_1214, kw_1215, kw_70⟩
theorem yo_X6_first : sk_yV yX6_first cX6_first 5 (some .int) 3 := ⟨⟨by decide, by decide, by decide +kernel⟩, by decide, kw_542, kw_540, kw_541, kw_62⟩
theorem yo_X7_first : sk_yV yX7_first cX7_first 6 (some .int) 3 := ⟨⟨by decide, by decide, by decide +kernel⟩, by decide, kw_1233, kw_1231, kw_1232, kw_70⟩
theorem yo_X6_lasts : sk_yV yX6_lasts cX6_lasts 7 (some .int) 4 := ⟨⟨by decide, by decide, by decide +kernel⟩, by decide, kw_548, kw_546, kw_547, kw_62⟩
theorem yo_X7_lasts : sk_yV yX7_lasts cX7_lasts 7 (some .int) 4 := ⟨⟨by decide, by decide, by decide +kernel⟩, by decide, kw_1237, kw_1235, kw_1236, kw_70⟩
theorem yo_X6_whispers : sk_yV yX6_whispers cX6_whispers 7 (some .int) 3 := ⟨⟨by decide, by decide, by decide +kernel⟩, by decide, kw_552, kw_550, kw_551, kw_62⟩
theorem yo_X7_whispers : sk_yV yX7_whispers cX7_whispers 7 (some .int) 3 := ⟨⟨by decide, by decide, by decide +kernel⟩, by decide, kw_1242, kw_1240, kw_1241, kw_70⟩
theorem yo_X6_dumb : sk_yV yX6_dumb cX6_dumb 4 (some .int) 2 := ⟨⟨by decide, by decide, by decide +kernel⟩, by decide, kw_562, kw_560, kw_561, kw_62⟩
theorem yo_X7_dumb : sk_yV yX7_dumb cX7_dumb 5 (some .int) 2 := ⟨⟨by decide, by decide, by decide +kernel⟩, by decide, kw_1249, kw_1247, kw_1248, kw_70⟩
theorem yo_X6_secret : sk_yV yX6_secret cX6_secret 5 (some .int) 2 := ⟨⟨by decide, by decide, by decide +kernel⟩, by decide, kw_571, kw_569, kw_570, kw_62⟩
theorem yo_X7_secret : sk_yV yX7_secret cX7_secret 5 (some .int) 2 := ⟨⟨by decide, by decide, by decide +kernel⟩, by decide, kw_1253, kw_1251, kw_1252, kw_70⟩
theorem yo_X6_least : sk_yV yX6_least cX6_least 5 (some .int) 4 := ⟨⟨by decide, by decide, by decide +kernel⟩, by decide, kw_575, kw_573, kw_574, kw_62⟩
theorem yo_X7_least : sk_yV yX7_least cX7_least 5 (some .int) 4 := ⟨⟨by decide, by decide, by decide +kernel⟩, by decide, kw_1257, kw_1255, kw_1256, kw_70⟩
theorem yo_X6_letter : sk_yV yX6_letter cX6_letter 8 (some .int) 4 := ⟨⟨by decide, by decide, by decide +kernel⟩, by decide, kw_587, kw_585, kw_586, kw_62⟩
theorem yo_X7_letter : sk_yV yX7_letter cX7_letter 7 (some .int) 4 := ⟨⟨by decide, by decide, by decide +kernel⟩, by decide, kw_1270, kw_1268, kw_1269, kw_70⟩
theorem yo_X6_dated : sk_yV yX6_dated cX6_dated 9 (some .int) 4 := ⟨⟨by decide, by decide, by decide +kernel⟩, by decide, kw_593, kw_591, kw_592, kw_62⟩
theorem yo_X7_dated : sk_yV yX7_dated cX7_dated 13 (some .int) 4 := ⟨⟨by decide, by decide, by decide +kernel⟩, by decide, kw_1404, kw_1402, kw_1403, kw_70⟩
theorem yo_X6_price : sk_yV yX6_price cX6_price 4 (some .int) 1 := ⟨⟨by decide, by decide, by decide +kernel⟩, by decide, kw_612, kw_610, kw_611, kw_62⟩
theorem yo_X7_price : sk_yV yX7_price cX7_price 5 (some .int) 1 := ⟨⟨by decide, by decide, by decide +kernel⟩, by decide, kw_1275, kw_1273, kw_1274, kw_70⟩
theorem yo_X6_lie : sk_yV yX6_lie cX6_lie 3 (some .int) 1 := ⟨⟨by decide, by decide, by decide +kernel⟩, by decide, kw_625, kw_623, kw_624, kw_62⟩
theorem yo_X7_lie : sk_yV yX7_lie cX7_lie 3 (some .int) 1 := ⟨⟨by decide, by decide, by decide +kernel⟩, by decide, kw_1283, kw_1281, kw_1282, kw_70⟩
theorem yo_X6_feed : sk_yV yX6_feed cX6_feed 4 (some .int) 3 := ⟨⟨by decide, by decide, by decide +kernel⟩, by decide, kw_632, kw_630, kw_631, kw_62⟩
theorem yo_X7_feed : sk_yV yX7_feed cX7_feed 6 (some .int) 3 := ⟨⟨by decide, by decide, by decide +kernel⟩, by decide, kw_1291, kw_1289, kw_1290, kw_70⟩
theorem yo_X6_trim : sk_yV yX6_trim cX6_trim 2 (some .int) 1 := ⟨⟨by decide, by decide, by decide +kernel⟩, by decide, kw_640, kw_638, kw_639, kw_62⟩
theorem yo_X7_trim : sk_yV yX7_trim cX7_trim 2 (some .int) 1 := ⟨⟨by decide, by decide, by decide +kernel⟩, by decide, kw_1295, kw_1293, kw_1294, kw_70⟩
theorem yo_X6_text : sk_yV yX6_text cX6_text 3 (some .int) 0 := ⟨⟨by decide, by decide, by decide +kernel⟩, by decide, kw_644, kw_642, kw_643, kw_62⟩
theorem yo_X7_text : sk_yV yX7_text cX7_text 3 (some .int) 0 := ⟨⟨by decide, by decide, by decide +kernel⟩, by decide, kw_1299, kw_1297, kw_1298, kw_70⟩
theorem yo_X6_textTold : sk_yV yX6_textTold cX6_textTold 3 (some .int) 2 := ⟨⟨by decide, by decide, by decide +kernel⟩, by decide, kw_832, kw_830, kw_831, kw_62⟩
theorem yo_X7_textTold : sk_yV yX7_textTold cX7_textTold 3 (some .int) 2 := ⟨⟨by decide, by decide, by decide +kernel⟩, by decide, kw_1370, kw_1368, kw_1369, kw_70⟩
theorem yo_X6_why : sk_yV yX6_why cX6_why 2 (some .int) 1 := ⟨⟨by decide, by decide, by decide +kernel⟩, by decide, kw_836, kw_834, kw_835, kw_62⟩
theorem yo_X7_why : sk_yV yX7_why cX7_why 2 (some .int) 1 := ⟨⟨by decide, by decide, by decide +kernel⟩, by decide, kw_1378, kw_1376, kw_1377, kw_70⟩
theorem yo_X6_sheet : sk_yV yX6_sheet cX6_sheet 4 (some .int) 3 := ⟨⟨by decide, by decide, by decide +kernel⟩, by decide, kw_840, kw_838, kw_839, kw_62⟩
theorem yo_X7_sheet : sk_yV yX7_sheet cX7_sheet 5 (some .int) 3 := ⟨⟨by decide, by decide, by decide +kernel⟩, by decide, kw_1383, kw_1381, kw_1382, kw_70⟩
theorem yo_X6_mark : sk_yV yX6_mark cX6_mark 5 (some .int) 3 := ⟨⟨by decide, by decide, by decide +kernel⟩, by decide, kw_850, kw_848, kw_849, kw_62⟩
theorem yo_X7_mark : sk_yV yX7_mark cX7_mark 4 (some .int) 3 := ⟨⟨by decide, by decide, by decide +kernel⟩, by decide, kw_1392, kw_1390, kw_1391, kw_70⟩
theorem yo_X6_pour : sk_yV yX6_pour cX6_pour 7 (some .int) 2 := ⟨⟨by decide, by decide, by decide +kernel⟩, by decide, kw_857, kw_855, kw_856, kw_62⟩
theorem yo_X7_pour : sk_yV yX7_pour cX7_pour 7 (some .int) 2 := ⟨⟨by decide, by decide, by decide +kernel⟩, by decide, kw_1400, kw_1398, kw_1399, kw_70⟩
theorem yo_X6_copy : sk_yV yX6_copy cX6_copy 8 (some .int) 5 := ⟨⟨by decide, by decide, by decide +kernel⟩, by decide, kw_861, kw_859, kw_860, kw_62⟩
theorem yo_X7_copy : sk_yV yX7_copy cX7_copy 7 (some .int) 5 := ⟨⟨by decide, by decide, by decide +kernel⟩, by decide, kw_1408, kw_1406, kw_1407, kw_70⟩
theorem yo_X6_lay : sk_yV yX6_lay cX6_lay 6 (some .int) 3 := ⟨⟨by decide, by decide, by decide +kernel⟩, by decide, kw_869, kw_867, kw_868, kw_62⟩
theorem yo_X7_lay : sk_yV yX7_lay cX7_lay 7 (some .int) 3 := ⟨⟨by decide, by decide, by decide +kernel⟩, by decide, kw_1412, kw_1410, kw_1411, kw_70⟩
theorem yo_X6_ask : sk_yV yX6_ask cX6_ask 4 (some .int) 2 := ⟨⟨by decide, by decide, by decide +kernel⟩, by decide, kw_881, kw_879, kw_880, kw_62⟩
theorem yo_X7_ask : sk_yV yX7_ask cX7_ask 3 (some .int) 2 := ⟨⟨by decide, by decide, by decide +kernel⟩, by decide, kw_1420, kw_1418, kw_1419, kw_70⟩
theorem yo_X6_item : sk_yV yX6_item cX6_item 5 (some .int) 2 := ⟨⟨by decide, by decide, by decide +kernel⟩, by decide, kw_885, kw_883, kw_884, kw_62⟩
theorem yo_X7_item : sk_yV yX7_item cX7_item 4 (some .int) 2 := ⟨⟨by decide, by decide, by decide +kernel⟩, by decide, kw_1424, kw_1422, kw_1423, kw_70⟩
theorem yo_X6_rest : sk_yV yX6_rest cX6_rest 4 (some .int) 2 := ⟨⟨by decide, by decide, by decide +kernel⟩, by decide, kw_889, kw_887, kw_888, kw_62⟩
theorem yo_X7_rest : sk_yV yX7_rest cX7_rest 3 (some .int) 2 := ⟨⟨by decide, by decide, by decide +kernel⟩, by decide, kw_1428, kw_1426, kw_1427, kw_70⟩
theorem yo_X6_tell : sk_yV yX6_tell cX6_tell 2 (some .int) 1 := ⟨⟨by decide, by decide, by decide +kernel⟩, by decide, kw_893, kw_891, kw_892, kw_62⟩
theorem yo_X7_tell : sk_yV yX7_tell cX7_tell 2 (some .int) 1 := ⟨⟨by decide, by decide, by decide +kernel⟩, by decide, kw_1432, kw_1430, kw_1431, kw_70⟩
theorem yo_X6_check : sk_yV yX6_check cX6_check 6 (some .int) 2 := ⟨⟨by decide, by decide, by decide +kernel⟩, by decide, kw_897, kw_895, kw_896, kw_62⟩
theorem yo_X7_check : sk_yV yX7_check cX7_check 6 (some .int) 2 := ⟨⟨by decide, by decide, by decide +kernel⟩, by decide, kw_1436, kw_1434, kw_1435, kw_70⟩
theorem yo_X6_keep : sk_yV yX6_keep cX6_keep 1 (some .int) 0 := ⟨⟨by decide, by decide, by decide +kernel⟩, by decide, kw_910, kw_908, kw_909, kw_62⟩
theorem yo_X7_keep : sk_yV yX7_keep cX7_keep 1 (some .int) 0 := ⟨⟨by decide, by decide, by decide +kernel⟩, by decide, kw_1445, kw_1443, kw_1444, kw_70⟩
theorem yo_X6_back : sk_yV yX6_back cX6_back 1 (some .int) 0 := ⟨⟨by decide, by decide, by decide +kernel⟩, by decide, kw_919, kw_917, kw_918, kw_62⟩
theorem yo_X7_back : sk_yV yX7_back cX7_back 1 (some .int) 0 := ⟨⟨by decide, by decide, by decide +kernel⟩, by decide, kw_1449, kw_1447, kw_1448, kw_70⟩
theorem yo_X6_count : sk_yV yX6_count cX6_count 2 (some .int) 1 := ⟨⟨by decide, by decide, by decide +kernel⟩, by decide, kw_923, kw_921, kw_922, kw_62⟩
theorem yo_X7_count : sk_yV yX7_count cX7_count 2 (some .int) 1 := ⟨⟨by decide, by decide, by decide +kernel⟩, by decide, kw_1453, kw_1451, kw_1452, kw_70⟩
