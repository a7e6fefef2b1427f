set_option maxRecDepth 20000 in
theorem ggL_law_X8_bestSwap : GoodIn wsL_law wsX8_bestSwap := goodIn_r _ [910, 153, 911, 912, 913, 5, 914, 89, 339, 340, 341, 342, 343, 344, 345, 346, 347, 93, 94, 348, 349, 350, 351, 352, 353, 354, 355, 356, 357, 358, 359, 360, 361, 362, 363, 243, 244, 245, 246, 364, 365, 366, 367, 235, 236, 237, 238, 247, 248, 249, 250, 368, 369, 370, 371, 1014, 1015, 1016, 1017, 1018, 1019, 1020, 1021, 1022, 1023, 1024, 1025, 1026, 1027, 1028, 1029, 1030, 1031, 1032, 1033, 1034] (by decide +kernel) (by decide +kernel)
set_option maxRecDepth 20000 in
theorem gL_law_X8_bestSwap : GoodIn wsL_law (wsV RL 146 RX8 yX8_bestSwap wsX8_bestSwap) := goodIn_app (goodIn_of _ (by decide +kernel)) ggL_law_X8_bestSwap
set_option maxRecDepth 20000 in
theorem ggL_law_L_nearness : GoodIn wsL_law wsL_nearness := goodIn_ca (goodIn_r _ [917, 106, 918, 919, 920, 2, 921, 111, 112, 16, 187, 146, 147, 15, 148, 130, 922, 923, 722, 924, 780, 733, 734, 725, 726, 727, 728, 315, 316, 317, 46, 145, 729, 271, 272, 273, 47, 274, 263, 264, 265, 131, 730, 448, 449, 450, 48, 724, 425, 426, 427, 925, 204, 205, 206, 44, 1006, 1007, 1008, 1009, 1010, 1011, 1012, 1013, 1035, 1036, 1037, 1038, 1039, 1040, 1041, 1042, 1043, 1044] (by decide +kernel) (by decide +kernel)) (goodIn_sub (fun _ h => List.mem_append_left _ (List.mem_append_left _ (List.mem_append_right _ h))) (by decide +kernel))
set_option maxRecDepth 20000 in
theorem gL_law_L_nearness : GoodIn wsL_law (va_wsS RL 147 yL_nearness wsL_nearness) := goodIn_app (goodIn_of _ (by decide +kernel)) ggL_law_L_nearness
set_option maxRecDepth 20000 in
theorem ggL_law_X8_nearness : GoodIn wsL_law wsX8_nearness := goodIn_r _ [929, 153, 223, 224, 225, 5, 226, 89, 157, 158, 159, 930, 931, 932, 933, 755, 756, 757, 758, 759, 760, 761, 762, 356, 357, 358, 359, 243, 244, 245, 246, 247, 248, 249, 250, 235, 236, 237, 238, 160, 161, 162, 163, 1014, 1015, 1016, 1017, 1018, 1019, 1020, 1021, 1022, 1023, 1024, 1025, 1026, 1027, 1028, 1029, 1030, 1031, 1032, 1033, 1034] (by decide +kernel) (by decide +kernel)
set_option maxRecDepth 20000 in
theorem gL_law_X8_nearness : GoodIn wsL_law (wsV RL 149 RX8 yX8_nearness wsX8_nearness) := goodIn_app (goodIn_of _ (by decide +kernel)) ggL_law_X8_nearness
set_option maxRecDepth 20000 in
theorem ggL_law_X7_straightShare : GoodIn wsL_law wsX7_straightShare := goodIn_r _ [937, 16, 839, 840, 841, 15, 842, 130, 716, 717, 718, 719, 46, 843, 844, 845, 846, 45, 847, 311, 312, 313, 314, 315, 316, 317, 145, 146, 147, 148, 318, 319, 320, 321, 47, 48, 274, 263, 264, 265, 131, 322, 323, 324, 325, 1006, 1007, 1008, 1009, 1010, 1011, 1012, 1013, 1035, 1036, 1037, 1038, 1039, 1040, 1041, 1042, 1043, 1044] (by decide +kernel) (by decide +kernel)
set_option maxRecDepth 20000 in
theorem gL_law_X7_straightShare : GoodIn wsL_law (wsV RL 150 RX7 yX7_straightShare wsX7_straightShare) := goodIn_app (goodIn_of _ (by decide +kernel)) ggL_law_X7_straightShare
set_option maxRecDepth 20000 in
theorem ggL_law_X8_straightShare : GoodIn wsL_law wsX8_straightShare := goodIn_r _ [941, 153, 942, 943, 944, 5, 945, 869, 870, 871, 872, 89, 356, 357, 358, 359, 873, 874, 875, 876, 347, 93, 94, 348, 349, 350, 351, 352, 353, 354, 355, 360, 361, 362, 363, 243, 244, 245, 246, 364, 365, 366, 367, 235, 236, 237, 238, 247, 248, 249, 250, 1014, 1015, 1016, 1017, 1018, 1019, 1020, 1021, 1022, 1023, 1024, 1025, 1026, 1027, 1028, 1029, 1030, 1031, 1032, 1033, 1034] (by decide +kernel) (by decide +kernel)
set_option maxRecDepth 20000 in
theorem gL_law_X8_straightShare : GoodIn wsL_law (wsV RL 154 RX8 yX8_straightShare wsX8_straightShare) := goodIn_app (goodIn_of _ (by decide +kernel)) ggL_law_X8_straightShare
theorem goodIn_c0 {big a : List Cond} {c : Cond} (hc : GoodIn big [c]) (ha : GoodIn big a) : GoodIn big (c :: a) := fun w h => (List.mem_cons.mp h).elim (fun e => hc w (List.mem_cons.mpr (Or.inl e))) (ha w)
set_option maxRecDepth 20000 in
theorem ggd_wsX7_digest_r1 : GoodIn wsL_law wsX7_digest_r1 := goodIn_r _ [950, 951, 16, 19, 27, 952, 832, 833, 2, 834, 185, 186, 23, 666, 425, 426, 15, 427, 130, 835, 836, 837, 838, 131] (by decide +kernel) (by decide +kernel)
set_option maxRecDepth 20000 in
theorem ggd_wsX7_digest_r2 : GoodIn wsL_law wsX7_digest_r2 := goodIn_r _ [839, 840, 841, 842, 716, 717, 718, 719, 46, 296, 297, 298, 299, 31, 300, 301, 302, 30, 303, 304, 64, 65, 305, 138] (by decide +kernel) (by decide +kernel)
set_option maxRecDepth 20000 in
theorem ggd_wsX7_digest_r3 : GoodIn wsL_law wsX7_digest_r3 := goodIn_r _ [139, 140, 50, 306, 307, 308, 309, 49, 137, 310, 311, 312, 313, 314, 315, 316, 317, 145, 146, 147, 148, 318, 319, 320] (by decide +kernel) (by decide +kernel)
set_option maxRecDepth 20000 in
theorem ggd_wsX7_digest_r4 : GoodIn wsL_law wsX7_digest_r4 := goodIn_r _ [321, 47, 48, 274, 263, 264, 265, 322, 323, 324, 325, 45, 326, 327, 328, 329, 843, 844, 845, 846, 847, 848, 849, 850] (by decide +kernel) (by decide +kernel)
set_option maxRecDepth 20000 in
theorem ggd_wsX7_digest_r5 : GoodIn wsL_law wsX7_digest_r5 := goodIn_r _ [851, 211, 212, 213, 214, 215, 216, 217, 218, 852, 853, 722, 854, 855, 856, 778, 779, 729, 271, 272, 273, 780, 733, 734] (by decide +kernel) (by decide +kernel)
set_option maxRecDepth 20000 in
theorem ggd_wsX7_digest_r6 : GoodIn wsL_law wsX7_digest_r6 := goodIn_r _ [725, 726, 727, 728, 730, 448, 449, 450, 857, 858, 859, 860, 132, 689, 690, 691, 22, 692, 121, 953, 954, 955, 956, 957] (by decide +kernel) (by decide +kernel)
set_option maxRecDepth 20000 in
theorem ggd_wsX7_digest_r7 : GoodIn wsL_law wsX7_digest_r7 := goodIn_r _ [705, 706, 707, 111, 112, 187, 708, 204, 205, 206, 44, 709, 710, 711, 712, 713, 714, 715, 720, 721, 723, 724, 731, 466] (by decide +kernel) (by decide +kernel)
set_option maxRecDepth 20000 in
theorem ggd_wsX7_digest_r8 : GoodIn wsL_law wsX7_digest_r8 := goodIn_r _ [467, 468, 469, 470, 471, 732, 958, 770, 771, 772, 262, 773, 774, 775, 776, 777, 959, 960, 961, 962, 963, 797, 798, 799] (by decide +kernel) (by decide +kernel)
set_option maxRecDepth 20000 in
theorem ggd_wsX7_digest_r9 : GoodIn wsL_law wsX7_digest_r9 := goodIn_r _ [113, 114, 115, 800, 964, 813, 814, 815, 816, 817, 818, 819, 820, 821, 822, 823, 965, 889, 890, 891, 39, 415, 416, 417] (by decide +kernel) (by decide +kernel)
set_option maxRecDepth 20000 in
theorem ggd_wsX7_digest_r10 : GoodIn wsL_law wsX7_digest_r10 := goodIn_r _ [38, 418, 419, 420, 421, 422, 423, 74, 424, 428, 429, 430, 431, 432, 77, 433, 434, 435, 436, 437, 438, 82, 439, 440] (by decide +kernel) (by decide +kernel)
set_option maxRecDepth 20000 in
theorem ggd_wsX7_digest_r11 : GoodIn wsL_law wsX7_digest_r11 := goodIn_r _ [441, 442, 443, 444, 445, 78, 79, 80, 446, 447, 451, 452, 453, 454, 84, 455, 456, 457, 458, 459, 75, 460, 127, 128] (by decide +kernel) (by decide +kernel)
set_option maxRecDepth 20000 in
theorem ggd_wsX7_digest_r12 : GoodIn wsL_law wsX7_digest_r12 := goodIn_r _ [129, 461, 462, 463, 464, 76, 465, 472, 473, 474, 475, 81, 476, 477, 478, 479, 480, 481, 482, 483, 892, 893, 894, 895] (by decide +kernel) (by decide +kernel)
set_option maxRecDepth 20000 in
theorem ggd_wsX7_digest_r13 : GoodIn wsL_law wsX7_digest_r13 := goodIn_r _ [896, 897, 898, 966, 904, 905, 906, 295, 330, 331, 332, 333, 334, 141, 142, 143, 144, 967, 919, 920, 921, 922, 923, 924] (by decide +kernel) (by decide +kernel)
set_option maxRecDepth 20000 in
theorem ggd_wsX7_digest_r14 : GoodIn wsL_law wsX7_digest_r14 := goodIn_r _ [925, 968, 935, 936, 937, 969, 970, 971, 972, 973, 974, 975, 976, 26, 977, 527, 978, 624, 625, 626, 60] (by decide +kernel) (by decide +kernel)
set_option maxRecDepth 20000 in
theorem ggd_wsX70 : GoodIn wsL_law wsX70 := goodIn_r _ [1006, 1007, 1008, 1009, 1010, 1011, 1012, 1013] (by decide +kernel) (by decide +kernel)
set_option maxRecDepth 20000 in
theorem ggd_wsX50 : GoodIn wsL_law wsX50 := goodIn_r _ [1035, 1036, 1037, 1038, 1039, 1040, 1041, 1042, 1043, 1044] (by decide +kernel) (by decide +kernel)
set_option maxRecDepth 20000 in
theorem ggd_wsX20 : GoodIn wsL_law wsX20 := goodIn_r _ [1054, 1055, 1056] (by decide +kernel) (by decide +kernel)
set_option maxRecDepth 20000 in
theorem ggd_wsX40 : GoodIn wsL_law wsX40 := goodIn_r _ [1045, 1046, 1047] (by decide +kernel) (by decide +kernel)
set_option maxRecDepth 20000 in
theorem ggd_wsX30 : GoodIn wsL_law wsX30 := goodIn_r _ [1059, 1060, 1061, 1062, 1063, 1064, 1065, 1066, 1067, 1068, 1069, 1070, 1071] (by decide +kernel) (by decide +kernel)
set_option maxRecDepth 20000 in
theorem ggd_wsX60 : GoodIn wsL_law wsX60 := goodIn_r _ [1048, 1049, 1050, 1051, 1052, 1053] (by decide +kernel) (by decide +kernel)
set_option maxRecDepth 20000 in
theorem ggL_law_X7_digest : GoodIn wsL_law wsX7_digest := goodIn_c0 (goodIn_r _ [949] (by decide +kernel) (by decide +kernel)) (goodIn_app (goodIn_app (goodIn_app (goodIn_app (goodIn_app (goodIn_app (goodIn_app (goodIn_app (goodIn_app ggd_wsX7_digest_r1 (goodIn_app ggd_wsX7_digest_r2 (goodIn_app ggd_wsX7_digest_r3 (goodIn_app ggd_wsX7_digest_r4 (goodIn_app ggd_wsX7_digest_r5 (goodIn_app ggd_wsX7_digest_r6 (goodIn_app ggd_wsX7_digest_r7 (goodIn_app ggd_wsX7_digest_r8 (goodIn_app ggd_wsX7_digest_r9 (goodIn_app ggd_wsX7_digest_r10 (goodIn_app ggd_wsX7_digest_r11 (goodIn_app ggd_wsX7_digest_r12 (goodIn_app ggd_wsX7_digest_r13 (ggd_wsX7_digest_r14)))))))))))))) ggd_wsX70) ggd_wsX50) ggd_wsX20) ggd_wsX40) ggd_wsX30) ggd_wsX60) (goodIn_sub (fun _ h => List.mem_append_left _ (List.mem_append_right _ h)) (by decide +kernel))) (goodIn_sub (fun _ h => List.mem_append_left _ (List.mem_append_left _ (List.mem_append_right _ h))) (by decide +kernel)))
set_option maxRecDepth 20000 in
theorem gL_law_X7_digest : GoodIn wsL_law (wsV RL 155 RX7 yX7_digest wsX7_digest) := goodIn_app (goodIn_of _ (by decide +kernel)) ggL_law_X7_digest
set_option maxRecDepth 20000 in
theorem ggL_law_X8_digest : GoodIn wsL_law wsX8_digest := goodIn_r _ [982, 153, 983, 984, 89, 92, 536, 98, 865, 866, 867, 5, 868, 168, 869, 870, 871, 872, 356, 357, 358, 359, 339, 340, 341, 342, 343, 344, 345, 346, 347, 93, 94, 348, 349, 350, 351, 352, 353, 354, 355, 360, 361, 362, 363, 243, 244, 245, 246, 364, 365, 366, 367, 235, 236, 237, 238, 247, 248, 249, 250, 873, 874, 875, 876, 877, 878, 879, 880, 251, 252, 253, 254, 881, 882, 883, 884, 789, 790, 791, 792, 755, 756, 757, 758, 759, 760, 761, 762, 763, 764, 765, 985, 986, 987, 988, 989, 739, 740, 741, 742, 743, 744, 745, 746, 747, 748, 749, 750, 751, 752, 753, 754, 785, 786, 787, 788, 990, 991, 992, 993, 805, 806, 807, 808, 493, 494, 495, 496, 97, 400, 401, 402, 403, 96, 497, 498, 499, 500, 368, 369, 370, 371, 501, 502, 503, 504, 505, 506, 507, 508, 509, 510, 511, 512, 911, 912, 913, 914, 930, 931, 932, 933, 942, 943, 944, 945, 994, 995, 996, 997, 998, 999, 1000, 1001, 1002, 1003, 1004, 1005, 1014, 1015, 1016, 1017, 1018, 1019, 1020, 1021, 1022, 1023, 1024, 1025, 1026, 1027, 1028, 1029, 1030, 1031, 1032, 1033, 1034] (by decide +kernel) (by decide +kernel)
set_option maxRecDepth 20000 in
theorem gL_law_X8_digest : GoodIn wsL_law (wsV RL 159 RX8 yX8_digest wsX8_digest) := goodIn_app (goodIn_of _ (by decide +kernel)) ggL_law_X8_digest
