set_option maxRecDepth 20000 in
theorem ggL_law_X8_clearBuffer : GoodIn wsL_law wsX8_clearBuffer := goodIn_r _ [548, 153, 536, 1014, 1015, 1016, 1017, 1018, 1019, 1020, 1021, 1022, 1023, 1024, 1025, 1026, 1027, 1028, 1029, 1030, 1031, 1032, 1033, 1034] (by decide +kernel) (by decide +kernel)
set_option maxRecDepth 20000 in
theorem gL_law_X8_clearBuffer : GoodIn wsL_law (wsV RL 107 RX8 yX8_clearBuffer wsX8_clearBuffer) := goodIn_app (goodIn_of _ (by decide +kernel)) ggL_law_X8_clearBuffer
set_option maxRecDepth 20000 in
theorem ggL_law_X7_firstError : GoodIn wsL_law wsX7_firstError := goodIn_r _ [552, 27, 553, 554, 555, 26, 556, 527, 60, 557, 558, 559, 560, 561, 562, 563, 564, 565, 566, 567, 568, 1006, 1007, 1008, 1009, 1010, 1011, 1012, 1013, 1048, 1049, 1050, 1051, 1052, 1053] (by decide +kernel) (by decide +kernel)
set_option maxRecDepth 20000 in
theorem gL_law_X7_firstError : GoodIn wsL_law (wsV RL 108 RX7 yX7_firstError wsX7_firstError) := goodIn_app (goodIn_of _ (by decide +kernel)) ggL_law_X7_firstError
set_option maxRecDepth 20000 in
theorem ggL_law_X8_firstError : GoodIn wsL_law wsX8_firstError := goodIn_r _ [572, 153, 536, 573, 574, 575, 576, 5, 577, 578, 579, 580, 581, 582, 100, 99, 583, 584, 585, 586, 98, 157, 158, 159, 587, 588, 589, 590, 591, 101, 592, 593, 594, 595, 596, 597, 598, 599, 1014, 1015, 1016, 1017, 1018, 1019, 1020, 1021, 1022, 1023, 1024, 1025, 1026, 1027, 1028, 1029, 1030, 1031, 1032, 1033, 1034] (by decide +kernel) (by decide +kernel)
set_option maxRecDepth 20000 in
theorem gL_law_X8_firstError : GoodIn wsL_law (wsV RL 111 RX8 yX8_firstError wsX8_firstError) := goodIn_app (goodIn_of _ (by decide +kernel)) ggL_law_X8_firstError
set_option maxRecDepth 20000 in
theorem ggL_law_L_run : GoodIn wsL_law wsL_run := goodIn_ca (goodIn_r _ [602, 180, 603, 604, 605, 2, 606, 185, 186, 27, 23, 16, 607, 608, 609, 26, 610, 527, 60, 557, 558, 559, 560, 561, 562, 563, 564, 565, 566, 567, 568, 116, 117, 118, 22, 119, 56, 120, 121, 122, 123, 124, 15, 125, 44, 126, 127, 128, 129, 45, 46, 47, 48, 49, 50, 130, 131, 132, 611, 612, 613, 614, 615, 616, 617, 618, 619, 620, 621, 622, 623, 624, 625, 626, 627, 628, 629, 630, 631, 632, 633, 634, 635, 636, 637, 638, 639, 640, 641, 642, 643, 644, 645, 646, 187, 146, 147, 148, 188, 189, 190, 191, 192, 193, 194, 195, 196, 197, 198, 199, 200, 201, 202, 203, 204, 205, 206, 145, 207, 208, 209, 210, 211, 212, 213, 214, 215, 216, 217, 218, 262, 263, 264, 265, 266, 267, 268, 269, 270, 271, 272, 273, 274, 275, 134, 135, 136, 137, 138, 139, 140, 141, 142, 143, 144, 113, 114, 115, 133, 541, 542, 543, 544, 1006, 1007, 1008, 1009, 1010, 1011, 1012, 1013, 1048, 1049, 1050, 1051, 1052, 1053, 1045, 1046, 1047, 1035, 1036, 1037, 1038, 1039, 1040, 1041, 1042, 1043, 1044] (by decide +kernel) (by decide +kernel)) (goodIn_sub (fun _ h => List.mem_append_left _ (List.mem_append_right _ h)) (by decide +kernel))
set_option maxRecDepth 20000 in
theorem gL_law_L_run : GoodIn wsL_law (va_wsS RL 112 yL_run wsL_run) := goodIn_app (goodIn_of _ (by decide +kernel)) ggL_law_L_run
set_option maxRecDepth 20000 in
theorem ggL_law_X8_run : GoodIn wsL_law wsX8_run := goodIn_r _ [650, 153, 578, 536, 574, 575, 576, 5, 577, 573, 579, 580, 581, 582, 100, 99, 583, 584, 585, 586, 98, 157, 158, 159, 587, 588, 589, 590, 591, 101, 592, 593, 594, 595, 596, 597, 598, 599, 160, 161, 162, 163, 164, 165, 166, 167, 168, 90, 89, 651, 652, 653, 654, 223, 224, 225, 226, 227, 228, 229, 230, 231, 232, 233, 234, 235, 236, 237, 238, 239, 240, 241, 242, 243, 244, 245, 246, 247, 248, 249, 250, 251, 252, 253, 254, 280, 281, 282, 283, 284, 285, 286, 287, 169, 170, 171, 172, 1014, 1015, 1016, 1017, 1018, 1019, 1020, 1021, 1022, 1023, 1024, 1025, 1026, 1027, 1028, 1029, 1030, 1031, 1032, 1033, 1034] (by decide +kernel) (by decide +kernel)
set_option maxRecDepth 20000 in
theorem gL_law_X8_run : GoodIn wsL_law (wsV RL 115 RX8 yX8_run wsX8_run) := goodIn_app (goodIn_of _ (by decide +kernel)) ggL_law_X8_run
set_option maxRecDepth 20000 in
theorem ggL_law_L_keep : GoodIn wsL_law wsL_keep := goodIn_ca (goodIn_r _ [657, 180, 658, 659, 660, 2, 661, 185, 186, 17, 16, 19, 662, 663, 664, 665, 123, 124, 15, 125, 44, 126, 127, 128, 129, 45, 46, 47, 48, 49, 50, 130, 131, 132, 666, 425, 426, 427, 1006, 1007, 1008, 1009, 1010, 1011, 1012, 1013, 1035, 1036, 1037, 1038, 1039, 1040, 1041, 1042, 1043, 1044] (by decide +kernel) (by decide +kernel)) (goodIn_sub (fun _ h => List.mem_append_left _ (List.mem_append_right _ h)) (by decide +kernel))
set_option maxRecDepth 20000 in
theorem gL_law_L_keep : GoodIn wsL_law (va_wsS RL 116 yL_keep wsL_keep) := goodIn_app (goodIn_of _ (by decide +kernel)) ggL_law_L_keep
set_option maxRecDepth 20000 in
theorem ggL_law_X8_keep : GoodIn wsL_law wsX8_keep := goodIn_r _ [670, 153, 91, 89, 92, 157, 158, 5, 159, 160, 161, 162, 163, 1014, 1015, 1016, 1017, 1018, 1019, 1020, 1021, 1022, 1023, 1024, 1025, 1026, 1027, 1028, 1029, 1030, 1031, 1032, 1033, 1034] (by decide +kernel) (by decide +kernel)
set_option maxRecDepth 20000 in
theorem gL_law_X8_keep : GoodIn wsL_law (wsV RL 118 RX8 yX8_keep wsX8_keep) := goodIn_app (goodIn_of _ (by decide +kernel)) ggL_law_X8_keep
set_option maxRecDepth 20000 in
theorem ggL_law_L_goBack : GoodIn wsL_law wsL_goBack := goodIn_ca (goodIn_ca (goodIn_r _ [673, 180, 516, 674, 675, 676, 2, 677, 185, 186, 521, 522, 19, 23, 16, 17, 662, 663, 664, 116, 117, 118, 22, 119, 56, 120, 121, 122, 123, 124, 15, 125, 44, 126, 127, 128, 129, 45, 46, 47, 48, 49, 50, 130, 131, 132, 665, 666, 425, 426, 427, 1006, 1007, 1008, 1009, 1010, 1011, 1012, 1013, 1045, 1046, 1047, 1035, 1036, 1037, 1038, 1039, 1040, 1041, 1042, 1043, 1044] (by decide +kernel) (by decide +kernel)) (goodIn_sub (fun _ h => List.mem_append_left _ (List.mem_append_right _ h)) (by decide +kernel))) (goodIn_sub (fun _ h => List.mem_append_right _ h) (by decide +kernel))
set_option maxRecDepth 20000 in
theorem gL_law_L_goBack : GoodIn wsL_law (va_wsS RL 119 yL_goBack wsL_goBack) := goodIn_app (goodIn_of _ (by decide +kernel)) ggL_law_L_goBack
set_option maxRecDepth 20000 in
theorem ggL_law_X8_goBack : GoodIn wsL_law wsX8_goBack := goodIn_r _ [681, 153, 92, 89, 91, 157, 158, 5, 159, 160, 161, 162, 163, 164, 165, 166, 167, 168, 90, 1014, 1015, 1016, 1017, 1018, 1019, 1020, 1021, 1022, 1023, 1024, 1025, 1026, 1027, 1028, 1029, 1030, 1031, 1032, 1033, 1034] (by decide +kernel) (by decide +kernel)
set_option maxRecDepth 20000 in
theorem gL_law_X8_goBack : GoodIn wsL_law (wsV RL 121 RX8 yX8_goBack wsX8_goBack) := goodIn_app (goodIn_of _ (by decide +kernel)) ggL_law_X8_goBack
set_option maxRecDepth 20000 in
theorem ggL_law_L_undo : GoodIn wsL_law wsL_undo := goodIn_ca (goodIn_r _ [684, 516, 685, 686, 687, 2, 688, 521, 522, 23, 16, 689, 690, 691, 22, 692, 121, 693, 694, 695, 696, 56, 120, 122, 123, 124, 15, 125, 44, 126, 127, 128, 129, 45, 46, 47, 48, 49, 50, 130, 131, 132, 1006, 1007, 1008, 1009, 1010, 1011, 1012, 1013, 1045, 1046, 1047, 1035, 1036, 1037, 1038, 1039, 1040, 1041, 1042, 1043, 1044] (by decide +kernel) (by decide +kernel)) (goodIn_sub (fun _ h => List.mem_append_right _ h) (by decide +kernel))
set_option maxRecDepth 20000 in
theorem gL_law_L_undo : GoodIn wsL_law (va_wsS RL 122 yL_undo wsL_undo) := goodIn_app (goodIn_of _ (by decide +kernel)) ggL_law_L_undo
set_option maxRecDepth 20000 in
theorem ggL_law_X8_undo : GoodIn wsL_law wsX8_undo := goodIn_r _ [700, 153, 168, 89, 90, 160, 161, 162, 5, 163, 1014, 1015, 1016, 1017, 1018, 1019, 1020, 1021, 1022, 1023, 1024, 1025, 1026, 1027, 1028, 1029, 1030, 1031, 1032, 1033, 1034] (by decide +kernel) (by decide +kernel)
set_option maxRecDepth 20000 in
theorem gL_law_X8_undo : GoodIn wsL_law (wsV RL 124 RX8 yX8_undo wsX8_undo) := goodIn_app (goodIn_of _ (by decide +kernel)) ggL_law_X8_undo
set_option maxRecDepth 20000 in
theorem ggL_law_L_personOf : GoodIn wsL_law wsL_personOf := goodIn_ca (goodIn_ca (goodIn_r _ [703, 106, 180, 704, 705, 706, 2, 707, 111, 112, 185, 186, 16, 187, 146, 147, 15, 148, 130, 708, 204, 205, 206, 44, 145, 709, 323, 324, 325, 45, 710, 315, 316, 317, 46, 711, 216, 217, 218, 131, 47, 48, 712, 713, 714, 715, 716, 717, 718, 719, 720, 721, 722, 723, 724, 425, 426, 427, 725, 726, 727, 728, 729, 271, 272, 273, 274, 263, 264, 265, 730, 448, 449, 450, 731, 466, 467, 468, 469, 470, 471, 732, 733, 734, 1006, 1007, 1008, 1009, 1010, 1011, 1012, 1013, 1035, 1036, 1037, 1038, 1039, 1040, 1041, 1042, 1043, 1044] (by decide +kernel) (by decide +kernel)) (goodIn_sub (fun _ h => List.mem_append_left _ (List.mem_append_left _ (List.mem_append_right _ h))) (by decide +kernel))) (goodIn_sub (fun _ h => List.mem_append_left _ (List.mem_append_right _ h)) (by decide +kernel))
set_option maxRecDepth 20000 in
theorem gL_law_L_personOf : GoodIn wsL_law (va_wsS RL 125 yL_personOf wsL_personOf) := goodIn_app (goodIn_of _ (by decide +kernel)) ggL_law_L_personOf
