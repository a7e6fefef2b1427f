set_option maxRecDepth 20000 in
theorem ggL_law_X7_init : GoodIn wsL_law wsX7_init := goodIn_r _ [6, 7, 8, 9, 10, 11, 12, 13, 14, 15, 16, 17, 18, 19, 20, 21, 22, 23, 24, 25, 26, 27, 28, 29, 30, 31, 32, 33, 34, 35, 36, 37, 38, 39, 3, 40, 41, 42, 43, 44, 45, 46, 47, 48, 49, 50, 51, 52, 53, 54, 55, 56, 57, 58, 59, 60, 61, 62, 63, 64, 65, 66, 67, 68, 69, 70, 71, 72, 73, 74, 75, 76, 77, 78, 79, 80, 508, 509, 510, 511, 512, 513, 514, 515, 516, 517, 500, 501, 502, 503, 504, 505, 506, 507, 518, 519, 520, 521, 522, 523, 524, 525, 526, 527, 528, 529, 530, 531, 532, 533, 534, 535, 536, 537, 538, 539, 540, 541, 542, 543, 544] (by decide +kernel) (by decide +kernel)
set_option maxRecDepth 20000 in
theorem gL_law_X7_init : GoodIn wsL_law (wsX7_init) := ggL_law_X7_init
set_option maxRecDepth 20000 in
theorem ggd_L_arePeople_wsL_arePeople_r1 : GoodIn wsL_law wsL_arePeople_r1 := goodIn_r _ [85, 86, 87, 2, 88, 89, 90, 13, 20, 91, 92, 93, 12, 94, 95, 96, 97, 98, 99, 100, 101, 102, 103, 104] (by decide +kernel) (by decide +kernel)
set_option maxRecDepth 20000 in
theorem ggd_L_arePeople_wsL_arePeople_r2 : GoodIn wsL_law wsL_arePeople_r2 := goodIn_r _ [105, 106, 107, 108, 42, 109, 110, 111, 112, 28, 113, 114, 115, 27, 116, 117, 60, 61, 118, 119, 120, 121, 46, 122] (by decide +kernel) (by decide +kernel)
set_option maxRecDepth 20000 in
theorem ggd_L_arePeople_wsL_arePeople_r3 : GoodIn wsL_law wsL_arePeople_r3 := goodIn_r _ [123, 124, 125, 45, 126, 127, 128, 129, 130, 131, 132, 133, 134, 135, 136, 137, 138, 139, 140, 141, 142, 43, 44, 143] (by decide +kernel) (by decide +kernel)
set_option maxRecDepth 20000 in
theorem ggd_L_arePeople_wsL_arePeople_r4 : GoodIn wsL_law wsL_arePeople_r4 := goodIn_r _ [144, 145, 146, 147, 148, 149, 150, 41, 151, 152, 153, 154, 155, 156, 157, 158, 159, 160, 161, 162, 163, 164, 165, 166] (by decide +kernel) (by decide +kernel)
set_option maxRecDepth 20000 in
theorem ggd_L_arePeople_wsL_arePeople_r5 : GoodIn wsL_law wsL_arePeople_r5 := goodIn_r _ [167, 168, 169, 170, 171, 172, 173, 174, 175, 176, 177, 178, 179, 180, 181, 182, 183, 184, 185, 186, 187, 188, 189, 190] (by decide +kernel) (by decide +kernel)
set_option maxRecDepth 20000 in
theorem ggd_L_arePeople_wsL_arePeople_r6 : GoodIn wsL_law wsL_arePeople_r6 := goodIn_r _ [191, 192, 193, 194, 195, 196, 197, 198, 199, 200, 201, 202, 19, 203, 204, 205, 206, 83, 207, 208, 209, 210, 211, 212] (by decide +kernel) (by decide +kernel)
set_option maxRecDepth 20000 in
theorem ggd_L_arePeople_wsL_arePeople_r7 : GoodIn wsL_law wsL_arePeople_r7 := goodIn_r _ [213, 214, 215, 216, 217, 218, 40, 219, 220, 221, 222, 223, 224, 225, 226, 227, 228, 229, 230, 231, 232, 233, 234, 235] (by decide +kernel) (by decide +kernel)
set_option maxRecDepth 20000 in
theorem ggd_L_arePeople_wsL_arePeople_r8 : GoodIn wsL_law wsL_arePeople_r8 := goodIn_r _ [236, 237, 238, 239, 240, 241, 242, 243, 244, 245, 246, 247, 248, 249, 250, 251, 252, 253] (by decide +kernel) (by decide +kernel)
set_option maxRecDepth 20000 in
theorem ggd_L_arePeople_wsX70 : GoodIn wsL_law wsX70 := goodIn_r _ [500, 501, 502, 503, 504, 505, 506, 507] (by decide +kernel) (by decide +kernel)
set_option maxRecDepth 20000 in
theorem ggd_L_arePeople_wsX50 : GoodIn wsL_law wsX50 := goodIn_r _ [508, 509, 510, 511, 512, 513, 514, 515, 516, 517] (by decide +kernel) (by decide +kernel)
set_option maxRecDepth 20000 in
theorem ggd_L_arePeople_wsX20 : GoodIn wsL_law wsX20 := goodIn_r _ [527, 528, 529] (by decide +kernel) (by decide +kernel)
set_option maxRecDepth 20000 in
theorem ggd_L_arePeople_wsX40 : GoodIn wsL_law wsX40 := goodIn_r _ [518, 519, 520] (by decide +kernel) (by decide +kernel)
set_option maxRecDepth 20000 in
theorem ggL_law_L_arePeople : GoodIn wsL_law wsL_arePeople := goodIn_c0 (goodIn_r _ [84] (by decide +kernel) (by decide +kernel)) (goodIn_app (goodIn_app (goodIn_app (goodIn_app (goodIn_app (goodIn_app (goodIn_app ggd_L_arePeople_wsL_arePeople_r1 (goodIn_app ggd_L_arePeople_wsL_arePeople_r2 (goodIn_app ggd_L_arePeople_wsL_arePeople_r3 (goodIn_app ggd_L_arePeople_wsL_arePeople_r4 (goodIn_app ggd_L_arePeople_wsL_arePeople_r5 (goodIn_app ggd_L_arePeople_wsL_arePeople_r6 (goodIn_app ggd_L_arePeople_wsL_arePeople_r7 ggd_L_arePeople_wsL_arePeople_r8))))))) ggd_L_arePeople_wsX70) ggd_L_arePeople_wsX50) ggd_L_arePeople_wsX20) ggd_L_arePeople_wsX40) (goodIn_sub (fun _ h => List.mem_append_left _ (List.mem_append_right _ h)) (by decide +kernel))) (goodIn_sub (fun _ h => List.mem_append_right _ h) (by decide +kernel)))
set_option maxRecDepth 20000 in
theorem gL_law_L_arePeople : GoodIn wsL_law (va_wsS RL 112 yL_arePeople wsL_arePeople) := goodIn_app (goodIn_of _ (by decide +kernel)) ggL_law_L_arePeople
set_option maxRecDepth 20000 in
theorem ggd_L_areRows_wsL_areRows_r1 : GoodIn wsL_law wsL_areRows_r1 := goodIn_r _ [85, 86, 87, 2, 88, 89, 90, 13, 20, 91, 92, 93, 12, 94, 95, 96, 97, 98, 99, 100, 101, 102, 103, 104] (by decide +kernel) (by decide +kernel)
set_option maxRecDepth 20000 in
theorem ggd_L_areRows_wsL_areRows_r2 : GoodIn wsL_law wsL_areRows_r2 := goodIn_r _ [105, 106, 107, 108, 42, 109, 110, 111, 112, 28, 113, 114, 115, 27, 116, 117, 60, 61, 118, 119, 120, 121, 46, 122] (by decide +kernel) (by decide +kernel)
set_option maxRecDepth 20000 in
theorem ggd_L_areRows_wsL_areRows_r3 : GoodIn wsL_law wsL_areRows_r3 := goodIn_r _ [123, 124, 125, 45, 126, 127, 128, 129, 130, 131, 132, 133, 134, 135, 136, 137, 138, 139, 140, 141, 142, 43, 44, 143] (by decide +kernel) (by decide +kernel)
set_option maxRecDepth 20000 in
theorem ggd_L_areRows_wsL_areRows_r4 : GoodIn wsL_law wsL_areRows_r4 := goodIn_r _ [144, 145, 146, 147, 148, 149, 150, 41, 151, 152, 153, 154, 155, 156, 157, 158, 159, 160, 161, 162, 163, 164, 165, 166] (by decide +kernel) (by decide +kernel)
set_option maxRecDepth 20000 in
theorem ggd_L_areRows_wsL_areRows_r5 : GoodIn wsL_law wsL_areRows_r5 := goodIn_r _ [167, 168, 169, 170, 171, 172, 173, 174, 175, 176, 177, 178, 179, 180, 181, 182, 183, 184, 185, 186, 187, 188, 189, 190] (by decide +kernel) (by decide +kernel)
set_option maxRecDepth 20000 in
theorem ggd_L_areRows_wsL_areRows_r6 : GoodIn wsL_law wsL_areRows_r6 := goodIn_r _ [191, 192, 193, 194, 195, 196, 197, 198, 199, 200, 201, 202, 19, 203, 204, 257, 258, 83, 259, 260, 261, 262, 247, 248] (by decide +kernel) (by decide +kernel)
set_option maxRecDepth 20000 in
theorem ggd_L_areRows_wsL_areRows_r7 : GoodIn wsL_law wsL_areRows_r7 := goodIn_r _ [249, 238, 239, 240, 205, 206, 207, 244, 245, 246, 263, 264, 265, 266, 212, 213, 267, 268, 269, 215, 216, 217, 218, 40] (by decide +kernel) (by decide +kernel)
set_option maxRecDepth 20000 in
theorem ggd_L_areRows_wsL_areRows_r8 : GoodIn wsL_law wsL_areRows_r8 := goodIn_r _ [270, 271, 272, 230, 231, 232, 233, 234, 235, 236, 273, 274, 275, 276, 277, 278, 279, 280, 281, 282, 283, 284, 285, 286] (by decide +kernel) (by decide +kernel)
set_option maxRecDepth 20000 in
theorem ggd_L_areRows_wsL_areRows_r9 : GoodIn wsL_law wsL_areRows_r9 := goodIn_r _ [287, 288, 289, 290, 291, 292] (by decide +kernel) (by decide +kernel)
set_option maxRecDepth 20000 in
theorem ggd_L_areRows_wsX70 : GoodIn wsL_law wsX70 := goodIn_r _ [500, 501, 502, 503, 504, 505, 506, 507] (by decide +kernel) (by decide +kernel)
set_option maxRecDepth 20000 in
theorem ggd_L_areRows_wsX50 : GoodIn wsL_law wsX50 := goodIn_r _ [508, 509, 510, 511, 512, 513, 514, 515, 516, 517] (by decide +kernel) (by decide +kernel)
set_option maxRecDepth 20000 in
theorem ggd_L_areRows_wsX20 : GoodIn wsL_law wsX20 := goodIn_r _ [527, 528, 529] (by decide +kernel) (by decide +kernel)
set_option maxRecDepth 20000 in
theorem ggd_L_areRows_wsX40 : GoodIn wsL_law wsX40 := goodIn_r _ [518, 519, 520] (by decide +kernel) (by decide +kernel)
set_option maxRecDepth 20000 in
theorem ggL_law_L_areRows : GoodIn wsL_law wsL_areRows := goodIn_c0 (goodIn_r _ [256] (by decide +kernel) (by decide +kernel)) (goodIn_app (goodIn_app (goodIn_app (goodIn_app (goodIn_app (goodIn_app (goodIn_app ggd_L_areRows_wsL_areRows_r1 (goodIn_app ggd_L_areRows_wsL_areRows_r2 (goodIn_app ggd_L_areRows_wsL_areRows_r3 (goodIn_app ggd_L_areRows_wsL_areRows_r4 (goodIn_app ggd_L_areRows_wsL_areRows_r5 (goodIn_app ggd_L_areRows_wsL_areRows_r6 (goodIn_app ggd_L_areRows_wsL_areRows_r7 (goodIn_app ggd_L_areRows_wsL_areRows_r8 ggd_L_areRows_wsL_areRows_r9)))))))) ggd_L_areRows_wsX70) ggd_L_areRows_wsX50) ggd_L_areRows_wsX20) ggd_L_areRows_wsX40) (goodIn_sub (fun _ h => List.mem_append_left _ (List.mem_append_right _ h)) (by decide +kernel))) (goodIn_sub (fun _ h => List.mem_append_right _ h) (by decide +kernel)))
set_option maxRecDepth 20000 in
theorem gL_law_L_areRows : GoodIn wsL_law (va_wsS RL 116 yL_areRows wsL_areRows) := goodIn_app (goodIn_of _ (by decide +kernel)) ggL_law_L_areRows
set_option maxRecDepth 20000 in
theorem ggL_law_X7_bestSwap : GoodIn wsL_law wsX7_bestSwap := goodIn_r _ [296, 13, 109, 110, 111, 2, 112, 28, 113, 114, 115, 27, 116, 117, 60, 61, 118, 119, 120, 12, 121, 46, 122, 123, 124, 125, 45, 126, 127, 128, 129, 130, 131, 132, 133, 134, 42, 135, 136, 137, 138, 95, 139, 140, 141, 142, 43, 44, 143, 144, 145, 146, 100, 147, 148, 149, 150, 41, 151, 152, 153, 154, 297, 298, 299, 300, 301, 302, 303, 304, 305, 306, 500, 501, 502, 503, 504, 505, 506, 507, 527, 528, 529, 508, 509, 510, 511, 512, 513, 514, 515, 516, 517] (by decide +kernel) (by decide +kernel)
set_option maxRecDepth 20000 in
theorem gL_law_X7_bestSwap : GoodIn wsL_law (wsV RL 76 RX7 yX7_bestSwap wsX7_bestSwap) := goodIn_app (goodIn_of _ (by decide +kernel)) ggL_law_X7_bestSwap
set_option maxRecDepth 20000 in
theorem ggL_law_X7_least : GoodIn wsL_law wsX7_least := goodIn_ca (goodIn_ca (goodIn_r _ [310, 212, 213, 89, 90, 36, 13, 277, 278, 2, 279, 311, 312, 313, 35, 314, 315, 316, 317, 318, 319, 70, 320, 92, 93, 12, 94, 95, 321, 216, 217, 218, 40, 135, 136, 137, 138, 322, 323, 324, 325, 73, 326, 128, 129, 130, 131, 132, 133, 134, 42, 139, 140, 141, 142, 43, 44, 143, 144, 145, 146, 100, 147, 148, 149, 150, 41, 327, 328, 329, 330, 331, 78, 332, 119, 120, 121, 46, 333, 123, 124, 125, 45, 126, 334, 335, 336, 337, 338, 74, 75, 76, 339, 181, 182, 183, 340, 192, 193, 194, 341, 342, 343, 344, 80, 345, 346, 347, 348, 349, 71, 350, 351, 352, 353, 354, 355, 356, 357, 72, 358, 231, 232, 233, 234, 235, 236, 359, 360, 361, 362, 77, 363, 364, 365, 366, 367, 368, 369, 370, 371, 372, 373, 374, 375, 376, 377, 500, 501, 502, 503, 504, 505, 506, 507, 532, 533, 534, 535, 536, 537, 538, 539, 540, 541, 542, 543, 544, 508, 509, 510, 511, 512, 513, 514, 515, 516, 517] (by decide +kernel) (by decide +kernel)) (goodIn_sub (fun _ h => List.mem_append_right _ h) (by decide +kernel))) (goodIn_sub (fun _ h => List.mem_append_left _ (List.mem_append_right _ h)) (by decide +kernel))
set_option maxRecDepth 20000 in
theorem gL_law_X7_least : GoodIn wsL_law (wsV RL 73 RX7 yX7_least wsX7_least) := goodIn_app (goodIn_of _ (by decide +kernel)) ggL_law_X7_least
set_option maxRecDepth 20000 in
theorem ggL_law_L_cell : GoodIn wsL_law wsL_cell := goodIn_r _ [380, 381] (by decide +kernel) (by decide +kernel)
set_option maxRecDepth 20000 in
theorem gL_law_L_cell : GoodIn wsL_law (va_wsS RL 119 yL_cell wsL_cell) := goodIn_app (goodIn_of _ (by decide +kernel)) ggL_law_L_cell
set_option maxRecDepth 20000 in
theorem ggL_law_L_low : GoodIn wsL_law wsL_low := goodIn_r _ [384, 385] (by decide +kernel) (by decide +kernel)
set_option maxRecDepth 20000 in
theorem gL_law_L_low : GoodIn wsL_law (va_wsS RL 80 yL_low wsL_low) := goodIn_app (goodIn_of _ (by decide +kernel)) ggL_law_L_low
theorem goodIn_c0 {big a : List Cond} {c : Cond} (hc : GoodIn big [c]) (ha : GoodIn big a) : GoodIn big (c :: a) := fun w h => (List.mem_cons.mp h).elim (fun e => hc w (List.mem_cons.mpr (Or.inl e))) (ha w)
set_option maxRecDepth 20000 in
theorem ggd_L_acts_wsL_acts_r1 : GoodIn wsL_law wsL_acts_r1 := goodIn_r _ [3, 382, 383, 83, 384, 385, 389, 390, 391, 2, 392, 212, 213, 20, 13, 277, 278, 279, 393, 394, 395, 19, 396, 52] (by decide +kernel) (by decide +kernel)
set_option maxRecDepth 20000 in
theorem ggd_L_acts_wsL_acts_r2 : GoodIn wsL_law wsL_acts_r2 := goodIn_r _ [397, 204, 398, 399, 400, 12, 401, 40, 402, 351, 352, 353, 41, 42, 43, 44, 45, 46, 95, 100, 199, 403, 404, 405] (by decide +kernel) (by decide +kernel)
set_option maxRecDepth 20000 in
theorem ggd_L_acts_wsL_acts_r3 : GoodIn wsL_law wsL_acts_r3 := goodIn_r _ [406, 126, 119, 120, 121, 303, 304, 305, 306, 135, 136, 137, 138, 407, 408, 409, 410, 411, 412, 413, 89, 90, 214, 414] (by decide +kernel) (by decide +kernel)
set_option maxRecDepth 20000 in
theorem ggd_L_acts_wsL_acts_r4 : GoodIn wsL_law wsL_acts_r4 := goodIn_r _ [415, 416, 417, 418, 419, 420, 421, 422, 423, 424, 425, 426, 427, 428, 429, 216, 217, 218, 430, 431, 432, 433, 164, 165] (by decide +kernel) (by decide +kernel)
set_option maxRecDepth 20000 in
theorem ggd_L_acts_wsL_acts_r5 : GoodIn wsL_law wsL_acts_r5 := goodIn_r _ [166, 167, 168, 169, 170, 171, 434, 435, 436, 241, 242, 243, 437, 438, 439, 440, 267, 144, 145, 146, 441, 442, 443, 444] (by decide +kernel) (by decide +kernel)
set_option maxRecDepth 20000 in
theorem ggd_L_acts_wsL_acts_r6 : GoodIn wsL_law wsL_acts_r6 := goodIn_r _ [445, 181, 182, 183, 143, 446, 288, 289, 290, 291, 292, 123, 124, 125, 257, 258, 259, 260, 261, 262, 247, 248, 249, 238] (by decide +kernel) (by decide +kernel)
set_option maxRecDepth 20000 in
theorem ggd_L_acts_wsL_acts_r7 : GoodIn wsL_law wsL_acts_r7 := goodIn_r _ [239, 240, 447, 448, 449, 450, 297, 109, 110, 111, 112, 28, 113, 114, 115, 27, 116, 117, 60, 61, 118, 122, 127, 128] (by decide +kernel) (by decide +kernel)
set_option maxRecDepth 20000 in
theorem ggd_L_acts_wsL_acts_r8 : GoodIn wsL_law wsL_acts_r8 := goodIn_r _ [129, 130, 131, 132, 133, 134, 139, 140, 141, 142, 147, 148, 149, 150, 151, 152, 153, 154, 298, 299, 300, 301, 302, 451] (by decide +kernel) (by decide +kernel)
set_option maxRecDepth 20000 in
theorem ggd_L_acts_wsL_acts_r9 : GoodIn wsL_law wsL_acts_r9 := goodIn_r _ [452, 453, 454, 455, 456, 457, 32, 458, 459, 460, 31, 461, 462, 65, 66, 463, 464, 465, 466, 467, 468, 469, 470, 471] (by decide +kernel) (by decide +kernel)
set_option maxRecDepth 20000 in
theorem ggd_L_acts_wsL_acts_r10 : GoodIn wsL_law wsL_acts_r10 := goodIn_r _ [472, 473, 474, 475, 476, 244, 245, 246, 477, 478, 479, 480, 481, 482, 483, 36, 311, 312, 313, 35, 314, 315, 316, 317] (by decide +kernel) (by decide +kernel)
set_option maxRecDepth 20000 in
theorem ggd_L_acts_wsL_acts_r11 : GoodIn wsL_law wsL_acts_r11 := goodIn_r _ [318, 319, 70, 320, 92, 93, 94, 321, 322, 323, 324, 325, 73, 326, 327, 328, 329, 330, 331, 78, 332, 333, 334, 335] (by decide +kernel) (by decide +kernel)
set_option maxRecDepth 20000 in
theorem ggd_L_acts_wsL_acts_r12 : GoodIn wsL_law wsL_acts_r12 := goodIn_r _ [336, 337, 338, 74, 75, 76, 339, 340, 192, 193, 194, 341, 342, 343, 344, 80, 345, 346, 347, 348, 349, 71, 350, 354] (by decide +kernel) (by decide +kernel)
set_option maxRecDepth 20000 in
theorem ggd_L_acts_wsL_acts_r13 : GoodIn wsL_law wsL_acts_r13 := goodIn_r _ [355, 356, 357, 72, 358, 231, 232, 233, 234, 235, 236, 359, 360, 361, 362, 77, 363, 364, 365, 366, 367, 368, 369, 370] (by decide +kernel) (by decide +kernel)
set_option maxRecDepth 20000 in
theorem ggd_L_acts_wsL_acts_r14 : GoodIn wsL_law wsL_acts_r14 := goodIn_r _ [484, 485, 486, 487, 488] (by decide +kernel) (by decide +kernel)
set_option maxRecDepth 20000 in
theorem ggd_L_acts_wsX70 : GoodIn wsL_law wsX70 := goodIn_r _ [500, 501, 502, 503, 504, 505, 506, 507] (by decide +kernel) (by decide +kernel)
set_option maxRecDepth 20000 in
theorem ggd_L_acts_wsX40 : GoodIn wsL_law wsX40 := goodIn_r _ [518, 519, 520] (by decide +kernel) (by decide +kernel)
set_option maxRecDepth 20000 in
theorem ggd_L_acts_wsX50 : GoodIn wsL_law wsX50 := goodIn_r _ [508, 509, 510, 511, 512, 513, 514, 515, 516, 517] (by decide +kernel) (by decide +kernel)
set_option maxRecDepth 20000 in
theorem ggd_L_acts_wsX20 : GoodIn wsL_law wsX20 := goodIn_r _ [527, 528, 529] (by decide +kernel) (by decide +kernel)
set_option maxRecDepth 20000 in
theorem ggd_L_acts_wsX10 : GoodIn wsL_law wsX10 := goodIn_r _ [530, 531] (by decide +kernel) (by decide +kernel)
set_option maxRecDepth 20000 in
theorem ggd_L_acts_wsX30 : GoodIn wsL_law wsX30 := goodIn_r _ [532, 533, 534, 535, 536, 537, 538, 539, 540, 541, 542, 543, 544] (by decide +kernel) (by decide +kernel)
set_option maxRecDepth 20000 in
theorem ggL_law_L_acts : GoodIn wsL_law wsL_acts := goodIn_c0 (goodIn_r _ [388] (by decide +kernel) (by decide +kernel)) (goodIn_app (goodIn_app (goodIn_app (goodIn_app (goodIn_app (goodIn_app (goodIn_app (goodIn_app (goodIn_app ggd_L_acts_wsL_acts_r1 (goodIn_app ggd_L_acts_wsL_acts_r2 (goodIn_app ggd_L_acts_wsL_acts_r3 (goodIn_app ggd_L_acts_wsL_acts_r4 (goodIn_app ggd_L_acts_wsL_acts_r5 (goodIn_app ggd_L_acts_wsL_acts_r6 (goodIn_app ggd_L_acts_wsL_acts_r7 (goodIn_app ggd_L_acts_wsL_acts_r8 (goodIn_app ggd_L_acts_wsL_acts_r9 (goodIn_app ggd_L_acts_wsL_acts_r10 (goodIn_app ggd_L_acts_wsL_acts_r11 (goodIn_app ggd_L_acts_wsL_acts_r12 (goodIn_app ggd_L_acts_wsL_acts_r13 ggd_L_acts_wsL_acts_r14))))))))))))) ggd_L_acts_wsX70) ggd_L_acts_wsX40) ggd_L_acts_wsX50) ggd_L_acts_wsX20) ggd_L_acts_wsX10) ggd_L_acts_wsX30) (goodIn_sub (fun _ h => List.mem_append_right _ h) (by decide +kernel))) (goodIn_sub (fun _ h => List.mem_append_left _ (List.mem_append_right _ h)) (by decide +kernel)))
set_option maxRecDepth 20000 in
theorem gL_law_L_acts : GoodIn wsL_law (va_wsS RL 123 yL_acts wsL_acts) := goodIn_app (goodIn_of _ (by decide +kernel)) ggL_law_L_acts
set_option maxRecDepth 20000 in
theorem ggd_L_isLeast_wsL_isLeast_r1 : GoodIn wsL_law wsL_isLeast_r1 := goodIn_r _ [3, 451, 452, 83, 453, 471, 472, 473, 474, 475, 476, 244, 245, 246, 477, 478, 479, 260, 261, 262, 247, 248, 249, 238] (by decide +kernel) (by decide +kernel)
set_option maxRecDepth 20000 in
theorem ggd_L_isLeast_wsL_isLeast_r2 : GoodIn wsL_law wsL_isLeast_r2 := goodIn_r _ [239, 240, 257, 258, 259, 307, 308, 309, 2, 310, 212, 213, 89, 90, 36, 13, 277, 278, 279, 311, 312, 313, 35, 314] (by decide +kernel) (by decide +kernel)
set_option maxRecDepth 20000 in
theorem ggd_L_isLeast_wsL_isLeast_r3 : GoodIn wsL_law wsL_isLeast_r3 := goodIn_r _ [315, 316, 317, 318, 319, 70, 320, 92, 93, 12, 94, 95, 321, 216, 217, 218, 40, 135, 136, 137, 138, 322, 323, 324] (by decide +kernel) (by decide +kernel)
set_option maxRecDepth 20000 in
theorem ggd_L_isLeast_wsL_isLeast_r4 : GoodIn wsL_law wsL_isLeast_r4 := goodIn_r _ [325, 73, 326, 128, 129, 130, 131, 132, 133, 134, 42, 139, 140, 141, 142, 43, 44, 143, 144, 145, 146, 100, 147, 148] (by decide +kernel) (by decide +kernel)
set_option maxRecDepth 20000 in
theorem ggd_L_isLeast_wsL_isLeast_r5 : GoodIn wsL_law wsL_isLeast_r5 := goodIn_r _ [149, 150, 41, 327, 328, 329, 330, 331, 78, 332, 119, 120, 121, 46, 333, 123, 124, 125, 45, 126, 334, 335, 336, 337] (by decide +kernel) (by decide +kernel)
set_option maxRecDepth 20000 in
theorem ggd_L_isLeast_wsL_isLeast_r6 : GoodIn wsL_law wsL_isLeast_r6 := goodIn_r _ [338, 74, 75, 76, 339, 181, 182, 183, 340, 192, 193, 194, 341, 342, 343, 344, 80, 345, 346, 347, 348, 349, 71, 350] (by decide +kernel) (by decide +kernel)
set_option maxRecDepth 20000 in
theorem ggd_L_isLeast_wsL_isLeast_r7 : GoodIn wsL_law wsL_isLeast_r7 := goodIn_r _ [351, 352, 353, 354, 355, 356, 357, 72, 358, 231, 232, 233, 234, 235, 236, 359, 360, 361, 362, 77, 363, 364, 365, 366] (by decide +kernel) (by decide +kernel)
set_option maxRecDepth 20000 in
theorem ggd_L_isLeast_wsL_isLeast_r8 : GoodIn wsL_law wsL_isLeast_r8 := goodIn_r _ [367, 368, 369, 370, 371, 372, 373, 374, 375, 376, 377, 293, 294, 295, 296, 109, 110, 111, 112, 28, 113, 114, 115, 27] (by decide +kernel) (by decide +kernel)
set_option maxRecDepth 20000 in
theorem ggd_L_isLeast_wsL_isLeast_r9 : GoodIn wsL_law wsL_isLeast_r9 := goodIn_r _ [116, 117, 60, 61, 118, 122, 127, 151, 152, 153, 154, 297, 298, 299, 300, 301, 302, 303, 304, 305, 306, 382, 383, 384] (by decide +kernel) (by decide +kernel)
set_option maxRecDepth 20000 in
theorem ggd_L_isLeast_wsL_isLeast_r10 : GoodIn wsL_law wsL_isLeast_r10 := goodIn_r _ [385, 205, 206, 207, 492, 493, 494, 495, 214, 496, 497, 174, 498, 184, 185, 186, 187, 188, 189, 190, 180, 191, 229, 499] (by decide +kernel) (by decide +kernel)
set_option maxRecDepth 20000 in
theorem ggd_L_isLeast_wsX70 : GoodIn wsL_law wsX70 := goodIn_r _ [500, 501, 502, 503, 504, 505, 506, 507] (by decide +kernel) (by decide +kernel)
set_option maxRecDepth 20000 in
theorem ggd_L_isLeast_wsX30 : GoodIn wsL_law wsX30 := goodIn_r _ [532, 533, 534, 535, 536, 537, 538, 539, 540, 541, 542, 543, 544] (by decide +kernel) (by decide +kernel)
set_option maxRecDepth 20000 in
theorem ggd_L_isLeast_wsX50 : GoodIn wsL_law wsX50 := goodIn_r _ [508, 509, 510, 511, 512, 513, 514, 515, 516, 517] (by decide +kernel) (by decide +kernel)
set_option maxRecDepth 20000 in
theorem ggd_L_isLeast_wsX20 : GoodIn wsL_law wsX20 := goodIn_r _ [527, 528, 529] (by decide +kernel) (by decide +kernel)
set_option maxRecDepth 20000 in
theorem ggL_law_L_isLeast : GoodIn wsL_law wsL_isLeast := goodIn_c0 (goodIn_r _ [491] (by decide +kernel) (by decide +kernel)) (goodIn_app (goodIn_app (goodIn_app (goodIn_app (goodIn_app (goodIn_app (goodIn_app ggd_L_isLeast_wsL_isLeast_r1 (goodIn_app ggd_L_isLeast_wsL_isLeast_r2 (goodIn_app ggd_L_isLeast_wsL_isLeast_r3 (goodIn_app ggd_L_isLeast_wsL_isLeast_r4 (goodIn_app ggd_L_isLeast_wsL_isLeast_r5 (goodIn_app ggd_L_isLeast_wsL_isLeast_r6 (goodIn_app ggd_L_isLeast_wsL_isLeast_r7 (goodIn_app ggd_L_isLeast_wsL_isLeast_r8 (goodIn_app ggd_L_isLeast_wsL_isLeast_r9 ggd_L_isLeast_wsL_isLeast_r10))))))))) ggd_L_isLeast_wsX70) ggd_L_isLeast_wsX30) ggd_L_isLeast_wsX50) ggd_L_isLeast_wsX20) (goodIn_sub (fun _ h => List.mem_append_right _ h) (by decide +kernel))) (goodIn_sub (fun _ h => List.mem_append_left _ (List.mem_append_right _ h)) (by decide +kernel)))
set_option maxRecDepth 20000 in
theorem gL_law_L_isLeast : GoodIn wsL_law (va_wsS RL 127 yL_isLeast wsL_isLeast) := goodIn_app (goodIn_of _ (by decide +kernel)) ggL_law_L_isLeast
