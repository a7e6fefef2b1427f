set_option maxRecDepth 20000 in
theorem ggd_L_acts_wsL_acts_r6 : GoodIn wsL_law wsL_acts_r6 := goodIn_r _ [445, 181, 182, 183, 143, 446, 288, 289, 290, 291, 292, 123, 124, 125, 257, 258, 259, 260, 261, 262, 247, 248, 249, 238] (by decide +kernel) (by decide +kernel)
set_option maxRecDepth 20000 in
theorem ggd_L_acts_wsL_acts_r7 : GoodIn wsL_law wsL_acts_r7 := goodIn_r _ [239, 240, 447, 448, 449, 450, 297, 109, 110, 111, 112, 28, 113, 114, 115, 27, 116, 117, 60, 61, 118, 122, 127, 128] (by decide +kernel) (by decide +kernel)
set_option maxRecDepth 20000 in
theorem ggd_L_acts_wsL_acts_r8 : GoodIn wsL_law wsL_acts_r8 := goodIn_r _ [129, 130, 131, 132, 133, 134, 139, 140, 141, 142, 147, 148, 149, 150, 151, 152, 153, 154, 298, 299, 300, 301, 302, 451] (by decide +kernel) (by decide +kernel)
set_option maxRecDepth 20000 in
theorem ggd_L_acts_wsL_acts_r9 : GoodIn wsL_law wsL_acts_r9 := goodIn_r _ [452, 453, 454, 455, 456, 457, 32, 458, 459, 460, 31, 461, 462, 65, 66, 463, 464, 465, 466, 467, 468, 469, 470, 471] (by decide +kernel) (by decide +kernel)
set_option maxRecDepth 20000 in
theorem ggd_L_acts_wsL_acts_r10 : GoodIn wsL_law wsL_acts_r10 := goodIn_r _ [472, 473, 474, 475, 476, 244, 245, 246, 477, 478, 479, 480, 481, 482, 483, 36, 311, 312, 313, 35, 314, 315, 316, 317] (by decide +kernel) (by decide +kernel)
set_option maxRecDepth 20000 in
theorem ggd_L_acts_wsL_acts_r11 : GoodIn wsL_law wsL_acts_r11 := goodIn_r _ [318, 319, 70, 320, 92, 93, 94, 321, 322, 323, 324, 325, 73, 326, 327, 328, 329, 330, 331, 78, 332, 333, 334, 335] (by decide +kernel) (by decide +kernel)
set_option maxRecDepth 20000 in
theorem ggd_L_acts_wsL_acts_r12 : GoodIn wsL_law wsL_acts_r12 := goodIn_r _ [336, 337, 338, 74, 75, 76, 339, 340, 192, 193, 194, 341, 342, 343, 344, 80, 345, 346, 347, 348, 349, 71, 350, 354] (by decide +kernel) (by decide +kernel)
set_option maxRecDepth 20000 in
theorem ggd_L_acts_wsL_acts_r13 : GoodIn wsL_law wsL_acts_r13 := goodIn_r _ [355, 356, 357, 72, 358, 231, 232, 233, 234, 235, 236, 359, 360, 361, 362, 77, 363, 364, 365, 366, 367, 368, 369, 370] (by decide +kernel) (by decide +kernel)
set_option maxRecDepth 20000 in
theorem ggd_L_acts_wsL_acts_r14 : GoodIn wsL_law wsL_acts_r14 := goodIn_r _ [484, 485, 486, 487, 488] (by decide +kernel) (by decide +kernel)
set_option maxRecDepth 20000 in
theorem ggd_L_acts_wsX70 : GoodIn wsL_law wsX70 := goodIn_r _ [500, 501, 502, 503, 504, 505, 506, 507] (by decide +kernel) (by decide +kernel)
