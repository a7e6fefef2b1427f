set_option maxRecDepth 20000 in
theorem ggd_L_acts_wsX40 : GoodIn wsL_law wsX40 := goodIn_r _ [518, 519, 520] (by decide +kernel) (by decide +kernel)
set_option maxRecDepth 20000 in
theorem ggd_L_acts_wsX50 : GoodIn wsL_law wsX50 := goodIn_r _ [508, 509, 510, 511, 512, 513, 514, 515, 516, 517] (by decide +kernel) (by decide +kernel)
set_option maxRecDepth 20000 in
theorem ggd_L_acts_wsX20 : GoodIn wsL_law wsX20 := goodIn_r _ [527, 528, 529] (by decide +kernel) (by decide +kernel)
set_option maxRecDepth 20000 in
theorem ggd_L_acts_wsX10 : GoodIn wsL_law wsX10 := goodIn_r _ [530, 531] (by decide +kernel) (by decide +kernel)
set_option maxRecDepth 20000 in
theorem ggd_L_acts_wsX30 : GoodIn wsL_law wsX30 := goodIn_r _ [532, 533, 534, 535, 536, 537, 538, 539, 540, 541, 542, 543, 544] (by decide +kernel) (by decide +kernel)
set_option maxRecDepth 20000 in
theorem ggd_L_isLeast_wsL_isLeast_r1 : GoodIn wsL_law wsL_isLeast_r1 := goodIn_r _ [3, 451, 452, 83, 453, 471, 472, 473, 474, 475, 476, 244, 245, 246, 477, 478, 479, 260, 261, 262, 247, 248, 249, 238] (by decide +kernel) (by decide +kernel)
set_option maxRecDepth 20000 in
theorem ggd_L_isLeast_wsL_isLeast_r2 : GoodIn wsL_law wsL_isLeast_r2 := goodIn_r _ [239, 240, 257, 258, 259, 307, 308, 309, 2, 310, 212, 213, 89, 90, 36, 13, 277, 278, 279, 311, 312, 313, 35, 314] (by decide +kernel) (by decide +kernel)
set_option maxRecDepth 20000 in
theorem ggd_L_isLeast_wsL_isLeast_r3 : GoodIn wsL_law wsL_isLeast_r3 := goodIn_r _ [315, 316, 317, 318, 319, 70, 320, 92, 93, 12, 94, 95, 321, 216, 217, 218, 40, 135, 136, 137, 138, 322, 323, 324] (by decide +kernel) (by decide +kernel)
set_option maxRecDepth 20000 in
theorem ggd_L_isLeast_wsL_isLeast_r4 : GoodIn wsL_law wsL_isLeast_r4 := goodIn_r _ [325, 73, 326, 128, 129, 130, 131, 132, 133, 134, 42, 139, 140, 141, 142, 43, 44, 143, 144, 145, 146, 100, 147, 148] (by decide +kernel) (by decide +kernel)
set_option maxRecDepth 20000 in
theorem ggd_L_isLeast_wsL_isLeast_r5 : GoodIn wsL_law wsL_isLeast_r5 := goodIn_r _ [149, 150, 41, 327, 328, 329, 330, 331, 78, 332, 119, 120, 121, 46, 333, 123, 124, 125, 45, 126, 334, 335, 336, 337] (by decide +kernel) (by decide +kernel)
