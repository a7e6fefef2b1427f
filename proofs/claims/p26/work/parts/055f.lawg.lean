set_option maxRecDepth 20000 in
theorem ggd_L_isLeast_wsL_isLeast_r6 : GoodIn wsL_law wsL_isLeast_r6 := goodIn_r _ [338, 74, 75, 76, 339, 181, 182, 183, 340, 192, 193, 194, 341, 342, 343, 344, 80, 345, 346, 347, 348, 349, 71, 350] (by decide +kernel) (by decide +kernel)
set_option maxRecDepth 20000 in
theorem ggd_L_isLeast_wsL_isLeast_r7 : GoodIn wsL_law wsL_isLeast_r7 := goodIn_r _ [351, 352, 353, 354, 355, 356, 357, 72, 358, 231, 232, 233, 234, 235, 236, 359, 360, 361, 362, 77, 363, 364, 365, 366] (by decide +kernel) (by decide +kernel)
set_option maxRecDepth 20000 in
theorem ggd_L_isLeast_wsL_isLeast_r8 : GoodIn wsL_law wsL_isLeast_r8 := goodIn_r _ [367, 368, 369, 370, 371, 372, 373, 374, 375, 376, 377, 293, 294, 295, 296, 109, 110, 111, 112, 28, 113, 114, 115, 27] (by decide +kernel) (by decide +kernel)
set_option maxRecDepth 20000 in
theorem ggd_L_isLeast_wsL_isLeast_r9 : GoodIn wsL_law wsL_isLeast_r9 := goodIn_r _ [116, 117, 60, 61, 118, 122, 127, 151, 152, 153, 154, 297, 298, 299, 300, 301, 302, 303, 304, 305, 306, 382, 383, 384] (by decide +kernel) (by decide +kernel)
set_option maxRecDepth 20000 in
theorem ggd_L_isLeast_wsL_isLeast_r10 : GoodIn wsL_law wsL_isLeast_r10 := goodIn_r _ [385, 205, 206, 207, 492, 493, 494, 495, 214, 496, 497, 174, 498, 184, 185, 186, 187, 188, 189, 190, 180, 191, 229, 499] (by decide +kernel) (by decide +kernel)
set_option maxRecDepth 20000 in
theorem ggd_L_isLeast_wsX70 : GoodIn wsL_law wsX70 := goodIn_r _ [500, 501, 502, 503, 504, 505, 506, 507] (by decide +kernel) (by decide +kernel)
set_option maxRecDepth 20000 in
theorem ggd_L_isLeast_wsX30 : GoodIn wsL_law wsX30 := goodIn_r _ [532, 533, 534, 535, 536, 537, 538, 539, 540, 541, 542, 543, 544] (by decide +kernel) (by decide +kernel)
set_option maxRecDepth 20000 in
theorem ggd_L_isLeast_wsX50 : GoodIn wsL_law wsX50 := goodIn_r _ [508, 509, 510, 511, 512, 513, 514, 515, 516, 517] (by decide +kernel) (by decide +kernel)
set_option maxRecDepth 20000 in
theorem ggd_L_isLeast_wsX20 : GoodIn wsL_law wsX20 := goodIn_r _ [527, 528, 529] (by decide +kernel) (by decide +kernel)
