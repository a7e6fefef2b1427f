set_option maxRecDepth 20000 in
theorem ggd_L_areRows_wsL_areRows_r9 : GoodIn wsL_law wsL_areRows_r9 := goodIn_r _ [287, 288, 289, 290, 291, 292] (by decide +kernel) (by decide +kernel)
set_option maxRecDepth 20000 in
theorem ggd_L_areRows_wsX70 : GoodIn wsL_law wsX70 := goodIn_r _ [500, 501, 502, 503, 504, 505, 506, 507] (by decide +kernel) (by decide +kernel)
set_option maxRecDepth 20000 in
theorem ggd_L_areRows_wsX50 : GoodIn wsL_law wsX50 := goodIn_r _ [508, 509, 510, 511, 512, 513, 514, 515, 516, 517] (by decide +kernel) (by decide +kernel)
set_option maxRecDepth 20000 in
theorem ggd_L_areRows_wsX20 : GoodIn wsL_law wsX20 := goodIn_r _ [527, 528, 529] (by decide +kernel) (by decide +kernel)
set_option maxRecDepth 20000 in
theorem ggd_L_areRows_wsX40 : GoodIn wsL_law wsX40 := goodIn_r _ [518, 519, 520] (by decide +kernel) (by decide +kernel)
set_option maxRecDepth 20000 in
theorem ggd_L_acts_wsL_acts_r1 : GoodIn wsL_law wsL_acts_r1 := goodIn_r _ [3, 382, 383, 83, 384, 385, 389, 390, 391, 2, 392, 212, 213, 20, 13, 277, 278, 279, 393, 394, 395, 19, 396, 52] (by decide +kernel) (by decide +kernel)
set_option maxRecDepth 20000 in
theorem ggd_L_acts_wsL_acts_r2 : GoodIn wsL_law wsL_acts_r2 := goodIn_r _ [397, 204, 398, 399, 400, 12, 401, 40, 402, 351, 352, 353, 41, 42, 43, 44, 45, 46, 95, 100, 199, 403, 404, 405] (by decide +kernel) (by decide +kernel)
set_option maxRecDepth 20000 in
theorem ggd_L_acts_wsL_acts_r3 : GoodIn wsL_law wsL_acts_r3 := goodIn_r _ [406, 126, 119, 120, 121, 303, 304, 305, 306, 135, 136, 137, 138, 407, 408, 409, 410, 411, 412, 413, 89, 90, 214, 414] (by decide +kernel) (by decide +kernel)
set_option maxRecDepth 20000 in
theorem ggd_L_acts_wsL_acts_r4 : GoodIn wsL_law wsL_acts_r4 := goodIn_r _ [415, 416, 417, 418, 419, 420, 421, 422, 423, 424, 425, 426, 427, 428, 429, 216, 217, 218, 430, 431, 432, 433, 164, 165] (by decide +kernel) (by decide +kernel)
set_option maxRecDepth 20000 in
theorem ggd_L_acts_wsL_acts_r5 : GoodIn wsL_law wsL_acts_r5 := goodIn_r _ [166, 167, 168, 169, 170, 171, 434, 435, 436, 241, 242, 243, 437, 438, 439, 440, 267, 144, 145, 146, 441, 442, 443, 444] (by decide +kernel) (by decide +kernel)
