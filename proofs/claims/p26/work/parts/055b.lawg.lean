set_option maxRecDepth 20000 in
theorem ggd_L_arePeople_wsX20 : GoodIn wsL_law wsX20 := goodIn_r _ [527, 528, 529] (by decide +kernel) (by decide +kernel)
set_option maxRecDepth 20000 in
theorem ggd_L_arePeople_wsX40 : GoodIn wsL_law wsX40 := goodIn_r _ [518, 519, 520] (by decide +kernel) (by decide +kernel)
set_option maxRecDepth 20000 in
theorem ggd_L_areRows_wsL_areRows_r1 : GoodIn wsL_law wsL_areRows_r1 := goodIn_r _ [85, 86, 87, 2, 88, 89, 90, 13, 20, 91, 92, 93, 12, 94, 95, 96, 97, 98, 99, 100, 101, 102, 103, 104] (by decide +kernel) (by decide +kernel)
set_option maxRecDepth 20000 in
theorem ggd_L_areRows_wsL_areRows_r2 : GoodIn wsL_law wsL_areRows_r2 := goodIn_r _ [105, 106, 107, 108, 42, 109, 110, 111, 112, 28, 113, 114, 115, 27, 116, 117, 60, 61, 118, 119, 120, 121, 46, 122] (by decide +kernel) (by decide +kernel)
set_option maxRecDepth 20000 in
theorem ggd_L_areRows_wsL_areRows_r3 : GoodIn wsL_law wsL_areRows_r3 := goodIn_r _ [123, 124, 125, 45, 126, 127, 128, 129, 130, 131, 132, 133, 134, 135, 136, 137, 138, 139, 140, 141, 142, 43, 44, 143] (by decide +kernel) (by decide +kernel)
set_option maxRecDepth 20000 in
theorem ggd_L_areRows_wsL_areRows_r4 : GoodIn wsL_law wsL_areRows_r4 := goodIn_r _ [144, 145, 146, 147, 148, 149, 150, 41, 151, 152, 153, 154, 155, 156, 157, 158, 159, 160, 161, 162, 163, 164, 165, 166] (by decide +kernel) (by decide +kernel)
set_option maxRecDepth 20000 in
theorem ggd_L_areRows_wsL_areRows_r5 : GoodIn wsL_law wsL_areRows_r5 := goodIn_r _ [167, 168, 169, 170, 171, 172, 173, 174, 175, 176, 177, 178, 179, 180, 181, 182, 183, 184, 185, 186, 187, 188, 189, 190] (by decide +kernel) (by decide +kernel)
set_option maxRecDepth 20000 in
theorem ggd_L_areRows_wsL_areRows_r6 : GoodIn wsL_law wsL_areRows_r6 := goodIn_r _ [191, 192, 193, 194, 195, 196, 197, 198, 199, 200, 201, 202, 19, 203, 204, 257, 258, 83, 259, 260, 261, 262, 247, 248] (by decide +kernel) (by decide +kernel)
set_option maxRecDepth 20000 in
theorem ggd_L_areRows_wsL_areRows_r7 : GoodIn wsL_law wsL_areRows_r7 := goodIn_r _ [249, 238, 239, 240, 205, 206, 207, 244, 245, 246, 263, 264, 265, 266, 212, 213, 267, 268, 269, 215, 216, 217, 218, 40] (by decide +kernel) (by decide +kernel)
set_option maxRecDepth 20000 in
theorem ggd_L_areRows_wsL_areRows_r8 : GoodIn wsL_law wsL_areRows_r8 := goodIn_r _ [270, 271, 272, 230, 231, 232, 233, 234, 235, 236, 273, 274, 275, 276, 277, 278, 279, 280, 281, 282, 283, 284, 285, 286] (by decide +kernel) (by decide +kernel)
