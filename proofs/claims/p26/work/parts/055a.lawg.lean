theorem goodIn_c0 {big a : List Cond} {c : Cond} (hc : GoodIn big [c]) (ha : GoodIn big a) : GoodIn big (c :: a) := fun w h => (List.mem_cons.mp h).elim (fun e => hc w (List.mem_cons.mpr (Or.inl e))) (ha w)
set_option maxRecDepth 20000 in
theorem ggd_L_arePeople_wsL_arePeople_r1 : GoodIn wsL_law wsL_arePeople_r1 := goodIn_r _ [85, 86, 87, 2, 88, 89, 90, 13, 20, 91, 92, 93, 12, 94, 95, 96, 97, 98, 99, 100, 101, 102, 103, 104] (by decide +kernel) (by decide +kernel)
set_option maxRecDepth 20000 in
theorem ggd_L_arePeople_wsL_arePeople_r2 : GoodIn wsL_law wsL_arePeople_r2 := goodIn_r _ [105, 106, 107, 108, 42, 109, 110, 111, 112, 28, 113, 114, 115, 27, 116, 117, 60, 61, 118, 119, 120, 121, 46, 122] (by decide +kernel) (by decide +kernel)
set_option maxRecDepth 20000 in
theorem ggd_L_arePeople_wsL_arePeople_r3 : GoodIn wsL_law wsL_arePeople_r3 := goodIn_r _ [123, 124, 125, 45, 126, 127, 128, 129, 130, 131, 132, 133, 134, 135, 136, 137, 138, 139, 140, 141, 142, 43, 44, 143] (by decide +kernel) (by decide +kernel)
set_option maxRecDepth 20000 in
theorem ggd_L_arePeople_wsL_arePeople_r4 : GoodIn wsL_law wsL_arePeople_r4 := goodIn_r _ [144, 145, 146, 147, 148, 149, 150, 41, 151, 152, 153, 154, 155, 156, 157, 158, 159, 160, 161, 162, 163, 164, 165, 166] (by decide +kernel) (by decide +kernel)
set_option maxRecDepth 20000 in
theorem ggd_L_arePeople_wsL_arePeople_r5 : GoodIn wsL_law wsL_arePeople_r5 := goodIn_r _ [167, 168, 169, 170, 171, 172, 173, 174, 175, 176, 177, 178, 179, 180, 181, 182, 183, 184, 185, 186, 187, 188, 189, 190] (by decide +kernel) (by decide +kernel)
set_option maxRecDepth 20000 in
theorem ggd_L_arePeople_wsL_arePeople_r6 : GoodIn wsL_law wsL_arePeople_r6 := goodIn_r _ [191, 192, 193, 194, 195, 196, 197, 198, 199, 200, 201, 202, 19, 203, 204, 205, 206, 83, 207, 208, 209, 210, 211, 212] (by decide +kernel) (by decide +kernel)
set_option maxRecDepth 20000 in
theorem ggd_L_arePeople_wsL_arePeople_r7 : GoodIn wsL_law wsL_arePeople_r7 := goodIn_r _ [213, 214, 215, 216, 217, 218, 40, 219, 220, 221, 222, 223, 224, 225, 226, 227, 228, 229, 230, 231, 232, 233, 234, 235] (by decide +kernel) (by decide +kernel)
set_option maxRecDepth 20000 in
theorem ggd_L_arePeople_wsL_arePeople_r8 : GoodIn wsL_law wsL_arePeople_r8 := goodIn_r _ [236, 237, 238, 239, 240, 241, 242, 243, 244, 245, 246, 247, 248, 249, 250, 251, 252, 253] (by decide +kernel) (by decide +kernel)
set_option maxRecDepth 20000 in
theorem ggd_L_arePeople_wsX70 : GoodIn wsL_law wsX70 := goodIn_r _ [500, 501, 502, 503, 504, 505, 506, 507] (by decide +kernel) (by decide +kernel)
set_option maxRecDepth 20000 in
theorem ggd_L_arePeople_wsX50 : GoodIn wsL_law wsX50 := goodIn_r _ [508, 509, 510, 511, 512, 513, 514, 515, 516, 517] (by decide +kernel) (by decide +kernel)
