set_option maxRecDepth 20000 in
theorem ggX7_digest_X7_count : GoodIn wsX7_digest wsX7_count := goodIn_ca (goodIn_r _ [10, 11, 12, 3, 13, 14, 15, 16, 17, 18, 19, 20, 21, 22, 23, 24, 25, 26, 27, 28, 29, 30, 31, 32, 33, 34, 35, 36, 9, 37, 38, 39, 40, 41, 42, 43, 44, 45, 46, 47, 48, 49, 50, 51, 52, 53, 54, 55, 56, 57, 58, 59, 60, 61, 62, 63, 64, 65, 66, 67, 68, 69, 70, 71, 72, 73, 74, 75, 76, 77, 78, 79, 80, 81, 82, 83, 84, 85, 86, 87, 88, 89, 90, 91, 92, 93, 94, 95, 96, 97, 98, 99, 100, 101, 102, 103, 104, 105, 106, 107, 108, 109, 110, 111, 112, 113, 114, 115, 116, 117, 118, 119, 120, 121, 122, 123, 124, 125, 126, 127, 128, 129, 130, 131, 132, 133, 134, 135, 136, 137, 138, 139, 334, 335, 336, 337, 338, 339, 340, 341, 342, 343, 344, 345, 346, 347, 348, 349, 350, 351, 352, 353, 354, 355, 356, 357] (by decide +kernel) (by decide +kernel)) (goodIn_sub (fun _ h => List.mem_cons_of_mem _ (List.mem_append_left _ (List.mem_append_right _ h))) (by decide +kernel))
set_option maxRecDepth 20000 in
theorem gX7_digest_X7_count : GoodIn wsX7_digest (wsV RX7 276 RX7 yX7_count wsX7_count) := goodIn_app (goodIn_of _ (by decide +kernel)) ggX7_digest_X7_count
set_option maxRecDepth 20000 in
theorem ggX7_digest_X7_hashPeopleAndCouples : GoodIn wsX7_digest wsX7_hashPeopleAndCouples := goodIn_ca (goodIn_ca (goodIn_r _ [143, 3, 2, 14, 15, 16, 17, 18, 19, 144, 145, 146, 9, 147, 148, 149, 11, 12, 150, 67, 68, 69, 151, 152, 153, 154, 155, 66, 156, 81, 82, 83, 84, 157, 63, 64, 65, 33, 158, 103, 104, 105, 24, 74, 75, 159, 160, 161, 162, 29, 30, 31, 32, 163, 164, 108, 165, 166, 121, 122, 123, 124, 114, 115, 116, 117, 76, 77, 78, 79, 125, 126, 127, 128, 167, 168, 169, 170, 171, 172, 173, 174, 119, 120, 20, 21, 22, 23, 175, 176, 177, 178, 179, 180, 181, 182, 71, 72, 73, 80, 183, 184, 112, 113, 118, 334, 335, 336, 337, 338, 339, 340, 341, 342, 343, 344, 345, 346, 347, 348, 349, 350, 351] (by decide +kernel) (by decide +kernel)) (goodIn_sub (fun _ h => List.mem_cons_of_mem _ (List.mem_append_right _ h)) (by decide +kernel))) (goodIn_sub (fun _ h => List.mem_cons_of_mem _ (List.mem_append_left _ (List.mem_append_right _ h))) (by decide +kernel))
set_option maxRecDepth 20000 in
theorem gX7_digest_X7_hashPeopleAndCouples : GoodIn wsX7_digest (wsV RX7 279 RX7 yX7_hashPeopleAndCouples wsX7_hashPeopleAndCouples) := goodIn_app (goodIn_of _ (by decide +kernel)) ggX7_digest_X7_hashPeopleAndCouples
set_option maxRecDepth 20000 in
theorem ggX7_digest_X7_hashRows : GoodIn wsX7_digest wsX7_hashRows := goodIn_ca (goodIn_ca (goodIn_r _ [188, 2, 189, 190, 191, 9, 192, 148, 149, 11, 12, 3, 193, 194, 195, 196, 53, 54, 17, 55, 56, 57, 48, 49, 50, 51, 197, 198, 199, 200, 38, 39, 40, 41, 42, 43, 44, 45, 46, 47, 52, 58, 59, 60, 61, 62, 63, 64, 65, 33, 66, 67, 68, 69, 19, 70, 71, 72, 73, 74, 75, 76, 77, 78, 79, 24, 80, 81, 82, 83, 84, 85, 86, 87, 88, 201, 202, 203, 204, 205, 206, 207, 208, 334, 335, 336, 337, 338, 339, 340, 341, 342, 343, 344, 345, 346, 347, 348, 349, 350, 351, 352, 353, 354] (by decide +kernel) (by decide +kernel)) (goodIn_sub (fun _ h => List.mem_cons_of_mem _ (List.mem_append_right _ h)) (by decide +kernel))) (goodIn_sub (fun _ h => List.mem_cons_of_mem _ (List.mem_append_left _ (List.mem_append_right _ h))) (by decide +kernel))
set_option maxRecDepth 20000 in
theorem gX7_digest_X7_hashRows : GoodIn wsX7_digest (wsV RX7 283 RX7 yX7_hashRows wsX7_hashRows) := goodIn_app (goodIn_of _ (by decide +kernel)) ggX7_digest_X7_hashRows
set_option maxRecDepth 20000 in
theorem ggX7_digest_X7_least : GoodIn wsX7_digest wsX7_least := goodIn_ca (goodIn_ca (goodIn_r _ [212, 148, 149, 11, 12, 213, 3, 193, 194, 9, 195, 214, 215, 216, 217, 218, 219, 220, 221, 222, 223, 224, 225, 15, 16, 17, 18, 19, 226, 152, 153, 154, 155, 66, 67, 68, 69, 227, 228, 229, 230, 231, 232, 59, 60, 61, 62, 63, 64, 65, 33, 70, 71, 72, 73, 74, 75, 76, 77, 78, 79, 24, 80, 81, 82, 83, 84, 233, 234, 235, 236, 237, 238, 239, 48, 49, 50, 51, 240, 53, 54, 55, 56, 57, 241, 242, 243, 244, 245, 246, 247, 248, 249, 115, 116, 117, 250, 126, 127, 128, 251, 252, 253, 254, 255, 256, 257, 258, 259, 260, 261, 262, 263, 264, 265, 266, 267, 268, 269, 270, 271, 168, 169, 170, 171, 172, 173, 272, 273, 274, 275, 276, 277, 278, 279, 280, 281, 282, 283, 284, 285, 286, 287, 288, 289, 290, 291, 334, 335, 336, 337, 338, 339, 340, 341, 358, 359, 360, 361, 362, 363, 364, 365, 366, 367, 368, 369, 370, 342, 343, 344, 345, 346, 347, 348, 349, 350, 351] (by decide +kernel) (by decide +kernel)) (goodIn_sub (fun _ h => List.mem_cons_of_mem _ (List.mem_append_right _ h)) (by decide +kernel))) (goodIn_sub (fun _ h => List.mem_cons_of_mem _ (List.mem_append_left _ (List.mem_append_right _ h))) (by decide +kernel))
set_option maxRecDepth 20000 in
theorem gX7_digest_X7_least : GoodIn wsX7_digest (wsV RX7 286 RX7 yX7_least wsX7_least) := goodIn_app (goodIn_of _ (by decide +kernel)) ggX7_digest_X7_least
set_option maxRecDepth 20000 in
theorem ggX7_digest_X7_bestSwap : GoodIn wsX7_digest wsX7_bestSwap := goodIn_r _ [295, 3, 34, 35, 36, 9, 37, 38, 39, 40, 41, 42, 43, 44, 45, 46, 47, 48, 49, 17, 50, 51, 52, 53, 54, 55, 56, 57, 58, 59, 60, 61, 62, 63, 64, 65, 33, 66, 67, 68, 69, 19, 70, 71, 72, 73, 74, 75, 76, 77, 78, 79, 24, 80, 81, 82, 83, 84, 85, 86, 87, 88, 296, 297, 298, 299, 300, 301, 302, 303, 304, 305, 334, 335, 336, 337, 338, 339, 340, 341, 352, 353, 354, 342, 343, 344, 345, 346, 347, 348, 349, 350, 351] (by decide +kernel) (by decide +kernel)
set_option maxRecDepth 20000 in
theorem gX7_digest_X7_bestSwap : GoodIn wsX7_digest (wsV RX7 289 RX7 yX7_bestSwap wsX7_bestSwap) := goodIn_app (goodIn_of _ (by decide +kernel)) ggX7_digest_X7_bestSwap
set_option maxRecDepth 20000 in
theorem ggX7_digest_X5_people : GoodIn wsX7_digest wsX5_people := goodIn_r _ [18, 19, 342, 343, 344, 345, 346, 347, 348, 349, 350, 351] (by decide +kernel) (by decide +kernel)
set_option maxRecDepth 20000 in
theorem gX7_digest_X5_people : GoodIn wsX7_digest (wsV RX7 169 RX5 yX5_people wsX5_people) := goodIn_app (goodIn_of _ (by decide +kernel)) ggX7_digest_X5_people
set_option maxRecDepth 20000 in
theorem ggX7_digest_X7_nearness : GoodIn wsX7_digest wsX7_nearness := goodIn_ca (goodIn_r _ [309, 148, 149, 3, 150, 67, 68, 17, 69, 19, 310, 311, 108, 312, 118, 119, 120, 121, 122, 123, 124, 63, 64, 65, 33, 66, 114, 115, 116, 117, 74, 76, 77, 78, 79, 24, 125, 126, 127, 128, 75, 166, 15, 16, 18, 313, 152, 153, 154, 155, 334, 335, 336, 337, 338, 339, 340, 341, 342, 343, 344, 345, 346, 347, 348, 349, 350, 351] (by decide +kernel) (by decide +kernel)) (goodIn_sub (fun _ h => List.mem_cons_of_mem _ (List.mem_append_right _ h)) (by decide +kernel))
set_option maxRecDepth 20000 in
theorem gX7_digest_X7_nearness : GoodIn wsX7_digest (wsV RX7 292 RX7 yX7_nearness wsX7_nearness) := goodIn_app (goodIn_of _ (by decide +kernel)) ggX7_digest_X7_nearness
set_option maxRecDepth 20000 in
theorem ggX7_digest_X7_straightShare : GoodIn wsX7_digest wsX7_straightShare := goodIn_r _ [317, 3, 25, 26, 27, 17, 28, 19, 29, 30, 31, 32, 33, 89, 90, 91, 92, 84, 93, 59, 60, 61, 62, 63, 64, 65, 66, 67, 68, 69, 70, 71, 72, 73, 74, 75, 76, 77, 78, 79, 24, 80, 81, 82, 83, 334, 335, 336, 337, 338, 339, 340, 341, 342, 343, 344, 345, 346, 347, 348, 349, 350, 351] (by decide +kernel) (by decide +kernel)
set_option maxRecDepth 20000 in
theorem gX7_digest_X7_straightShare : GoodIn wsX7_digest (wsV RX7 295 RX7 yX7_straightShare wsX7_straightShare) := goodIn_app (goodIn_of _ (by decide +kernel)) ggX7_digest_X7_straightShare
set_option maxRecDepth 20000 in
theorem ggX7_digest_X7_bitsOfShare : GoodIn wsX7_digest wsX7_bitsOfShare := goodIn_r _ [320, 321, 322] (by decide +kernel) (by decide +kernel)
set_option maxRecDepth 20000 in
theorem gX7_digest_X7_bitsOfShare : GoodIn wsX7_digest (va_wsS RX7 299 yX7_bitsOfShare wsX7_bitsOfShare) := goodIn_app (goodIn_of _ (by decide +kernel)) ggX7_digest_X7_bitsOfShare
set_option maxRecDepth 20000 in
theorem ggX7_digest_X6_length : GoodIn wsX7_digest wsX6_length := goodIn_r _ [327, 328, 371, 372, 373, 374, 375, 376] (by decide +kernel) (by decide +kernel)
set_option maxRecDepth 20000 in
theorem gX7_digest_X6_length : GoodIn wsX7_digest (wsV RX7 303 RX6 yX6_length wsX6_length) := goodIn_app (goodIn_of _ (by decide +kernel)) ggX7_digest_X6_length
set_option maxRecDepth 20000 in
theorem ggX7_digest_X6_codeAt : GoodIn wsX7_digest wsX6_codeAt := goodIn_r _ [332, 328, 333, 371, 372, 373, 374, 375, 376] (by decide +kernel) (by decide +kernel)
set_option maxRecDepth 20000 in
theorem gX7_digest_X6_codeAt : GoodIn wsX7_digest (wsV RX7 306 RX6 yX6_codeAt wsX6_codeAt) := goodIn_app (goodIn_of _ (by decide +kernel)) ggX7_digest_X6_codeAt
theorem dX7_digest_0 : decode cX7_digest 0 = .ok (.ldc2_w 272, 3) := by decide +kernel
theorem dX7_digest_3 : decode cX7_digest 3 = .ok (.lstore_n 1, 1) := by decide +kernel
theorem dX7_digest_4 : decode cX7_digest 4 = .ok (.iconst 0, 1) := by decide +kernel
theorem dX7_digest_5 : decode cX7_digest 5 = .ok (.istore_n 3, 1) := by decide +kernel
theorem dX7_digest_6 : decode cX7_digest 6 = .ok (.iload_n 3, 1) := by decide +kernel
theorem dX7_digest_7 : decode cX7_digest 7 = .ok (.bipush 8, 2) := by decide +kernel
theorem dX7_digest_9 : decode cX7_digest 9 = .ok (.if_icmp .gt 22, 3) := by decide +kernel
theorem dX7_digest_12 : decode cX7_digest 12 = .ok (.ldc2_w 274, 3) := by decide +kernel
theorem dX7_digest_15 : decode cX7_digest 15 = .ok (.lload_n 1, 1) := by decide +kernel
theorem dX7_digest_16 : decode cX7_digest 16 = .ok (.lmul, 1) := by decide +kernel
theorem dX7_digest_17 : decode cX7_digest 17 = .ok (.aload_n 0, 1) := by decide +kernel
theorem dX7_digest_18 : decode cX7_digest 18 = .ok (.iload_n 3, 1) := by decide +kernel
theorem dX7_digest_19 : decode cX7_digest 19 = .ok (.invokevirtual 276, 3) := by decide +kernel
theorem dX7_digest_22 : decode cX7_digest 22 = .ok (.i2l, 1) := by decide +kernel
theorem dX7_digest_23 : decode cX7_digest 23 = .ok (.ladd, 1) := by decide +kernel
theorem dX7_digest_24 : decode cX7_digest 24 = .ok (.lstore_n 1, 1) := by decide +kernel
theorem dX7_digest_25 : decode cX7_digest 25 = .ok (.iinc 3 1, 3) := by decide +kernel
theorem dX7_digest_28 : decode cX7_digest 28 = .ok (.goto (-22), 3) := by decide +kernel
theorem dX7_digest_31 : decode cX7_digest 31 = .ok (.aload_n 0, 1) := by decide +kernel
theorem dX7_digest_32 : decode cX7_digest 32 = .ok (.lload_n 1, 1) := by decide +kernel
theorem dX7_digest_33 : decode cX7_digest 33 = .ok (.invokevirtual 279, 3) := by decide +kernel
theorem dX7_digest_36 : decode cX7_digest 36 = .ok (.lstore_n 1, 1) := by decide +kernel
theorem dX7_digest_37 : decode cX7_digest 37 = .ok (.aload_n 0, 1) := by decide +kernel
theorem dX7_digest_38 : decode cX7_digest 38 = .ok (.lload_n 1, 1) := by decide +kernel
theorem dX7_digest_39 : decode cX7_digest 39 = .ok (.invokevirtual 283, 3) := by decide +kernel
theorem dX7_digest_42 : decode cX7_digest 42 = .ok (.lstore_n 1, 1) := by decide +kernel
theorem dX7_digest_43 : decode cX7_digest 43 = .ok (.iconst 0, 1) := by decide +kernel
theorem dX7_digest_44 : decode cX7_digest 44 = .ok (.istore_n 3, 1) := by decide +kernel
theorem dX7_digest_45 : decode cX7_digest 45 = .ok (.iload_n 3, 1) := by decide +kernel
theorem dX7_digest_46 : decode cX7_digest 46 = .ok (.iconst 4, 1) := by decide +kernel
theorem dX7_digest_47 : decode cX7_digest 47 = .ok (.if_icmp .ge 37, 3) := by decide +kernel
theorem dX7_digest_50 : decode cX7_digest 50 = .ok (.ldc2_w 274, 3) := by decide +kernel
theorem dX7_digest_53 : decode cX7_digest 53 = .ok (.lload_n 1, 1) := by decide +kernel
theorem dX7_digest_54 : decode cX7_digest 54 = .ok (.lmul, 1) := by decide +kernel
theorem dX7_digest_55 : decode cX7_digest 55 = .ok (.aload_n 0, 1) := by decide +kernel
theorem dX7_digest_56 : decode cX7_digest 56 = .ok (.iload_n 3, 1) := by decide +kernel
theorem dX7_digest_57 : decode cX7_digest 57 = .ok (.iconst 0, 1) := by decide +kernel
theorem dX7_digest_58 : decode cX7_digest 58 = .ok (.invokevirtual 286, 3) := by decide +kernel
theorem dX7_digest_61 : decode cX7_digest 61 = .ok (.i2l, 1) := by decide +kernel
theorem dX7_digest_62 : decode cX7_digest 62 = .ok (.ladd, 1) := by decide +kernel
theorem dX7_digest_63 : decode cX7_digest 63 = .ok (.lstore_n 1, 1) := by decide +kernel
theorem dX7_digest_64 : decode cX7_digest 64 = .ok (.ldc2_w 274, 3) := by decide +kernel
theorem dX7_digest_67 : decode cX7_digest 67 = .ok (.lload_n 1, 1) := by decide +kernel
theorem dX7_digest_68 : decode cX7_digest 68 = .ok (.lmul, 1) := by decide +kernel
theorem dX7_digest_69 : decode cX7_digest 69 = .ok (.aload_n 0, 1) := by decide +kernel
theorem dX7_digest_70 : decode cX7_digest 70 = .ok (.iload_n 3, 1) := by decide +kernel
theorem dX7_digest_71 : decode cX7_digest 71 = .ok (.iconst 1, 1) := by decide +kernel
theorem dX7_digest_72 : decode cX7_digest 72 = .ok (.invokevirtual 286, 3) := by decide +kernel
theorem dX7_digest_75 : decode cX7_digest 75 = .ok (.i2l, 1) := by decide +kernel
theorem dX7_digest_76 : decode cX7_digest 76 = .ok (.ladd, 1) := by decide +kernel
theorem dX7_digest_77 : decode cX7_digest 77 = .ok (.lstore_n 1, 1) := by decide +kernel
theorem dX7_digest_78 : decode cX7_digest 78 = .ok (.iinc 3 1, 3) := by decide +kernel
theorem dX7_digest_81 : decode cX7_digest 81 = .ok (.goto (-36), 3) := by decide +kernel
theorem dX7_digest_84 : decode cX7_digest 84 = .ok (.ldc2_w 274, 3) := by decide +kernel
theorem dX7_digest_87 : decode cX7_digest 87 = .ok (.lload_n 1, 1) := by decide +kernel
theorem dX7_digest_88 : decode cX7_digest 88 = .ok (.lmul, 1) := by decide +kernel
theorem dX7_digest_89 : decode cX7_digest 89 = .ok (.aload_n 0, 1) := by decide +kernel
theorem dX7_digest_90 : decode cX7_digest 90 = .ok (.invokevirtual 289, 3) := by decide +kernel
theorem dX7_digest_93 : decode cX7_digest 93 = .ok (.i2l, 1) := by decide +kernel
theorem dX7_digest_94 : decode cX7_digest 94 = .ok (.ladd, 1) := by decide +kernel
theorem dX7_digest_95 : decode cX7_digest 95 = .ok (.lstore_n 1, 1) := by decide +kernel
theorem dX7_digest_96 : decode cX7_digest 96 = .ok (.iconst 0, 1) := by decide +kernel
theorem dX7_digest_97 : decode cX7_digest 97 = .ok (.istore_n 3, 1) := by decide +kernel
theorem dX7_digest_98 : decode cX7_digest 98 = .ok (.iload_n 3, 1) := by decide +kernel
theorem dX7_digest_99 : decode cX7_digest 99 = .ok (.aload_n 0, 1) := by decide +kernel
theorem dX7_digest_100 : decode cX7_digest 100 = .ok (.getfield 10, 3) := by decide +kernel
theorem dX7_digest_103 : decode cX7_digest 103 = .ok (.invokevirtual 169, 3) := by decide +kernel
theorem dX7_digest_106 : decode cX7_digest 106 = .ok (.if_icmp .ge 23, 3) := by decide +kernel
theorem dX7_digest_109 : decode cX7_digest 109 = .ok (.ldc2_w 274, 3) := by decide +kernel
theorem dX7_digest_112 : decode cX7_digest 112 = .ok (.lload_n 1, 1) := by decide +kernel
theorem dX7_digest_113 : decode cX7_digest 113 = .ok (.lmul, 1) := by decide +kernel
theorem dX7_digest_114 : decode cX7_digest 114 = .ok (.aload_n 0, 1) := by decide +kernel
theorem dX7_digest_115 : decode cX7_digest 115 = .ok (.iconst 0, 1) := by decide +kernel
theorem dX7_digest_116 : decode cX7_digest 116 = .ok (.iload_n 3, 1) := by decide +kernel
theorem dX7_digest_117 : decode cX7_digest 117 = .ok (.invokevirtual 292, 3) := by decide +kernel
theorem dX7_digest_120 : decode cX7_digest 120 = .ok (.i2l, 1) := by decide +kernel
theorem dX7_digest_121 : decode cX7_digest 121 = .ok (.ladd, 1) := by decide +kernel
theorem dX7_digest_122 : decode cX7_digest 122 = .ok (.lstore_n 1, 1) := by decide +kernel
theorem dX7_digest_123 : decode cX7_digest 123 = .ok (.iinc 3 1, 3) := by decide +kernel
theorem dX7_digest_126 : decode cX7_digest 126 = .ok (.goto (-28), 3) := by decide +kernel
theorem dX7_digest_129 : decode cX7_digest 129 = .ok (.ldc2_w 274, 3) := by decide +kernel
theorem dX7_digest_132 : decode cX7_digest 132 = .ok (.lload_n 1, 1) := by decide +kernel
theorem dX7_digest_133 : decode cX7_digest 133 = .ok (.lmul, 1) := by decide +kernel
theorem dX7_digest_134 : decode cX7_digest 134 = .ok (.aload_n 0, 1) := by decide +kernel
theorem dX7_digest_135 : decode cX7_digest 135 = .ok (.invokevirtual 295, 3) := by decide +kernel
theorem dX7_digest_138 : decode cX7_digest 138 = .ok (.invokestatic 299, 3) := by decide +kernel
theorem dX7_digest_141 : decode cX7_digest 141 = .ok (.ladd, 1) := by decide +kernel
theorem dX7_digest_142 : decode cX7_digest 142 = .ok (.lstore_n 1, 1) := by decide +kernel
theorem dX7_digest_143 : decode cX7_digest 143 = .ok (.iconst 0, 1) := by decide +kernel
theorem dX7_digest_144 : decode cX7_digest 144 = .ok (.istore_n 3, 1) := by decide +kernel
theorem dX7_digest_145 : decode cX7_digest 145 = .ok (.iload_n 3, 1) := by decide +kernel
theorem dX7_digest_146 : decode cX7_digest 146 = .ok (.iconst 2, 1) := by decide +kernel
theorem dX7_digest_147 : decode cX7_digest 147 = .ok (.if_icmp .ge 31, 3) := by decide +kernel
theorem dX7_digest_150 : decode cX7_digest 150 = .ok (.ldc2_w 274, 3) := by decide +kernel
theorem dX7_digest_153 : decode cX7_digest 153 = .ok (.lload_n 1, 1) := by decide +kernel
theorem dX7_digest_154 : decode cX7_digest 154 = .ok (.lmul, 1) := by decide +kernel
theorem dX7_digest_155 : decode cX7_digest 155 = .ok (.aload_n 0, 1) := by decide +kernel
theorem dX7_digest_156 : decode cX7_digest 156 = .ok (.getfield 20, 3) := by decide +kernel
theorem dX7_digest_159 : decode cX7_digest 159 = .ok (.iload_n 3, 1) := by decide +kernel
theorem dX7_digest_160 : decode cX7_digest 160 = .ok (.baload, 1) := by decide +kernel
theorem dX7_digest_161 : decode cX7_digest 161 = .ok (.ifCond .eq 7, 3) := by decide +kernel
theorem dX7_digest_164 : decode cX7_digest 164 = .ok (.iconst 1, 1) := by decide +kernel
theorem dX7_digest_165 : decode cX7_digest 165 = .ok (.goto 4, 3) := by decide +kernel
theorem dX7_digest_168 : decode cX7_digest 168 = .ok (.iconst 0, 1) := by decide +kernel
theorem dX7_digest_169 : decode cX7_digest 169 = .ok (.i2l, 1) := by decide +kernel
theorem dX7_digest_170 : decode cX7_digest 170 = .ok (.ladd, 1) := by decide +kernel
theorem dX7_digest_171 : decode cX7_digest 171 = .ok (.lstore_n 1, 1) := by decide +kernel
theorem dX7_digest_172 : decode cX7_digest 172 = .ok (.iinc 3 1, 3) := by decide +kernel
theorem dX7_digest_175 : decode cX7_digest 175 = .ok (.goto (-30), 3) := by decide +kernel
theorem dX7_digest_178 : decode cX7_digest 178 = .ok (.ldc2_w 274, 3) := by decide +kernel
theorem dX7_digest_181 : decode cX7_digest 181 = .ok (.lload_n 1, 1) := by decide +kernel
theorem dX7_digest_182 : decode cX7_digest 182 = .ok (.lmul, 1) := by decide +kernel
theorem dX7_digest_183 : decode cX7_digest 183 = .ok (.aload_n 0, 1) := by decide +kernel
theorem dX7_digest_184 : decode cX7_digest 184 = .ok (.getfield 34, 3) := by decide +kernel
theorem dX7_digest_187 : decode cX7_digest 187 = .ok (.invokevirtual 303, 3) := by decide +kernel
theorem dX7_digest_190 : decode cX7_digest 190 = .ok (.i2l, 1) := by decide +kernel
theorem dX7_digest_191 : decode cX7_digest 191 = .ok (.ladd, 1) := by decide +kernel
theorem dX7_digest_192 : decode cX7_digest 192 = .ok (.lstore_n 1, 1) := by decide +kernel
theorem dX7_digest_193 : decode cX7_digest 193 = .ok (.iconst 0, 1) := by decide +kernel
theorem dX7_digest_194 : decode cX7_digest 194 = .ok (.istore_n 3, 1) := by decide +kernel
theorem dX7_digest_195 : decode cX7_digest 195 = .ok (.iload_n 3, 1) := by decide +kernel
theorem dX7_digest_196 : decode cX7_digest 196 = .ok (.aload_n 0, 1) := by decide +kernel
theorem dX7_digest_197 : decode cX7_digest 197 = .ok (.getfield 34, 3) := by decide +kernel
theorem dX7_digest_200 : decode cX7_digest 200 = .ok (.invokevirtual 303, 3) := by decide +kernel
theorem dX7_digest_203 : decode cX7_digest 203 = .ok (.if_icmp .ge 25, 3) := by decide +kernel
theorem dX7_digest_206 : decode cX7_digest 206 = .ok (.ldc2_w 274, 3) := by decide +kernel
theorem dX7_digest_209 : decode cX7_digest 209 = .ok (.lload_n 1, 1) := by decide +kernel
theorem dX7_digest_210 : decode cX7_digest 210 = .ok (.lmul, 1) := by decide +kernel
theorem dX7_digest_211 : decode cX7_digest 211 = .ok (.aload_n 0, 1) := by decide +kernel
theorem dX7_digest_212 : decode cX7_digest 212 = .ok (.getfield 34, 3) := by decide +kernel
theorem dX7_digest_215 : decode cX7_digest 215 = .ok (.iload_n 3, 1) := by decide +kernel
theorem dX7_digest_216 : decode cX7_digest 216 = .ok (.invokevirtual 306, 3) := by decide +kernel
theorem dX7_digest_219 : decode cX7_digest 219 = .ok (.i2l, 1) := by decide +kernel
theorem dX7_digest_220 : decode cX7_digest 220 = .ok (.ladd, 1) := by decide +kernel
theorem dX7_digest_221 : decode cX7_digest 221 = .ok (.lstore_n 1, 1) := by decide +kernel
theorem dX7_digest_222 : decode cX7_digest 222 = .ok (.iinc 3 1, 3) := by decide +kernel
theorem dX7_digest_225 : decode cX7_digest 225 = .ok (.goto (-30), 3) := by decide +kernel
theorem dX7_digest_228 : decode cX7_digest 228 = .ok (.lload_n 1, 1) := by decide +kernel
theorem dX7_digest_229 : decode cX7_digest 229 = .ok (.lreturn, 1) := by decide +kernel
set_option maxRecDepth 20000 in
theorem ggX7_hashPeopleAndCouples_X5_people : GoodIn wsX7_hashPeopleAndCouples wsX5_people := goodIn_r _ [7, 8, 113, 114, 115, 116, 117, 118, 119, 120, 121, 122] (by decide +kernel) (by decide +kernel)
set_option maxRecDepth 20000 in
theorem gX7_hashPeopleAndCouples_X5_people : GoodIn wsX7_hashPeopleAndCouples (wsV RX7 169 RX5 yX5_people wsX5_people) := goodIn_app (goodIn_of _ (by decide +kernel)) ggX7_hashPeopleAndCouples_X5_people
set_option maxRecDepth 20000 in
theorem ggX7_hashPeopleAndCouples_X7_personOf : GoodIn wsX7_hashPeopleAndCouples wsX7_personOf := goodIn_ca (goodIn_ca (goodIn_r _ [13, 14, 15, 16, 17, 1, 18, 19, 20, 6, 21, 8, 22, 23, 24, 25, 26, 27, 28, 29, 30, 31, 32, 33, 34, 35, 36, 37, 38, 39, 40, 41, 42, 43, 44, 45, 46, 47, 48, 49, 50, 51, 52, 53, 54, 55, 56, 57, 4, 5, 7, 58, 59, 60, 61, 62, 63, 64, 65, 66, 67, 68, 69, 70, 71, 72, 73, 74, 75, 76, 77, 78, 79, 80, 81, 82, 83, 105, 106, 107, 108, 109, 110, 111, 112, 113, 114, 115, 116, 117, 118, 119, 120, 121, 122] (by decide +kernel) (by decide +kernel)) (goodIn_sub (fun _ h => List.mem_cons_of_mem _ (List.mem_append_left _ (List.mem_append_right _ h))) (by decide +kernel))) (goodIn_sub (fun _ h => List.mem_cons_of_mem _ (List.mem_append_right _ h)) (by decide +kernel))
set_option maxRecDepth 20000 in
theorem gX7_hashPeopleAndCouples_X7_personOf : GoodIn wsX7_hashPeopleAndCouples (wsV RX7 309 RX7 yX7_personOf wsX7_personOf) := goodIn_app (goodIn_of _ (by decide +kernel)) ggX7_hashPeopleAndCouples_X7_personOf
set_option maxRecDepth 20000 in
theorem ggX7_hashPeopleAndCouples_X5_couples : GoodIn wsX7_hashPeopleAndCouples wsX5_couples := goodIn_r _ [87, 42, 113, 114, 115, 116, 117, 118, 119, 120, 121, 122] (by decide +kernel) (by decide +kernel)
set_option maxRecDepth 20000 in
theorem gX7_hashPeopleAndCouples_X5_couples : GoodIn wsX7_hashPeopleAndCouples (wsV RX7 245 RX5 yX5_couples wsX5_couples) := goodIn_app (goodIn_of _ (by decide +kernel)) ggX7_hashPeopleAndCouples_X5_couples
set_option maxRecDepth 20000 in
theorem ggX7_hashPeopleAndCouples_X7_coupleOf : GoodIn wsX7_hashPeopleAndCouples wsX7_coupleOf := goodIn_ca (goodIn_ca (goodIn_r _ [91, 14, 15, 16, 17, 1, 92, 67, 68, 6, 69, 42, 93, 63, 64, 65, 43, 66, 94, 71, 72, 73, 44, 22, 23, 24, 25, 26, 27, 19, 20, 21, 8, 95, 96, 97, 98, 99, 29, 30, 31, 32, 100, 50, 51, 52, 37, 101, 102, 55, 103, 62, 104, 82, 83, 58, 59, 60, 61, 34, 35, 36, 70, 74, 75, 76, 77, 78, 79, 80, 105, 106, 107, 108, 109, 110, 111, 112, 113, 114, 115, 116, 117, 118, 119, 120, 121, 122] (by decide +kernel) (by decide +kernel)) (goodIn_sub (fun _ h => List.mem_cons_of_mem _ (List.mem_append_left _ (List.mem_append_right _ h))) (by decide +kernel))) (goodIn_sub (fun _ h => List.mem_cons_of_mem _ (List.mem_append_right _ h)) (by decide +kernel))
set_option maxRecDepth 20000 in
theorem gX7_hashPeopleAndCouples_X7_coupleOf : GoodIn wsX7_hashPeopleAndCouples (wsV RX7 312 RX7 yX7_coupleOf wsX7_coupleOf) := goodIn_app (goodIn_of _ (by decide +kernel)) ggX7_hashPeopleAndCouples_X7_coupleOf
theorem dX7_hashPeopleAndCouples_0 : decode cX7_hashPeopleAndCouples 0 = .ok (.lload_n 1, 1) := by decide +kernel
theorem dX7_hashPeopleAndCouples_1 : decode cX7_hashPeopleAndCouples 1 = .ok (.lstore_n 3, 1) := by decide +kernel
theorem dX7_hashPeopleAndCouples_2 : decode cX7_hashPeopleAndCouples 2 = .ok (.iconst 0, 1) := by decide +kernel
theorem dX7_hashPeopleAndCouples_3 : decode cX7_hashPeopleAndCouples 3 = .ok (.istore 5, 2) := by decide +kernel
theorem dX7_hashPeopleAndCouples_5 : decode cX7_hashPeopleAndCouples 5 = .ok (.iload 5, 2) := by decide +kernel
theorem dX7_hashPeopleAndCouples_7 : decode cX7_hashPeopleAndCouples 7 = .ok (.aload_n 0, 1) := by decide +kernel
theorem dX7_hashPeopleAndCouples_8 : decode cX7_hashPeopleAndCouples 8 = .ok (.getfield 10, 3) := by decide +kernel
theorem dX7_hashPeopleAndCouples_11 : decode cX7_hashPeopleAndCouples 11 = .ok (.invokevirtual 169, 3) := by decide +kernel
theorem dX7_hashPeopleAndCouples_14 : decode cX7_hashPeopleAndCouples 14 = .ok (.if_icmp .ge 41, 3) := by decide +kernel
theorem dX7_hashPeopleAndCouples_17 : decode cX7_hashPeopleAndCouples 17 = .ok (.iconst 0, 1) := by decide +kernel
theorem dX7_hashPeopleAndCouples_18 : decode cX7_hashPeopleAndCouples 18 = .ok (.istore 6, 2) := by decide +kernel
theorem dX7_hashPeopleAndCouples_20 : decode cX7_hashPeopleAndCouples 20 = .ok (.iload 6, 2) := by decide +kernel
theorem dX7_hashPeopleAndCouples_22 : decode cX7_hashPeopleAndCouples 22 = .ok (.bipush 6, 2) := by decide +kernel
theorem dX7_hashPeopleAndCouples_24 : decode cX7_hashPeopleAndCouples 24 = .ok (.if_icmp .gt 25, 3) := by decide +kernel
theorem dX7_hashPeopleAndCouples_27 : decode cX7_hashPeopleAndCouples 27 = .ok (.ldc2_w 274, 3) := by decide +kernel
theorem dX7_hashPeopleAndCouples_30 : decode cX7_hashPeopleAndCouples 30 = .ok (.lload_n 3, 1) := by decide +kernel
theorem dX7_hashPeopleAndCouples_31 : decode cX7_hashPeopleAndCouples 31 = .ok (.lmul, 1) := by decide +kernel
theorem dX7_hashPeopleAndCouples_32 : decode cX7_hashPeopleAndCouples 32 = .ok (.aload_n 0, 1) := by decide +kernel
theorem dX7_hashPeopleAndCouples_33 : decode cX7_hashPeopleAndCouples 33 = .ok (.iload 5, 2) := by decide +kernel
theorem dX7_hashPeopleAndCouples_35 : decode cX7_hashPeopleAndCouples 35 = .ok (.iload 6, 2) := by decide +kernel
theorem dX7_hashPeopleAndCouples_37 : decode cX7_hashPeopleAndCouples 37 = .ok (.invokevirtual 309, 3) := by decide +kernel
theorem dX7_hashPeopleAndCouples_40 : decode cX7_hashPeopleAndCouples 40 = .ok (.i2l, 1) := by decide +kernel
theorem dX7_hashPeopleAndCouples_41 : decode cX7_hashPeopleAndCouples 41 = .ok (.ladd, 1) := by decide +kernel
theorem dX7_hashPeopleAndCouples_42 : decode cX7_hashPeopleAndCouples 42 = .ok (.lstore_n 3, 1) := by decide +kernel
theorem dX7_hashPeopleAndCouples_43 : decode cX7_hashPeopleAndCouples 43 = .ok (.iinc 6 1, 3) := by decide +kernel
theorem dX7_hashPeopleAndCouples_46 : decode cX7_hashPeopleAndCouples 46 = .ok (.goto (-26), 3) := by decide +kernel
theorem dX7_hashPeopleAndCouples_49 : decode cX7_hashPeopleAndCouples 49 = .ok (.iinc 5 1, 3) := by decide +kernel
theorem dX7_hashPeopleAndCouples_52 : decode cX7_hashPeopleAndCouples 52 = .ok (.goto (-47), 3) := by decide +kernel
theorem dX7_hashPeopleAndCouples_55 : decode cX7_hashPeopleAndCouples 55 = .ok (.iconst 0, 1) := by decide +kernel
theorem dX7_hashPeopleAndCouples_56 : decode cX7_hashPeopleAndCouples 56 = .ok (.istore 5, 2) := by decide +kernel
theorem dX7_hashPeopleAndCouples_58 : decode cX7_hashPeopleAndCouples 58 = .ok (.iload 5, 2) := by decide +kernel
theorem dX7_hashPeopleAndCouples_60 : decode cX7_hashPeopleAndCouples 60 = .ok (.aload_n 0, 1) := by decide +kernel
theorem dX7_hashPeopleAndCouples_61 : decode cX7_hashPeopleAndCouples 61 = .ok (.getfield 10, 3) := by decide +kernel
theorem dX7_hashPeopleAndCouples_64 : decode cX7_hashPeopleAndCouples 64 = .ok (.invokevirtual 245, 3) := by decide +kernel
theorem dX7_hashPeopleAndCouples_67 : decode cX7_hashPeopleAndCouples 67 = .ok (.if_icmp .ge 40, 3) := by decide +kernel
theorem dX7_hashPeopleAndCouples_70 : decode cX7_hashPeopleAndCouples 70 = .ok (.iconst 0, 1) := by decide +kernel
theorem dX7_hashPeopleAndCouples_71 : decode cX7_hashPeopleAndCouples 71 = .ok (.istore 6, 2) := by decide +kernel
theorem dX7_hashPeopleAndCouples_73 : decode cX7_hashPeopleAndCouples 73 = .ok (.iload 6, 2) := by decide +kernel
theorem dX7_hashPeopleAndCouples_75 : decode cX7_hashPeopleAndCouples 75 = .ok (.iconst 5, 1) := by decide +kernel
theorem dX7_hashPeopleAndCouples_76 : decode cX7_hashPeopleAndCouples 76 = .ok (.if_icmp .gt 25, 3) := by decide +kernel
theorem dX7_hashPeopleAndCouples_79 : decode cX7_hashPeopleAndCouples 79 = .ok (.ldc2_w 274, 3) := by decide +kernel
theorem dX7_hashPeopleAndCouples_82 : decode cX7_hashPeopleAndCouples 82 = .ok (.lload_n 3, 1) := by decide +kernel
theorem dX7_hashPeopleAndCouples_83 : decode cX7_hashPeopleAndCouples 83 = .ok (.lmul, 1) := by decide +kernel
theorem dX7_hashPeopleAndCouples_84 : decode cX7_hashPeopleAndCouples 84 = .ok (.aload_n 0, 1) := by decide +kernel
theorem dX7_hashPeopleAndCouples_85 : decode cX7_hashPeopleAndCouples 85 = .ok (.iload 5, 2) := by decide +kernel
theorem dX7_hashPeopleAndCouples_87 : decode cX7_hashPeopleAndCouples 87 = .ok (.iload 6, 2) := by decide +kernel
theorem dX7_hashPeopleAndCouples_89 : decode cX7_hashPeopleAndCouples 89 = .ok (.invokevirtual 312, 3) := by decide +kernel
theorem dX7_hashPeopleAndCouples_92 : decode cX7_hashPeopleAndCouples 92 = .ok (.i2l, 1) := by decide +kernel
theorem dX7_hashPeopleAndCouples_93 : decode cX7_hashPeopleAndCouples 93 = .ok (.ladd, 1) := by decide +kernel
theorem dX7_hashPeopleAndCouples_94 : decode cX7_hashPeopleAndCouples 94 = .ok (.lstore_n 3, 1) := by decide +kernel
theorem dX7_hashPeopleAndCouples_95 : decode cX7_hashPeopleAndCouples 95 = .ok (.iinc 6 1, 3) := by decide +kernel
theorem dX7_hashPeopleAndCouples_98 : decode cX7_hashPeopleAndCouples 98 = .ok (.goto (-25), 3) := by decide +kernel
theorem dX7_hashPeopleAndCouples_101 : decode cX7_hashPeopleAndCouples 101 = .ok (.iinc 5 1, 3) := by decide +kernel
theorem dX7_hashPeopleAndCouples_104 : decode cX7_hashPeopleAndCouples 104 = .ok (.goto (-46), 3) := by decide +kernel
theorem dX7_hashPeopleAndCouples_107 : decode cX7_hashPeopleAndCouples 107 = .ok (.lload_n 3, 1) := by decide +kernel
theorem dX7_hashPeopleAndCouples_108 : decode cX7_hashPeopleAndCouples 108 = .ok (.lreturn, 1) := by decide +kernel
set_option maxRecDepth 20000 in
theorem ggX7_hashRows_X7_at : GoodIn wsX7_hashRows wsX7_at := goodIn_ca (goodIn_ca (goodIn_r _ [6, 7, 8, 9, 10, 11, 12, 13, 5, 14, 15, 16, 17, 18, 19, 20, 21, 22, 23, 24, 25, 83, 84, 85, 86, 87, 88, 89, 90, 91, 92, 93, 94, 95, 96, 97, 98, 99, 100] (by decide +kernel) (by decide +kernel)) (goodIn_sub (fun _ h => List.mem_cons_of_mem _ (List.mem_append_left _ (List.mem_append_right _ h))) (by decide +kernel))) (goodIn_sub (fun _ h => List.mem_cons_of_mem _ (List.mem_append_right _ h)) (by decide +kernel))
set_option maxRecDepth 20000 in
theorem gX7_hashRows_X7_at : GoodIn wsX7_hashRows (wsV RX7 315 RX7 yX7_at wsX7_at) := goodIn_app (goodIn_of _ (by decide +kernel)) ggX7_hashRows_X7_at
set_option maxRecDepth 20000 in
theorem ggX7_hashRows_X7_crossings : GoodIn wsX7_hashRows wsX7_crossings := goodIn_ca (goodIn_ca (goodIn_r _ [29, 7, 8, 9, 10, 30, 11, 12, 13, 5, 14, 31, 32, 33, 34, 35, 36, 37, 38, 39, 22, 23, 18, 24, 25, 40, 16, 17, 19, 20, 21, 41, 42, 43, 44, 45, 46, 47, 48, 49, 50, 51, 52, 53, 54, 55, 56, 57, 58, 59, 60, 61, 62, 63, 64, 65, 66, 67, 68, 69, 70, 71, 72, 73, 74, 75, 76, 77, 78, 79, 80, 81, 82, 83, 84, 85, 86, 87, 88, 89, 90, 101, 102, 103, 91, 92, 93, 94, 95, 96, 97, 98, 99, 100] (by decide +kernel) (by decide +kernel)) (goodIn_sub (fun _ h => List.mem_cons_of_mem _ (List.mem_append_left _ (List.mem_append_right _ h))) (by decide +kernel))) (goodIn_sub (fun _ h => List.mem_cons_of_mem _ (List.mem_append_right _ h)) (by decide +kernel))
set_option maxRecDepth 20000 in
theorem gX7_hashRows_X7_crossings : GoodIn wsX7_hashRows (wsV RX7 318 RX7 yX7_crossings wsX7_crossings) := goodIn_app (goodIn_of _ (by decide +kernel)) ggX7_hashRows_X7_crossings
theorem dX7_hashRows_0 : decode cX7_hashRows 0 = .ok (.lload_n 1, 1) := by decide +kernel
theorem dX7_hashRows_1 : decode cX7_hashRows 1 = .ok (.lstore_n 3, 1) := by decide +kernel
theorem dX7_hashRows_2 : decode cX7_hashRows 2 = .ok (.iconst 0, 1) := by decide +kernel
theorem dX7_hashRows_3 : decode cX7_hashRows 3 = .ok (.istore 5, 2) := by decide +kernel
theorem dX7_hashRows_5 : decode cX7_hashRows 5 = .ok (.iload 5, 2) := by decide +kernel
theorem dX7_hashRows_7 : decode cX7_hashRows 7 = .ok (.iconst 4, 1) := by decide +kernel
theorem dX7_hashRows_8 : decode cX7_hashRows 8 = .ok (.if_icmp .ge 71, 3) := by decide +kernel
theorem dX7_hashRows_11 : decode cX7_hashRows 11 = .ok (.iconst 0, 1) := by decide +kernel
theorem dX7_hashRows_12 : decode cX7_hashRows 12 = .ok (.istore 6, 2) := by decide +kernel
theorem dX7_hashRows_14 : decode cX7_hashRows 14 = .ok (.iload 6, 2) := by decide +kernel
theorem dX7_hashRows_16 : decode cX7_hashRows 16 = .ok (.bipush 6, 2) := by decide +kernel
theorem dX7_hashRows_18 : decode cX7_hashRows 18 = .ok (.if_icmp .ge 25, 3) := by decide +kernel
theorem dX7_hashRows_21 : decode cX7_hashRows 21 = .ok (.ldc2_w 274, 3) := by decide +kernel
theorem dX7_hashRows_24 : decode cX7_hashRows 24 = .ok (.lload_n 3, 1) := by decide +kernel
theorem dX7_hashRows_25 : decode cX7_hashRows 25 = .ok (.lmul, 1) := by decide +kernel
theorem dX7_hashRows_26 : decode cX7_hashRows 26 = .ok (.aload_n 0, 1) := by decide +kernel
theorem dX7_hashRows_27 : decode cX7_hashRows 27 = .ok (.iload 5, 2) := by decide +kernel
theorem dX7_hashRows_29 : decode cX7_hashRows 29 = .ok (.iload 6, 2) := by decide +kernel
theorem dX7_hashRows_31 : decode cX7_hashRows 31 = .ok (.invokevirtual 315, 3) := by decide +kernel
theorem dX7_hashRows_34 : decode cX7_hashRows 34 = .ok (.i2l, 1) := by decide +kernel
theorem dX7_hashRows_35 : decode cX7_hashRows 35 = .ok (.ladd, 1) := by decide +kernel
theorem dX7_hashRows_36 : decode cX7_hashRows 36 = .ok (.lstore_n 3, 1) := by decide +kernel
theorem dX7_hashRows_37 : decode cX7_hashRows 37 = .ok (.iinc 6 1, 3) := by decide +kernel
theorem dX7_hashRows_40 : decode cX7_hashRows 40 = .ok (.goto (-26), 3) := by decide +kernel
theorem dX7_hashRows_43 : decode cX7_hashRows 43 = .ok (.ldc2_w 274, 3) := by decide +kernel
theorem dX7_hashRows_46 : decode cX7_hashRows 46 = .ok (.lload_n 3, 1) := by decide +kernel
theorem dX7_hashRows_47 : decode cX7_hashRows 47 = .ok (.lmul, 1) := by decide +kernel
theorem dX7_hashRows_48 : decode cX7_hashRows 48 = .ok (.aload_n 0, 1) := by decide +kernel
theorem dX7_hashRows_49 : decode cX7_hashRows 49 = .ok (.iload 5, 2) := by decide +kernel
theorem dX7_hashRows_51 : decode cX7_hashRows 51 = .ok (.iconst 0, 1) := by decide +kernel
theorem dX7_hashRows_52 : decode cX7_hashRows 52 = .ok (.invokevirtual 318, 3) := by decide +kernel
theorem dX7_hashRows_55 : decode cX7_hashRows 55 = .ok (.i2l, 1) := by decide +kernel
theorem dX7_hashRows_56 : decode cX7_hashRows 56 = .ok (.ladd, 1) := by decide +kernel
theorem dX7_hashRows_57 : decode cX7_hashRows 57 = .ok (.lstore_n 3, 1) := by decide +kernel
theorem dX7_hashRows_58 : decode cX7_hashRows 58 = .ok (.ldc2_w 274, 3) := by decide +kernel
theorem dX7_hashRows_61 : decode cX7_hashRows 61 = .ok (.lload_n 3, 1) := by decide +kernel
theorem dX7_hashRows_62 : decode cX7_hashRows 62 = .ok (.lmul, 1) := by decide +kernel
theorem dX7_hashRows_63 : decode cX7_hashRows 63 = .ok (.aload_n 0, 1) := by decide +kernel
theorem dX7_hashRows_64 : decode cX7_hashRows 64 = .ok (.iload 5, 2) := by decide +kernel
theorem dX7_hashRows_66 : decode cX7_hashRows 66 = .ok (.iconst 1, 1) := by decide +kernel
theorem dX7_hashRows_67 : decode cX7_hashRows 67 = .ok (.invokevirtual 318, 3) := by decide +kernel
theorem dX7_hashRows_70 : decode cX7_hashRows 70 = .ok (.i2l, 1) := by decide +kernel
theorem dX7_hashRows_71 : decode cX7_hashRows 71 = .ok (.ladd, 1) := by decide +kernel
theorem dX7_hashRows_72 : decode cX7_hashRows 72 = .ok (.lstore_n 3, 1) := by decide +kernel
theorem dX7_hashRows_73 : decode cX7_hashRows 73 = .ok (.iinc 5 1, 3) := by decide +kernel
theorem dX7_hashRows_76 : decode cX7_hashRows 76 = .ok (.goto (-71), 3) := by decide +kernel
theorem dX7_hashRows_79 : decode cX7_hashRows 79 = .ok (.lload_n 3, 1) := by decide +kernel
theorem dX7_hashRows_80 : decode cX7_hashRows 80 = .ok (.lreturn, 1) := by decide +kernel
theorem dX7_bitsOfShare_0 : decode cX7_bitsOfShare 0 = .ok (.dload_n 0, 1) := by decide +kernel
theorem dX7_bitsOfShare_1 : decode cX7_bitsOfShare 1 = .ok (.dconst 0, 1) := by decide +kernel
theorem dX7_bitsOfShare_2 : decode cX7_bitsOfShare 2 = .ok (.dcmp .g, 1) := by decide +kernel
theorem dX7_bitsOfShare_3 : decode cX7_bitsOfShare 3 = .ok (.ifCond .gt 5, 3) := by decide +kernel
theorem dX7_bitsOfShare_6 : decode cX7_bitsOfShare 6 = .ok (.lconst 0, 1) := by decide +kernel
theorem dX7_bitsOfShare_7 : decode cX7_bitsOfShare 7 = .ok (.lreturn, 1) := by decide +kernel
theorem dX7_bitsOfShare_8 : decode cX7_bitsOfShare 8 = .ok (.dload_n 0, 1) := by decide +kernel
theorem dX7_bitsOfShare_9 : decode cX7_bitsOfShare 9 = .ok (.dstore_n 2, 1) := by decide +kernel
theorem dX7_bitsOfShare_10 : decode cX7_bitsOfShare 10 = .ok (.sipush 1023, 3) := by decide +kernel
theorem dX7_bitsOfShare_13 : decode cX7_bitsOfShare 13 = .ok (.istore 4, 2) := by decide +kernel
theorem dX7_bitsOfShare_15 : decode cX7_bitsOfShare 15 = .ok (.dload_n 2, 1) := by decide +kernel
theorem dX7_bitsOfShare_16 : decode cX7_bitsOfShare 16 = .ok (.dconst 1, 1) := by decide +kernel
theorem dX7_bitsOfShare_17 : decode cX7_bitsOfShare 17 = .ok (.dcmp .g, 1) := by decide +kernel
theorem dX7_bitsOfShare_18 : decode cX7_bitsOfShare 18 = .ok (.ifCond .ge 21, 3) := by decide +kernel
theorem dX7_bitsOfShare_21 : decode cX7_bitsOfShare 21 = .ok (.iload 4, 2) := by decide +kernel
theorem dX7_bitsOfShare_23 : decode cX7_bitsOfShare 23 = .ok (.iconst 1, 1) := by decide +kernel
theorem dX7_bitsOfShare_24 : decode cX7_bitsOfShare 24 = .ok (.if_icmp .le 15, 3) := by decide +kernel
theorem dX7_bitsOfShare_27 : decode cX7_bitsOfShare 27 = .ok (.dload_n 2, 1) := by decide +kernel
theorem dX7_bitsOfShare_28 : decode cX7_bitsOfShare 28 = .ok (.ldc2_w 321, 3) := by decide +kernel
theorem dX7_bitsOfShare_31 : decode cX7_bitsOfShare 31 = .ok (.dmul, 1) := by decide +kernel
theorem dX7_bitsOfShare_32 : decode cX7_bitsOfShare 32 = .ok (.dstore_n 2, 1) := by decide +kernel
theorem dX7_bitsOfShare_33 : decode cX7_bitsOfShare 33 = .ok (.iinc 4 (-1), 3) := by decide +kernel
theorem dX7_bitsOfShare_36 : decode cX7_bitsOfShare 36 = .ok (.goto (-21), 3) := by decide +kernel
theorem dX7_bitsOfShare_39 : decode cX7_bitsOfShare 39 = .ok (.dload_n 2, 1) := by decide +kernel
theorem dX7_bitsOfShare_40 : decode cX7_bitsOfShare 40 = .ok (.dconst 1, 1) := by decide +kernel
theorem dX7_bitsOfShare_41 : decode cX7_bitsOfShare 41 = .ok (.dsub, 1) := by decide +kernel
theorem dX7_bitsOfShare_42 : decode cX7_bitsOfShare 42 = .ok (.ldc2_w 323, 3) := by decide +kernel
theorem dX7_bitsOfShare_45 : decode cX7_bitsOfShare 45 = .ok (.dmul, 1) := by decide +kernel
theorem dX7_bitsOfShare_46 : decode cX7_bitsOfShare 46 = .ok (.d2l, 1) := by decide +kernel
theorem dX7_bitsOfShare_47 : decode cX7_bitsOfShare 47 = .ok (.lstore 5, 2) := by decide +kernel
theorem dX7_bitsOfShare_49 : decode cX7_bitsOfShare 49 = .ok (.iload 4, 2) := by decide +kernel
theorem dX7_bitsOfShare_51 : decode cX7_bitsOfShare 51 = .ok (.i2l, 1) := by decide +kernel
theorem dX7_bitsOfShare_52 : decode cX7_bitsOfShare 52 = .ok (.bipush 52, 2) := by decide +kernel
theorem dX7_bitsOfShare_54 : decode cX7_bitsOfShare 54 = .ok (.lshl, 1) := by decide +kernel
theorem dX7_bitsOfShare_55 : decode cX7_bitsOfShare 55 = .ok (.lload 5, 2) := by decide +kernel
theorem dX7_bitsOfShare_57 : decode cX7_bitsOfShare 57 = .ok (.lor, 1) := by decide +kernel
theorem dX7_bitsOfShare_58 : decode cX7_bitsOfShare 58 = .ok (.lreturn, 1) := by decide +kernel
theorem dX7_isRow_0 : decode cX7_isRow 0 = .ok (.iload_n 0, 1) := by decide +kernel
theorem dX7_isRow_1 : decode cX7_isRow 1 = .ok (.ifCond .lt 12, 3) := by decide +kernel
theorem dX7_isRow_4 : decode cX7_isRow 4 = .ok (.iload_n 0, 1) := by decide +kernel
theorem dX7_isRow_5 : decode cX7_isRow 5 = .ok (.iconst 4, 1) := by decide +kernel
theorem dX7_isRow_6 : decode cX7_isRow 6 = .ok (.if_icmp .ge 7, 3) := by decide +kernel
theorem dX7_isRow_9 : decode cX7_isRow 9 = .ok (.iconst 1, 1) := by decide +kernel
theorem dX7_isRow_10 : decode cX7_isRow 10 = .ok (.goto 4, 3) := by decide +kernel
theorem dX7_isRow_13 : decode cX7_isRow 13 = .ok (.iconst 0, 1) := by decide +kernel
theorem dX7_isRow_14 : decode cX7_isRow 14 = .ok (.ireturn, 1) := by decide +kernel
theorem dX7_isSlot_0 : decode cX7_isSlot 0 = .ok (.iload_n 0, 1) := by decide +kernel
theorem dX7_isSlot_1 : decode cX7_isSlot 1 = .ok (.ifCond .lt 12, 3) := by decide +kernel
theorem dX7_isSlot_4 : decode cX7_isSlot 4 = .ok (.iload_n 0, 1) := by decide +kernel
theorem dX7_isSlot_5 : decode cX7_isSlot 5 = .ok (.iconst 2, 1) := by decide +kernel
theorem dX7_isSlot_6 : decode cX7_isSlot 6 = .ok (.if_icmp .ge 7, 3) := by decide +kernel
theorem dX7_isSlot_9 : decode cX7_isSlot 9 = .ok (.iconst 1, 1) := by decide +kernel
theorem dX7_isSlot_10 : decode cX7_isSlot 10 = .ok (.goto 4, 3) := by decide +kernel
theorem dX7_isSlot_13 : decode cX7_isSlot 13 = .ok (.iconst 0, 1) := by decide +kernel
theorem dX7_isSlot_14 : decode cX7_isSlot 14 = .ok (.ireturn, 1) := by decide +kernel
set_option maxRecDepth 20000 in
theorem ggX7_allCrossings_X2_collect : GoodIn wsX7_allCrossings wsX2_collect := goodIn_r _ [7, 8, 9, 10, 11, 12, 13, 14, 15, 16, 17, 18, 19, 20, 21, 22, 23, 24, 25, 26, 27, 28, 29, 30, 31, 32, 33, 34, 35, 36, 37, 38, 39, 40, 41, 42, 43, 44, 45, 46, 47, 48, 49, 50, 51, 52, 65, 66, 67, 68, 69, 70, 71, 72, 73, 74, 75, 76, 77] (by decide +kernel) (by decide +kernel)
set_option maxRecDepth 20000 in
theorem gX7_allCrossings_X2_collect : GoodIn wsX7_allCrossings (wsV RX7 236 RX2 yX2_collect wsX2_collect) := goodIn_app (goodIn_of _ (by decide +kernel)) ggX7_allCrossings_X2_collect
set_option maxRecDepth 20000 in
theorem ggX7_allCrossings_X2_crossedPairs : GoodIn wsX7_allCrossings wsX2_crossedPairs := goodIn_r _ [56, 8, 9, 65, 66, 67] (by decide +kernel) (by decide +kernel)
set_option maxRecDepth 20000 in
theorem gX7_allCrossings_X2_crossedPairs : GoodIn wsX7_allCrossings (wsV RX7 239 RX2 yX2_crossedPairs wsX2_crossedPairs) := goodIn_app (goodIn_of _ (by decide +kernel)) ggX7_allCrossings_X2_crossedPairs
theorem dX7_allCrossings_0 : decode cX7_allCrossings 0 = .ok (.iconst 0, 1) := by decide +kernel
theorem dX7_allCrossings_1 : decode cX7_allCrossings 1 = .ok (.istore_n 1, 1) := by decide +kernel
theorem dX7_allCrossings_2 : decode cX7_allCrossings 2 = .ok (.iconst 0, 1) := by decide +kernel
theorem dX7_allCrossings_3 : decode cX7_allCrossings 3 = .ok (.istore_n 2, 1) := by decide +kernel
theorem dX7_allCrossings_4 : decode cX7_allCrossings 4 = .ok (.iload_n 2, 1) := by decide +kernel
theorem dX7_allCrossings_5 : decode cX7_allCrossings 5 = .ok (.iconst 4, 1) := by decide +kernel
theorem dX7_allCrossings_6 : decode cX7_allCrossings 6 = .ok (.if_icmp .ge 31, 3) := by decide +kernel
theorem dX7_allCrossings_9 : decode cX7_allCrossings 9 = .ok (.aload_n 0, 1) := by decide +kernel
theorem dX7_allCrossings_10 : decode cX7_allCrossings 10 = .ok (.getfield 41, 3) := by decide +kernel
theorem dX7_allCrossings_13 : decode cX7_allCrossings 13 = .ok (.aload_n 0, 1) := by decide +kernel
theorem dX7_allCrossings_14 : decode cX7_allCrossings 14 = .ok (.getfield 10, 3) := by decide +kernel
theorem dX7_allCrossings_17 : decode cX7_allCrossings 17 = .ok (.iload_n 2, 1) := by decide +kernel
theorem dX7_allCrossings_18 : decode cX7_allCrossings 18 = .ok (.invokevirtual 236, 3) := by decide +kernel
theorem dX7_allCrossings_21 : decode cX7_allCrossings 21 = .ok (.iload_n 1, 1) := by decide +kernel
theorem dX7_allCrossings_22 : decode cX7_allCrossings 22 = .ok (.aload_n 0, 1) := by decide +kernel
theorem dX7_allCrossings_23 : decode cX7_allCrossings 23 = .ok (.getfield 41, 3) := by decide +kernel
theorem dX7_allCrossings_26 : decode cX7_allCrossings 26 = .ok (.invokevirtual 239, 3) := by decide +kernel
theorem dX7_allCrossings_29 : decode cX7_allCrossings 29 = .ok (.iadd, 1) := by decide +kernel
theorem dX7_allCrossings_30 : decode cX7_allCrossings 30 = .ok (.istore_n 1, 1) := by decide +kernel
theorem dX7_allCrossings_31 : decode cX7_allCrossings 31 = .ok (.iinc 2 1, 3) := by decide +kernel
theorem dX7_allCrossings_34 : decode cX7_allCrossings 34 = .ok (.goto (-30), 3) := by decide +kernel
theorem dX7_allCrossings_37 : decode cX7_allCrossings 37 = .ok (.iload_n 1, 1) := by decide +kernel
theorem dX7_allCrossings_38 : decode cX7_allCrossings 38 = .ok (.ireturn, 1) := by decide +kernel
set_option maxRecDepth 20000 in
theorem ggX7_doItem_X6_firstNumber : GoodIn wsX7_doItem wsX6_firstNumber := goodIn_r _ [7, 8, 104, 105, 106, 107, 108, 109] (by decide +kernel) (by decide +kernel)
set_option maxRecDepth 20000 in
theorem gX7_doItem_X6_firstNumber : GoodIn wsX7_doItem (wsV RX7 325 RX6 yX6_firstNumber wsX6_firstNumber) := goodIn_app (goodIn_of _ (by decide +kernel)) ggX7_doItem_X6_firstNumber
set_option maxRecDepth 20000 in
theorem ggX7_doItem_X6_secondNumber : GoodIn wsX7_doItem wsX6_secondNumber := goodIn_r _ [12, 13, 104, 105, 106, 107, 108, 109] (by decide +kernel) (by decide +kernel)
set_option maxRecDepth 20000 in
theorem gX7_doItem_X6_secondNumber : GoodIn wsX7_doItem (wsV RX7 328 RX6 yX6_secondNumber wsX6_secondNumber) := goodIn_app (goodIn_of _ (by decide +kernel)) ggX7_doItem_X6_secondNumber
set_option maxRecDepth 20000 in
theorem ggX7_doItem_X6_itemKind : GoodIn wsX7_doItem wsX6_itemKind := goodIn_r _ [17, 18, 104, 105, 106, 107, 108, 109] (by decide +kernel) (by decide +kernel)
set_option maxRecDepth 20000 in
theorem gX7_doItem_X6_itemKind : GoodIn wsX7_doItem (wsV RX7 331 RX6 yX6_itemKind wsX6_itemKind) := goodIn_app (goodIn_of _ (by decide +kernel)) ggX7_doItem_X6_itemKind
set_option maxRecDepth 20000 in
theorem ggX7_doItem_X5_isPerson : GoodIn wsX7_doItem wsX5_isPerson := goodIn_r _ [23, 24, 110, 111, 112, 113, 114, 115, 116, 117, 118, 119] (by decide +kernel) (by decide +kernel)
set_option maxRecDepth 20000 in
theorem gX7_doItem_X5_isPerson : GoodIn wsX7_doItem (wsV RX7 78 RX5 yX5_isPerson wsX5_isPerson) := goodIn_app (goodIn_of _ (by decide +kernel)) ggX7_doItem_X5_isPerson
set_option maxRecDepth 20000 in
theorem ggX7_doItem_X5_addCouple : GoodIn wsX7_doItem wsX5_addCouple := goodIn_r _ [28, 29, 30, 31, 32, 33, 34, 35, 36, 37, 38, 39, 40, 41, 42, 22, 43, 44, 45, 46, 47, 48, 49, 20, 21, 23, 24, 50, 51, 52, 53, 54, 55, 56, 57, 58, 59, 60, 61, 110, 111, 112, 113, 114, 115, 116, 117, 118, 119] (by decide +kernel) (by decide +kernel)
set_option maxRecDepth 20000 in
theorem gX7_doItem_X5_addCouple : GoodIn wsX7_doItem (wsV RX7 88 RX5 yX5_addCouple wsX5_addCouple) := goodIn_app (goodIn_of _ (by decide +kernel)) ggX7_doItem_X5_addCouple
set_option maxRecDepth 20000 in
theorem ggX7_doItem_X5_isCouple : GoodIn wsX7_doItem wsX5_isCouple := goodIn_r _ [65, 30, 110, 111, 112, 113, 114, 115, 116, 117, 118, 119] (by decide +kernel) (by decide +kernel)
set_option maxRecDepth 20000 in
theorem gX7_doItem_X5_isCouple : GoodIn wsX7_doItem (wsV RX7 91 RX5 yX5_isCouple wsX5_isCouple) := goodIn_app (goodIn_of _ (by decide +kernel)) ggX7_doItem_X5_isCouple
set_option maxRecDepth 20000 in
theorem ggX7_doItem_X5_addChild : GoodIn wsX7_doItem wsX5_addChild := goodIn_r _ [69, 70, 71, 72, 22, 73, 31, 74, 63, 64, 65, 30, 44, 45, 46, 47, 48, 49, 20, 21, 23, 24, 75, 76, 77, 78, 29, 79, 80, 81, 82, 83, 84, 85, 86, 87, 88, 89, 90, 110, 111, 112, 113, 114, 115, 116, 117, 118, 119] (by decide +kernel) (by decide +kernel)
set_option maxRecDepth 20000 in
theorem gX7_doItem_X5_addChild : GoodIn wsX7_doItem (wsV RX7 96 RX5 yX5_addChild wsX5_addChild) := goodIn_app (goodIn_of _ (by decide +kernel)) ggX7_doItem_X5_addChild
set_option maxRecDepth 20000 in
theorem ggX7_doItem_X7_isRow : GoodIn wsX7_doItem wsX7_isRow := goodIn_r _ [94] (by decide +kernel) (by decide +kernel)
set_option maxRecDepth 20000 in
theorem gX7_doItem_X7_isRow : GoodIn wsX7_doItem (va_wsS RX7 59 yX7_isRow wsX7_isRow) := goodIn_app (goodIn_of _ (by decide +kernel)) ggX7_doItem_X7_isRow
set_option maxRecDepth 20000 in
theorem ggX7_doItem_X5_addPerson : GoodIn wsX7_doItem wsX5_addPerson := goodIn_r _ [78, 24, 29, 79, 48, 80, 81, 82, 83, 22, 84, 85, 86, 87, 88, 89, 90, 49, 20, 21, 23, 110, 111, 112, 113, 114, 115, 116, 117, 118, 119] (by decide +kernel) (by decide +kernel)
set_option maxRecDepth 20000 in
theorem gX7_doItem_X5_addPerson : GoodIn wsX7_doItem (wsV RX7 74 RX5 yX5_addPerson wsX5_addPerson) := goodIn_app (goodIn_of _ (by decide +kernel)) ggX7_doItem_X5_addPerson
theorem dX7_doItem_0 : decode cX7_doItem 0 = .ok (.aload_n 0, 1) := by decide +kernel
theorem dX7_doItem_1 : decode cX7_doItem 1 = .ok (.getfield 34, 3) := by decide +kernel
theorem dX7_doItem_4 : decode cX7_doItem 4 = .ok (.invokevirtual 325, 3) := by decide +kernel
theorem dX7_doItem_7 : decode cX7_doItem 7 = .ok (.istore_n 1, 1) := by decide +kernel
theorem dX7_doItem_8 : decode cX7_doItem 8 = .ok (.aload_n 0, 1) := by decide +kernel
theorem dX7_doItem_9 : decode cX7_doItem 9 = .ok (.getfield 34, 3) := by decide +kernel
theorem dX7_doItem_12 : decode cX7_doItem 12 = .ok (.invokevirtual 328, 3) := by decide +kernel
theorem dX7_doItem_15 : decode cX7_doItem 15 = .ok (.istore_n 2, 1) := by decide +kernel
theorem dX7_doItem_16 : decode cX7_doItem 16 = .ok (.aload_n 0, 1) := by decide +kernel
theorem dX7_doItem_17 : decode cX7_doItem 17 = .ok (.getfield 34, 3) := by decide +kernel
theorem dX7_doItem_20 : decode cX7_doItem 20 = .ok (.invokevirtual 331, 3) := by decide +kernel
theorem dX7_doItem_23 : decode cX7_doItem 23 = .ok (.lookupswitch 101 #[(1, 25), (2, 72)], 25) := by decide +kernel
theorem dX7_doItem_48 : decode cX7_doItem 48 = .ok (.aload_n 0, 1) := by decide +kernel
theorem dX7_doItem_49 : decode cX7_doItem 49 = .ok (.getfield 10, 3) := by decide +kernel
theorem dX7_doItem_52 : decode cX7_doItem 52 = .ok (.iload_n 1, 1) := by decide +kernel
theorem dX7_doItem_53 : decode cX7_doItem 53 = .ok (.invokevirtual 78, 3) := by decide +kernel
theorem dX7_doItem_56 : decode cX7_doItem 56 = .ok (.ifCond .eq 37, 3) := by decide +kernel
theorem dX7_doItem_59 : decode cX7_doItem 59 = .ok (.aload_n 0, 1) := by decide +kernel
theorem dX7_doItem_60 : decode cX7_doItem 60 = .ok (.getfield 10, 3) := by decide +kernel
theorem dX7_doItem_63 : decode cX7_doItem 63 = .ok (.iload_n 2, 1) := by decide +kernel
theorem dX7_doItem_64 : decode cX7_doItem 64 = .ok (.invokevirtual 78, 3) := by decide +kernel
theorem dX7_doItem_67 : decode cX7_doItem 67 = .ok (.ifCond .eq 26, 3) := by decide +kernel
theorem dX7_doItem_70 : decode cX7_doItem 70 = .ok (.iload_n 1, 1) := by decide +kernel
theorem dX7_doItem_71 : decode cX7_doItem 71 = .ok (.iload_n 2, 1) := by decide +kernel
theorem dX7_doItem_72 : decode cX7_doItem 72 = .ok (.if_icmp .eq 21, 3) := by decide +kernel
theorem dX7_doItem_75 : decode cX7_doItem 75 = .ok (.aload_n 0, 1) := by decide +kernel
theorem dX7_doItem_76 : decode cX7_doItem 76 = .ok (.getfield 10, 3) := by decide +kernel
theorem dX7_doItem_79 : decode cX7_doItem 79 = .ok (.iload_n 1, 1) := by decide +kernel
theorem dX7_doItem_80 : decode cX7_doItem 80 = .ok (.iload_n 2, 1) := by decide +kernel
theorem dX7_doItem_81 : decode cX7_doItem 81 = .ok (.invokevirtual 88, 3) := by decide +kernel
theorem dX7_doItem_84 : decode cX7_doItem 84 = .ok (.bipush 10, 2) := by decide +kernel
theorem dX7_doItem_86 : decode cX7_doItem 86 = .ok (.if_icmp .lt 7, 3) := by decide +kernel
theorem dX7_doItem_89 : decode cX7_doItem 89 = .ok (.iconst 1, 1) := by decide +kernel
theorem dX7_doItem_90 : decode cX7_doItem 90 = .ok (.goto 4, 3) := by decide +kernel
theorem dX7_doItem_93 : decode cX7_doItem 93 = .ok (.iconst 0, 1) := by decide +kernel
theorem dX7_doItem_94 : decode cX7_doItem 94 = .ok (.ireturn, 1) := by decide +kernel
theorem dX7_doItem_95 : decode cX7_doItem 95 = .ok (.aload_n 0, 1) := by decide +kernel
theorem dX7_doItem_96 : decode cX7_doItem 96 = .ok (.getfield 10, 3) := by decide +kernel
theorem dX7_doItem_99 : decode cX7_doItem 99 = .ok (.iload_n 1, 1) := by decide +kernel
theorem dX7_doItem_100 : decode cX7_doItem 100 = .ok (.invokevirtual 91, 3) := by decide +kernel
theorem dX7_doItem_103 : decode cX7_doItem 103 = .ok (.ifCond .eq 19, 3) := by decide +kernel
theorem dX7_doItem_106 : decode cX7_doItem 106 = .ok (.aload_n 0, 1) := by decide +kernel
theorem dX7_doItem_107 : decode cX7_doItem 107 = .ok (.getfield 10, 3) := by decide +kernel
theorem dX7_doItem_110 : decode cX7_doItem 110 = .ok (.iload_n 1, 1) := by decide +kernel
theorem dX7_doItem_111 : decode cX7_doItem 111 = .ok (.invokevirtual 96, 3) := by decide +kernel
theorem dX7_doItem_114 : decode cX7_doItem 114 = .ok (.iconst (-1), 1) := by decide +kernel
theorem dX7_doItem_115 : decode cX7_doItem 115 = .ok (.if_icmp .eq 7, 3) := by decide +kernel
theorem dX7_doItem_118 : decode cX7_doItem 118 = .ok (.iconst 1, 1) := by decide +kernel
theorem dX7_doItem_119 : decode cX7_doItem 119 = .ok (.goto 4, 3) := by decide +kernel
theorem dX7_doItem_122 : decode cX7_doItem 122 = .ok (.iconst 0, 1) := by decide +kernel
theorem dX7_doItem_123 : decode cX7_doItem 123 = .ok (.ireturn, 1) := by decide +kernel
theorem dX7_doItem_124 : decode cX7_doItem 124 = .ok (.iload_n 1, 1) := by decide +kernel
theorem dX7_doItem_125 : decode cX7_doItem 125 = .ok (.invokestatic 59, 3) := by decide +kernel
theorem dX7_doItem_128 : decode cX7_doItem 128 = .ok (.ifCond .eq 20, 3) := by decide +kernel
theorem dX7_doItem_131 : decode cX7_doItem 131 = .ok (.aload_n 0, 1) := by decide +kernel
theorem dX7_doItem_132 : decode cX7_doItem 132 = .ok (.getfield 10, 3) := by decide +kernel
theorem dX7_doItem_135 : decode cX7_doItem 135 = .ok (.iload_n 1, 1) := by decide +kernel
theorem dX7_doItem_136 : decode cX7_doItem 136 = .ok (.iconst (-1), 1) := by decide +kernel
theorem dX7_doItem_137 : decode cX7_doItem 137 = .ok (.invokevirtual 74, 3) := by decide +kernel
theorem dX7_doItem_140 : decode cX7_doItem 140 = .ok (.iconst (-1), 1) := by decide +kernel
theorem dX7_doItem_141 : decode cX7_doItem 141 = .ok (.if_icmp .eq 7, 3) := by decide +kernel
theorem dX7_doItem_144 : decode cX7_doItem 144 = .ok (.iconst 1, 1) := by decide +kernel
theorem dX7_doItem_145 : decode cX7_doItem 145 = .ok (.goto 4, 3) := by decide +kernel
theorem dX7_doItem_148 : decode cX7_doItem 148 = .ok (.iconst 0, 1) := by decide +kernel
theorem dX7_doItem_149 : decode cX7_doItem 149 = .ok (.ireturn, 1) := by decide +kernel
theorem dX8_init_0 : decode cX8_init 0 = .ok (.aload_n 0, 1) := by decide +kernel
theorem dX8_init_1 : decode cX8_init 1 = .ok (.invokespecial 1, 3) := by decide +kernel
theorem dX8_init_4 : decode cX8_init 4 = .ok (.aload_n 0, 1) := by decide +kernel
theorem dX8_init_5 : decode cX8_init 5 = .ok (.bipush 91, 2) := by decide +kernel
theorem dX8_init_7 : decode cX8_init 7 = .ok (.newarray .int, 2) := by decide +kernel
theorem dX8_init_9 : decode cX8_init 9 = .ok (.putfield 7, 3) := by decide +kernel
theorem dX8_init_12 : decode cX8_init 12 = .ok (.aload_n 0, 1) := by decide +kernel
theorem dX8_init_13 : decode cX8_init 13 = .ok (.sipush 546, 3) := by decide +kernel
theorem dX8_init_16 : decode cX8_init 16 = .ok (.newarray .int, 2) := by decide +kernel
theorem dX8_init_18 : decode cX8_init 18 = .ok (.putfield 13, 3) := by decide +kernel
theorem dX8_init_21 : decode cX8_init 21 = .ok (.aload_n 0, 1) := by decide +kernel
theorem dX8_init_22 : decode cX8_init 22 = .ok (.sipush 182, 3) := by decide +kernel
theorem dX8_init_25 : decode cX8_init 25 = .ok (.newarray .int, 2) := by decide +kernel
theorem dX8_init_27 : decode cX8_init 27 = .ok (.putfield 16, 3) := by decide +kernel
theorem dX8_init_30 : decode cX8_init 30 = .ok (.aload_n 0, 1) := by decide +kernel
theorem dX8_init_31 : decode cX8_init 31 = .ok (.iconst 2, 1) := by decide +kernel
theorem dX8_init_32 : decode cX8_init 32 = .ok (.newarray .boolean, 2) := by decide +kernel
theorem dX8_init_34 : decode cX8_init 34 = .ok (.putfield 19, 3) := by decide +kernel
theorem dX8_init_37 : decode cX8_init 37 = .ok (.aload_n 0, 1) := by decide +kernel
theorem dX8_init_38 : decode cX8_init 38 = .ok (.bipush 6, 2) := by decide +kernel
theorem dX8_init_40 : decode cX8_init 40 = .ok (.newarray .int, 2) := by decide +kernel
theorem dX8_init_42 : decode cX8_init 42 = .ok (.putfield 23, 3) := by decide +kernel
theorem dX8_init_45 : decode cX8_init 45 = .ok (.aload_n 0, 1) := by decide +kernel
theorem dX8_init_46 : decode cX8_init 46 = .ok (.bipush 6, 2) := by decide +kernel
theorem dX8_init_48 : decode cX8_init 48 = .ok (.newarray .int, 2) := by decide +kernel
theorem dX8_init_50 : decode cX8_init 50 = .ok (.putfield 26, 3) := by decide +kernel
theorem dX8_init_53 : decode cX8_init 53 = .ok (.aload_n 0, 1) := by decide +kernel
theorem dX8_init_54 : decode cX8_init 54 = .ok (.bipush 6, 2) := by decide +kernel
theorem dX8_init_56 : decode cX8_init 56 = .ok (.newarray .int, 2) := by decide +kernel
theorem dX8_init_58 : decode cX8_init 58 = .ok (.putfield 29, 3) := by decide +kernel
theorem dX8_init_61 : decode cX8_init 61 = .ok (.aload_n 0, 1) := by decide +kernel
theorem dX8_init_62 : decode cX8_init 62 = .ok (.bipush 6, 2) := by decide +kernel
theorem dX8_init_64 : decode cX8_init 64 = .ok (.newarray .int, 2) := by decide +kernel
theorem dX8_init_66 : decode cX8_init 66 = .ok (.putfield 32, 3) := by decide +kernel
theorem dX8_init_69 : decode cX8_init 69 = .ok (.aload_n 0, 1) := by decide +kernel
theorem dX8_init_70 : decode cX8_init 70 = .ok (.bipush 6, 2) := by decide +kernel
theorem dX8_init_72 : decode cX8_init 72 = .ok (.newarray .int, 2) := by decide +kernel
theorem dX8_init_74 : decode cX8_init 74 = .ok (.putfield 35, 3) := by decide +kernel
theorem dX8_init_77 : decode cX8_init 77 = .ok (.aload_n 0, 1) := by decide +kernel
theorem dX8_init_78 : decode cX8_init 78 = .ok (.bipush 60, 2) := by decide +kernel
theorem dX8_init_80 : decode cX8_init 80 = .ok (.newarray .int, 2) := by decide +kernel
theorem dX8_init_82 : decode cX8_init 82 = .ok (.putfield 38, 3) := by decide +kernel
theorem dX8_init_85 : decode cX8_init 85 = .ok (.aload_n 0, 1) := by decide +kernel
theorem dX8_init_86 : decode cX8_init 86 = .ok (.bipush 32, 2) := by decide +kernel
theorem dX8_init_88 : decode cX8_init 88 = .ok (.newarray .int, 2) := by decide +kernel
theorem dX8_init_90 : decode cX8_init 90 = .ok (.putfield 41, 3) := by decide +kernel
theorem dX8_init_93 : decode cX8_init 93 = .ok (.aload_n 0, 1) := by decide +kernel
theorem dX8_init_94 : decode cX8_init 94 = .ok (.bipush 32, 2) := by decide +kernel
theorem dX8_init_96 : decode cX8_init 96 = .ok (.newarray .int, 2) := by decide +kernel
theorem dX8_init_98 : decode cX8_init 98 = .ok (.putfield 44, 3) := by decide +kernel
theorem dX8_init_101 : decode cX8_init 101 = .ok (.aload_n 0, 1) := by decide +kernel
theorem dX8_init_102 : decode cX8_init 102 = .ok (.bipush 32, 2) := by decide +kernel
theorem dX8_init_104 : decode cX8_init 104 = .ok (.newarray .int, 2) := by decide +kernel
theorem dX8_init_106 : decode cX8_init 106 = .ok (.putfield 47, 3) := by decide +kernel
theorem dX8_init_109 : decode cX8_init 109 = .ok (.return_, 1) := by decide +kernel
theorem dX8_thrown_0 : decode cX8_thrown 0 = .ok (.aload_n 0, 1) := by decide +kernel
theorem dX8_thrown_1 : decode cX8_thrown 1 = .ok (.getfield 50, 3) := by decide +kernel
theorem dX8_thrown_4 : decode cX8_thrown 4 = .ok (.ireturn, 1) := by decide +kernel
theorem dX8_fails_0 : decode cX8_fails 0 = .ok (.aload_n 0, 1) := by decide +kernel
theorem dX8_fails_1 : decode cX8_fails 1 = .ok (.iload_n 1, 1) := by decide +kernel
theorem dX8_fails_2 : decode cX8_fails 2 = .ok (.putfield 50, 3) := by decide +kernel
theorem dX8_fails_5 : decode cX8_fails 5 = .ok (.iconst 0, 1) := by decide +kernel
theorem dX8_fails_6 : decode cX8_fails 6 = .ok (.ireturn, 1) := by decide +kernel
theorem dX8_in_0 : decode cX8_in 0 = .ok (.iload_n 0, 1) := by decide +kernel
theorem dX8_in_1 : decode cX8_in 1 = .ok (.iload_n 1, 1) := by decide +kernel
theorem dX8_in_2 : decode cX8_in 2 = .ok (.if_icmp .lt 12, 3) := by decide +kernel
theorem dX8_in_5 : decode cX8_in 5 = .ok (.iload_n 0, 1) := by decide +kernel
theorem dX8_in_6 : decode cX8_in 6 = .ok (.iload_n 2, 1) := by decide +kernel
theorem dX8_in_7 : decode cX8_in 7 = .ok (.if_icmp .gt 7, 3) := by decide +kernel
theorem dX8_in_10 : decode cX8_in 10 = .ok (.iconst 1, 1) := by decide +kernel
theorem dX8_in_11 : decode cX8_in 11 = .ok (.goto 4, 3) := by decide +kernel
theorem dX8_in_14 : decode cX8_in 14 = .ok (.iconst 0, 1) := by decide +kernel
theorem dX8_in_15 : decode cX8_in 15 = .ok (.ireturn, 1) := by decide +kernel
set_option maxRecDepth 20000 in
theorem ggX8_isRow_X8_in : GoodIn wsX8_isRow wsX8_in := goodIn_r _ [4] (by decide +kernel) (by decide +kernel)
set_option maxRecDepth 20000 in
theorem gX8_isRow_X8_in : GoodIn wsX8_isRow (va_wsS RX8 54 yX8_in wsX8_in) := goodIn_app (goodIn_of _ (by decide +kernel)) ggX8_isRow_X8_in
theorem dX8_isRow_0 : decode cX8_isRow 0 = .ok (.iload_n 0, 1) := by decide +kernel
theorem dX8_isRow_1 : decode cX8_isRow 1 = .ok (.iconst 0, 1) := by decide +kernel
theorem dX8_isRow_2 : decode cX8_isRow 2 = .ok (.iconst 3, 1) := by decide +kernel
theorem dX8_isRow_3 : decode cX8_isRow 3 = .ok (.invokestatic 54, 3) := by decide +kernel
theorem dX8_isRow_6 : decode cX8_isRow 6 = .ok (.ireturn, 1) := by decide +kernel
set_option maxRecDepth 20000 in
theorem ggX8_isPerson_X8_in : GoodIn wsX8_isPerson wsX8_in := goodIn_r _ [5] (by decide +kernel) (by decide +kernel)
set_option maxRecDepth 20000 in
theorem gX8_isPerson_X8_in : GoodIn wsX8_isPerson (va_wsS RX8 54 yX8_in wsX8_in) := goodIn_app (goodIn_of _ (by decide +kernel)) ggX8_isPerson_X8_in
theorem dX8_isPerson_0 : decode cX8_isPerson 0 = .ok (.iload_n 1, 1) := by decide +kernel
theorem dX8_isPerson_1 : decode cX8_isPerson 1 = .ok (.iconst 0, 1) := by decide +kernel
theorem dX8_isPerson_2 : decode cX8_isPerson 2 = .ok (.aload_n 0, 1) := by decide +kernel
theorem dX8_isPerson_3 : decode cX8_isPerson 3 = .ok (.getfield 7, 3) := by decide +kernel
theorem dX8_isPerson_6 : decode cX8_isPerson 6 = .ok (.iconst 0, 1) := by decide +kernel
theorem dX8_isPerson_7 : decode cX8_isPerson 7 = .ok (.iaload, 1) := by decide +kernel
theorem dX8_isPerson_8 : decode cX8_isPerson 8 = .ok (.iconst 1, 1) := by decide +kernel
theorem dX8_isPerson_9 : decode cX8_isPerson 9 = .ok (.isub, 1) := by decide +kernel
theorem dX8_isPerson_10 : decode cX8_isPerson 10 = .ok (.invokestatic 54, 3) := by decide +kernel
theorem dX8_isPerson_13 : decode cX8_isPerson 13 = .ok (.ireturn, 1) := by decide +kernel
set_option maxRecDepth 20000 in
theorem ggX8_isCouple_X8_in : GoodIn wsX8_isCouple wsX8_in := goodIn_r _ [5] (by decide +kernel) (by decide +kernel)
set_option maxRecDepth 20000 in
theorem gX8_isCouple_X8_in : GoodIn wsX8_isCouple (va_wsS RX8 54 yX8_in wsX8_in) := goodIn_app (goodIn_of _ (by decide +kernel)) ggX8_isCouple_X8_in
theorem dX8_isCouple_0 : decode cX8_isCouple 0 = .ok (.iload_n 1, 1) := by decide +kernel
theorem dX8_isCouple_1 : decode cX8_isCouple 1 = .ok (.iconst 0, 1) := by decide +kernel
theorem dX8_isCouple_2 : decode cX8_isCouple 2 = .ok (.aload_n 0, 1) := by decide +kernel
theorem dX8_isCouple_3 : decode cX8_isCouple 3 = .ok (.getfield 7, 3) := by decide +kernel
theorem dX8_isCouple_6 : decode cX8_isCouple 6 = .ok (.iconst 1, 1) := by decide +kernel
theorem dX8_isCouple_7 : decode cX8_isCouple 7 = .ok (.iaload, 1) := by decide +kernel
theorem dX8_isCouple_8 : decode cX8_isCouple 8 = .ok (.iconst 1, 1) := by decide +kernel
theorem dX8_isCouple_9 : decode cX8_isCouple 9 = .ok (.isub, 1) := by decide +kernel
theorem dX8_isCouple_10 : decode cX8_isCouple 10 = .ok (.invokestatic 54, 3) := by decide +kernel
theorem dX8_isCouple_13 : decode cX8_isCouple 13 = .ok (.ireturn, 1) := by decide +kernel
theorem dX8_rowOf_0 : decode cX8_rowOf 0 = .ok (.aload_n 0, 1) := by decide +kernel
theorem dX8_rowOf_1 : decode cX8_rowOf 1 = .ok (.getfield 7, 3) := by decide +kernel
theorem dX8_rowOf_4 : decode cX8_rowOf 4 = .ok (.iconst 3, 1) := by decide +kernel
theorem dX8_rowOf_5 : decode cX8_rowOf 5 = .ok (.iconst 2, 1) := by decide +kernel
theorem dX8_rowOf_6 : decode cX8_rowOf 6 = .ok (.iload_n 1, 1) := by decide +kernel
theorem dX8_rowOf_7 : decode cX8_rowOf 7 = .ok (.imul, 1) := by decide +kernel
theorem dX8_rowOf_8 : decode cX8_rowOf 8 = .ok (.iadd, 1) := by decide +kernel
theorem dX8_rowOf_9 : decode cX8_rowOf 9 = .ok (.iaload, 1) := by decide +kernel
theorem dX8_rowOf_10 : decode cX8_rowOf 10 = .ok (.ireturn, 1) := by decide +kernel
theorem dX8_parentsOf_0 : decode cX8_parentsOf 0 = .ok (.aload_n 0, 1) := by decide +kernel
theorem dX8_parentsOf_1 : decode cX8_parentsOf 1 = .ok (.getfield 7, 3) := by decide +kernel
theorem dX8_parentsOf_4 : decode cX8_parentsOf 4 = .ok (.iconst 3, 1) := by decide +kernel
theorem dX8_parentsOf_5 : decode cX8_parentsOf 5 = .ok (.iconst 2, 1) := by decide +kernel
theorem dX8_parentsOf_6 : decode cX8_parentsOf 6 = .ok (.iload_n 1, 1) := by decide +kernel
theorem dX8_parentsOf_7 : decode cX8_parentsOf 7 = .ok (.imul, 1) := by decide +kernel
theorem dX8_parentsOf_8 : decode cX8_parentsOf 8 = .ok (.iadd, 1) := by decide +kernel
theorem dX8_parentsOf_9 : decode cX8_parentsOf 9 = .ok (.iconst 1, 1) := by decide +kernel
theorem dX8_parentsOf_10 : decode cX8_parentsOf 10 = .ok (.iadd, 1) := by decide +kernel
theorem dX8_parentsOf_11 : decode cX8_parentsOf 11 = .ok (.iaload, 1) := by decide +kernel
theorem dX8_parentsOf_12 : decode cX8_parentsOf 12 = .ok (.ireturn, 1) := by decide +kernel
theorem dX8_one_0 : decode cX8_one 0 = .ok (.aload_n 0, 1) := by decide +kernel
theorem dX8_one_1 : decode cX8_one 1 = .ok (.getfield 7, 3) := by decide +kernel
theorem dX8_one_4 : decode cX8_one 4 = .ok (.bipush 43, 2) := by decide +kernel
theorem dX8_one_6 : decode cX8_one 6 = .ok (.iconst 2, 1) := by decide +kernel
theorem dX8_one_7 : decode cX8_one 7 = .ok (.iload_n 1, 1) := by decide +kernel
theorem dX8_one_8 : decode cX8_one 8 = .ok (.imul, 1) := by decide +kernel
theorem dX8_one_9 : decode cX8_one 9 = .ok (.iadd, 1) := by decide +kernel
theorem dX8_one_10 : decode cX8_one 10 = .ok (.iaload, 1) := by decide +kernel
theorem dX8_one_11 : decode cX8_one 11 = .ok (.ireturn, 1) := by decide +kernel
theorem dX8_other_0 : decode cX8_other 0 = .ok (.aload_n 0, 1) := by decide +kernel
theorem dX8_other_1 : decode cX8_other 1 = .ok (.getfield 7, 3) := by decide +kernel
theorem dX8_other_4 : decode cX8_other 4 = .ok (.bipush 43, 2) := by decide +kernel
theorem dX8_other_6 : decode cX8_other 6 = .ok (.iconst 2, 1) := by decide +kernel
theorem dX8_other_7 : decode cX8_other 7 = .ok (.iload_n 1, 1) := by decide +kernel
theorem dX8_other_8 : decode cX8_other 8 = .ok (.imul, 1) := by decide +kernel
theorem dX8_other_9 : decode cX8_other 9 = .ok (.iadd, 1) := by decide +kernel
theorem dX8_other_10 : decode cX8_other 10 = .ok (.iconst 1, 1) := by decide +kernel
theorem dX8_other_11 : decode cX8_other 11 = .ok (.iadd, 1) := by decide +kernel
theorem dX8_other_12 : decode cX8_other 12 = .ok (.iaload, 1) := by decide +kernel
theorem dX8_other_13 : decode cX8_other 13 = .ok (.ireturn, 1) := by decide +kernel
theorem dX8_whoIs_0 : decode cX8_whoIs 0 = .ok (.aload_n 0, 1) := by decide +kernel
theorem dX8_whoIs_1 : decode cX8_whoIs 1 = .ok (.getfield 7, 3) := by decide +kernel
theorem dX8_whoIs_4 : decode cX8_whoIs 4 = .ok (.bipush 67, 2) := by decide +kernel
theorem dX8_whoIs_6 : decode cX8_whoIs 6 = .ok (.bipush 6, 2) := by decide +kernel
theorem dX8_whoIs_8 : decode cX8_whoIs 8 = .ok (.iload_n 1, 1) := by decide +kernel
theorem dX8_whoIs_9 : decode cX8_whoIs 9 = .ok (.imul, 1) := by decide +kernel
theorem dX8_whoIs_10 : decode cX8_whoIs 10 = .ok (.iadd, 1) := by decide +kernel
theorem dX8_whoIs_11 : decode cX8_whoIs 11 = .ok (.iload_n 2, 1) := by decide +kernel
theorem dX8_whoIs_12 : decode cX8_whoIs 12 = .ok (.iadd, 1) := by decide +kernel
theorem dX8_whoIs_13 : decode cX8_whoIs 13 = .ok (.iaload, 1) := by decide +kernel
theorem dX8_whoIs_14 : decode cX8_whoIs 14 = .ok (.ireturn, 1) := by decide +kernel
set_option maxRecDepth 20000 in
theorem ggX8_placeOf_X8_rowOf : GoodIn wsX8_placeOf wsX8_rowOf := goodIn_r _ [5, 6, 11, 12, 13, 14, 15, 16, 17, 18, 19, 20, 21, 22, 23, 24, 25, 26, 27, 28, 29, 30, 31] (by decide +kernel) (by decide +kernel)
set_option maxRecDepth 20000 in
theorem gX8_placeOf_X8_rowOf : GoodIn wsX8_placeOf (wsV RX8 58 RX8 yX8_rowOf wsX8_rowOf) := goodIn_app (goodIn_of _ (by decide +kernel)) ggX8_placeOf_X8_rowOf
set_option maxRecDepth 20000 in
theorem ggX8_placeOf_X8_whoIs : GoodIn wsX8_placeOf wsX8_whoIs := goodIn_r _ [10, 6, 11, 12, 13, 14, 15, 16, 17, 18, 19, 20, 21, 22, 23, 24, 25, 26, 27, 28, 29, 30, 31] (by decide +kernel) (by decide +kernel)
set_option maxRecDepth 20000 in
theorem gX8_placeOf_X8_whoIs : GoodIn wsX8_placeOf (wsV RX8 62 RX8 yX8_whoIs wsX8_whoIs) := goodIn_app (goodIn_of _ (by decide +kernel)) ggX8_placeOf_X8_whoIs
theorem dX8_placeOf_0 : decode cX8_placeOf 0 = .ok (.aload_n 0, 1) := by decide +kernel
theorem dX8_placeOf_1 : decode cX8_placeOf 1 = .ok (.iload_n 1, 1) := by decide +kernel
theorem dX8_placeOf_2 : decode cX8_placeOf 2 = .ok (.invokevirtual 58, 3) := by decide +kernel
theorem dX8_placeOf_5 : decode cX8_placeOf 5 = .ok (.istore_n 2, 1) := by decide +kernel
theorem dX8_placeOf_6 : decode cX8_placeOf 6 = .ok (.iconst 0, 1) := by decide +kernel
theorem dX8_placeOf_7 : decode cX8_placeOf 7 = .ok (.istore_n 3, 1) := by decide +kernel
theorem dX8_placeOf_8 : decode cX8_placeOf 8 = .ok (.aload_n 0, 1) := by decide +kernel
theorem dX8_placeOf_9 : decode cX8_placeOf 9 = .ok (.iload_n 2, 1) := by decide +kernel
theorem dX8_placeOf_10 : decode cX8_placeOf 10 = .ok (.iload_n 3, 1) := by decide +kernel
theorem dX8_placeOf_11 : decode cX8_placeOf 11 = .ok (.invokevirtual 62, 3) := by decide +kernel
theorem dX8_placeOf_14 : decode cX8_placeOf 14 = .ok (.iload_n 1, 1) := by decide +kernel
theorem dX8_placeOf_15 : decode cX8_placeOf 15 = .ok (.if_icmp .eq 9, 3) := by decide +kernel
theorem dX8_placeOf_18 : decode cX8_placeOf 18 = .ok (.iinc 3 1, 3) := by decide +kernel
theorem dX8_placeOf_21 : decode cX8_placeOf 21 = .ok (.goto (-13), 3) := by decide +kernel
theorem dX8_placeOf_24 : decode cX8_placeOf 24 = .ok (.iload_n 3, 1) := by decide +kernel
theorem dX8_placeOf_25 : decode cX8_placeOf 25 = .ok (.ireturn, 1) := by decide +kernel
theorem dX8_save_0 : decode cX8_save 0 = .ok (.aload_n 0, 1) := by decide +kernel
theorem dX8_save_1 : decode cX8_save 1 = .ok (.getfield 66, 3) := by decide +kernel
theorem dX8_save_4 : decode cX8_save 4 = .ok (.bipush 6, 2) := by decide +kernel
theorem dX8_save_6 : decode cX8_save 6 = .ok (.if_icmp .ne 43, 3) := by decide +kernel
theorem dX8_save_9 : decode cX8_save 9 = .ok (.iconst 0, 1) := by decide +kernel
theorem dX8_save_10 : decode cX8_save 10 = .ok (.istore_n 1, 1) := by decide +kernel
theorem dX8_save_11 : decode cX8_save 11 = .ok (.iload_n 1, 1) := by decide +kernel
theorem dX8_save_12 : decode cX8_save 12 = .ok (.sipush 455, 3) := by decide +kernel
theorem dX8_save_15 : decode cX8_save 15 = .ok (.if_icmp .ge 24, 3) := by decide +kernel
theorem dX8_save_18 : decode cX8_save 18 = .ok (.aload_n 0, 1) := by decide +kernel
theorem dX8_save_19 : decode cX8_save 19 = .ok (.getfield 13, 3) := by decide +kernel
theorem dX8_save_22 : decode cX8_save 22 = .ok (.iload_n 1, 1) := by decide +kernel
theorem dX8_save_23 : decode cX8_save 23 = .ok (.aload_n 0, 1) := by decide +kernel
theorem dX8_save_24 : decode cX8_save 24 = .ok (.getfield 13, 3) := by decide +kernel
theorem dX8_save_27 : decode cX8_save 27 = .ok (.iload_n 1, 1) := by decide +kernel
theorem dX8_save_28 : decode cX8_save 28 = .ok (.bipush 91, 2) := by decide +kernel
theorem dX8_save_30 : decode cX8_save 30 = .ok (.iadd, 1) := by decide +kernel
theorem dX8_save_31 : decode cX8_save 31 = .ok (.iaload, 1) := by decide +kernel
theorem dX8_save_32 : decode cX8_save 32 = .ok (.iastore, 1) := by decide +kernel
theorem dX8_save_33 : decode cX8_save 33 = .ok (.iinc 1 1, 3) := by decide +kernel
theorem dX8_save_36 : decode cX8_save 36 = .ok (.goto (-25), 3) := by decide +kernel
theorem dX8_save_39 : decode cX8_save 39 = .ok (.aload_n 0, 1) := by decide +kernel
theorem dX8_save_40 : decode cX8_save 40 = .ok (.dup, 1) := by decide +kernel
theorem dX8_save_41 : decode cX8_save 41 = .ok (.getfield 66, 3) := by decide +kernel
theorem dX8_save_44 : decode cX8_save 44 = .ok (.iconst 1, 1) := by decide +kernel
theorem dX8_save_45 : decode cX8_save 45 = .ok (.isub, 1) := by decide +kernel
theorem dX8_save_46 : decode cX8_save 46 = .ok (.putfield 66, 3) := by decide +kernel
theorem dX8_save_49 : decode cX8_save 49 = .ok (.iconst 0, 1) := by decide +kernel
theorem dX8_save_50 : decode cX8_save 50 = .ok (.istore_n 1, 1) := by decide +kernel
theorem dX8_save_51 : decode cX8_save 51 = .ok (.iload_n 1, 1) := by decide +kernel
theorem dX8_save_52 : decode cX8_save 52 = .ok (.bipush 91, 2) := by decide +kernel
theorem dX8_save_54 : decode cX8_save 54 = .ok (.if_icmp .ge 29, 3) := by decide +kernel
theorem dX8_save_57 : decode cX8_save 57 = .ok (.aload_n 0, 1) := by decide +kernel
theorem dX8_save_58 : decode cX8_save 58 = .ok (.getfield 13, 3) := by decide +kernel
theorem dX8_save_61 : decode cX8_save 61 = .ok (.bipush 91, 2) := by decide +kernel
theorem dX8_save_63 : decode cX8_save 63 = .ok (.aload_n 0, 1) := by decide +kernel
theorem dX8_save_64 : decode cX8_save 64 = .ok (.getfield 66, 3) := by decide +kernel
theorem dX8_save_67 : decode cX8_save 67 = .ok (.imul, 1) := by decide +kernel
theorem dX8_save_68 : decode cX8_save 68 = .ok (.iload_n 1, 1) := by decide +kernel
theorem dX8_save_69 : decode cX8_save 69 = .ok (.iadd, 1) := by decide +kernel
theorem dX8_save_70 : decode cX8_save 70 = .ok (.aload_n 0, 1) := by decide +kernel
theorem dX8_save_71 : decode cX8_save 71 = .ok (.getfield 7, 3) := by decide +kernel
theorem dX8_save_74 : decode cX8_save 74 = .ok (.iload_n 1, 1) := by decide +kernel
theorem dX8_save_75 : decode cX8_save 75 = .ok (.iaload, 1) := by decide +kernel
theorem dX8_save_76 : decode cX8_save 76 = .ok (.iastore, 1) := by decide +kernel
theorem dX8_save_77 : decode cX8_save 77 = .ok (.iinc 1 1, 3) := by decide +kernel
theorem dX8_save_80 : decode cX8_save 80 = .ok (.goto (-29), 3) := by decide +kernel
theorem dX8_save_83 : decode cX8_save 83 = .ok (.aload_n 0, 1) := by decide +kernel
theorem dX8_save_84 : decode cX8_save 84 = .ok (.dup, 1) := by decide +kernel
theorem dX8_save_85 : decode cX8_save 85 = .ok (.getfield 66, 3) := by decide +kernel
theorem dX8_save_88 : decode cX8_save 88 = .ok (.iconst 1, 1) := by decide +kernel
theorem dX8_save_89 : decode cX8_save 89 = .ok (.iadd, 1) := by decide +kernel
theorem dX8_save_90 : decode cX8_save 90 = .ok (.putfield 66, 3) := by decide +kernel
theorem dX8_save_93 : decode cX8_save 93 = .ok (.return_, 1) := by decide +kernel
set_option maxRecDepth 20000 in
theorem ggX8_undo_X8_fails : GoodIn wsX8_undo wsX8_fails := goodIn_r _ [9, 1, 10, 11, 12, 13, 14, 15, 16, 17, 18, 19, 20, 21, 22, 23, 24, 25, 26, 27, 28, 29, 30] (by decide +kernel) (by decide +kernel)
set_option maxRecDepth 20000 in
theorem gX8_undo_X8_fails : GoodIn wsX8_undo (wsV RX8 69 RX8 yX8_fails wsX8_fails) := goodIn_app (goodIn_of _ (by decide +kernel)) ggX8_undo_X8_fails
theorem dX8_undo_0 : decode cX8_undo 0 = .ok (.aload_n 0, 1) := by decide +kernel
theorem dX8_undo_1 : decode cX8_undo 1 = .ok (.iconst 0, 1) := by decide +kernel
theorem dX8_undo_2 : decode cX8_undo 2 = .ok (.putfield 50, 3) := by decide +kernel
theorem dX8_undo_5 : decode cX8_undo 5 = .ok (.aload_n 0, 1) := by decide +kernel
theorem dX8_undo_6 : decode cX8_undo 6 = .ok (.getfield 66, 3) := by decide +kernel
theorem dX8_undo_9 : decode cX8_undo 9 = .ok (.ifCond .ne 9, 3) := by decide +kernel
theorem dX8_undo_12 : decode cX8_undo 12 = .ok (.aload_n 0, 1) := by decide +kernel
theorem dX8_undo_13 : decode cX8_undo 13 = .ok (.iconst 1, 1) := by decide +kernel
theorem dX8_undo_14 : decode cX8_undo 14 = .ok (.invokevirtual 69, 3) := by decide +kernel
theorem dX8_undo_17 : decode cX8_undo 17 = .ok (.ireturn, 1) := by decide +kernel
theorem dX8_undo_18 : decode cX8_undo 18 = .ok (.aload_n 0, 1) := by decide +kernel
theorem dX8_undo_19 : decode cX8_undo 19 = .ok (.dup, 1) := by decide +kernel
theorem dX8_undo_20 : decode cX8_undo 20 = .ok (.getfield 66, 3) := by decide +kernel
theorem dX8_undo_23 : decode cX8_undo 23 = .ok (.iconst 1, 1) := by decide +kernel
theorem dX8_undo_24 : decode cX8_undo 24 = .ok (.isub, 1) := by decide +kernel
theorem dX8_undo_25 : decode cX8_undo 25 = .ok (.putfield 66, 3) := by decide +kernel
theorem dX8_undo_28 : decode cX8_undo 28 = .ok (.iconst 0, 1) := by decide +kernel
theorem dX8_undo_29 : decode cX8_undo 29 = .ok (.istore_n 1, 1) := by decide +kernel
theorem dX8_undo_30 : decode cX8_undo 30 = .ok (.iload_n 1, 1) := by decide +kernel
theorem dX8_undo_31 : decode cX8_undo 31 = .ok (.bipush 91, 2) := by decide +kernel
theorem dX8_undo_33 : decode cX8_undo 33 = .ok (.if_icmp .ge 29, 3) := by decide +kernel
theorem dX8_undo_36 : decode cX8_undo 36 = .ok (.aload_n 0, 1) := by decide +kernel
theorem dX8_undo_37 : decode cX8_undo 37 = .ok (.getfield 7, 3) := by decide +kernel
theorem dX8_undo_40 : decode cX8_undo 40 = .ok (.iload_n 1, 1) := by decide +kernel
theorem dX8_undo_41 : decode cX8_undo 41 = .ok (.aload_n 0, 1) := by decide +kernel
theorem dX8_undo_42 : decode cX8_undo 42 = .ok (.getfield 13, 3) := by decide +kernel
theorem dX8_undo_45 : decode cX8_undo 45 = .ok (.bipush 91, 2) := by decide +kernel
theorem dX8_undo_47 : decode cX8_undo 47 = .ok (.aload_n 0, 1) := by decide +kernel
theorem dX8_undo_48 : decode cX8_undo 48 = .ok (.getfield 66, 3) := by decide +kernel
theorem dX8_undo_51 : decode cX8_undo 51 = .ok (.imul, 1) := by decide +kernel
theorem dX8_undo_52 : decode cX8_undo 52 = .ok (.iload_n 1, 1) := by decide +kernel
theorem dX8_undo_53 : decode cX8_undo 53 = .ok (.iadd, 1) := by decide +kernel
theorem dX8_undo_54 : decode cX8_undo 54 = .ok (.iaload, 1) := by decide +kernel
theorem dX8_undo_55 : decode cX8_undo 55 = .ok (.iastore, 1) := by decide +kernel
theorem dX8_undo_56 : decode cX8_undo 56 = .ok (.iinc 1 1, 3) := by decide +kernel
theorem dX8_undo_59 : decode cX8_undo 59 = .ok (.goto (-29), 3) := by decide +kernel
theorem dX8_undo_62 : decode cX8_undo 62 = .ok (.aload_n 0, 1) := by decide +kernel
theorem dX8_undo_63 : decode cX8_undo 63 = .ok (.getfield 66, 3) := by decide +kernel
theorem dX8_undo_66 : decode cX8_undo 66 = .ok (.ireturn, 1) := by decide +kernel
set_option maxRecDepth 20000 in
theorem ggX8_keep_X8_in : GoodIn wsX8_keep wsX8_in := goodIn_r _ [8] (by decide +kernel) (by decide +kernel)
set_option maxRecDepth 20000 in
theorem gX8_keep_X8_in : GoodIn wsX8_keep (va_wsS RX8 54 yX8_in wsX8_in) := goodIn_app (goodIn_of _ (by decide +kernel)) ggX8_keep_X8_in
set_option maxRecDepth 20000 in
theorem ggX8_keep_X8_fails : GoodIn wsX8_keep wsX8_fails := goodIn_r _ [12, 1, 13, 14, 15, 16, 17, 18, 19, 20, 21, 22, 23, 24, 25, 26, 27, 28, 29, 30, 31, 32, 33] (by decide +kernel) (by decide +kernel)
set_option maxRecDepth 20000 in
theorem gX8_keep_X8_fails : GoodIn wsX8_keep (wsV RX8 69 RX8 yX8_fails wsX8_fails) := goodIn_app (goodIn_of _ (by decide +kernel)) ggX8_keep_X8_fails
theorem dX8_keep_0 : decode cX8_keep 0 = .ok (.aload_n 0, 1) := by decide +kernel
theorem dX8_keep_1 : decode cX8_keep 1 = .ok (.iconst 0, 1) := by decide +kernel
theorem dX8_keep_2 : decode cX8_keep 2 = .ok (.putfield 50, 3) := by decide +kernel
theorem dX8_keep_5 : decode cX8_keep 5 = .ok (.iload_n 1, 1) := by decide +kernel
theorem dX8_keep_6 : decode cX8_keep 6 = .ok (.iconst 0, 1) := by decide +kernel
theorem dX8_keep_7 : decode cX8_keep 7 = .ok (.iconst 1, 1) := by decide +kernel
theorem dX8_keep_8 : decode cX8_keep 8 = .ok (.invokestatic 54, 3) := by decide +kernel
theorem dX8_keep_11 : decode cX8_keep 11 = .ok (.ifCond .ne 9, 3) := by decide +kernel
theorem dX8_keep_14 : decode cX8_keep 14 = .ok (.aload_n 0, 1) := by decide +kernel
theorem dX8_keep_15 : decode cX8_keep 15 = .ok (.iconst 1, 1) := by decide +kernel
theorem dX8_keep_16 : decode cX8_keep 16 = .ok (.invokevirtual 69, 3) := by decide +kernel
theorem dX8_keep_19 : decode cX8_keep 19 = .ok (.ireturn, 1) := by decide +kernel
