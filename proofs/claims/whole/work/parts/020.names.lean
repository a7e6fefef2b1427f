theorem dX8_remember_13 : decode cX8_remember 13 = .ok (.aload_n 0, 1) := by decide +kernel
theorem dX8_remember_14 : decode cX8_remember 14 = .ok (.iload_n 1, 1) := by decide +kernel
theorem dX8_remember_15 : decode cX8_remember 15 = .ok (.iload_n 2, 1) := by decide +kernel
theorem dX8_remember_16 : decode cX8_remember 16 = .ok (.invokevirtual 62, 3) := by decide +kernel
theorem dX8_remember_19 : decode cX8_remember 19 = .ok (.iastore, 1) := by decide +kernel
theorem dX8_remember_20 : decode cX8_remember 20 = .ok (.iinc 2 1, 3) := by decide +kernel
theorem dX8_remember_23 : decode cX8_remember 23 = .ok (.goto (-21), 3) := by decide +kernel
theorem dX8_remember_26 : decode cX8_remember 26 = .ok (.return_, 1) := by decide +kernel
theorem dX8_layBack_0 : decode cX8_layBack 0 = .ok (.iconst 0, 1) := by decide +kernel
theorem dX8_layBack_1 : decode cX8_layBack 1 = .ok (.istore_n 2, 1) := by decide +kernel
theorem dX8_layBack_2 : decode cX8_layBack 2 = .ok (.iload_n 2, 1) := by decide +kernel
theorem dX8_layBack_3 : decode cX8_layBack 3 = .ok (.bipush 6, 2) := by decide +kernel
theorem dX8_layBack_5 : decode cX8_layBack 5 = .ok (.if_icmp .ge 29, 3) := by decide +kernel
theorem dX8_layBack_8 : decode cX8_layBack 8 = .ok (.aload_n 0, 1) := by decide +kernel
theorem dX8_layBack_9 : decode cX8_layBack 9 = .ok (.getfield 7, 3) := by decide +kernel
theorem dX8_layBack_12 : decode cX8_layBack 12 = .ok (.bipush 67, 2) := by decide +kernel
theorem dX8_layBack_14 : decode cX8_layBack 14 = .ok (.bipush 6, 2) := by decide +kernel
theorem dX8_layBack_16 : decode cX8_layBack 16 = .ok (.iload_n 1, 1) := by decide +kernel
theorem dX8_layBack_17 : decode cX8_layBack 17 = .ok (.imul, 1) := by decide +kernel
theorem dX8_layBack_18 : decode cX8_layBack 18 = .ok (.iadd, 1) := by decide +kernel
theorem dX8_layBack_19 : decode cX8_layBack 19 = .ok (.iload_n 2, 1) := by decide +kernel
theorem dX8_layBack_20 : decode cX8_layBack 20 = .ok (.iadd, 1) := by decide +kernel
theorem dX8_layBack_21 : decode cX8_layBack 21 = .ok (.aload_n 0, 1) := by decide +kernel
theorem dX8_layBack_22 : decode cX8_layBack 22 = .ok (.getfield 32, 3) := by decide +kernel
theorem dX8_layBack_25 : decode cX8_layBack 25 = .ok (.iload_n 2, 1) := by decide +kernel
theorem dX8_layBack_26 : decode cX8_layBack 26 = .ok (.iaload, 1) := by decide +kernel
theorem dX8_layBack_27 : decode cX8_layBack 27 = .ok (.iastore, 1) := by decide +kernel
theorem dX8_layBack_28 : decode cX8_layBack 28 = .ok (.iinc 2 1, 3) := by decide +kernel
theorem dX8_layBack_31 : decode cX8_layBack 31 = .ok (.goto (-29), 3) := by decide +kernel
theorem dX8_layBack_34 : decode cX8_layBack 34 = .ok (.return_, 1) := by decide +kernel
set_option maxRecDepth 20000 in
theorem ggX8_ordered_X8_remember : GoodIn wsX8_ordered wsX8_remember := goodIn_r _ [8, 2, 9, 10, 11, 7, 12, 1, 41, 42, 43, 44, 45, 46, 47, 48, 49, 50, 51, 52, 53, 54, 55, 56, 57, 58, 59, 60, 61] (by decide +kernel) (by decide +kernel)
set_option maxRecDepth 20000 in
theorem gX8_ordered_X8_remember : GoodIn wsX8_ordered (wsV RX8 137 RX8 yX8_remember wsX8_remember) := goodIn_app (goodIn_of _ (by decide +kernel)) ggX8_ordered_X8_remember
set_option maxRecDepth 20000 in
theorem ggX8_ordered_X8_parentsOf : GoodIn wsX8_ordered wsX8_parentsOf := goodIn_r _ [16, 1, 41, 42, 43, 44, 45, 46, 47, 48, 49, 50, 51, 52, 53, 54, 55, 56, 57, 58, 59, 60, 61] (by decide +kernel) (by decide +kernel)
set_option maxRecDepth 20000 in
theorem gX8_ordered_X8_parentsOf : GoodIn wsX8_ordered (wsV RX8 116 RX8 yX8_parentsOf wsX8_parentsOf) := goodIn_app (goodIn_of _ (by decide +kernel)) ggX8_ordered_X8_parentsOf
set_option maxRecDepth 20000 in
theorem ggX8_ordered_X8_middle : GoodIn wsX8_ordered wsX8_middle := goodIn_r _ [20, 21, 22, 23, 7, 24, 1, 25, 26, 27, 28, 29, 30, 31, 32, 9, 10, 11, 12, 33, 34, 35, 36, 41, 42, 43, 44, 45, 46, 47, 48, 49, 50, 51, 52, 53, 54, 55, 56, 57, 58, 59, 60, 61] (by decide +kernel) (by decide +kernel)
set_option maxRecDepth 20000 in
theorem gX8_ordered_X8_middle : GoodIn wsX8_ordered (wsV RX8 119 RX8 yX8_middle wsX8_middle) := goodIn_app (goodIn_of _ (by decide +kernel)) ggX8_ordered_X8_middle
set_option maxRecDepth 20000 in
theorem ggX8_ordered_X8_keyOf : GoodIn wsX8_ordered wsX8_keyOf := goodIn_r _ [40, 13, 14, 15, 7, 16, 1, 17, 18, 19, 20, 21, 22, 23, 24, 25, 26, 27, 28, 29, 30, 31, 32, 9, 10, 11, 12, 33, 34, 35, 36, 41, 42, 43, 44, 45, 46, 47, 48, 49, 50, 51, 52, 53, 54, 55, 56, 57, 58, 59, 60, 61] (by decide +kernel) (by decide +kernel)
set_option maxRecDepth 20000 in
theorem gX8_ordered_X8_keyOf : GoodIn wsX8_ordered (wsV RX8 140 RX8 yX8_keyOf wsX8_keyOf) := goodIn_app (goodIn_of _ (by decide +kernel)) ggX8_ordered_X8_keyOf
theorem dX8_ordered_0 : decode cX8_ordered 0 = .ok (.aload_n 0, 1) := by decide +kernel
theorem dX8_ordered_1 : decode cX8_ordered 1 = .ok (.getfield 7, 3) := by decide +kernel
theorem dX8_ordered_4 : decode cX8_ordered 4 = .ok (.bipush 63, 2) := by decide +kernel
theorem dX8_ordered_6 : decode cX8_ordered 6 = .ok (.iload_n 1, 1) := by decide +kernel
theorem dX8_ordered_7 : decode cX8_ordered 7 = .ok (.iadd, 1) := by decide +kernel
theorem dX8_ordered_8 : decode cX8_ordered 8 = .ok (.iaload, 1) := by decide +kernel
theorem dX8_ordered_9 : decode cX8_ordered 9 = .ok (.istore_n 2, 1) := by decide +kernel
theorem dX8_ordered_10 : decode cX8_ordered 10 = .ok (.aload_n 0, 1) := by decide +kernel
theorem dX8_ordered_11 : decode cX8_ordered 11 = .ok (.iload_n 1, 1) := by decide +kernel
theorem dX8_ordered_12 : decode cX8_ordered 12 = .ok (.invokevirtual 137, 3) := by decide +kernel
theorem dX8_ordered_15 : decode cX8_ordered 15 = .ok (.iconst 0, 1) := by decide +kernel
theorem dX8_ordered_16 : decode cX8_ordered 16 = .ok (.istore_n 3, 1) := by decide +kernel
theorem dX8_ordered_17 : decode cX8_ordered 17 = .ok (.iload_n 3, 1) := by decide +kernel
theorem dX8_ordered_18 : decode cX8_ordered 18 = .ok (.iload_n 2, 1) := by decide +kernel
theorem dX8_ordered_19 : decode cX8_ordered 19 = .ok (.if_icmp .ge 102, 3) := by decide +kernel
theorem dX8_ordered_22 : decode cX8_ordered 22 = .ok (.aload_n 0, 1) := by decide +kernel
theorem dX8_ordered_23 : decode cX8_ordered 23 = .ok (.aload_n 0, 1) := by decide +kernel
theorem dX8_ordered_24 : decode cX8_ordered 24 = .ok (.getfield 32, 3) := by decide +kernel
theorem dX8_ordered_27 : decode cX8_ordered 27 = .ok (.iload_n 3, 1) := by decide +kernel
theorem dX8_ordered_28 : decode cX8_ordered 28 = .ok (.iaload, 1) := by decide +kernel
theorem dX8_ordered_29 : decode cX8_ordered 29 = .ok (.invokevirtual 116, 3) := by decide +kernel
theorem dX8_ordered_32 : decode cX8_ordered 32 = .ok (.istore 4, 2) := by decide +kernel
theorem dX8_ordered_34 : decode cX8_ordered 34 = .ok (.iload 4, 2) := by decide +kernel
theorem dX8_ordered_36 : decode cX8_ordered 36 = .ok (.iconst (-1), 1) := by decide +kernel
theorem dX8_ordered_37 : decode cX8_ordered 37 = .ok (.if_icmp .ne 9, 3) := by decide +kernel
theorem dX8_ordered_40 : decode cX8_ordered 40 = .ok (.sipush 1000, 3) := by decide +kernel
theorem dX8_ordered_43 : decode cX8_ordered 43 = .ok (.goto 9, 3) := by decide +kernel
theorem dX8_ordered_46 : decode cX8_ordered 46 = .ok (.aload_n 0, 1) := by decide +kernel
theorem dX8_ordered_47 : decode cX8_ordered 47 = .ok (.iload 4, 2) := by decide +kernel
theorem dX8_ordered_49 : decode cX8_ordered 49 = .ok (.invokevirtual 119, 3) := by decide +kernel
theorem dX8_ordered_52 : decode cX8_ordered 52 = .ok (.istore 5, 2) := by decide +kernel
theorem dX8_ordered_54 : decode cX8_ordered 54 = .ok (.iload_n 3, 1) := by decide +kernel
theorem dX8_ordered_55 : decode cX8_ordered 55 = .ok (.istore 6, 2) := by decide +kernel
theorem dX8_ordered_57 : decode cX8_ordered 57 = .ok (.iload 6, 2) := by decide +kernel
theorem dX8_ordered_59 : decode cX8_ordered 59 = .ok (.ifCond .le 43, 3) := by decide +kernel
theorem dX8_ordered_62 : decode cX8_ordered 62 = .ok (.aload_n 0, 1) := by decide +kernel
theorem dX8_ordered_63 : decode cX8_ordered 63 = .ok (.aload_n 0, 1) := by decide +kernel
theorem dX8_ordered_64 : decode cX8_ordered 64 = .ok (.getfield 29, 3) := by decide +kernel
theorem dX8_ordered_67 : decode cX8_ordered 67 = .ok (.iload 6, 2) := by decide +kernel
theorem dX8_ordered_69 : decode cX8_ordered 69 = .ok (.iconst 1, 1) := by decide +kernel
theorem dX8_ordered_70 : decode cX8_ordered 70 = .ok (.isub, 1) := by decide +kernel
theorem dX8_ordered_71 : decode cX8_ordered 71 = .ok (.iaload, 1) := by decide +kernel
theorem dX8_ordered_72 : decode cX8_ordered 72 = .ok (.invokevirtual 140, 3) := by decide +kernel
theorem dX8_ordered_75 : decode cX8_ordered 75 = .ok (.iload 5, 2) := by decide +kernel
theorem dX8_ordered_77 : decode cX8_ordered 77 = .ok (.if_icmp .le 25, 3) := by decide +kernel
theorem dX8_ordered_80 : decode cX8_ordered 80 = .ok (.aload_n 0, 1) := by decide +kernel
theorem dX8_ordered_81 : decode cX8_ordered 81 = .ok (.getfield 29, 3) := by decide +kernel
theorem dX8_ordered_84 : decode cX8_ordered 84 = .ok (.iload 6, 2) := by decide +kernel
theorem dX8_ordered_86 : decode cX8_ordered 86 = .ok (.aload_n 0, 1) := by decide +kernel
theorem dX8_ordered_87 : decode cX8_ordered 87 = .ok (.getfield 29, 3) := by decide +kernel
theorem dX8_ordered_90 : decode cX8_ordered 90 = .ok (.iload 6, 2) := by decide +kernel
theorem dX8_ordered_92 : decode cX8_ordered 92 = .ok (.iconst 1, 1) := by decide +kernel
theorem dX8_ordered_93 : decode cX8_ordered 93 = .ok (.isub, 1) := by decide +kernel
theorem dX8_ordered_94 : decode cX8_ordered 94 = .ok (.iaload, 1) := by decide +kernel
theorem dX8_ordered_95 : decode cX8_ordered 95 = .ok (.iastore, 1) := by decide +kernel
theorem dX8_ordered_96 : decode cX8_ordered 96 = .ok (.iinc 6 (-1), 3) := by decide +kernel
theorem dX8_ordered_99 : decode cX8_ordered 99 = .ok (.goto (-42), 3) := by decide +kernel
theorem dX8_ordered_102 : decode cX8_ordered 102 = .ok (.aload_n 0, 1) := by decide +kernel
theorem dX8_ordered_103 : decode cX8_ordered 103 = .ok (.getfield 29, 3) := by decide +kernel
theorem dX8_ordered_106 : decode cX8_ordered 106 = .ok (.iload 6, 2) := by decide +kernel
theorem dX8_ordered_108 : decode cX8_ordered 108 = .ok (.aload_n 0, 1) := by decide +kernel
theorem dX8_ordered_109 : decode cX8_ordered 109 = .ok (.getfield 32, 3) := by decide +kernel
theorem dX8_ordered_112 : decode cX8_ordered 112 = .ok (.iload_n 3, 1) := by decide +kernel
theorem dX8_ordered_113 : decode cX8_ordered 113 = .ok (.iaload, 1) := by decide +kernel
theorem dX8_ordered_114 : decode cX8_ordered 114 = .ok (.iastore, 1) := by decide +kernel
theorem dX8_ordered_115 : decode cX8_ordered 115 = .ok (.iinc 3 1, 3) := by decide +kernel
theorem dX8_ordered_118 : decode cX8_ordered 118 = .ok (.goto (-101), 3) := by decide +kernel
theorem dX8_ordered_121 : decode cX8_ordered 121 = .ok (.iconst 0, 1) := by decide +kernel
theorem dX8_ordered_122 : decode cX8_ordered 122 = .ok (.istore_n 3, 1) := by decide +kernel
theorem dX8_ordered_123 : decode cX8_ordered 123 = .ok (.iconst 0, 1) := by decide +kernel
theorem dX8_ordered_124 : decode cX8_ordered 124 = .ok (.istore 4, 2) := by decide +kernel
theorem dX8_ordered_126 : decode cX8_ordered 126 = .ok (.iload 4, 2) := by decide +kernel
theorem dX8_ordered_128 : decode cX8_ordered 128 = .ok (.iload_n 2, 1) := by decide +kernel
theorem dX8_ordered_129 : decode cX8_ordered 129 = .ok (.if_icmp .ge 56, 3) := by decide +kernel
theorem dX8_ordered_132 : decode cX8_ordered 132 = .ok (.iload_n 3, 1) := by decide +kernel
theorem dX8_ordered_133 : decode cX8_ordered 133 = .ok (.aload_n 0, 1) := by decide +kernel
theorem dX8_ordered_134 : decode cX8_ordered 134 = .ok (.getfield 29, 3) := by decide +kernel
theorem dX8_ordered_137 : decode cX8_ordered 137 = .ok (.iload 4, 2) := by decide +kernel
theorem dX8_ordered_139 : decode cX8_ordered 139 = .ok (.iaload, 1) := by decide +kernel
theorem dX8_ordered_140 : decode cX8_ordered 140 = .ok (.aload_n 0, 1) := by decide +kernel
theorem dX8_ordered_141 : decode cX8_ordered 141 = .ok (.getfield 32, 3) := by decide +kernel
theorem dX8_ordered_144 : decode cX8_ordered 144 = .ok (.iload 4, 2) := by decide +kernel
theorem dX8_ordered_146 : decode cX8_ordered 146 = .ok (.iaload, 1) := by decide +kernel
theorem dX8_ordered_147 : decode cX8_ordered 147 = .ok (.if_icmp .eq 7, 3) := by decide +kernel
theorem dX8_ordered_150 : decode cX8_ordered 150 = .ok (.iconst 1, 1) := by decide +kernel
theorem dX8_ordered_151 : decode cX8_ordered 151 = .ok (.goto 4, 3) := by decide +kernel
theorem dX8_ordered_154 : decode cX8_ordered 154 = .ok (.iconst 0, 1) := by decide +kernel
theorem dX8_ordered_155 : decode cX8_ordered 155 = .ok (.iadd, 1) := by decide +kernel
theorem dX8_ordered_156 : decode cX8_ordered 156 = .ok (.istore_n 3, 1) := by decide +kernel
theorem dX8_ordered_157 : decode cX8_ordered 157 = .ok (.aload_n 0, 1) := by decide +kernel
theorem dX8_ordered_158 : decode cX8_ordered 158 = .ok (.getfield 7, 3) := by decide +kernel
theorem dX8_ordered_161 : decode cX8_ordered 161 = .ok (.bipush 67, 2) := by decide +kernel
theorem dX8_ordered_163 : decode cX8_ordered 163 = .ok (.bipush 6, 2) := by decide +kernel
theorem dX8_ordered_165 : decode cX8_ordered 165 = .ok (.iload_n 1, 1) := by decide +kernel
theorem dX8_ordered_166 : decode cX8_ordered 166 = .ok (.imul, 1) := by decide +kernel
theorem dX8_ordered_167 : decode cX8_ordered 167 = .ok (.iadd, 1) := by decide +kernel
theorem dX8_ordered_168 : decode cX8_ordered 168 = .ok (.iload 4, 2) := by decide +kernel
theorem dX8_ordered_170 : decode cX8_ordered 170 = .ok (.iadd, 1) := by decide +kernel
theorem dX8_ordered_171 : decode cX8_ordered 171 = .ok (.aload_n 0, 1) := by decide +kernel
theorem dX8_ordered_172 : decode cX8_ordered 172 = .ok (.getfield 29, 3) := by decide +kernel
theorem dX8_ordered_175 : decode cX8_ordered 175 = .ok (.iload 4, 2) := by decide +kernel
theorem dX8_ordered_177 : decode cX8_ordered 177 = .ok (.iaload, 1) := by decide +kernel
theorem dX8_ordered_178 : decode cX8_ordered 178 = .ok (.iastore, 1) := by decide +kernel
theorem dX8_ordered_179 : decode cX8_ordered 179 = .ok (.iinc 4 1, 3) := by decide +kernel
theorem dX8_ordered_182 : decode cX8_ordered 182 = .ok (.goto (-56), 3) := by decide +kernel
theorem dX8_ordered_185 : decode cX8_ordered 185 = .ok (.iload_n 3, 1) := by decide +kernel
theorem dX8_ordered_186 : decode cX8_ordered 186 = .ok (.ireturn, 1) := by decide +kernel
set_option maxRecDepth 20000 in
theorem ggX8_keyOf_X8_parentsOf : GoodIn wsX8_keyOf wsX8_parentsOf := goodIn_r _ [5, 6, 31, 32, 33, 34, 35, 36, 37, 38, 39, 40, 41, 42, 43, 44, 45, 46, 47, 48, 49, 50, 51] (by decide +kernel) (by decide +kernel)
set_option maxRecDepth 20000 in
theorem gX8_keyOf_X8_parentsOf : GoodIn wsX8_keyOf (wsV RX8 116 RX8 yX8_parentsOf wsX8_parentsOf) := goodIn_app (goodIn_of _ (by decide +kernel)) ggX8_keyOf_X8_parentsOf
set_option maxRecDepth 20000 in
theorem ggX8_keyOf_X8_middle : GoodIn wsX8_keyOf wsX8_middle := goodIn_r _ [10, 11, 12, 13, 4, 14, 6, 15, 16, 17, 18, 19, 20, 21, 22, 23, 24, 25, 26, 27, 28, 29, 30, 31, 32, 33, 34, 35, 36, 37, 38, 39, 40, 41, 42, 43, 44, 45, 46, 47, 48, 49, 50, 51] (by decide +kernel) (by decide +kernel)
set_option maxRecDepth 20000 in
theorem gX8_keyOf_X8_middle : GoodIn wsX8_keyOf (wsV RX8 119 RX8 yX8_middle wsX8_middle) := goodIn_app (goodIn_of _ (by decide +kernel)) ggX8_keyOf_X8_middle
theorem dX8_keyOf_0 : decode cX8_keyOf 0 = .ok (.aload_n 0, 1) := by decide +kernel
theorem dX8_keyOf_1 : decode cX8_keyOf 1 = .ok (.iload_n 1, 1) := by decide +kernel
theorem dX8_keyOf_2 : decode cX8_keyOf 2 = .ok (.invokevirtual 116, 3) := by decide +kernel
theorem dX8_keyOf_5 : decode cX8_keyOf 5 = .ok (.iconst (-1), 1) := by decide +kernel
theorem dX8_keyOf_6 : decode cX8_keyOf 6 = .ok (.if_icmp .ne 9, 3) := by decide +kernel
theorem dX8_keyOf_9 : decode cX8_keyOf 9 = .ok (.sipush 1000, 3) := by decide +kernel
theorem dX8_keyOf_12 : decode cX8_keyOf 12 = .ok (.goto 12, 3) := by decide +kernel
theorem dX8_keyOf_15 : decode cX8_keyOf 15 = .ok (.aload_n 0, 1) := by decide +kernel
theorem dX8_keyOf_16 : decode cX8_keyOf 16 = .ok (.aload_n 0, 1) := by decide +kernel
theorem dX8_keyOf_17 : decode cX8_keyOf 17 = .ok (.iload_n 1, 1) := by decide +kernel
theorem dX8_keyOf_18 : decode cX8_keyOf 18 = .ok (.invokevirtual 116, 3) := by decide +kernel
theorem dX8_keyOf_21 : decode cX8_keyOf 21 = .ok (.invokevirtual 119, 3) := by decide +kernel
theorem dX8_keyOf_24 : decode cX8_keyOf 24 = .ok (.ireturn, 1) := by decide +kernel
set_option maxRecDepth 20000 in
theorem ggX8_byParents_X8_isRow : GoodIn wsX8_byParents wsX8_isRow := goodIn_r _ [5, 6, 7, 4, 8] (by decide +kernel) (by decide +kernel)
set_option maxRecDepth 20000 in
theorem gX8_byParents_X8_isRow : GoodIn wsX8_byParents (va_wsS RX8 94 yX8_isRow wsX8_isRow) := goodIn_app (goodIn_of _ (by decide +kernel)) ggX8_byParents_X8_isRow
set_option maxRecDepth 20000 in
theorem ggX8_byParents_X8_fails : GoodIn wsX8_byParents wsX8_fails := goodIn_r _ [12, 1, 62, 63, 64, 65, 66, 67, 68, 69, 70, 71, 72, 73, 74, 75, 76, 77, 78, 79, 80, 81, 82] (by decide +kernel) (by decide +kernel)
set_option maxRecDepth 20000 in
theorem gX8_byParents_X8_fails : GoodIn wsX8_byParents (wsV RX8 69 RX8 yX8_fails wsX8_fails) := goodIn_app (goodIn_of _ (by decide +kernel)) ggX8_byParents_X8_fails
set_option maxRecDepth 20000 in
theorem ggX8_byParents_X8_save : GoodIn wsX8_byParents wsX8_save := goodIn_r _ [16, 17, 18, 19, 62, 63, 64, 65, 66, 67, 68, 69, 70, 71, 72, 73, 74, 75, 76, 77, 78, 79, 80, 81, 82] (by decide +kernel) (by decide +kernel)
set_option maxRecDepth 20000 in
theorem gX8_byParents_X8_save : GoodIn wsX8_byParents (wsV RX8 72 RX8 yX8_save wsX8_save) := goodIn_app (goodIn_of _ (by decide +kernel)) ggX8_byParents_X8_save
set_option maxRecDepth 20000 in
theorem ggX8_byParents_X8_ordered : GoodIn wsX8_byParents wsX8_ordered := goodIn_r _ [23, 19, 24, 25, 26, 27, 28, 4, 29, 30, 31, 32, 33, 34, 35, 36, 37, 38, 39, 40, 41, 42, 43, 44, 45, 46, 47, 48, 49, 50, 51, 52, 53, 54, 55, 56, 57, 58, 59, 60, 61, 62, 63, 64, 65, 66, 67, 68, 69, 70, 71, 72, 73, 74, 75, 76, 77, 78, 79, 80, 81, 82] (by decide +kernel) (by decide +kernel)
set_option maxRecDepth 20000 in
theorem gX8_byParents_X8_ordered : GoodIn wsX8_byParents (wsV RX8 143 RX8 yX8_ordered wsX8_ordered) := goodIn_app (goodIn_of _ (by decide +kernel)) ggX8_byParents_X8_ordered
theorem dX8_byParents_0 : decode cX8_byParents 0 = .ok (.aload_n 0, 1) := by decide +kernel
theorem dX8_byParents_1 : decode cX8_byParents 1 = .ok (.iconst 0, 1) := by decide +kernel
theorem dX8_byParents_2 : decode cX8_byParents 2 = .ok (.putfield 50, 3) := by decide +kernel
theorem dX8_byParents_5 : decode cX8_byParents 5 = .ok (.iload_n 1, 1) := by decide +kernel
theorem dX8_byParents_6 : decode cX8_byParents 6 = .ok (.invokestatic 94, 3) := by decide +kernel
theorem dX8_byParents_9 : decode cX8_byParents 9 = .ok (.ifCond .ne 9, 3) := by decide +kernel
theorem dX8_byParents_12 : decode cX8_byParents 12 = .ok (.aload_n 0, 1) := by decide +kernel
theorem dX8_byParents_13 : decode cX8_byParents 13 = .ok (.iconst 1, 1) := by decide +kernel
theorem dX8_byParents_14 : decode cX8_byParents 14 = .ok (.invokevirtual 69, 3) := by decide +kernel
theorem dX8_byParents_17 : decode cX8_byParents 17 = .ok (.ireturn, 1) := by decide +kernel
theorem dX8_byParents_18 : decode cX8_byParents 18 = .ok (.aload_n 0, 1) := by decide +kernel
theorem dX8_byParents_19 : decode cX8_byParents 19 = .ok (.invokevirtual 72, 3) := by decide +kernel
theorem dX8_byParents_22 : decode cX8_byParents 22 = .ok (.aload_n 0, 1) := by decide +kernel
theorem dX8_byParents_23 : decode cX8_byParents 23 = .ok (.iload_n 1, 1) := by decide +kernel
theorem dX8_byParents_24 : decode cX8_byParents 24 = .ok (.invokevirtual 143, 3) := by decide +kernel
theorem dX8_byParents_27 : decode cX8_byParents 27 = .ok (.ireturn, 1) := by decide +kernel
set_option maxRecDepth 20000 in
theorem ggX8_layByNumbers_X8_whoIs : GoodIn wsX8_layByNumbers wsX8_whoIs := goodIn_r _ [6, 1, 11, 12, 13, 14, 15, 16, 17, 18, 19, 20, 21, 22, 23, 24, 25, 26, 27, 28, 29, 30, 31] (by decide +kernel) (by decide +kernel)
set_option maxRecDepth 20000 in
theorem gX8_layByNumbers_X8_whoIs : GoodIn wsX8_layByNumbers (wsV RX8 62 RX8 yX8_whoIs wsX8_whoIs) := goodIn_app (goodIn_of _ (by decide +kernel)) ggX8_layByNumbers_X8_whoIs
set_option maxRecDepth 20000 in
theorem ggX8_layByNumbers_X8_exchange : GoodIn wsX8_layByNumbers wsX8_exchange := goodIn_r _ [10, 1, 11, 12, 13, 14, 15, 16, 17, 18, 19, 20, 21, 22, 23, 24, 25, 26, 27, 28, 29, 30, 31] (by decide +kernel) (by decide +kernel)
set_option maxRecDepth 20000 in
theorem gX8_layByNumbers_X8_exchange : GoodIn wsX8_layByNumbers (wsV RX8 133 RX8 yX8_exchange wsX8_exchange) := goodIn_app (goodIn_of _ (by decide +kernel)) ggX8_layByNumbers_X8_exchange
theorem dX8_layByNumbers_0 : decode cX8_layByNumbers 0 = .ok (.iconst 0, 1) := by decide +kernel
theorem dX8_layByNumbers_1 : decode cX8_layByNumbers 1 = .ok (.istore_n 2, 1) := by decide +kernel
theorem dX8_layByNumbers_2 : decode cX8_layByNumbers 2 = .ok (.iload_n 2, 1) := by decide +kernel
theorem dX8_layByNumbers_3 : decode cX8_layByNumbers 3 = .ok (.aload_n 0, 1) := by decide +kernel
theorem dX8_layByNumbers_4 : decode cX8_layByNumbers 4 = .ok (.getfield 7, 3) := by decide +kernel
theorem dX8_layByNumbers_7 : decode cX8_layByNumbers 7 = .ok (.bipush 63, 2) := by decide +kernel
theorem dX8_layByNumbers_9 : decode cX8_layByNumbers 9 = .ok (.iload_n 1, 1) := by decide +kernel
theorem dX8_layByNumbers_10 : decode cX8_layByNumbers 10 = .ok (.iadd, 1) := by decide +kernel
theorem dX8_layByNumbers_11 : decode cX8_layByNumbers 11 = .ok (.iaload, 1) := by decide +kernel
theorem dX8_layByNumbers_12 : decode cX8_layByNumbers 12 = .ok (.if_icmp .ge 54, 3) := by decide +kernel
theorem dX8_layByNumbers_15 : decode cX8_layByNumbers 15 = .ok (.iload_n 2, 1) := by decide +kernel
theorem dX8_layByNumbers_16 : decode cX8_layByNumbers 16 = .ok (.iconst 1, 1) := by decide +kernel
theorem dX8_layByNumbers_17 : decode cX8_layByNumbers 17 = .ok (.iadd, 1) := by decide +kernel
theorem dX8_layByNumbers_18 : decode cX8_layByNumbers 18 = .ok (.istore_n 3, 1) := by decide +kernel
theorem dX8_layByNumbers_19 : decode cX8_layByNumbers 19 = .ok (.iload_n 3, 1) := by decide +kernel
theorem dX8_layByNumbers_20 : decode cX8_layByNumbers 20 = .ok (.aload_n 0, 1) := by decide +kernel
theorem dX8_layByNumbers_21 : decode cX8_layByNumbers 21 = .ok (.getfield 7, 3) := by decide +kernel
theorem dX8_layByNumbers_24 : decode cX8_layByNumbers 24 = .ok (.bipush 63, 2) := by decide +kernel
theorem dX8_layByNumbers_26 : decode cX8_layByNumbers 26 = .ok (.iload_n 1, 1) := by decide +kernel
theorem dX8_layByNumbers_27 : decode cX8_layByNumbers 27 = .ok (.iadd, 1) := by decide +kernel
theorem dX8_layByNumbers_28 : decode cX8_layByNumbers 28 = .ok (.iaload, 1) := by decide +kernel
theorem dX8_layByNumbers_29 : decode cX8_layByNumbers 29 = .ok (.if_icmp .ge 31, 3) := by decide +kernel
theorem dX8_layByNumbers_32 : decode cX8_layByNumbers 32 = .ok (.aload_n 0, 1) := by decide +kernel
theorem dX8_layByNumbers_33 : decode cX8_layByNumbers 33 = .ok (.iload_n 1, 1) := by decide +kernel
theorem dX8_layByNumbers_34 : decode cX8_layByNumbers 34 = .ok (.iload_n 3, 1) := by decide +kernel
theorem dX8_layByNumbers_35 : decode cX8_layByNumbers 35 = .ok (.invokevirtual 62, 3) := by decide +kernel
theorem dX8_layByNumbers_38 : decode cX8_layByNumbers 38 = .ok (.aload_n 0, 1) := by decide +kernel
theorem dX8_layByNumbers_39 : decode cX8_layByNumbers 39 = .ok (.iload_n 1, 1) := by decide +kernel
theorem dX8_layByNumbers_40 : decode cX8_layByNumbers 40 = .ok (.iload_n 2, 1) := by decide +kernel
theorem dX8_layByNumbers_41 : decode cX8_layByNumbers 41 = .ok (.invokevirtual 62, 3) := by decide +kernel
theorem dX8_layByNumbers_44 : decode cX8_layByNumbers 44 = .ok (.if_icmp .ge 10, 3) := by decide +kernel
theorem dX8_layByNumbers_47 : decode cX8_layByNumbers 47 = .ok (.aload_n 0, 1) := by decide +kernel
theorem dX8_layByNumbers_48 : decode cX8_layByNumbers 48 = .ok (.iload_n 1, 1) := by decide +kernel
theorem dX8_layByNumbers_49 : decode cX8_layByNumbers 49 = .ok (.iload_n 2, 1) := by decide +kernel
theorem dX8_layByNumbers_50 : decode cX8_layByNumbers 50 = .ok (.iload_n 3, 1) := by decide +kernel
theorem dX8_layByNumbers_51 : decode cX8_layByNumbers 51 = .ok (.invokevirtual 133, 3) := by decide +kernel
theorem dX8_layByNumbers_54 : decode cX8_layByNumbers 54 = .ok (.iinc 3 1, 3) := by decide +kernel
theorem dX8_layByNumbers_57 : decode cX8_layByNumbers 57 = .ok (.goto (-38), 3) := by decide +kernel
theorem dX8_layByNumbers_60 : decode cX8_layByNumbers 60 = .ok (.iinc 2 1, 3) := by decide +kernel
theorem dX8_layByNumbers_63 : decode cX8_layByNumbers 63 = .ok (.goto (-61), 3) := by decide +kernel
theorem dX8_layByNumbers_66 : decode cX8_layByNumbers 66 = .ok (.return_, 1) := by decide +kernel
set_option maxRecDepth 20000 in
theorem ggX8_layNext_X8_whoIs : GoodIn wsX8_layNext wsX8_whoIs := goodIn_r _ [6, 1, 11, 12, 13, 14, 15, 16, 17, 18, 19, 20, 21, 22, 23, 24, 25, 26, 27, 28, 29, 30, 31] (by decide +kernel) (by decide +kernel)
set_option maxRecDepth 20000 in
theorem gX8_layNext_X8_whoIs : GoodIn wsX8_layNext (wsV RX8 62 RX8 yX8_whoIs wsX8_whoIs) := goodIn_app (goodIn_of _ (by decide +kernel)) ggX8_layNext_X8_whoIs
set_option maxRecDepth 20000 in
theorem ggX8_layNext_X8_exchange : GoodIn wsX8_layNext wsX8_exchange := goodIn_r _ [10, 1, 11, 12, 13, 14, 15, 16, 17, 18, 19, 20, 21, 22, 23, 24, 25, 26, 27, 28, 29, 30, 31] (by decide +kernel) (by decide +kernel)
set_option maxRecDepth 20000 in
theorem gX8_layNext_X8_exchange : GoodIn wsX8_layNext (wsV RX8 133 RX8 yX8_exchange wsX8_exchange) := goodIn_app (goodIn_of _ (by decide +kernel)) ggX8_layNext_X8_exchange
theorem dX8_layNext_0 : decode cX8_layNext 0 = .ok (.aload_n 0, 1) := by decide +kernel
theorem dX8_layNext_1 : decode cX8_layNext 1 = .ok (.getfield 7, 3) := by decide +kernel
theorem dX8_layNext_4 : decode cX8_layNext 4 = .ok (.bipush 63, 2) := by decide +kernel
theorem dX8_layNext_6 : decode cX8_layNext 6 = .ok (.iload_n 1, 1) := by decide +kernel
theorem dX8_layNext_7 : decode cX8_layNext 7 = .ok (.iadd, 1) := by decide +kernel
theorem dX8_layNext_8 : decode cX8_layNext 8 = .ok (.iaload, 1) := by decide +kernel
theorem dX8_layNext_9 : decode cX8_layNext 9 = .ok (.istore_n 2, 1) := by decide +kernel
theorem dX8_layNext_10 : decode cX8_layNext 10 = .ok (.iload_n 2, 1) := by decide +kernel
theorem dX8_layNext_11 : decode cX8_layNext 11 = .ok (.iconst 2, 1) := by decide +kernel
theorem dX8_layNext_12 : decode cX8_layNext 12 = .ok (.isub, 1) := by decide +kernel
theorem dX8_layNext_13 : decode cX8_layNext 13 = .ok (.istore_n 3, 1) := by decide +kernel
theorem dX8_layNext_14 : decode cX8_layNext 14 = .ok (.iload_n 3, 1) := by decide +kernel
theorem dX8_layNext_15 : decode cX8_layNext 15 = .ok (.ifCond .lt 26, 3) := by decide +kernel
theorem dX8_layNext_18 : decode cX8_layNext 18 = .ok (.aload_n 0, 1) := by decide +kernel
theorem dX8_layNext_19 : decode cX8_layNext 19 = .ok (.iload_n 1, 1) := by decide +kernel
theorem dX8_layNext_20 : decode cX8_layNext 20 = .ok (.iload_n 3, 1) := by decide +kernel
theorem dX8_layNext_21 : decode cX8_layNext 21 = .ok (.invokevirtual 62, 3) := by decide +kernel
theorem dX8_layNext_24 : decode cX8_layNext 24 = .ok (.aload_n 0, 1) := by decide +kernel
theorem dX8_layNext_25 : decode cX8_layNext 25 = .ok (.iload_n 1, 1) := by decide +kernel
theorem dX8_layNext_26 : decode cX8_layNext 26 = .ok (.iload_n 3, 1) := by decide +kernel
theorem dX8_layNext_27 : decode cX8_layNext 27 = .ok (.iconst 1, 1) := by decide +kernel
theorem dX8_layNext_28 : decode cX8_layNext 28 = .ok (.iadd, 1) := by decide +kernel
theorem dX8_layNext_29 : decode cX8_layNext 29 = .ok (.invokevirtual 62, 3) := by decide +kernel
theorem dX8_layNext_32 : decode cX8_layNext 32 = .ok (.if_icmp .le 9, 3) := by decide +kernel
theorem dX8_layNext_35 : decode cX8_layNext 35 = .ok (.iinc 3 (-1), 3) := by decide +kernel
theorem dX8_layNext_38 : decode cX8_layNext 38 = .ok (.goto (-24), 3) := by decide +kernel
theorem dX8_layNext_41 : decode cX8_layNext 41 = .ok (.iload_n 3, 1) := by decide +kernel
theorem dX8_layNext_42 : decode cX8_layNext 42 = .ok (.ifCond .ge 5, 3) := by decide +kernel
theorem dX8_layNext_45 : decode cX8_layNext 45 = .ok (.iconst 0, 1) := by decide +kernel
theorem dX8_layNext_46 : decode cX8_layNext 46 = .ok (.ireturn, 1) := by decide +kernel
theorem dX8_layNext_47 : decode cX8_layNext 47 = .ok (.iload_n 2, 1) := by decide +kernel
theorem dX8_layNext_48 : decode cX8_layNext 48 = .ok (.iconst 1, 1) := by decide +kernel
theorem dX8_layNext_49 : decode cX8_layNext 49 = .ok (.isub, 1) := by decide +kernel
theorem dX8_layNext_50 : decode cX8_layNext 50 = .ok (.istore 4, 2) := by decide +kernel
theorem dX8_layNext_52 : decode cX8_layNext 52 = .ok (.aload_n 0, 1) := by decide +kernel
theorem dX8_layNext_53 : decode cX8_layNext 53 = .ok (.iload_n 1, 1) := by decide +kernel
theorem dX8_layNext_54 : decode cX8_layNext 54 = .ok (.iload 4, 2) := by decide +kernel
theorem dX8_layNext_56 : decode cX8_layNext 56 = .ok (.invokevirtual 62, 3) := by decide +kernel
theorem dX8_layNext_59 : decode cX8_layNext 59 = .ok (.aload_n 0, 1) := by decide +kernel
theorem dX8_layNext_60 : decode cX8_layNext 60 = .ok (.iload_n 1, 1) := by decide +kernel
theorem dX8_layNext_61 : decode cX8_layNext 61 = .ok (.iload_n 3, 1) := by decide +kernel
theorem dX8_layNext_62 : decode cX8_layNext 62 = .ok (.invokevirtual 62, 3) := by decide +kernel
theorem dX8_layNext_65 : decode cX8_layNext 65 = .ok (.if_icmp .ge 9, 3) := by decide +kernel
theorem dX8_layNext_68 : decode cX8_layNext 68 = .ok (.iinc 4 (-1), 3) := by decide +kernel
theorem dX8_layNext_71 : decode cX8_layNext 71 = .ok (.goto (-19), 3) := by decide +kernel
theorem dX8_layNext_74 : decode cX8_layNext 74 = .ok (.aload_n 0, 1) := by decide +kernel
theorem dX8_layNext_75 : decode cX8_layNext 75 = .ok (.iload_n 1, 1) := by decide +kernel
theorem dX8_layNext_76 : decode cX8_layNext 76 = .ok (.iload_n 3, 1) := by decide +kernel
theorem dX8_layNext_77 : decode cX8_layNext 77 = .ok (.iload 4, 2) := by decide +kernel
theorem dX8_layNext_79 : decode cX8_layNext 79 = .ok (.invokevirtual 133, 3) := by decide +kernel
theorem dX8_layNext_82 : decode cX8_layNext 82 = .ok (.iload_n 3, 1) := by decide +kernel
theorem dX8_layNext_83 : decode cX8_layNext 83 = .ok (.iconst 1, 1) := by decide +kernel
theorem dX8_layNext_84 : decode cX8_layNext 84 = .ok (.iadd, 1) := by decide +kernel
theorem dX8_layNext_85 : decode cX8_layNext 85 = .ok (.istore 5, 2) := by decide +kernel
theorem dX8_layNext_87 : decode cX8_layNext 87 = .ok (.iload_n 2, 1) := by decide +kernel
theorem dX8_layNext_88 : decode cX8_layNext 88 = .ok (.iconst 1, 1) := by decide +kernel
theorem dX8_layNext_89 : decode cX8_layNext 89 = .ok (.isub, 1) := by decide +kernel
theorem dX8_layNext_90 : decode cX8_layNext 90 = .ok (.istore 6, 2) := by decide +kernel
theorem dX8_layNext_92 : decode cX8_layNext 92 = .ok (.iload 5, 2) := by decide +kernel
theorem dX8_layNext_94 : decode cX8_layNext 94 = .ok (.iload 6, 2) := by decide +kernel
theorem dX8_layNext_96 : decode cX8_layNext 96 = .ok (.if_icmp .ge 21, 3) := by decide +kernel
theorem dX8_layNext_99 : decode cX8_layNext 99 = .ok (.aload_n 0, 1) := by decide +kernel
theorem dX8_layNext_100 : decode cX8_layNext 100 = .ok (.iload_n 1, 1) := by decide +kernel
theorem dX8_layNext_101 : decode cX8_layNext 101 = .ok (.iload 5, 2) := by decide +kernel
theorem dX8_layNext_103 : decode cX8_layNext 103 = .ok (.iload 6, 2) := by decide +kernel
theorem dX8_layNext_105 : decode cX8_layNext 105 = .ok (.invokevirtual 133, 3) := by decide +kernel
theorem dX8_layNext_108 : decode cX8_layNext 108 = .ok (.iinc 5 1, 3) := by decide +kernel
theorem dX8_layNext_111 : decode cX8_layNext 111 = .ok (.iinc 6 (-1), 3) := by decide +kernel
theorem dX8_layNext_114 : decode cX8_layNext 114 = .ok (.goto (-22), 3) := by decide +kernel
theorem dX8_layNext_117 : decode cX8_layNext 117 = .ok (.iconst 1, 1) := by decide +kernel
theorem dX8_layNext_118 : decode cX8_layNext 118 = .ok (.ireturn, 1) := by decide +kernel
set_option maxRecDepth 20000 in
theorem ggX8_leastOf_X8_remember : GoodIn wsX8_leastOf wsX8_remember := goodIn_r _ [6, 7, 8, 9, 10, 5, 11, 12, 68, 69, 70, 71, 72, 73, 74, 75, 76, 77, 78, 79, 80, 81, 82, 83, 84, 85, 86, 87, 88] (by decide +kernel) (by decide +kernel)
set_option maxRecDepth 20000 in
theorem gX8_leastOf_X8_remember : GoodIn wsX8_leastOf (wsV RX8 137 RX8 yX8_remember wsX8_remember) := goodIn_app (goodIn_of _ (by decide +kernel)) ggX8_leastOf_X8_remember
set_option maxRecDepth 20000 in
theorem ggX8_leastOf_X8_layByNumbers : GoodIn wsX8_leastOf wsX8_layByNumbers := goodIn_r _ [16, 12, 8, 9, 10, 5, 11, 17, 18, 19, 20, 68, 69, 70, 71, 72, 73, 74, 75, 76, 77, 78, 79, 80, 81, 82, 83, 84, 85, 86, 87, 88] (by decide +kernel) (by decide +kernel)
set_option maxRecDepth 20000 in
theorem gX8_leastOf_X8_layByNumbers : GoodIn wsX8_leastOf (wsV RX8 146 RX8 yX8_layByNumbers wsX8_layByNumbers) := goodIn_app (goodIn_of _ (by decide +kernel)) ggX8_leastOf_X8_layByNumbers
set_option maxRecDepth 20000 in
theorem ggX8_leastOf_X8_crossingsAt : GoodIn wsX8_leastOf wsX8_crossingsAt := goodIn_r _ [24, 25, 26, 27, 5, 28, 29, 30, 31, 32, 33, 34, 35, 12, 8, 9, 10, 11, 36, 37, 38, 39, 40, 41, 42, 43, 44, 45, 46, 47, 48, 49, 50, 51, 52, 53, 54, 55, 56, 57, 58, 59, 68, 69, 70, 71, 72, 73, 74, 75, 76, 77, 78, 79, 80, 81, 82, 83, 84, 85, 86, 87, 88] (by decide +kernel) (by decide +kernel)
set_option maxRecDepth 20000 in
theorem gX8_leastOf_X8_crossingsAt : GoodIn wsX8_leastOf (wsV RX8 149 RX8 yX8_crossingsAt wsX8_crossingsAt) := goodIn_app (goodIn_of _ (by decide +kernel)) ggX8_leastOf_X8_crossingsAt
set_option maxRecDepth 20000 in
theorem ggX8_leastOf_X8_whoIs : GoodIn wsX8_leastOf wsX8_whoIs := goodIn_r _ [11, 12, 68, 69, 70, 71, 72, 73, 74, 75, 76, 77, 78, 79, 80, 81, 82, 83, 84, 85, 86, 87, 88] (by decide +kernel) (by decide +kernel)
set_option maxRecDepth 20000 in
theorem gX8_leastOf_X8_whoIs : GoodIn wsX8_leastOf (wsV RX8 62 RX8 yX8_whoIs wsX8_whoIs) := goodIn_app (goodIn_of _ (by decide +kernel)) ggX8_leastOf_X8_whoIs
set_option maxRecDepth 20000 in
theorem ggX8_leastOf_X8_layNext : GoodIn wsX8_leastOf wsX8_layNext := goodIn_r _ [63, 12, 8, 9, 10, 5, 11, 17, 18, 19, 20, 68, 69, 70, 71, 72, 73, 74, 75, 76, 77, 78, 79, 80, 81, 82, 83, 84, 85, 86, 87, 88] (by decide +kernel) (by decide +kernel)
set_option maxRecDepth 20000 in
theorem gX8_leastOf_X8_layNext : GoodIn wsX8_leastOf (wsV RX8 152 RX8 yX8_layNext wsX8_layNext) := goodIn_app (goodIn_of _ (by decide +kernel)) ggX8_leastOf_X8_layNext
set_option maxRecDepth 20000 in
theorem ggX8_leastOf_X8_layBack : GoodIn wsX8_leastOf wsX8_layBack := goodIn_r _ [67, 12, 7, 68, 69, 70, 71, 72, 73, 74, 75, 76, 77, 78, 79, 80, 81, 82, 83, 84, 85, 86, 87, 88] (by decide +kernel) (by decide +kernel)
set_option maxRecDepth 20000 in
theorem gX8_leastOf_X8_layBack : GoodIn wsX8_leastOf (wsV RX8 155 RX8 yX8_layBack wsX8_layBack) := goodIn_app (goodIn_of _ (by decide +kernel)) ggX8_leastOf_X8_layBack
theorem dX8_leastOf_0 : decode cX8_leastOf 0 = .ok (.aload_n 0, 1) := by decide +kernel
theorem dX8_leastOf_1 : decode cX8_leastOf 1 = .ok (.iload_n 1, 1) := by decide +kernel
theorem dX8_leastOf_2 : decode cX8_leastOf 2 = .ok (.invokevirtual 137, 3) := by decide +kernel
theorem dX8_leastOf_5 : decode cX8_leastOf 5 = .ok (.aload_n 0, 1) := by decide +kernel
theorem dX8_leastOf_6 : decode cX8_leastOf 6 = .ok (.iload_n 1, 1) := by decide +kernel
theorem dX8_leastOf_7 : decode cX8_leastOf 7 = .ok (.invokevirtual 146, 3) := by decide +kernel
theorem dX8_leastOf_10 : decode cX8_leastOf 10 = .ok (.iconst (-1), 1) := by decide +kernel
theorem dX8_leastOf_11 : decode cX8_leastOf 11 = .ok (.istore_n 2, 1) := by decide +kernel
theorem dX8_leastOf_12 : decode cX8_leastOf 12 = .ok (.iconst 1, 1) := by decide +kernel
theorem dX8_leastOf_13 : decode cX8_leastOf 13 = .ok (.istore_n 3, 1) := by decide +kernel
theorem dX8_leastOf_14 : decode cX8_leastOf 14 = .ok (.iload_n 3, 1) := by decide +kernel
theorem dX8_leastOf_15 : decode cX8_leastOf 15 = .ok (.ifCond .eq 63, 3) := by decide +kernel
theorem dX8_leastOf_18 : decode cX8_leastOf 18 = .ok (.aload_n 0, 1) := by decide +kernel
theorem dX8_leastOf_19 : decode cX8_leastOf 19 = .ok (.iload_n 1, 1) := by decide +kernel
theorem dX8_leastOf_20 : decode cX8_leastOf 20 = .ok (.invokevirtual 149, 3) := by decide +kernel
theorem dX8_leastOf_23 : decode cX8_leastOf 23 = .ok (.istore 4, 2) := by decide +kernel
theorem dX8_leastOf_25 : decode cX8_leastOf 25 = .ok (.iload_n 2, 1) := by decide +kernel
theorem dX8_leastOf_26 : decode cX8_leastOf 26 = .ok (.iconst (-1), 1) := by decide +kernel
theorem dX8_leastOf_27 : decode cX8_leastOf 27 = .ok (.if_icmp .eq 9, 3) := by decide +kernel
theorem dX8_leastOf_30 : decode cX8_leastOf 30 = .ok (.iload 4, 2) := by decide +kernel
theorem dX8_leastOf_32 : decode cX8_leastOf 32 = .ok (.iload_n 2, 1) := by decide +kernel
theorem dX8_leastOf_33 : decode cX8_leastOf 33 = .ok (.if_icmp .ge 36, 3) := by decide +kernel
theorem dX8_leastOf_36 : decode cX8_leastOf 36 = .ok (.iload 4, 2) := by decide +kernel
theorem dX8_leastOf_38 : decode cX8_leastOf 38 = .ok (.istore_n 2, 1) := by decide +kernel
theorem dX8_leastOf_39 : decode cX8_leastOf 39 = .ok (.iconst 0, 1) := by decide +kernel
theorem dX8_leastOf_40 : decode cX8_leastOf 40 = .ok (.istore 5, 2) := by decide +kernel
theorem dX8_leastOf_42 : decode cX8_leastOf 42 = .ok (.iload 5, 2) := by decide +kernel
theorem dX8_leastOf_44 : decode cX8_leastOf 44 = .ok (.bipush 6, 2) := by decide +kernel
theorem dX8_leastOf_46 : decode cX8_leastOf 46 = .ok (.if_icmp .ge 23, 3) := by decide +kernel
theorem dX8_leastOf_49 : decode cX8_leastOf 49 = .ok (.aload_n 0, 1) := by decide +kernel
theorem dX8_leastOf_50 : decode cX8_leastOf 50 = .ok (.getfield 35, 3) := by decide +kernel
theorem dX8_leastOf_53 : decode cX8_leastOf 53 = .ok (.iload 5, 2) := by decide +kernel
theorem dX8_leastOf_55 : decode cX8_leastOf 55 = .ok (.aload_n 0, 1) := by decide +kernel
theorem dX8_leastOf_56 : decode cX8_leastOf 56 = .ok (.iload_n 1, 1) := by decide +kernel
theorem dX8_leastOf_57 : decode cX8_leastOf 57 = .ok (.iload 5, 2) := by decide +kernel
theorem dX8_leastOf_59 : decode cX8_leastOf 59 = .ok (.invokevirtual 62, 3) := by decide +kernel
theorem dX8_leastOf_62 : decode cX8_leastOf 62 = .ok (.iastore, 1) := by decide +kernel
theorem dX8_leastOf_63 : decode cX8_leastOf 63 = .ok (.iinc 5 1, 3) := by decide +kernel
theorem dX8_leastOf_66 : decode cX8_leastOf 66 = .ok (.goto (-24), 3) := by decide +kernel
theorem dX8_leastOf_69 : decode cX8_leastOf 69 = .ok (.aload_n 0, 1) := by decide +kernel
theorem dX8_leastOf_70 : decode cX8_leastOf 70 = .ok (.iload_n 1, 1) := by decide +kernel
theorem dX8_leastOf_71 : decode cX8_leastOf 71 = .ok (.invokevirtual 152, 3) := by decide +kernel
theorem dX8_leastOf_74 : decode cX8_leastOf 74 = .ok (.istore_n 3, 1) := by decide +kernel
theorem dX8_leastOf_75 : decode cX8_leastOf 75 = .ok (.goto (-61), 3) := by decide +kernel
theorem dX8_leastOf_78 : decode cX8_leastOf 78 = .ok (.aload_n 0, 1) := by decide +kernel
theorem dX8_leastOf_79 : decode cX8_leastOf 79 = .ok (.iload_n 1, 1) := by decide +kernel
theorem dX8_leastOf_80 : decode cX8_leastOf 80 = .ok (.invokevirtual 155, 3) := by decide +kernel
theorem dX8_leastOf_83 : decode cX8_leastOf 83 = .ok (.iload_n 2, 1) := by decide +kernel
theorem dX8_leastOf_84 : decode cX8_leastOf 84 = .ok (.ireturn, 1) := by decide +kernel
set_option maxRecDepth 20000 in
theorem ggX8_untangle_X8_isRow : GoodIn wsX8_untangle wsX8_isRow := goodIn_r _ [7, 8, 9, 6, 10] (by decide +kernel) (by decide +kernel)
set_option maxRecDepth 20000 in
theorem gX8_untangle_X8_isRow : GoodIn wsX8_untangle (va_wsS RX8 94 yX8_isRow wsX8_isRow) := goodIn_app (goodIn_of _ (by decide +kernel)) ggX8_untangle_X8_isRow
set_option maxRecDepth 20000 in
theorem ggX8_untangle_X8_fails : GoodIn wsX8_untangle wsX8_fails := goodIn_r _ [14, 1, 89, 90, 91, 92, 93, 94, 95, 96, 97, 98, 99, 100, 101, 102, 103, 104, 105, 106, 107, 108, 109] (by decide +kernel) (by decide +kernel)
set_option maxRecDepth 20000 in
theorem gX8_untangle_X8_fails : GoodIn wsX8_untangle (wsV RX8 69 RX8 yX8_fails wsX8_fails) := goodIn_app (goodIn_of _ (by decide +kernel)) ggX8_untangle_X8_fails
set_option maxRecDepth 20000 in
theorem ggX8_untangle_X8_save : GoodIn wsX8_untangle wsX8_save := goodIn_r _ [18, 19, 20, 2, 89, 90, 91, 92, 93, 94, 95, 96, 97, 98, 99, 100, 101, 102, 103, 104, 105, 106, 107, 108, 109] (by decide +kernel) (by decide +kernel)
set_option maxRecDepth 20000 in
theorem gX8_untangle_X8_save : GoodIn wsX8_untangle (wsV RX8 72 RX8 yX8_save wsX8_save) := goodIn_app (goodIn_of _ (by decide +kernel)) ggX8_untangle_X8_save
set_option maxRecDepth 20000 in
theorem ggX8_untangle_X8_leastOf : GoodIn wsX8_untangle wsX8_leastOf := goodIn_r _ [24, 3, 25, 26, 27, 6, 28, 29, 30, 31, 32, 33, 2, 34, 35, 36, 37, 38, 39, 40, 41, 42, 43, 44, 45, 46, 47, 48, 49, 50, 51, 52, 53, 54, 55, 56, 57, 58, 59, 60, 61, 62, 63, 64, 65, 66, 67, 68, 69, 70, 71, 72, 73, 74, 75, 76, 77, 78, 79, 80, 81, 82, 83, 84, 85, 86, 87, 88, 89, 90, 91, 92, 93, 94, 95, 96, 97, 98, 99, 100, 101, 102, 103, 104, 105, 106, 107, 108, 109] (by decide +kernel) (by decide +kernel)
set_option maxRecDepth 20000 in
theorem gX8_untangle_X8_leastOf : GoodIn wsX8_untangle (wsV RX8 158 RX8 yX8_leastOf wsX8_leastOf) := goodIn_app (goodIn_of _ (by decide +kernel)) ggX8_untangle_X8_leastOf
theorem dX8_untangle_0 : decode cX8_untangle 0 = .ok (.aload_n 0, 1) := by decide +kernel
theorem dX8_untangle_1 : decode cX8_untangle 1 = .ok (.iconst 0, 1) := by decide +kernel
theorem dX8_untangle_2 : decode cX8_untangle 2 = .ok (.putfield 50, 3) := by decide +kernel
theorem dX8_untangle_5 : decode cX8_untangle 5 = .ok (.iload_n 1, 1) := by decide +kernel
theorem dX8_untangle_6 : decode cX8_untangle 6 = .ok (.invokestatic 94, 3) := by decide +kernel
theorem dX8_untangle_9 : decode cX8_untangle 9 = .ok (.ifCond .ne 9, 3) := by decide +kernel
theorem dX8_untangle_12 : decode cX8_untangle 12 = .ok (.aload_n 0, 1) := by decide +kernel
theorem dX8_untangle_13 : decode cX8_untangle 13 = .ok (.iconst 1, 1) := by decide +kernel
theorem dX8_untangle_14 : decode cX8_untangle 14 = .ok (.invokevirtual 69, 3) := by decide +kernel
theorem dX8_untangle_17 : decode cX8_untangle 17 = .ok (.ireturn, 1) := by decide +kernel
theorem dX8_untangle_18 : decode cX8_untangle 18 = .ok (.aload_n 0, 1) := by decide +kernel
theorem dX8_untangle_19 : decode cX8_untangle 19 = .ok (.invokevirtual 72, 3) := by decide +kernel
theorem dX8_untangle_22 : decode cX8_untangle 22 = .ok (.aload_n 0, 1) := by decide +kernel
theorem dX8_untangle_23 : decode cX8_untangle 23 = .ok (.iload_n 1, 1) := by decide +kernel
theorem dX8_untangle_24 : decode cX8_untangle 24 = .ok (.invokevirtual 158, 3) := by decide +kernel
theorem dX8_untangle_27 : decode cX8_untangle 27 = .ok (.istore_n 2, 1) := by decide +kernel
theorem dX8_untangle_28 : decode cX8_untangle 28 = .ok (.iconst 0, 1) := by decide +kernel
theorem dX8_untangle_29 : decode cX8_untangle 29 = .ok (.istore_n 3, 1) := by decide +kernel
theorem dX8_untangle_30 : decode cX8_untangle 30 = .ok (.iload_n 3, 1) := by decide +kernel
theorem dX8_untangle_31 : decode cX8_untangle 31 = .ok (.bipush 6, 2) := by decide +kernel
theorem dX8_untangle_33 : decode cX8_untangle 33 = .ok (.if_icmp .ge 29, 3) := by decide +kernel
theorem dX8_untangle_36 : decode cX8_untangle 36 = .ok (.aload_n 0, 1) := by decide +kernel
theorem dX8_untangle_37 : decode cX8_untangle 37 = .ok (.getfield 7, 3) := by decide +kernel
theorem dX8_untangle_40 : decode cX8_untangle 40 = .ok (.bipush 67, 2) := by decide +kernel
theorem dX8_untangle_42 : decode cX8_untangle 42 = .ok (.bipush 6, 2) := by decide +kernel
theorem dX8_untangle_44 : decode cX8_untangle 44 = .ok (.iload_n 1, 1) := by decide +kernel
theorem dX8_untangle_45 : decode cX8_untangle 45 = .ok (.imul, 1) := by decide +kernel
theorem dX8_untangle_46 : decode cX8_untangle 46 = .ok (.iadd, 1) := by decide +kernel
theorem dX8_untangle_47 : decode cX8_untangle 47 = .ok (.iload_n 3, 1) := by decide +kernel
theorem dX8_untangle_48 : decode cX8_untangle 48 = .ok (.iadd, 1) := by decide +kernel
theorem dX8_untangle_49 : decode cX8_untangle 49 = .ok (.aload_n 0, 1) := by decide +kernel
theorem dX8_untangle_50 : decode cX8_untangle 50 = .ok (.getfield 35, 3) := by decide +kernel
theorem dX8_untangle_53 : decode cX8_untangle 53 = .ok (.iload_n 3, 1) := by decide +kernel
theorem dX8_untangle_54 : decode cX8_untangle 54 = .ok (.iaload, 1) := by decide +kernel
theorem dX8_untangle_55 : decode cX8_untangle 55 = .ok (.iastore, 1) := by decide +kernel
theorem dX8_untangle_56 : decode cX8_untangle 56 = .ok (.iinc 3 1, 3) := by decide +kernel
theorem dX8_untangle_59 : decode cX8_untangle 59 = .ok (.goto (-29), 3) := by decide +kernel
theorem dX8_untangle_62 : decode cX8_untangle 62 = .ok (.iload_n 2, 1) := by decide +kernel
theorem dX8_untangle_63 : decode cX8_untangle 63 = .ok (.ireturn, 1) := by decide +kernel
set_option maxRecDepth 20000 in
theorem ggX8_append_X8_in : GoodIn wsX8_append wsX8_in := goodIn_r _ [7] (by decide +kernel) (by decide +kernel)
set_option maxRecDepth 20000 in
theorem gX8_append_X8_in : GoodIn wsX8_append (va_wsS RX8 54 yX8_in wsX8_in) := goodIn_app (goodIn_of _ (by decide +kernel)) ggX8_append_X8_in
set_option maxRecDepth 20000 in
theorem ggX8_append_X8_fails : GoodIn wsX8_append wsX8_fails := goodIn_r _ [11, 1, 12, 13, 14, 15, 16, 17, 18, 19, 20, 21, 22, 23, 24, 25, 26, 27, 28, 29, 30, 31, 32] (by decide +kernel) (by decide +kernel)
set_option maxRecDepth 20000 in
theorem gX8_append_X8_fails : GoodIn wsX8_append (wsV RX8 69 RX8 yX8_fails wsX8_fails) := goodIn_app (goodIn_of _ (by decide +kernel)) ggX8_append_X8_fails
theorem dX8_append_0 : decode cX8_append 0 = .ok (.aload_n 0, 1) := by decide +kernel
theorem dX8_append_1 : decode cX8_append 1 = .ok (.iconst 0, 1) := by decide +kernel
theorem dX8_append_2 : decode cX8_append 2 = .ok (.putfield 50, 3) := by decide +kernel
theorem dX8_append_5 : decode cX8_append 5 = .ok (.iload_n 1, 1) := by decide +kernel
theorem dX8_append_6 : decode cX8_append 6 = .ok (.bipush 33, 2) := by decide +kernel
theorem dX8_append_8 : decode cX8_append 8 = .ok (.bipush 126, 2) := by decide +kernel
theorem dX8_append_10 : decode cX8_append 10 = .ok (.invokestatic 54, 3) := by decide +kernel
theorem dX8_append_13 : decode cX8_append 13 = .ok (.ifCond .ne 9, 3) := by decide +kernel
theorem dX8_append_16 : decode cX8_append 16 = .ok (.aload_n 0, 1) := by decide +kernel
theorem dX8_append_17 : decode cX8_append 17 = .ok (.iconst 1, 1) := by decide +kernel
theorem dX8_append_18 : decode cX8_append 18 = .ok (.invokevirtual 69, 3) := by decide +kernel
theorem dX8_append_21 : decode cX8_append 21 = .ok (.ireturn, 1) := by decide +kernel
theorem dX8_append_22 : decode cX8_append 22 = .ok (.aload_n 0, 1) := by decide +kernel
theorem dX8_append_23 : decode cX8_append 23 = .ok (.getfield 161, 3) := by decide +kernel
theorem dX8_append_26 : decode cX8_append 26 = .ok (.bipush 60, 2) := by decide +kernel
theorem dX8_append_28 : decode cX8_append 28 = .ok (.if_icmp .ne 9, 3) := by decide +kernel
theorem dX8_append_31 : decode cX8_append 31 = .ok (.aload_n 0, 1) := by decide +kernel
theorem dX8_append_32 : decode cX8_append 32 = .ok (.iconst 2, 1) := by decide +kernel
theorem dX8_append_33 : decode cX8_append 33 = .ok (.invokevirtual 69, 3) := by decide +kernel
theorem dX8_append_36 : decode cX8_append 36 = .ok (.ireturn, 1) := by decide +kernel
theorem dX8_append_37 : decode cX8_append 37 = .ok (.aload_n 0, 1) := by decide +kernel
theorem dX8_append_38 : decode cX8_append 38 = .ok (.getfield 38, 3) := by decide +kernel
theorem dX8_append_41 : decode cX8_append 41 = .ok (.aload_n 0, 1) := by decide +kernel
theorem dX8_append_42 : decode cX8_append 42 = .ok (.getfield 161, 3) := by decide +kernel
theorem dX8_append_45 : decode cX8_append 45 = .ok (.iload_n 1, 1) := by decide +kernel
theorem dX8_append_46 : decode cX8_append 46 = .ok (.iastore, 1) := by decide +kernel
theorem dX8_append_47 : decode cX8_append 47 = .ok (.aload_n 0, 1) := by decide +kernel
theorem dX8_append_48 : decode cX8_append 48 = .ok (.dup, 1) := by decide +kernel
theorem dX8_append_49 : decode cX8_append 49 = .ok (.getfield 161, 3) := by decide +kernel
theorem dX8_append_52 : decode cX8_append 52 = .ok (.iconst 1, 1) := by decide +kernel
theorem dX8_append_53 : decode cX8_append 53 = .ok (.iadd, 1) := by decide +kernel
theorem dX8_append_54 : decode cX8_append 54 = .ok (.putfield 161, 3) := by decide +kernel
theorem dX8_append_57 : decode cX8_append 57 = .ok (.aload_n 0, 1) := by decide +kernel
theorem dX8_append_58 : decode cX8_append 58 = .ok (.getfield 161, 3) := by decide +kernel
theorem dX8_append_61 : decode cX8_append 61 = .ok (.ireturn, 1) := by decide +kernel
theorem dX8_clearBuffer_0 : decode cX8_clearBuffer 0 = .ok (.aload_n 0, 1) := by decide +kernel
theorem dX8_clearBuffer_1 : decode cX8_clearBuffer 1 = .ok (.iconst 0, 1) := by decide +kernel
theorem dX8_clearBuffer_2 : decode cX8_clearBuffer 2 = .ok (.putfield 50, 3) := by decide +kernel
theorem dX8_clearBuffer_5 : decode cX8_clearBuffer 5 = .ok (.aload_n 0, 1) := by decide +kernel
theorem dX8_clearBuffer_6 : decode cX8_clearBuffer 6 = .ok (.getfield 161, 3) := by decide +kernel
theorem dX8_clearBuffer_9 : decode cX8_clearBuffer 9 = .ok (.istore_n 1, 1) := by decide +kernel
theorem dX8_clearBuffer_10 : decode cX8_clearBuffer 10 = .ok (.aload_n 0, 1) := by decide +kernel
theorem dX8_clearBuffer_11 : decode cX8_clearBuffer 11 = .ok (.iconst 0, 1) := by decide +kernel
theorem dX8_clearBuffer_12 : decode cX8_clearBuffer 12 = .ok (.putfield 161, 3) := by decide +kernel
theorem dX8_clearBuffer_15 : decode cX8_clearBuffer 15 = .ok (.iload_n 1, 1) := by decide +kernel
theorem dX8_clearBuffer_16 : decode cX8_clearBuffer 16 = .ok (.ireturn, 1) := by decide +kernel
theorem dX8_code_0 : decode cX8_code 0 = .ok (.aload_n 0, 1) := by decide +kernel
theorem dX8_code_1 : decode cX8_code 1 = .ok (.getfield 164, 3) := by decide +kernel
theorem dX8_code_4 : decode cX8_code 4 = .ok (.aload_n 0, 1) := by decide +kernel
theorem dX8_code_5 : decode cX8_code 5 = .ok (.getfield 161, 3) := by decide +kernel
theorem dX8_code_8 : decode cX8_code 8 = .ok (.if_icmp .ge 15, 3) := by decide +kernel
theorem dX8_code_11 : decode cX8_code 11 = .ok (.aload_n 0, 1) := by decide +kernel
theorem dX8_code_12 : decode cX8_code 12 = .ok (.getfield 38, 3) := by decide +kernel
theorem dX8_code_15 : decode cX8_code 15 = .ok (.aload_n 0, 1) := by decide +kernel
theorem dX8_code_16 : decode cX8_code 16 = .ok (.getfield 164, 3) := by decide +kernel
theorem dX8_code_19 : decode cX8_code 19 = .ok (.iaload, 1) := by decide +kernel
theorem dX8_code_20 : decode cX8_code 20 = .ok (.goto 4, 3) := by decide +kernel
theorem dX8_code_23 : decode cX8_code 23 = .ok (.iconst 0, 1) := by decide +kernel
theorem dX8_code_24 : decode cX8_code 24 = .ok (.ireturn, 1) := by decide +kernel
set_option maxRecDepth 20000 in
theorem ggX8_takes_X8_code : GoodIn wsX8_takes wsX8_code := goodIn_r _ [6, 1, 7, 8, 9, 10, 11, 12, 13, 14, 15, 16, 17, 18, 19, 20, 21, 22, 23, 24, 25, 26, 27, 28, 29] (by decide +kernel) (by decide +kernel)
set_option maxRecDepth 20000 in
theorem gX8_takes_X8_code : GoodIn wsX8_takes (wsV RX8 167 RX8 yX8_code wsX8_code) := goodIn_app (goodIn_of _ (by decide +kernel)) ggX8_takes_X8_code
theorem dX8_takes_0 : decode cX8_takes 0 = .ok (.aload_n 0, 1) := by decide +kernel
theorem dX8_takes_1 : decode cX8_takes 1 = .ok (.invokevirtual 167, 3) := by decide +kernel
theorem dX8_takes_4 : decode cX8_takes 4 = .ok (.iload_n 1, 1) := by decide +kernel
theorem dX8_takes_5 : decode cX8_takes 5 = .ok (.if_icmp .ne 7, 3) := by decide +kernel
theorem dX8_takes_8 : decode cX8_takes 8 = .ok (.iconst 1, 1) := by decide +kernel
theorem dX8_takes_9 : decode cX8_takes 9 = .ok (.goto 4, 3) := by decide +kernel
theorem dX8_takes_12 : decode cX8_takes 12 = .ok (.iconst 0, 1) := by decide +kernel
theorem dX8_takes_13 : decode cX8_takes 13 = .ok (.istore_n 2, 1) := by decide +kernel
theorem dX8_takes_14 : decode cX8_takes 14 = .ok (.aload_n 0, 1) := by decide +kernel
theorem dX8_takes_15 : decode cX8_takes 15 = .ok (.dup, 1) := by decide +kernel
theorem dX8_takes_16 : decode cX8_takes 16 = .ok (.getfield 164, 3) := by decide +kernel
theorem dX8_takes_19 : decode cX8_takes 19 = .ok (.iload_n 2, 1) := by decide +kernel
theorem dX8_takes_20 : decode cX8_takes 20 = .ok (.ifCond .eq 7, 3) := by decide +kernel
theorem dX8_takes_23 : decode cX8_takes 23 = .ok (.iconst 1, 1) := by decide +kernel
theorem dX8_takes_24 : decode cX8_takes 24 = .ok (.goto 4, 3) := by decide +kernel
theorem dX8_takes_27 : decode cX8_takes 27 = .ok (.iconst 0, 1) := by decide +kernel
theorem dX8_takes_28 : decode cX8_takes 28 = .ok (.iadd, 1) := by decide +kernel
theorem dX8_takes_29 : decode cX8_takes 29 = .ok (.putfield 164, 3) := by decide +kernel
theorem dX8_takes_32 : decode cX8_takes 32 = .ok (.iload_n 2, 1) := by decide +kernel
theorem dX8_takes_33 : decode cX8_takes 33 = .ok (.ireturn, 1) := by decide +kernel
set_option maxRecDepth 20000 in
theorem ggX8_readsPerson_X8_code : GoodIn wsX8_readsPerson wsX8_code := goodIn_r _ [7, 2, 8, 9, 13, 14, 15, 16, 17, 18, 19, 20, 21, 22, 23, 24, 25, 26, 27, 28, 29, 30, 31, 32, 33] (by decide +kernel) (by decide +kernel)
set_option maxRecDepth 20000 in
theorem gX8_readsPerson_X8_code : GoodIn wsX8_readsPerson (wsV RX8 167 RX8 yX8_code wsX8_code) := goodIn_app (goodIn_of _ (by decide +kernel)) ggX8_readsPerson_X8_code
set_option maxRecDepth 20000 in
theorem ggX8_readsPerson_X8_in : GoodIn wsX8_readsPerson wsX8_in := goodIn_r _ [12] (by decide +kernel) (by decide +kernel)
set_option maxRecDepth 20000 in
theorem gX8_readsPerson_X8_in : GoodIn wsX8_readsPerson (va_wsS RX8 54 yX8_in wsX8_in) := goodIn_app (goodIn_of _ (by decide +kernel)) ggX8_readsPerson_X8_in
theorem dX8_readsPerson_0 : decode cX8_readsPerson 0 = .ok (.aload_n 0, 1) := by decide +kernel
theorem dX8_readsPerson_1 : decode cX8_readsPerson 1 = .ok (.invokevirtual 167, 3) := by decide +kernel
theorem dX8_readsPerson_4 : decode cX8_readsPerson 4 = .ok (.bipush 48, 2) := by decide +kernel
theorem dX8_readsPerson_6 : decode cX8_readsPerson 6 = .ok (.bipush 57, 2) := by decide +kernel
theorem dX8_readsPerson_8 : decode cX8_readsPerson 8 = .ok (.invokestatic 54, 3) := by decide +kernel
theorem dX8_readsPerson_11 : decode cX8_readsPerson 11 = .ok (.ifCond .ne 5, 3) := by decide +kernel
theorem dX8_readsPerson_14 : decode cX8_readsPerson 14 = .ok (.iconst 0, 1) := by decide +kernel
theorem dX8_readsPerson_15 : decode cX8_readsPerson 15 = .ok (.ireturn, 1) := by decide +kernel
theorem dX8_readsPerson_16 : decode cX8_readsPerson 16 = .ok (.aload_n 0, 1) := by decide +kernel
theorem dX8_readsPerson_17 : decode cX8_readsPerson 17 = .ok (.aload_n 0, 1) := by decide +kernel
theorem dX8_readsPerson_18 : decode cX8_readsPerson 18 = .ok (.invokevirtual 167, 3) := by decide +kernel
theorem dX8_readsPerson_21 : decode cX8_readsPerson 21 = .ok (.bipush 48, 2) := by decide +kernel
theorem dX8_readsPerson_23 : decode cX8_readsPerson 23 = .ok (.isub, 1) := by decide +kernel
theorem dX8_readsPerson_24 : decode cX8_readsPerson 24 = .ok (.putfield 170, 3) := by decide +kernel
theorem dX8_readsPerson_27 : decode cX8_readsPerson 27 = .ok (.aload_n 0, 1) := by decide +kernel
theorem dX8_readsPerson_28 : decode cX8_readsPerson 28 = .ok (.dup, 1) := by decide +kernel
theorem dX8_readsPerson_29 : decode cX8_readsPerson 29 = .ok (.getfield 164, 3) := by decide +kernel
theorem dX8_readsPerson_32 : decode cX8_readsPerson 32 = .ok (.iconst 1, 1) := by decide +kernel
theorem dX8_readsPerson_33 : decode cX8_readsPerson 33 = .ok (.iadd, 1) := by decide +kernel
theorem dX8_readsPerson_34 : decode cX8_readsPerson 34 = .ok (.putfield 164, 3) := by decide +kernel
theorem dX8_readsPerson_37 : decode cX8_readsPerson 37 = .ok (.aload_n 0, 1) := by decide +kernel
theorem dX8_readsPerson_38 : decode cX8_readsPerson 38 = .ok (.getfield 170, 3) := by decide +kernel
theorem dX8_readsPerson_41 : decode cX8_readsPerson 41 = .ok (.iconst 1, 1) := by decide +kernel
theorem dX8_readsPerson_42 : decode cX8_readsPerson 42 = .ok (.if_icmp .ne 41, 3) := by decide +kernel
theorem dX8_readsPerson_45 : decode cX8_readsPerson 45 = .ok (.aload_n 0, 1) := by decide +kernel
theorem dX8_readsPerson_46 : decode cX8_readsPerson 46 = .ok (.invokevirtual 167, 3) := by decide +kernel
theorem dX8_readsPerson_49 : decode cX8_readsPerson 49 = .ok (.bipush 48, 2) := by decide +kernel
theorem dX8_readsPerson_51 : decode cX8_readsPerson 51 = .ok (.bipush 57, 2) := by decide +kernel
theorem dX8_readsPerson_53 : decode cX8_readsPerson 53 = .ok (.invokestatic 54, 3) := by decide +kernel
theorem dX8_readsPerson_56 : decode cX8_readsPerson 56 = .ok (.ifCond .eq 27, 3) := by decide +kernel
theorem dX8_readsPerson_59 : decode cX8_readsPerson 59 = .ok (.aload_n 0, 1) := by decide +kernel
theorem dX8_readsPerson_60 : decode cX8_readsPerson 60 = .ok (.bipush 10, 2) := by decide +kernel
theorem dX8_readsPerson_62 : decode cX8_readsPerson 62 = .ok (.aload_n 0, 1) := by decide +kernel
theorem dX8_readsPerson_63 : decode cX8_readsPerson 63 = .ok (.invokevirtual 167, 3) := by decide +kernel
theorem dX8_readsPerson_66 : decode cX8_readsPerson 66 = .ok (.iadd, 1) := by decide +kernel
theorem dX8_readsPerson_67 : decode cX8_readsPerson 67 = .ok (.bipush 48, 2) := by decide +kernel
theorem dX8_readsPerson_69 : decode cX8_readsPerson 69 = .ok (.isub, 1) := by decide +kernel
theorem dX8_readsPerson_70 : decode cX8_readsPerson 70 = .ok (.putfield 170, 3) := by decide +kernel
theorem dX8_readsPerson_73 : decode cX8_readsPerson 73 = .ok (.aload_n 0, 1) := by decide +kernel
theorem dX8_readsPerson_74 : decode cX8_readsPerson 74 = .ok (.dup, 1) := by decide +kernel
theorem dX8_readsPerson_75 : decode cX8_readsPerson 75 = .ok (.getfield 164, 3) := by decide +kernel
theorem dX8_readsPerson_78 : decode cX8_readsPerson 78 = .ok (.iconst 1, 1) := by decide +kernel
theorem dX8_readsPerson_79 : decode cX8_readsPerson 79 = .ok (.iadd, 1) := by decide +kernel
theorem dX8_readsPerson_80 : decode cX8_readsPerson 80 = .ok (.putfield 164, 3) := by decide +kernel
theorem dX8_readsPerson_83 : decode cX8_readsPerson 83 = .ok (.iconst 1, 1) := by decide +kernel
theorem dX8_readsPerson_84 : decode cX8_readsPerson 84 = .ok (.ireturn, 1) := by decide +kernel
set_option maxRecDepth 20000 in
theorem ggX8_readsCouple_X8_readsPerson : GoodIn wsX8_readsCouple wsX8_readsPerson := goodIn_r _ [9, 3, 10, 11, 12, 13, 8, 14, 15, 16, 17, 18, 19, 24, 25, 26, 27, 28, 29, 30, 31, 32, 33, 34, 35, 36, 37, 38, 39, 40, 41, 42, 43, 44] (by decide +kernel) (by decide +kernel)
set_option maxRecDepth 20000 in
theorem gX8_readsCouple_X8_readsPerson : GoodIn wsX8_readsCouple (wsV RX8 173 RX8 yX8_readsPerson wsX8_readsPerson) := goodIn_app (goodIn_of _ (by decide +kernel)) ggX8_readsCouple_X8_readsPerson
set_option maxRecDepth 20000 in
theorem ggX8_readsCouple_X8_takes : GoodIn wsX8_readsCouple wsX8_takes := goodIn_r _ [23, 10, 11, 12, 13, 8, 14, 15, 16, 24, 25, 26, 27, 28, 29, 30, 31, 32, 33, 34, 35, 36, 37, 38, 39, 40, 41, 42, 43, 44] (by decide +kernel) (by decide +kernel)
set_option maxRecDepth 20000 in
theorem gX8_readsCouple_X8_takes : GoodIn wsX8_readsCouple (wsV RX8 180 RX8 yX8_takes wsX8_takes) := goodIn_app (goodIn_of _ (by decide +kernel)) ggX8_readsCouple_X8_takes
theorem dX8_readsCouple_0 : decode cX8_readsCouple 0 = .ok (.aload_n 0, 1) := by decide +kernel
theorem dX8_readsCouple_1 : decode cX8_readsCouple 1 = .ok (.invokevirtual 173, 3) := by decide +kernel
theorem dX8_readsCouple_4 : decode cX8_readsCouple 4 = .ok (.ifCond .ne 5, 3) := by decide +kernel
theorem dX8_readsCouple_7 : decode cX8_readsCouple 7 = .ok (.iconst 0, 1) := by decide +kernel
theorem dX8_readsCouple_8 : decode cX8_readsCouple 8 = .ok (.ireturn, 1) := by decide +kernel
theorem dX8_readsCouple_9 : decode cX8_readsCouple 9 = .ok (.aload_n 0, 1) := by decide +kernel
theorem dX8_readsCouple_10 : decode cX8_readsCouple 10 = .ok (.getfield 44, 3) := by decide +kernel
theorem dX8_readsCouple_13 : decode cX8_readsCouple 13 = .ok (.aload_n 0, 1) := by decide +kernel
theorem dX8_readsCouple_14 : decode cX8_readsCouple 14 = .ok (.getfield 177, 3) := by decide +kernel
theorem dX8_readsCouple_17 : decode cX8_readsCouple 17 = .ok (.aload_n 0, 1) := by decide +kernel
theorem dX8_readsCouple_18 : decode cX8_readsCouple 18 = .ok (.getfield 170, 3) := by decide +kernel
theorem dX8_readsCouple_21 : decode cX8_readsCouple 21 = .ok (.iastore, 1) := by decide +kernel
theorem dX8_readsCouple_22 : decode cX8_readsCouple 22 = .ok (.aload_n 0, 1) := by decide +kernel
theorem dX8_readsCouple_23 : decode cX8_readsCouple 23 = .ok (.bipush 38, 2) := by decide +kernel
theorem dX8_readsCouple_25 : decode cX8_readsCouple 25 = .ok (.invokevirtual 180, 3) := by decide +kernel
theorem dX8_readsCouple_28 : decode cX8_readsCouple 28 = .ok (.ifCond .eq 14, 3) := by decide +kernel
theorem dX8_readsCouple_31 : decode cX8_readsCouple 31 = .ok (.aload_n 0, 1) := by decide +kernel
theorem dX8_readsCouple_32 : decode cX8_readsCouple 32 = .ok (.invokevirtual 173, 3) := by decide +kernel
theorem dX8_readsCouple_35 : decode cX8_readsCouple 35 = .ok (.ifCond .eq 7, 3) := by decide +kernel
theorem dX8_readsCouple_38 : decode cX8_readsCouple 38 = .ok (.iconst 1, 1) := by decide +kernel
theorem dX8_readsCouple_39 : decode cX8_readsCouple 39 = .ok (.goto 4, 3) := by decide +kernel
theorem dX8_readsCouple_42 : decode cX8_readsCouple 42 = .ok (.iconst 0, 1) := by decide +kernel
theorem dX8_readsCouple_43 : decode cX8_readsCouple 43 = .ok (.istore_n 1, 1) := by decide +kernel
theorem dX8_readsCouple_44 : decode cX8_readsCouple 44 = .ok (.aload_n 0, 1) := by decide +kernel
theorem dX8_readsCouple_45 : decode cX8_readsCouple 45 = .ok (.getfield 47, 3) := by decide +kernel
theorem dX8_readsCouple_48 : decode cX8_readsCouple 48 = .ok (.aload_n 0, 1) := by decide +kernel
theorem dX8_readsCouple_49 : decode cX8_readsCouple 49 = .ok (.getfield 177, 3) := by decide +kernel
theorem dX8_readsCouple_52 : decode cX8_readsCouple 52 = .ok (.aload_n 0, 1) := by decide +kernel
theorem dX8_readsCouple_53 : decode cX8_readsCouple 53 = .ok (.getfield 170, 3) := by decide +kernel
theorem dX8_readsCouple_56 : decode cX8_readsCouple 56 = .ok (.iastore, 1) := by decide +kernel
theorem dX8_readsCouple_57 : decode cX8_readsCouple 57 = .ok (.iload_n 1, 1) := by decide +kernel
theorem dX8_readsCouple_58 : decode cX8_readsCouple 58 = .ok (.ireturn, 1) := by decide +kernel
set_option maxRecDepth 20000 in
theorem ggX8_readsPart_X8_code : GoodIn wsX8_readsPart wsX8_code := goodIn_r _ [9, 1, 10, 11, 29, 30, 31, 32, 33, 34, 35, 36, 37, 38, 39, 40, 41, 42, 43, 44, 45, 46, 47, 48, 49] (by decide +kernel) (by decide +kernel)
set_option maxRecDepth 20000 in
theorem gX8_readsPart_X8_code : GoodIn wsX8_readsPart (wsV RX8 167 RX8 yX8_code wsX8_code) := goodIn_app (goodIn_of _ (by decide +kernel)) ggX8_readsPart_X8_code
set_option maxRecDepth 20000 in
theorem ggX8_readsPart_X8_in : GoodIn wsX8_readsPart wsX8_in := goodIn_r _ [14] (by decide +kernel) (by decide +kernel)
set_option maxRecDepth 20000 in
theorem gX8_readsPart_X8_in : GoodIn wsX8_readsPart (va_wsS RX8 54 yX8_in wsX8_in) := goodIn_app (goodIn_of _ (by decide +kernel)) ggX8_readsPart_X8_in
set_option maxRecDepth 20000 in
theorem ggX8_readsPart_X8_readsCouple : GoodIn wsX8_readsPart wsX8_readsCouple := goodIn_r _ [18, 2, 3, 19, 20, 21, 22, 23, 8, 24, 1, 5, 6, 7, 9, 10, 11, 12, 13, 14, 25, 26, 27, 28, 29, 30, 31, 32, 33, 34, 35, 36, 37, 38, 39, 40, 41, 42, 43, 44, 45, 46, 47, 48, 49] (by decide +kernel) (by decide +kernel)
set_option maxRecDepth 20000 in
theorem gX8_readsPart_X8_readsCouple : GoodIn wsX8_readsPart (wsV RX8 183 RX8 yX8_readsCouple wsX8_readsCouple) := goodIn_app (goodIn_of _ (by decide +kernel)) ggX8_readsPart_X8_readsCouple
theorem dX8_readsPart_0 : decode cX8_readsPart 0 = .ok (.aload_n 0, 1) := by decide +kernel
theorem dX8_readsPart_1 : decode cX8_readsPart 1 = .ok (.invokevirtual 167, 3) := by decide +kernel
theorem dX8_readsPart_4 : decode cX8_readsPart 4 = .ok (.istore_n 1, 1) := by decide +kernel
theorem dX8_readsPart_5 : decode cX8_readsPart 5 = .ok (.iload_n 1, 1) := by decide +kernel
theorem dX8_readsPart_6 : decode cX8_readsPart 6 = .ok (.bipush 48, 2) := by decide +kernel
theorem dX8_readsPart_8 : decode cX8_readsPart 8 = .ok (.bipush 51, 2) := by decide +kernel
theorem dX8_readsPart_10 : decode cX8_readsPart 10 = .ok (.invokestatic 54, 3) := by decide +kernel
theorem dX8_readsPart_13 : decode cX8_readsPart 13 = .ok (.ifCond .ne 15, 3) := by decide +kernel
theorem dX8_readsPart_16 : decode cX8_readsPart 16 = .ok (.iload_n 1, 1) := by decide +kernel
theorem dX8_readsPart_17 : decode cX8_readsPart 17 = .ok (.bipush 43, 2) := by decide +kernel
theorem dX8_readsPart_19 : decode cX8_readsPart 19 = .ok (.if_icmp .eq 9, 3) := by decide +kernel
theorem dX8_readsPart_22 : decode cX8_readsPart 22 = .ok (.iload_n 1, 1) := by decide +kernel
theorem dX8_readsPart_23 : decode cX8_readsPart 23 = .ok (.bipush 94, 2) := by decide +kernel
theorem dX8_readsPart_25 : decode cX8_readsPart 25 = .ok (.if_icmp .ne 7, 3) := by decide +kernel
theorem dX8_readsPart_28 : decode cX8_readsPart 28 = .ok (.iconst 1, 1) := by decide +kernel
theorem dX8_readsPart_29 : decode cX8_readsPart 29 = .ok (.goto 4, 3) := by decide +kernel
theorem dX8_readsPart_32 : decode cX8_readsPart 32 = .ok (.iconst 0, 1) := by decide +kernel
theorem dX8_readsPart_33 : decode cX8_readsPart 33 = .ok (.istore_n 2, 1) := by decide +kernel
theorem dX8_readsPart_34 : decode cX8_readsPart 34 = .ok (.aload_n 0, 1) := by decide +kernel
theorem dX8_readsPart_35 : decode cX8_readsPart 35 = .ok (.dup, 1) := by decide +kernel
theorem dX8_readsPart_36 : decode cX8_readsPart 36 = .ok (.getfield 164, 3) := by decide +kernel
theorem dX8_readsPart_39 : decode cX8_readsPart 39 = .ok (.iload_n 2, 1) := by decide +kernel
theorem dX8_readsPart_40 : decode cX8_readsPart 40 = .ok (.ifCond .eq 7, 3) := by decide +kernel
theorem dX8_readsPart_43 : decode cX8_readsPart 43 = .ok (.iconst 1, 1) := by decide +kernel
theorem dX8_readsPart_44 : decode cX8_readsPart 44 = .ok (.goto 4, 3) := by decide +kernel
theorem dX8_readsPart_47 : decode cX8_readsPart 47 = .ok (.iconst 0, 1) := by decide +kernel
theorem dX8_readsPart_48 : decode cX8_readsPart 48 = .ok (.iadd, 1) := by decide +kernel
theorem dX8_readsPart_49 : decode cX8_readsPart 49 = .ok (.putfield 164, 3) := by decide +kernel
theorem dX8_readsPart_52 : decode cX8_readsPart 52 = .ok (.iload_n 1, 1) := by decide +kernel
theorem dX8_readsPart_53 : decode cX8_readsPart 53 = .ok (.bipush 43, 2) := by decide +kernel
theorem dX8_readsPart_55 : decode cX8_readsPart 55 = .ok (.if_icmp .ne 11, 3) := by decide +kernel
theorem dX8_readsPart_58 : decode cX8_readsPart 58 = .ok (.aload_n 0, 1) := by decide +kernel
theorem dX8_readsPart_59 : decode cX8_readsPart 59 = .ok (.invokevirtual 183, 3) := by decide +kernel
theorem dX8_readsPart_62 : decode cX8_readsPart 62 = .ok (.istore_n 2, 1) := by decide +kernel
theorem dX8_readsPart_63 : decode cX8_readsPart 63 = .ok (.goto 63, 3) := by decide +kernel
theorem dX8_readsPart_66 : decode cX8_readsPart 66 = .ok (.iload_n 1, 1) := by decide +kernel
theorem dX8_readsPart_67 : decode cX8_readsPart 67 = .ok (.bipush 94, 2) := by decide +kernel
theorem dX8_readsPart_69 : decode cX8_readsPart 69 = .ok (.if_icmp .ne 57, 3) := by decide +kernel
theorem dX8_readsPart_72 : decode cX8_readsPart 72 = .ok (.aload_n 0, 1) := by decide +kernel
theorem dX8_readsPart_73 : decode cX8_readsPart 73 = .ok (.invokevirtual 167, 3) := by decide +kernel
theorem dX8_readsPart_76 : decode cX8_readsPart 76 = .ok (.bipush 48, 2) := by decide +kernel
theorem dX8_readsPart_78 : decode cX8_readsPart 78 = .ok (.bipush 57, 2) := by decide +kernel
theorem dX8_readsPart_80 : decode cX8_readsPart 80 = .ok (.invokestatic 54, 3) := by decide +kernel
theorem dX8_readsPart_83 : decode cX8_readsPart 83 = .ok (.istore_n 2, 1) := by decide +kernel
theorem dX8_readsPart_84 : decode cX8_readsPart 84 = .ok (.aload_n 0, 1) := by decide +kernel
theorem dX8_readsPart_85 : decode cX8_readsPart 85 = .ok (.getfield 44, 3) := by decide +kernel
theorem dX8_readsPart_88 : decode cX8_readsPart 88 = .ok (.aload_n 0, 1) := by decide +kernel
theorem dX8_readsPart_89 : decode cX8_readsPart 89 = .ok (.getfield 177, 3) := by decide +kernel
theorem dX8_readsPart_92 : decode cX8_readsPart 92 = .ok (.iload_n 2, 1) := by decide +kernel
theorem dX8_readsPart_93 : decode cX8_readsPart 93 = .ok (.ifCond .eq 13, 3) := by decide +kernel
theorem dX8_readsPart_96 : decode cX8_readsPart 96 = .ok (.aload_n 0, 1) := by decide +kernel
theorem dX8_readsPart_97 : decode cX8_readsPart 97 = .ok (.invokevirtual 167, 3) := by decide +kernel
theorem dX8_readsPart_100 : decode cX8_readsPart 100 = .ok (.bipush 48, 2) := by decide +kernel
theorem dX8_readsPart_102 : decode cX8_readsPart 102 = .ok (.isub, 1) := by decide +kernel
theorem dX8_readsPart_103 : decode cX8_readsPart 103 = .ok (.goto 4, 3) := by decide +kernel
theorem dX8_readsPart_106 : decode cX8_readsPart 106 = .ok (.iconst 0, 1) := by decide +kernel
theorem dX8_readsPart_107 : decode cX8_readsPart 107 = .ok (.iastore, 1) := by decide +kernel
theorem dX8_readsPart_108 : decode cX8_readsPart 108 = .ok (.aload_n 0, 1) := by decide +kernel
theorem dX8_readsPart_109 : decode cX8_readsPart 109 = .ok (.dup, 1) := by decide +kernel
theorem dX8_readsPart_110 : decode cX8_readsPart 110 = .ok (.getfield 164, 3) := by decide +kernel
theorem dX8_readsPart_113 : decode cX8_readsPart 113 = .ok (.iload_n 2, 1) := by decide +kernel
theorem dX8_readsPart_114 : decode cX8_readsPart 114 = .ok (.ifCond .eq 7, 3) := by decide +kernel
theorem dX8_readsPart_117 : decode cX8_readsPart 117 = .ok (.iconst 1, 1) := by decide +kernel
theorem dX8_readsPart_118 : decode cX8_readsPart 118 = .ok (.goto 4, 3) := by decide +kernel
theorem dX8_readsPart_121 : decode cX8_readsPart 121 = .ok (.iconst 0, 1) := by decide +kernel
theorem dX8_readsPart_122 : decode cX8_readsPart 122 = .ok (.iadd, 1) := by decide +kernel
theorem dX8_readsPart_123 : decode cX8_readsPart 123 = .ok (.putfield 164, 3) := by decide +kernel
theorem dX8_readsPart_126 : decode cX8_readsPart 126 = .ok (.iload_n 2, 1) := by decide +kernel
theorem dX8_readsPart_127 : decode cX8_readsPart 127 = .ok (.ifCond .eq 23, 3) := by decide +kernel
theorem dX8_readsPart_130 : decode cX8_readsPart 130 = .ok (.aload_n 0, 1) := by decide +kernel
theorem dX8_readsPart_131 : decode cX8_readsPart 131 = .ok (.getfield 41, 3) := by decide +kernel
theorem dX8_readsPart_134 : decode cX8_readsPart 134 = .ok (.aload_n 0, 1) := by decide +kernel
theorem dX8_readsPart_135 : decode cX8_readsPart 135 = .ok (.getfield 177, 3) := by decide +kernel
theorem dX8_readsPart_138 : decode cX8_readsPart 138 = .ok (.iload_n 1, 1) := by decide +kernel
theorem dX8_readsPart_139 : decode cX8_readsPart 139 = .ok (.iastore, 1) := by decide +kernel
theorem dX8_readsPart_140 : decode cX8_readsPart 140 = .ok (.aload_n 0, 1) := by decide +kernel
theorem dX8_readsPart_141 : decode cX8_readsPart 141 = .ok (.dup, 1) := by decide +kernel
theorem dX8_readsPart_142 : decode cX8_readsPart 142 = .ok (.getfield 177, 3) := by decide +kernel
theorem dX8_readsPart_145 : decode cX8_readsPart 145 = .ok (.iconst 1, 1) := by decide +kernel
theorem dX8_readsPart_146 : decode cX8_readsPart 146 = .ok (.iadd, 1) := by decide +kernel
theorem dX8_readsPart_147 : decode cX8_readsPart 147 = .ok (.putfield 177, 3) := by decide +kernel
theorem dX8_readsPart_150 : decode cX8_readsPart 150 = .ok (.iload_n 2, 1) := by decide +kernel
theorem dX8_readsPart_151 : decode cX8_readsPart 151 = .ok (.ireturn, 1) := by decide +kernel
set_option maxRecDepth 20000 in
theorem ggX8_isChronicle_X8_readsPart : GoodIn wsX8_isChronicle wsX8_readsPart := goodIn_r _ [8, 1, 9, 2, 10, 11, 12, 13, 7, 14, 3, 15, 16, 17, 18, 19, 20, 21, 22, 23, 24, 25, 26, 27, 28, 29, 30, 31, 32, 33, 34, 35, 36, 37, 38, 39, 40, 41, 42, 43, 44, 45, 46, 47, 48, 49, 50, 51, 52, 53] (by decide +kernel) (by decide +kernel)
set_option maxRecDepth 20000 in
theorem gX8_isChronicle_X8_readsPart : GoodIn wsX8_isChronicle (wsV RX8 186 RX8 yX8_readsPart wsX8_readsPart) := goodIn_app (goodIn_of _ (by decide +kernel)) ggX8_isChronicle_X8_readsPart
set_option maxRecDepth 20000 in
theorem ggX8_isChronicle_X8_takes : GoodIn wsX8_isChronicle wsX8_takes := goodIn_r _ [32, 1, 11, 12, 13, 7, 14, 3, 15, 33, 34, 35, 36, 37, 38, 39, 40, 41, 42, 43, 44, 45, 46, 47, 48, 49, 50, 51, 52, 53] (by decide +kernel) (by decide +kernel)
set_option maxRecDepth 20000 in
theorem gX8_isChronicle_X8_takes : GoodIn wsX8_isChronicle (wsV RX8 180 RX8 yX8_takes wsX8_takes) := goodIn_app (goodIn_of _ (by decide +kernel)) ggX8_isChronicle_X8_takes
theorem dX8_isChronicle_0 : decode cX8_isChronicle 0 = .ok (.aload_n 0, 1) := by decide +kernel
theorem dX8_isChronicle_1 : decode cX8_isChronicle 1 = .ok (.iconst 0, 1) := by decide +kernel
theorem dX8_isChronicle_2 : decode cX8_isChronicle 2 = .ok (.putfield 164, 3) := by decide +kernel
theorem dX8_isChronicle_5 : decode cX8_isChronicle 5 = .ok (.aload_n 0, 1) := by decide +kernel
theorem dX8_isChronicle_6 : decode cX8_isChronicle 6 = .ok (.iconst 0, 1) := by decide +kernel
theorem dX8_isChronicle_7 : decode cX8_isChronicle 7 = .ok (.putfield 177, 3) := by decide +kernel
theorem dX8_isChronicle_10 : decode cX8_isChronicle 10 = .ok (.aload_n 0, 1) := by decide +kernel
theorem dX8_isChronicle_11 : decode cX8_isChronicle 11 = .ok (.invokevirtual 186, 3) := by decide +kernel
theorem dX8_isChronicle_14 : decode cX8_isChronicle 14 = .ok (.istore_n 1, 1) := by decide +kernel
theorem dX8_isChronicle_15 : decode cX8_isChronicle 15 = .ok (.iload_n 1, 1) := by decide +kernel
theorem dX8_isChronicle_16 : decode cX8_isChronicle 16 = .ok (.ifCond .eq 20, 3) := by decide +kernel
theorem dX8_isChronicle_19 : decode cX8_isChronicle 19 = .ok (.aload_n 0, 1) := by decide +kernel
theorem dX8_isChronicle_20 : decode cX8_isChronicle 20 = .ok (.bipush 59, 2) := by decide +kernel
theorem dX8_isChronicle_22 : decode cX8_isChronicle 22 = .ok (.invokevirtual 180, 3) := by decide +kernel
theorem dX8_isChronicle_25 : decode cX8_isChronicle 25 = .ok (.ifCond .eq 11, 3) := by decide +kernel
theorem dX8_isChronicle_28 : decode cX8_isChronicle 28 = .ok (.aload_n 0, 1) := by decide +kernel
theorem dX8_isChronicle_29 : decode cX8_isChronicle 29 = .ok (.invokevirtual 186, 3) := by decide +kernel
theorem dX8_isChronicle_32 : decode cX8_isChronicle 32 = .ok (.istore_n 1, 1) := by decide +kernel
theorem dX8_isChronicle_33 : decode cX8_isChronicle 33 = .ok (.goto (-18), 3) := by decide +kernel
theorem dX8_isChronicle_36 : decode cX8_isChronicle 36 = .ok (.iload_n 1, 1) := by decide +kernel
theorem dX8_isChronicle_37 : decode cX8_isChronicle 37 = .ok (.ifCond .eq 18, 3) := by decide +kernel
theorem dX8_isChronicle_40 : decode cX8_isChronicle 40 = .ok (.aload_n 0, 1) := by decide +kernel
theorem dX8_isChronicle_41 : decode cX8_isChronicle 41 = .ok (.getfield 164, 3) := by decide +kernel
theorem dX8_isChronicle_44 : decode cX8_isChronicle 44 = .ok (.aload_n 0, 1) := by decide +kernel
theorem dX8_isChronicle_45 : decode cX8_isChronicle 45 = .ok (.getfield 161, 3) := by decide +kernel
theorem dX8_isChronicle_48 : decode cX8_isChronicle 48 = .ok (.if_icmp .ne 7, 3) := by decide +kernel
theorem dX8_isChronicle_51 : decode cX8_isChronicle 51 = .ok (.iconst 1, 1) := by decide +kernel
theorem dX8_isChronicle_52 : decode cX8_isChronicle 52 = .ok (.goto 4, 3) := by decide +kernel
theorem dX8_isChronicle_55 : decode cX8_isChronicle 55 = .ok (.iconst 0, 1) := by decide +kernel
theorem dX8_isChronicle_56 : decode cX8_isChronicle 56 = .ok (.ireturn, 1) := by decide +kernel
set_option maxRecDepth 20000 in
theorem ggX8_firstError_X8_isChronicle : GoodIn wsX8_firstError wsX8_isChronicle := goodIn_r _ [8, 3, 9, 2, 10, 11, 12, 7, 13, 14, 15, 16, 17, 18, 19, 20, 21, 22, 23, 24, 25, 26, 27, 28, 29, 30, 31, 32, 33, 34, 35, 36, 37, 38, 39, 40, 41, 42, 43, 44, 45, 46, 47, 48, 49, 50, 51, 52, 53, 54, 55, 56, 57, 58] (by decide +kernel) (by decide +kernel)
set_option maxRecDepth 20000 in
theorem gX8_firstError_X8_isChronicle : GoodIn wsX8_firstError (wsV RX8 189 RX8 yX8_isChronicle wsX8_isChronicle) := goodIn_app (goodIn_of _ (by decide +kernel)) ggX8_firstError_X8_isChronicle
theorem dX8_firstError_0 : decode cX8_firstError 0 = .ok (.aload_n 0, 1) := by decide +kernel
theorem dX8_firstError_1 : decode cX8_firstError 1 = .ok (.iconst 0, 1) := by decide +kernel
theorem dX8_firstError_2 : decode cX8_firstError 2 = .ok (.putfield 50, 3) := by decide +kernel
theorem dX8_firstError_5 : decode cX8_firstError 5 = .ok (.aload_n 0, 1) := by decide +kernel
theorem dX8_firstError_6 : decode cX8_firstError 6 = .ok (.invokevirtual 189, 3) := by decide +kernel
theorem dX8_firstError_9 : decode cX8_firstError 9 = .ok (.ifCond .eq 10, 3) := by decide +kernel
theorem dX8_firstError_12 : decode cX8_firstError 12 = .ok (.aload_n 0, 1) := by decide +kernel
theorem dX8_firstError_13 : decode cX8_firstError 13 = .ok (.getfield 161, 3) := by decide +kernel
theorem dX8_firstError_16 : decode cX8_firstError 16 = .ok (.goto 7, 3) := by decide +kernel
theorem dX8_firstError_19 : decode cX8_firstError 19 = .ok (.aload_n 0, 1) := by decide +kernel
theorem dX8_firstError_20 : decode cX8_firstError 20 = .ok (.getfield 164, 3) := by decide +kernel
theorem dX8_firstError_23 : decode cX8_firstError 23 = .ok (.ireturn, 1) := by decide +kernel
set_option maxRecDepth 20000 in
theorem ggX8_isDone_X8_isPerson : GoodIn wsX8_isDone wsX8_isPerson := goodIn_r _ [8, 9, 10, 11, 7, 12, 53, 54, 55, 56, 57, 58, 59, 60, 61, 62, 63, 64, 65, 66, 67, 68, 69, 70, 71, 72, 73] (by decide +kernel) (by decide +kernel)
set_option maxRecDepth 20000 in
theorem gX8_isDone_X8_isPerson : GoodIn wsX8_isDone (wsV RX8 98 RX8 yX8_isPerson wsX8_isPerson) := goodIn_app (goodIn_of _ (by decide +kernel)) ggX8_isDone_X8_isPerson
