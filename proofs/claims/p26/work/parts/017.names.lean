theorem dL_ancestors_113 : decode cL_ancestors 113 = .ok (.iinc 6 1, 3) := by decide +kernel
theorem dL_ancestors_116 : decode cL_ancestors 116 = .ok (.goto (-96), 3) := by decide +kernel
theorem dL_ancestors_119 : decode cL_ancestors 119 = .ok (.iinc 5 (-1), 3) := by decide +kernel
theorem dL_ancestors_122 : decode cL_ancestors 122 = .ok (.goto (-110), 3) := by decide +kernel
theorem dL_ancestors_125 : decode cL_ancestors 125 = .ok (.iload 4, 2) := by decide +kernel
theorem dL_ancestors_127 : decode cL_ancestors 127 = .ok (.iconst 1, 1) := by decide +kernel
theorem dL_ancestors_128 : decode cL_ancestors 128 = .ok (.iload_n 3, 1) := by decide +kernel
theorem dL_ancestors_129 : decode cL_ancestors 129 = .ok (.ishl, 1) := by decide +kernel
theorem dL_ancestors_130 : decode cL_ancestors 130 = .ok (.iconst (-1), 1) := by decide +kernel
theorem dL_ancestors_131 : decode cL_ancestors 131 = .ok (.ixor, 1) := by decide +kernel
theorem dL_ancestors_132 : decode cL_ancestors 132 = .ok (.iand, 1) := by decide +kernel
theorem dL_ancestors_133 : decode cL_ancestors 133 = .ok (.ireturn, 1) := by decide +kernel
theorem dL_ones_0 : decode cL_ones 0 = .ok (.iconst 0, 1) := by decide +kernel
theorem dL_ones_1 : decode cL_ones 1 = .ok (.istore_n 1, 1) := by decide +kernel
theorem dL_ones_2 : decode cL_ones 2 = .ok (.iload_n 0, 1) := by decide +kernel
theorem dL_ones_3 : decode cL_ones 3 = .ok (.istore_n 2, 1) := by decide +kernel
theorem dL_ones_4 : decode cL_ones 4 = .ok (.iload_n 2, 1) := by decide +kernel
theorem dL_ones_5 : decode cL_ones 5 = .ok (.ifCond .eq 15, 3) := by decide +kernel
theorem dL_ones_8 : decode cL_ones 8 = .ok (.iinc 1 1, 3) := by decide +kernel
theorem dL_ones_11 : decode cL_ones 11 = .ok (.iload_n 2, 1) := by decide +kernel
theorem dL_ones_12 : decode cL_ones 12 = .ok (.iload_n 2, 1) := by decide +kernel
theorem dL_ones_13 : decode cL_ones 13 = .ok (.iconst 1, 1) := by decide +kernel
theorem dL_ones_14 : decode cL_ones 14 = .ok (.isub, 1) := by decide +kernel
theorem dL_ones_15 : decode cL_ones 15 = .ok (.iand, 1) := by decide +kernel
theorem dL_ones_16 : decode cL_ones 16 = .ok (.istore_n 2, 1) := by decide +kernel
theorem dL_ones_17 : decode cL_ones 17 = .ok (.goto (-13), 3) := by decide +kernel
theorem dL_ones_20 : decode cL_ones 20 = .ok (.iload_n 1, 1) := by decide +kernel
theorem dL_ones_21 : decode cL_ones 21 = .ok (.ireturn, 1) := by decide +kernel
set_option maxRecDepth 20000 in
theorem ggL_lays_L_ones : GoodIn wsL_lays wsL_ones := goodIn_r _ [4] (by decide +kernel) (by decide +kernel)
set_option maxRecDepth 20000 in
theorem gL_lays_L_ones : GoodIn wsL_lays (va_wsS RL 23 yL_ones wsL_ones) := goodIn_app (goodIn_of _ (by decide +kernel)) ggL_lays_L_ones
theorem dL_lays_0 : decode cL_lays 0 = .ok (.aload_n 1, 1) := by decide +kernel
theorem dL_lays_1 : decode cL_lays 1 = .ok (.iconst 3, 1) := by decide +kernel
theorem dL_lays_2 : decode cL_lays 2 = .ok (.iload_n 2, 1) := by decide +kernel
theorem dL_lays_3 : decode cL_lays 3 = .ok (.iadd, 1) := by decide +kernel
theorem dL_lays_4 : decode cL_lays 4 = .ok (.iaload, 1) := by decide +kernel
theorem dL_lays_5 : decode cL_lays 5 = .ok (.istore 4, 2) := by decide +kernel
theorem dL_lays_7 : decode cL_lays 7 = .ok (.iconst 0, 1) := by decide +kernel
theorem dL_lays_8 : decode cL_lays 8 = .ok (.istore 5, 2) := by decide +kernel
theorem dL_lays_10 : decode cL_lays 10 = .ok (.iconst 0, 1) := by decide +kernel
theorem dL_lays_11 : decode cL_lays 11 = .ok (.istore 6, 2) := by decide +kernel
theorem dL_lays_13 : decode cL_lays 13 = .ok (.iload 6, 2) := by decide +kernel
theorem dL_lays_15 : decode cL_lays 15 = .ok (.iload 4, 2) := by decide +kernel
theorem dL_lays_17 : decode cL_lays 17 = .ok (.if_icmp .ge 25, 3) := by decide +kernel
theorem dL_lays_20 : decode cL_lays 20 = .ok (.iload 5, 2) := by decide +kernel
theorem dL_lays_22 : decode cL_lays 22 = .ok (.iconst 1, 1) := by decide +kernel
theorem dL_lays_23 : decode cL_lays 23 = .ok (.aload_n 0, 1) := by decide +kernel
theorem dL_lays_24 : decode cL_lays 24 = .ok (.bipush 6, 2) := by decide +kernel
theorem dL_lays_26 : decode cL_lays 26 = .ok (.iload_n 2, 1) := by decide +kernel
theorem dL_lays_27 : decode cL_lays 27 = .ok (.imul, 1) := by decide +kernel
theorem dL_lays_28 : decode cL_lays 28 = .ok (.iload 6, 2) := by decide +kernel
theorem dL_lays_30 : decode cL_lays 30 = .ok (.iadd, 1) := by decide +kernel
theorem dL_lays_31 : decode cL_lays 31 = .ok (.iaload, 1) := by decide +kernel
theorem dL_lays_32 : decode cL_lays 32 = .ok (.ishl, 1) := by decide +kernel
theorem dL_lays_33 : decode cL_lays 33 = .ok (.ior, 1) := by decide +kernel
theorem dL_lays_34 : decode cL_lays 34 = .ok (.istore 5, 2) := by decide +kernel
theorem dL_lays_36 : decode cL_lays 36 = .ok (.iinc 6 1, 3) := by decide +kernel
theorem dL_lays_39 : decode cL_lays 39 = .ok (.goto (-26), 3) := by decide +kernel
theorem dL_lays_42 : decode cL_lays 42 = .ok (.iload_n 3, 1) := by decide +kernel
theorem dL_lays_43 : decode cL_lays 43 = .ok (.istore 6, 2) := by decide +kernel
theorem dL_lays_45 : decode cL_lays 45 = .ok (.iconst 0, 1) := by decide +kernel
theorem dL_lays_46 : decode cL_lays 46 = .ok (.istore 7, 2) := by decide +kernel
theorem dL_lays_48 : decode cL_lays 48 = .ok (.iload 7, 2) := by decide +kernel
theorem dL_lays_50 : decode cL_lays 50 = .ok (.iload 4, 2) := by decide +kernel
theorem dL_lays_52 : decode cL_lays 52 = .ok (.if_icmp .ge 129, 3) := by decide +kernel
theorem dL_lays_55 : decode cL_lays 55 = .ok (.iconst 1, 1) := by decide +kernel
theorem dL_lays_56 : decode cL_lays 56 = .ok (.istore 8, 2) := by decide +kernel
theorem dL_lays_58 : decode cL_lays 58 = .ok (.iconst 2, 1) := by decide +kernel
theorem dL_lays_59 : decode cL_lays 59 = .ok (.istore 9, 2) := by decide +kernel
theorem dL_lays_61 : decode cL_lays 61 = .ok (.iload 9, 2) := by decide +kernel
theorem dL_lays_63 : decode cL_lays 63 = .ok (.iload 4, 2) := by decide +kernel
theorem dL_lays_65 : decode cL_lays 65 = .ok (.iload 7, 2) := by decide +kernel
theorem dL_lays_67 : decode cL_lays 67 = .ok (.isub, 1) := by decide +kernel
theorem dL_lays_68 : decode cL_lays 68 = .ok (.if_icmp .ge 16, 3) := by decide +kernel
theorem dL_lays_71 : decode cL_lays 71 = .ok (.iload 8, 2) := by decide +kernel
theorem dL_lays_73 : decode cL_lays 73 = .ok (.iload 9, 2) := by decide +kernel
theorem dL_lays_75 : decode cL_lays 75 = .ok (.imul, 1) := by decide +kernel
theorem dL_lays_76 : decode cL_lays 76 = .ok (.istore 8, 2) := by decide +kernel
theorem dL_lays_78 : decode cL_lays 78 = .ok (.iinc 9 1, 3) := by decide +kernel
theorem dL_lays_81 : decode cL_lays 81 = .ok (.goto (-20), 3) := by decide +kernel
theorem dL_lays_84 : decode cL_lays 84 = .ok (.iload 6, 2) := by decide +kernel
theorem dL_lays_86 : decode cL_lays 86 = .ok (.iload 8, 2) := by decide +kernel
theorem dL_lays_88 : decode cL_lays 88 = .ok (.idiv, 1) := by decide +kernel
theorem dL_lays_89 : decode cL_lays 89 = .ok (.istore 9, 2) := by decide +kernel
theorem dL_lays_91 : decode cL_lays 91 = .ok (.iload 6, 2) := by decide +kernel
theorem dL_lays_93 : decode cL_lays 93 = .ok (.iload 8, 2) := by decide +kernel
theorem dL_lays_95 : decode cL_lays 95 = .ok (.irem, 1) := by decide +kernel
theorem dL_lays_96 : decode cL_lays 96 = .ok (.istore 6, 2) := by decide +kernel
theorem dL_lays_98 : decode cL_lays 98 = .ok (.iconst 0, 1) := by decide +kernel
theorem dL_lays_99 : decode cL_lays 99 = .ok (.istore 10, 2) := by decide +kernel
theorem dL_lays_101 : decode cL_lays 101 = .ok (.bipush 19, 2) := by decide +kernel
theorem dL_lays_103 : decode cL_lays 103 = .ok (.istore 11, 2) := by decide +kernel
theorem dL_lays_105 : decode cL_lays 105 = .ok (.iload 11, 2) := by decide +kernel
theorem dL_lays_107 : decode cL_lays 107 = .ok (.ifCond .lt 46, 3) := by decide +kernel
theorem dL_lays_110 : decode cL_lays 110 = .ok (.iload 5, 2) := by decide +kernel
theorem dL_lays_112 : decode cL_lays 112 = .ok (.iload 11, 2) := by decide +kernel
theorem dL_lays_114 : decode cL_lays 114 = .ok (.ishr, 1) := by decide +kernel
theorem dL_lays_115 : decode cL_lays 115 = .ok (.iconst 1, 1) := by decide +kernel
theorem dL_lays_116 : decode cL_lays 116 = .ok (.iand, 1) := by decide +kernel
theorem dL_lays_117 : decode cL_lays 117 = .ok (.iconst 1, 1) := by decide +kernel
theorem dL_lays_118 : decode cL_lays 118 = .ok (.if_icmp .ne 25, 3) := by decide +kernel
theorem dL_lays_121 : decode cL_lays 121 = .ok (.iload 5, 2) := by decide +kernel
theorem dL_lays_123 : decode cL_lays 123 = .ok (.iconst 1, 1) := by decide +kernel
theorem dL_lays_124 : decode cL_lays 124 = .ok (.iload 11, 2) := by decide +kernel
theorem dL_lays_126 : decode cL_lays 126 = .ok (.ishl, 1) := by decide +kernel
theorem dL_lays_127 : decode cL_lays 127 = .ok (.iconst 1, 1) := by decide +kernel
theorem dL_lays_128 : decode cL_lays 128 = .ok (.isub, 1) := by decide +kernel
theorem dL_lays_129 : decode cL_lays 129 = .ok (.iand, 1) := by decide +kernel
theorem dL_lays_130 : decode cL_lays 130 = .ok (.invokestatic 23, 3) := by decide +kernel
theorem dL_lays_133 : decode cL_lays 133 = .ok (.iload 9, 2) := by decide +kernel
theorem dL_lays_135 : decode cL_lays 135 = .ok (.if_icmp .ne 8, 3) := by decide +kernel
theorem dL_lays_138 : decode cL_lays 138 = .ok (.iload 11, 2) := by decide +kernel
theorem dL_lays_140 : decode cL_lays 140 = .ok (.goto 5, 3) := by decide +kernel
theorem dL_lays_143 : decode cL_lays 143 = .ok (.iload 10, 2) := by decide +kernel
theorem dL_lays_145 : decode cL_lays 145 = .ok (.istore 10, 2) := by decide +kernel
theorem dL_lays_147 : decode cL_lays 147 = .ok (.iinc 11 (-1), 3) := by decide +kernel
theorem dL_lays_150 : decode cL_lays 150 = .ok (.goto (-45), 3) := by decide +kernel
theorem dL_lays_153 : decode cL_lays 153 = .ok (.aload_n 0, 1) := by decide +kernel
theorem dL_lays_154 : decode cL_lays 154 = .ok (.bipush 6, 2) := by decide +kernel
theorem dL_lays_156 : decode cL_lays 156 = .ok (.iload_n 2, 1) := by decide +kernel
theorem dL_lays_157 : decode cL_lays 157 = .ok (.imul, 1) := by decide +kernel
theorem dL_lays_158 : decode cL_lays 158 = .ok (.iload 7, 2) := by decide +kernel
theorem dL_lays_160 : decode cL_lays 160 = .ok (.iadd, 1) := by decide +kernel
theorem dL_lays_161 : decode cL_lays 161 = .ok (.iload 10, 2) := by decide +kernel
theorem dL_lays_163 : decode cL_lays 163 = .ok (.iastore, 1) := by decide +kernel
theorem dL_lays_164 : decode cL_lays 164 = .ok (.iload 5, 2) := by decide +kernel
theorem dL_lays_166 : decode cL_lays 166 = .ok (.iconst 1, 1) := by decide +kernel
theorem dL_lays_167 : decode cL_lays 167 = .ok (.iload 10, 2) := by decide +kernel
theorem dL_lays_169 : decode cL_lays 169 = .ok (.ishl, 1) := by decide +kernel
theorem dL_lays_170 : decode cL_lays 170 = .ok (.iconst (-1), 1) := by decide +kernel
theorem dL_lays_171 : decode cL_lays 171 = .ok (.ixor, 1) := by decide +kernel
theorem dL_lays_172 : decode cL_lays 172 = .ok (.iand, 1) := by decide +kernel
theorem dL_lays_173 : decode cL_lays 173 = .ok (.istore 5, 2) := by decide +kernel
theorem dL_lays_175 : decode cL_lays 175 = .ok (.iinc 7 1, 3) := by decide +kernel
theorem dL_lays_178 : decode cL_lays 178 = .ok (.goto (-130), 3) := by decide +kernel
theorem dL_lays_181 : decode cL_lays 181 = .ok (.return_, 1) := by decide +kernel
theorem dL_copy_0 : decode cL_copy 0 = .ok (.iconst 0, 1) := by decide +kernel
theorem dL_copy_1 : decode cL_copy 1 = .ok (.istore_n 2, 1) := by decide +kernel
theorem dL_copy_2 : decode cL_copy 2 = .ok (.iload_n 2, 1) := by decide +kernel
theorem dL_copy_3 : decode cL_copy 3 = .ok (.aload_n 0, 1) := by decide +kernel
theorem dL_copy_4 : decode cL_copy 4 = .ok (.arraylength, 1) := by decide +kernel
theorem dL_copy_5 : decode cL_copy 5 = .ok (.if_icmp .ge 15, 3) := by decide +kernel
theorem dL_copy_8 : decode cL_copy 8 = .ok (.aload_n 1, 1) := by decide +kernel
theorem dL_copy_9 : decode cL_copy 9 = .ok (.iload_n 2, 1) := by decide +kernel
theorem dL_copy_10 : decode cL_copy 10 = .ok (.aload_n 0, 1) := by decide +kernel
theorem dL_copy_11 : decode cL_copy 11 = .ok (.iload_n 2, 1) := by decide +kernel
theorem dL_copy_12 : decode cL_copy 12 = .ok (.iaload, 1) := by decide +kernel
theorem dL_copy_13 : decode cL_copy 13 = .ok (.iastore, 1) := by decide +kernel
theorem dL_copy_14 : decode cL_copy 14 = .ok (.iinc 2 1, 3) := by decide +kernel
theorem dL_copy_17 : decode cL_copy 17 = .ok (.goto (-15), 3) := by decide +kernel
theorem dL_copy_20 : decode cL_copy 20 = .ok (.return_, 1) := by decide +kernel
set_option maxRecDepth 20000 in
theorem ggL_best_L_copy : GoodIn wsL_best wsL_copy := goodIn_r _ [5] (by decide +kernel) (by decide +kernel)
set_option maxRecDepth 20000 in
theorem gL_best_L_copy : GoodIn wsL_best (va_wsS RL 27 yL_copy wsL_copy) := goodIn_app (goodIn_of _ (by decide +kernel)) ggL_best_L_copy
set_option maxRecDepth 20000 in
theorem ggL_best_L_lays : GoodIn wsL_best wsL_lays := goodIn_r _ [8, 9, 10, 4, 11] (by decide +kernel) (by decide +kernel)
set_option maxRecDepth 20000 in
theorem gL_best_L_lays : GoodIn wsL_best (va_wsS RL 31 yL_lays wsL_lays) := goodIn_app (goodIn_of _ (by decide +kernel)) ggL_best_L_lays
set_option maxRecDepth 20000 in
theorem ggL_best_L_ofTwo : GoodIn wsL_best wsL_ofTwo := goodIn_r _ [14, 15, 16, 4, 17, 18, 19, 20, 21, 22, 23] (by decide +kernel) (by decide +kernel)
set_option maxRecDepth 20000 in
theorem gL_best_L_ofTwo : GoodIn wsL_best (va_wsS RL 35 yL_ofTwo wsL_ofTwo) := goodIn_app (goodIn_of _ (by decide +kernel)) ggL_best_L_ofTwo
theorem dL_best_0 : decode cL_best 0 = .ok (.iconst 1, 1) := by decide +kernel
theorem dL_best_1 : decode cL_best 1 = .ok (.istore 5, 2) := by decide +kernel
theorem dL_best_3 : decode cL_best 3 = .ok (.iconst 2, 1) := by decide +kernel
theorem dL_best_4 : decode cL_best 4 = .ok (.istore 6, 2) := by decide +kernel
theorem dL_best_6 : decode cL_best 6 = .ok (.iload 6, 2) := by decide +kernel
theorem dL_best_8 : decode cL_best 8 = .ok (.aload_n 3, 1) := by decide +kernel
theorem dL_best_9 : decode cL_best 9 = .ok (.iconst 3, 1) := by decide +kernel
theorem dL_best_10 : decode cL_best 10 = .ok (.iload 4, 2) := by decide +kernel
theorem dL_best_12 : decode cL_best 12 = .ok (.iadd, 1) := by decide +kernel
theorem dL_best_13 : decode cL_best 13 = .ok (.iaload, 1) := by decide +kernel
theorem dL_best_14 : decode cL_best 14 = .ok (.if_icmp .gt 16, 3) := by decide +kernel
theorem dL_best_17 : decode cL_best 17 = .ok (.iload 5, 2) := by decide +kernel
theorem dL_best_19 : decode cL_best 19 = .ok (.iload 6, 2) := by decide +kernel
theorem dL_best_21 : decode cL_best 21 = .ok (.imul, 1) := by decide +kernel
theorem dL_best_22 : decode cL_best 22 = .ok (.istore 5, 2) := by decide +kernel
theorem dL_best_24 : decode cL_best 24 = .ok (.iinc 6 1, 3) := by decide +kernel
theorem dL_best_27 : decode cL_best 27 = .ok (.goto (-21), 3) := by decide +kernel
theorem dL_best_30 : decode cL_best 30 = .ok (.bipush 24, 2) := by decide +kernel
theorem dL_best_32 : decode cL_best 32 = .ok (.newarray .int, 2) := by decide +kernel
theorem dL_best_34 : decode cL_best 34 = .ok (.astore 6, 2) := by decide +kernel
theorem dL_best_36 : decode cL_best 36 = .ok (.aload_n 2, 1) := by decide +kernel
theorem dL_best_37 : decode cL_best 37 = .ok (.aload 6, 2) := by decide +kernel
theorem dL_best_39 : decode cL_best 39 = .ok (.invokestatic 27, 3) := by decide +kernel
theorem dL_best_42 : decode cL_best 42 = .ok (.iconst 0, 1) := by decide +kernel
theorem dL_best_43 : decode cL_best 43 = .ok (.istore 7, 2) := by decide +kernel
theorem dL_best_45 : decode cL_best 45 = .ok (.sipush 999, 3) := by decide +kernel
theorem dL_best_48 : decode cL_best 48 = .ok (.istore 8, 2) := by decide +kernel
theorem dL_best_50 : decode cL_best 50 = .ok (.iconst 0, 1) := by decide +kernel
theorem dL_best_51 : decode cL_best 51 = .ok (.istore 9, 2) := by decide +kernel
theorem dL_best_53 : decode cL_best 53 = .ok (.iload 9, 2) := by decide +kernel
theorem dL_best_55 : decode cL_best 55 = .ok (.iload 5, 2) := by decide +kernel
theorem dL_best_57 : decode cL_best 57 = .ok (.if_icmp .ge 63, 3) := by decide +kernel
theorem dL_best_60 : decode cL_best 60 = .ok (.aload 6, 2) := by decide +kernel
theorem dL_best_62 : decode cL_best 62 = .ok (.aload_n 3, 1) := by decide +kernel
theorem dL_best_63 : decode cL_best 63 = .ok (.iload 4, 2) := by decide +kernel
theorem dL_best_65 : decode cL_best 65 = .ok (.iload 9, 2) := by decide +kernel
theorem dL_best_67 : decode cL_best 67 = .ok (.invokestatic 31, 3) := by decide +kernel
theorem dL_best_70 : decode cL_best 70 = .ok (.aload_n 0, 1) := by decide +kernel
theorem dL_best_71 : decode cL_best 71 = .ok (.aload_n 1, 1) := by decide +kernel
theorem dL_best_72 : decode cL_best 72 = .ok (.aload 6, 2) := by decide +kernel
theorem dL_best_74 : decode cL_best 74 = .ok (.aload_n 3, 1) := by decide +kernel
theorem dL_best_75 : decode cL_best 75 = .ok (.iload 4, 2) := by decide +kernel
theorem dL_best_77 : decode cL_best 77 = .ok (.invokestatic 35, 3) := by decide +kernel
theorem dL_best_80 : decode cL_best 80 = .ok (.istore 10, 2) := by decide +kernel
theorem dL_best_82 : decode cL_best 82 = .ok (.iload 10, 2) := by decide +kernel
theorem dL_best_84 : decode cL_best 84 = .ok (.iload 8, 2) := by decide +kernel
theorem dL_best_86 : decode cL_best 86 = .ok (.if_icmp .ge 8, 3) := by decide +kernel
theorem dL_best_89 : decode cL_best 89 = .ok (.iload 9, 2) := by decide +kernel
theorem dL_best_91 : decode cL_best 91 = .ok (.goto 5, 3) := by decide +kernel
theorem dL_best_94 : decode cL_best 94 = .ok (.iload 7, 2) := by decide +kernel
theorem dL_best_96 : decode cL_best 96 = .ok (.istore 7, 2) := by decide +kernel
theorem dL_best_98 : decode cL_best 98 = .ok (.iload 10, 2) := by decide +kernel
theorem dL_best_100 : decode cL_best 100 = .ok (.iload 8, 2) := by decide +kernel
theorem dL_best_102 : decode cL_best 102 = .ok (.if_icmp .ge 8, 3) := by decide +kernel
theorem dL_best_105 : decode cL_best 105 = .ok (.iload 10, 2) := by decide +kernel
theorem dL_best_107 : decode cL_best 107 = .ok (.goto 5, 3) := by decide +kernel
theorem dL_best_110 : decode cL_best 110 = .ok (.iload 8, 2) := by decide +kernel
theorem dL_best_112 : decode cL_best 112 = .ok (.istore 8, 2) := by decide +kernel
theorem dL_best_114 : decode cL_best 114 = .ok (.iinc 9 1, 3) := by decide +kernel
theorem dL_best_117 : decode cL_best 117 = .ok (.goto (-64), 3) := by decide +kernel
theorem dL_best_120 : decode cL_best 120 = .ok (.iload 7, 2) := by decide +kernel
theorem dL_best_122 : decode cL_best 122 = .ok (.ireturn, 1) := by decide +kernel
set_option maxRecDepth 20000 in
theorem ggL_arePeople_X7_count : GoodIn wsL_arePeople wsX7_count := goodIn_ca (goodIn_r _ [5, 6, 7, 8, 9, 10, 11, 12, 13, 14, 15, 16, 17, 18, 19, 20, 21, 22, 23, 24, 25, 26, 27, 28, 29, 30, 31, 32, 4, 33, 34, 35, 36, 37, 38, 39, 40, 41, 42, 43, 44, 45, 46, 47, 48, 49, 50, 51, 52, 53, 54, 55, 56, 57, 58, 59, 60, 61, 62, 63, 64, 65, 66, 67, 68, 69, 70, 71, 72, 73, 74, 75, 76, 77, 78, 79, 80, 81, 82, 83, 84, 85, 86, 87, 88, 89, 90, 91, 92, 93, 94, 95, 96, 97, 98, 99, 100, 101, 102, 103, 104, 105, 106, 107, 108, 109, 110, 111, 112, 113, 114, 115, 116, 117, 118, 119, 120, 121, 122, 123, 124, 125, 126, 127, 128, 129, 130, 131, 132, 133, 134, 135, 187, 188, 189, 190, 191, 192, 193, 194, 195, 196, 197, 198, 199, 200, 201, 202, 203, 204, 205, 206, 207, 208, 209, 210] (by decide +kernel) (by decide +kernel)) (goodIn_sub (fun _ h => List.mem_cons_of_mem _ (List.mem_append_left _ (List.mem_append_right _ h))) (by decide +kernel))
set_option maxRecDepth 20000 in
theorem gL_arePeople_X7_count : GoodIn wsL_arePeople (wsV RL 38 RX7 yX7_count wsX7_count) := goodIn_app (goodIn_of _ (by decide +kernel)) ggL_arePeople_X7_count
set_option maxRecDepth 20000 in
theorem ggL_arePeople_L_ancestors : GoodIn wsL_arePeople wsL_ancestors := goodIn_r _ [139] (by decide +kernel) (by decide +kernel)
set_option maxRecDepth 20000 in
theorem gL_arePeople_L_ancestors : GoodIn wsL_arePeople (va_wsS RL 43 yL_ancestors wsL_ancestors) := goodIn_app (goodIn_of _ (by decide +kernel)) ggL_arePeople_L_ancestors
set_option maxRecDepth 20000 in
theorem ggL_arePeople_X7_personOf : GoodIn wsL_arePeople wsX7_personOf := goodIn_ca (goodIn_ca (goodIn_r _ [143, 144, 145, 6, 7, 8, 146, 63, 64, 13, 65, 15, 147, 148, 149, 150, 151, 62, 152, 77, 78, 79, 80, 153, 59, 60, 61, 29, 154, 99, 100, 101, 20, 70, 71, 155, 156, 157, 158, 25, 26, 27, 28, 159, 160, 104, 161, 162, 11, 12, 14, 117, 118, 119, 120, 110, 111, 112, 113, 72, 73, 74, 75, 121, 122, 123, 124, 163, 164, 165, 166, 167, 168, 169, 170, 115, 116, 187, 188, 189, 190, 191, 192, 193, 194, 195, 196, 197, 198, 199, 200, 201, 202, 203, 204] (by decide +kernel) (by decide +kernel)) (goodIn_sub (fun _ h => List.mem_cons_of_mem _ (List.mem_append_right _ h)) (by decide +kernel))) (goodIn_sub (fun _ h => List.mem_cons_of_mem _ (List.mem_append_left _ (List.mem_append_right _ h))) (by decide +kernel))
set_option maxRecDepth 20000 in
theorem gL_arePeople_X7_personOf : GoodIn wsL_arePeople (wsV RL 46 RX7 yX7_personOf wsX7_personOf) := goodIn_app (goodIn_of _ (by decide +kernel)) ggL_arePeople_X7_personOf
set_option maxRecDepth 20000 in
theorem ggL_arePeople_L_place : GoodIn wsL_arePeople wsL_place := goodIn_r _ [173] (by decide +kernel) (by decide +kernel)
set_option maxRecDepth 20000 in
theorem gL_arePeople_L_place : GoodIn wsL_arePeople (va_wsS RL 9 yL_place wsL_place) := goodIn_app (goodIn_of _ (by decide +kernel)) ggL_arePeople_L_place
set_option maxRecDepth 20000 in
theorem ggL_arePeople_L_couples : GoodIn wsL_arePeople wsL_couples := goodIn_r _ [176] (by decide +kernel) (by decide +kernel)
set_option maxRecDepth 20000 in
theorem gL_arePeople_L_couples : GoodIn wsL_arePeople (va_wsS RL 50 yL_couples wsL_couples) := goodIn_app (goodIn_of _ (by decide +kernel)) ggL_arePeople_L_couples
set_option maxRecDepth 20000 in
theorem ggL_arePeople_L_ones : GoodIn wsL_arePeople wsL_ones := goodIn_r _ [179] (by decide +kernel) (by decide +kernel)
set_option maxRecDepth 20000 in
theorem gL_arePeople_L_ones : GoodIn wsL_arePeople (va_wsS RL 23 yL_ones wsL_ones) := goodIn_app (goodIn_of _ (by decide +kernel)) ggL_arePeople_L_ones
set_option maxRecDepth 20000 in
theorem ggL_arePeople_L_middle : GoodIn wsL_arePeople wsL_middle := goodIn_r _ [182, 171, 172, 138, 173] (by decide +kernel) (by decide +kernel)
set_option maxRecDepth 20000 in
theorem gL_arePeople_L_middle : GoodIn wsL_arePeople (va_wsS RL 15 yL_middle wsL_middle) := goodIn_app (goodIn_of _ (by decide +kernel)) ggL_arePeople_L_middle
set_option maxRecDepth 20000 in
theorem ggL_arePeople_X7_straightShare : GoodIn wsL_arePeople wsX7_straightShare := goodIn_r _ [186, 8, 21, 22, 23, 13, 24, 15, 25, 26, 27, 28, 29, 85, 86, 87, 88, 80, 89, 55, 56, 57, 58, 59, 60, 61, 62, 63, 64, 65, 66, 67, 68, 69, 70, 71, 72, 73, 74, 75, 20, 76, 77, 78, 79, 187, 188, 189, 190, 191, 192, 193, 194, 195, 196, 197, 198, 199, 200, 201, 202, 203, 204] (by decide +kernel) (by decide +kernel)
set_option maxRecDepth 20000 in
theorem gL_arePeople_X7_straightShare : GoodIn wsL_arePeople (wsV RL 53 RX7 yX7_straightShare wsX7_straightShare) := goodIn_app (goodIn_of _ (by decide +kernel)) ggL_arePeople_X7_straightShare
theorem dL_arePeople_0 : decode cL_arePeople 0 = .ok (.iconst 0, 1) := by decide +kernel
theorem dL_arePeople_1 : decode cL_arePeople 1 = .ok (.istore 5, 2) := by decide +kernel
theorem dL_arePeople_3 : decode cL_arePeople 3 = .ok (.iconst 0, 1) := by decide +kernel
theorem dL_arePeople_4 : decode cL_arePeople 4 = .ok (.istore 6, 2) := by decide +kernel
theorem dL_arePeople_6 : decode cL_arePeople 6 = .ok (.iconst 0, 1) := by decide +kernel
theorem dL_arePeople_7 : decode cL_arePeople 7 = .ok (.istore 7, 2) := by decide +kernel
theorem dL_arePeople_9 : decode cL_arePeople 9 = .ok (.aload_n 0, 1) := by decide +kernel
theorem dL_arePeople_10 : decode cL_arePeople 10 = .ok (.iconst 0, 1) := by decide +kernel
theorem dL_arePeople_11 : decode cL_arePeople 11 = .ok (.invokevirtual 38, 3) := by decide +kernel
theorem dL_arePeople_14 : decode cL_arePeople 14 = .ok (.aload 4, 2) := by decide +kernel
theorem dL_arePeople_16 : decode cL_arePeople 16 = .ok (.iconst 0, 1) := by decide +kernel
theorem dL_arePeople_17 : decode cL_arePeople 17 = .ok (.iaload, 1) := by decide +kernel
theorem dL_arePeople_18 : decode cL_arePeople 18 = .ok (.if_icmp .ne 7, 3) := by decide +kernel
theorem dL_arePeople_21 : decode cL_arePeople 21 = .ok (.iconst 1, 1) := by decide +kernel
theorem dL_arePeople_22 : decode cL_arePeople 22 = .ok (.goto 4, 3) := by decide +kernel
theorem dL_arePeople_25 : decode cL_arePeople 25 = .ok (.iconst 0, 1) := by decide +kernel
theorem dL_arePeople_26 : decode cL_arePeople 26 = .ok (.istore 8, 2) := by decide +kernel
theorem dL_arePeople_28 : decode cL_arePeople 28 = .ok (.iconst 0, 1) := by decide +kernel
theorem dL_arePeople_29 : decode cL_arePeople 29 = .ok (.istore 9, 2) := by decide +kernel
theorem dL_arePeople_31 : decode cL_arePeople 31 = .ok (.iload 9, 2) := by decide +kernel
theorem dL_arePeople_33 : decode cL_arePeople 33 = .ok (.aload 4, 2) := by decide +kernel
theorem dL_arePeople_35 : decode cL_arePeople 35 = .ok (.iconst 0, 1) := by decide +kernel
theorem dL_arePeople_36 : decode cL_arePeople 36 = .ok (.iaload, 1) := by decide +kernel
theorem dL_arePeople_37 : decode cL_arePeople 37 = .ok (.if_icmp .ge 313, 3) := by decide +kernel
theorem dL_arePeople_40 : decode cL_arePeople 40 = .ok (.iload 8, 2) := by decide +kernel
theorem dL_arePeople_42 : decode cL_arePeople 42 = .ok (.ifCond .eq 308, 3) := by decide +kernel
theorem dL_arePeople_45 : decode cL_arePeople 45 = .ok (.iconst 0, 1) := by decide +kernel
theorem dL_arePeople_46 : decode cL_arePeople 46 = .ok (.istore 10, 2) := by decide +kernel
theorem dL_arePeople_48 : decode cL_arePeople 48 = .ok (.iconst 0, 1) := by decide +kernel
theorem dL_arePeople_49 : decode cL_arePeople 49 = .ok (.istore 11, 2) := by decide +kernel
theorem dL_arePeople_51 : decode cL_arePeople 51 = .ok (.aload_n 1, 1) := by decide +kernel
theorem dL_arePeople_52 : decode cL_arePeople 52 = .ok (.iconst 2, 1) := by decide +kernel
theorem dL_arePeople_53 : decode cL_arePeople 53 = .ok (.iload 9, 2) := by decide +kernel
theorem dL_arePeople_55 : decode cL_arePeople 55 = .ok (.imul, 1) := by decide +kernel
theorem dL_arePeople_56 : decode cL_arePeople 56 = .ok (.iconst 1, 1) := by decide +kernel
theorem dL_arePeople_57 : decode cL_arePeople 57 = .ok (.iadd, 1) := by decide +kernel
theorem dL_arePeople_58 : decode cL_arePeople 58 = .ok (.iaload, 1) := by decide +kernel
theorem dL_arePeople_59 : decode cL_arePeople 59 = .ok (.istore 12, 2) := by decide +kernel
theorem dL_arePeople_61 : decode cL_arePeople 61 = .ok (.iconst 0, 1) := by decide +kernel
theorem dL_arePeople_62 : decode cL_arePeople 62 = .ok (.istore 13, 2) := by decide +kernel
theorem dL_arePeople_64 : decode cL_arePeople 64 = .ok (.iload 13, 2) := by decide +kernel
theorem dL_arePeople_66 : decode cL_arePeople 66 = .ok (.aload 4, 2) := by decide +kernel
theorem dL_arePeople_68 : decode cL_arePeople 68 = .ok (.iconst 0, 1) := by decide +kernel
theorem dL_arePeople_69 : decode cL_arePeople 69 = .ok (.iaload, 1) := by decide +kernel
theorem dL_arePeople_70 : decode cL_arePeople 70 = .ok (.if_icmp .ge 85, 3) := by decide +kernel
theorem dL_arePeople_73 : decode cL_arePeople 73 = .ok (.iload 10, 2) := by decide +kernel
theorem dL_arePeople_75 : decode cL_arePeople 75 = .ok (.aload_n 1, 1) := by decide +kernel
theorem dL_arePeople_76 : decode cL_arePeople 76 = .ok (.aload_n 2, 1) := by decide +kernel
theorem dL_arePeople_77 : decode cL_arePeople 77 = .ok (.aload 4, 2) := by decide +kernel
theorem dL_arePeople_79 : decode cL_arePeople 79 = .ok (.iload 13, 2) := by decide +kernel
theorem dL_arePeople_81 : decode cL_arePeople 81 = .ok (.invokestatic 43, 3) := by decide +kernel
theorem dL_arePeople_84 : decode cL_arePeople 84 = .ok (.iload 9, 2) := by decide +kernel
theorem dL_arePeople_86 : decode cL_arePeople 86 = .ok (.ishr, 1) := by decide +kernel
theorem dL_arePeople_87 : decode cL_arePeople 87 = .ok (.iconst 1, 1) := by decide +kernel
theorem dL_arePeople_88 : decode cL_arePeople 88 = .ok (.iand, 1) := by decide +kernel
theorem dL_arePeople_89 : decode cL_arePeople 89 = .ok (.iadd, 1) := by decide +kernel
theorem dL_arePeople_90 : decode cL_arePeople 90 = .ok (.istore 10, 2) := by decide +kernel
theorem dL_arePeople_92 : decode cL_arePeople 92 = .ok (.iload 11, 2) := by decide +kernel
theorem dL_arePeople_94 : decode cL_arePeople 94 = .ok (.aload_n 1, 1) := by decide +kernel
theorem dL_arePeople_95 : decode cL_arePeople 95 = .ok (.iconst 2, 1) := by decide +kernel
theorem dL_arePeople_96 : decode cL_arePeople 96 = .ok (.iload 13, 2) := by decide +kernel
theorem dL_arePeople_98 : decode cL_arePeople 98 = .ok (.imul, 1) := by decide +kernel
theorem dL_arePeople_99 : decode cL_arePeople 99 = .ok (.iconst 1, 1) := by decide +kernel
theorem dL_arePeople_100 : decode cL_arePeople 100 = .ok (.iadd, 1) := by decide +kernel
theorem dL_arePeople_101 : decode cL_arePeople 101 = .ok (.iaload, 1) := by decide +kernel
theorem dL_arePeople_102 : decode cL_arePeople 102 = .ok (.ifCond .lt 43, 3) := by decide +kernel
theorem dL_arePeople_105 : decode cL_arePeople 105 = .ok (.aload_n 2, 1) := by decide +kernel
theorem dL_arePeople_106 : decode cL_arePeople 106 = .ok (.iconst 2, 1) := by decide +kernel
theorem dL_arePeople_107 : decode cL_arePeople 107 = .ok (.aload_n 1, 1) := by decide +kernel
theorem dL_arePeople_108 : decode cL_arePeople 108 = .ok (.iconst 2, 1) := by decide +kernel
theorem dL_arePeople_109 : decode cL_arePeople 109 = .ok (.iload 13, 2) := by decide +kernel
theorem dL_arePeople_111 : decode cL_arePeople 111 = .ok (.imul, 1) := by decide +kernel
theorem dL_arePeople_112 : decode cL_arePeople 112 = .ok (.iconst 1, 1) := by decide +kernel
theorem dL_arePeople_113 : decode cL_arePeople 113 = .ok (.iadd, 1) := by decide +kernel
theorem dL_arePeople_114 : decode cL_arePeople 114 = .ok (.iaload, 1) := by decide +kernel
theorem dL_arePeople_115 : decode cL_arePeople 115 = .ok (.imul, 1) := by decide +kernel
theorem dL_arePeople_116 : decode cL_arePeople 116 = .ok (.iaload, 1) := by decide +kernel
theorem dL_arePeople_117 : decode cL_arePeople 117 = .ok (.iload 9, 2) := by decide +kernel
theorem dL_arePeople_119 : decode cL_arePeople 119 = .ok (.if_icmp .eq 22, 3) := by decide +kernel
theorem dL_arePeople_122 : decode cL_arePeople 122 = .ok (.aload_n 2, 1) := by decide +kernel
theorem dL_arePeople_123 : decode cL_arePeople 123 = .ok (.iconst 2, 1) := by decide +kernel
theorem dL_arePeople_124 : decode cL_arePeople 124 = .ok (.aload_n 1, 1) := by decide +kernel
theorem dL_arePeople_125 : decode cL_arePeople 125 = .ok (.iconst 2, 1) := by decide +kernel
theorem dL_arePeople_126 : decode cL_arePeople 126 = .ok (.iload 13, 2) := by decide +kernel
theorem dL_arePeople_128 : decode cL_arePeople 128 = .ok (.imul, 1) := by decide +kernel
theorem dL_arePeople_129 : decode cL_arePeople 129 = .ok (.iconst 1, 1) := by decide +kernel
theorem dL_arePeople_130 : decode cL_arePeople 130 = .ok (.iadd, 1) := by decide +kernel
theorem dL_arePeople_131 : decode cL_arePeople 131 = .ok (.iaload, 1) := by decide +kernel
theorem dL_arePeople_132 : decode cL_arePeople 132 = .ok (.imul, 1) := by decide +kernel
theorem dL_arePeople_133 : decode cL_arePeople 133 = .ok (.iconst 1, 1) := by decide +kernel
theorem dL_arePeople_134 : decode cL_arePeople 134 = .ok (.iadd, 1) := by decide +kernel
theorem dL_arePeople_135 : decode cL_arePeople 135 = .ok (.iaload, 1) := by decide +kernel
theorem dL_arePeople_136 : decode cL_arePeople 136 = .ok (.iload 9, 2) := by decide +kernel
theorem dL_arePeople_138 : decode cL_arePeople 138 = .ok (.if_icmp .ne 7, 3) := by decide +kernel
theorem dL_arePeople_141 : decode cL_arePeople 141 = .ok (.iconst 1, 1) := by decide +kernel
theorem dL_arePeople_142 : decode cL_arePeople 142 = .ok (.goto 4, 3) := by decide +kernel
theorem dL_arePeople_145 : decode cL_arePeople 145 = .ok (.iconst 0, 1) := by decide +kernel
theorem dL_arePeople_146 : decode cL_arePeople 146 = .ok (.iadd, 1) := by decide +kernel
theorem dL_arePeople_147 : decode cL_arePeople 147 = .ok (.istore 11, 2) := by decide +kernel
theorem dL_arePeople_149 : decode cL_arePeople 149 = .ok (.iinc 13 1, 3) := by decide +kernel
theorem dL_arePeople_152 : decode cL_arePeople 152 = .ok (.goto (-88), 3) := by decide +kernel
theorem dL_arePeople_155 : decode cL_arePeople 155 = .ok (.aload_n 0, 1) := by decide +kernel
theorem dL_arePeople_156 : decode cL_arePeople 156 = .ok (.iload 9, 2) := by decide +kernel
theorem dL_arePeople_158 : decode cL_arePeople 158 = .ok (.iconst 0, 1) := by decide +kernel
theorem dL_arePeople_159 : decode cL_arePeople 159 = .ok (.invokevirtual 46, 3) := by decide +kernel
theorem dL_arePeople_162 : decode cL_arePeople 162 = .ok (.aload_n 1, 1) := by decide +kernel
theorem dL_arePeople_163 : decode cL_arePeople 163 = .ok (.iconst 2, 1) := by decide +kernel
theorem dL_arePeople_164 : decode cL_arePeople 164 = .ok (.iload 9, 2) := by decide +kernel
theorem dL_arePeople_166 : decode cL_arePeople 166 = .ok (.imul, 1) := by decide +kernel
theorem dL_arePeople_167 : decode cL_arePeople 167 = .ok (.iaload, 1) := by decide +kernel
theorem dL_arePeople_168 : decode cL_arePeople 168 = .ok (.if_icmp .ne 101, 3) := by decide +kernel
theorem dL_arePeople_171 : decode cL_arePeople 171 = .ok (.aload_n 0, 1) := by decide +kernel
theorem dL_arePeople_172 : decode cL_arePeople 172 = .ok (.iload 9, 2) := by decide +kernel
theorem dL_arePeople_174 : decode cL_arePeople 174 = .ok (.iconst 1, 1) := by decide +kernel
theorem dL_arePeople_175 : decode cL_arePeople 175 = .ok (.invokevirtual 46, 3) := by decide +kernel
theorem dL_arePeople_178 : decode cL_arePeople 178 = .ok (.aload_n 1, 1) := by decide +kernel
theorem dL_arePeople_179 : decode cL_arePeople 179 = .ok (.aload_n 3, 1) := by decide +kernel
theorem dL_arePeople_180 : decode cL_arePeople 180 = .ok (.iload 9, 2) := by decide +kernel
theorem dL_arePeople_182 : decode cL_arePeople 182 = .ok (.invokestatic 9, 3) := by decide +kernel
theorem dL_arePeople_185 : decode cL_arePeople 185 = .ok (.if_icmp .ne 84, 3) := by decide +kernel
theorem dL_arePeople_188 : decode cL_arePeople 188 = .ok (.aload_n 0, 1) := by decide +kernel
theorem dL_arePeople_189 : decode cL_arePeople 189 = .ok (.iload 9, 2) := by decide +kernel
theorem dL_arePeople_191 : decode cL_arePeople 191 = .ok (.iconst 2, 1) := by decide +kernel
theorem dL_arePeople_192 : decode cL_arePeople 192 = .ok (.invokevirtual 46, 3) := by decide +kernel
theorem dL_arePeople_195 : decode cL_arePeople 195 = .ok (.iload 12, 2) := by decide +kernel
theorem dL_arePeople_197 : decode cL_arePeople 197 = .ok (.if_icmp .ne 72, 3) := by decide +kernel
theorem dL_arePeople_200 : decode cL_arePeople 200 = .ok (.aload_n 0, 1) := by decide +kernel
theorem dL_arePeople_201 : decode cL_arePeople 201 = .ok (.iload 9, 2) := by decide +kernel
theorem dL_arePeople_203 : decode cL_arePeople 203 = .ok (.iconst 3, 1) := by decide +kernel
theorem dL_arePeople_204 : decode cL_arePeople 204 = .ok (.invokevirtual 46, 3) := by decide +kernel
theorem dL_arePeople_207 : decode cL_arePeople 207 = .ok (.aload_n 2, 1) := by decide +kernel
theorem dL_arePeople_208 : decode cL_arePeople 208 = .ok (.aload 4, 2) := by decide +kernel
theorem dL_arePeople_210 : decode cL_arePeople 210 = .ok (.iload 9, 2) := by decide +kernel
theorem dL_arePeople_212 : decode cL_arePeople 212 = .ok (.invokestatic 50, 3) := by decide +kernel
theorem dL_arePeople_215 : decode cL_arePeople 215 = .ok (.if_icmp .ne 54, 3) := by decide +kernel
theorem dL_arePeople_218 : decode cL_arePeople 218 = .ok (.aload_n 0, 1) := by decide +kernel
theorem dL_arePeople_219 : decode cL_arePeople 219 = .ok (.iload 9, 2) := by decide +kernel
theorem dL_arePeople_221 : decode cL_arePeople 221 = .ok (.iconst 4, 1) := by decide +kernel
theorem dL_arePeople_222 : decode cL_arePeople 222 = .ok (.invokevirtual 46, 3) := by decide +kernel
theorem dL_arePeople_225 : decode cL_arePeople 225 = .ok (.iload 11, 2) := by decide +kernel
theorem dL_arePeople_227 : decode cL_arePeople 227 = .ok (.if_icmp .ne 42, 3) := by decide +kernel
theorem dL_arePeople_230 : decode cL_arePeople 230 = .ok (.aload_n 0, 1) := by decide +kernel
theorem dL_arePeople_231 : decode cL_arePeople 231 = .ok (.iload 9, 2) := by decide +kernel
theorem dL_arePeople_233 : decode cL_arePeople 233 = .ok (.iconst 5, 1) := by decide +kernel
theorem dL_arePeople_234 : decode cL_arePeople 234 = .ok (.invokevirtual 46, 3) := by decide +kernel
theorem dL_arePeople_237 : decode cL_arePeople 237 = .ok (.iload 10, 2) := by decide +kernel
theorem dL_arePeople_239 : decode cL_arePeople 239 = .ok (.if_icmp .ne 30, 3) := by decide +kernel
theorem dL_arePeople_242 : decode cL_arePeople 242 = .ok (.aload_n 0, 1) := by decide +kernel
theorem dL_arePeople_243 : decode cL_arePeople 243 = .ok (.iload 9, 2) := by decide +kernel
theorem dL_arePeople_245 : decode cL_arePeople 245 = .ok (.bipush 6, 2) := by decide +kernel
theorem dL_arePeople_247 : decode cL_arePeople 247 = .ok (.invokevirtual 46, 3) := by decide +kernel
theorem dL_arePeople_250 : decode cL_arePeople 250 = .ok (.aload_n 1, 1) := by decide +kernel
theorem dL_arePeople_251 : decode cL_arePeople 251 = .ok (.aload_n 2, 1) := by decide +kernel
theorem dL_arePeople_252 : decode cL_arePeople 252 = .ok (.aload 4, 2) := by decide +kernel
theorem dL_arePeople_254 : decode cL_arePeople 254 = .ok (.iload 9, 2) := by decide +kernel
theorem dL_arePeople_256 : decode cL_arePeople 256 = .ok (.invokestatic 43, 3) := by decide +kernel
theorem dL_arePeople_259 : decode cL_arePeople 259 = .ok (.invokestatic 23, 3) := by decide +kernel
theorem dL_arePeople_262 : decode cL_arePeople 262 = .ok (.if_icmp .ne 7, 3) := by decide +kernel
theorem dL_arePeople_265 : decode cL_arePeople 265 = .ok (.iconst 1, 1) := by decide +kernel
theorem dL_arePeople_266 : decode cL_arePeople 266 = .ok (.goto 4, 3) := by decide +kernel
theorem dL_arePeople_269 : decode cL_arePeople 269 = .ok (.iconst 0, 1) := by decide +kernel
theorem dL_arePeople_270 : decode cL_arePeople 270 = .ok (.istore 8, 2) := by decide +kernel
theorem dL_arePeople_272 : decode cL_arePeople 272 = .ok (.iload 5, 2) := by decide +kernel
theorem dL_arePeople_274 : decode cL_arePeople 274 = .ok (.iload 12, 2) := by decide +kernel
theorem dL_arePeople_276 : decode cL_arePeople 276 = .ok (.ifCond .lt 7, 3) := by decide +kernel
theorem dL_arePeople_279 : decode cL_arePeople 279 = .ok (.iconst 1, 1) := by decide +kernel
theorem dL_arePeople_280 : decode cL_arePeople 280 = .ok (.goto 4, 3) := by decide +kernel
theorem dL_arePeople_283 : decode cL_arePeople 283 = .ok (.iconst 0, 1) := by decide +kernel
theorem dL_arePeople_284 : decode cL_arePeople 284 = .ok (.iadd, 1) := by decide +kernel
theorem dL_arePeople_285 : decode cL_arePeople 285 = .ok (.istore 5, 2) := by decide +kernel
theorem dL_arePeople_287 : decode cL_arePeople 287 = .ok (.iload 6, 2) := by decide +kernel
theorem dL_arePeople_289 : decode cL_arePeople 289 = .ok (.iload 12, 2) := by decide +kernel
theorem dL_arePeople_291 : decode cL_arePeople 291 = .ok (.ifCond .lt 27, 3) := by decide +kernel
theorem dL_arePeople_294 : decode cL_arePeople 294 = .ok (.aload_n 1, 1) := by decide +kernel
theorem dL_arePeople_295 : decode cL_arePeople 295 = .ok (.aload_n 2, 1) := by decide +kernel
theorem dL_arePeople_296 : decode cL_arePeople 296 = .ok (.aload_n 3, 1) := by decide +kernel
theorem dL_arePeople_297 : decode cL_arePeople 297 = .ok (.iload 12, 2) := by decide +kernel
theorem dL_arePeople_299 : decode cL_arePeople 299 = .ok (.invokestatic 15, 3) := by decide +kernel
theorem dL_arePeople_302 : decode cL_arePeople 302 = .ok (.iconst 2, 1) := by decide +kernel
theorem dL_arePeople_303 : decode cL_arePeople 303 = .ok (.aload_n 1, 1) := by decide +kernel
theorem dL_arePeople_304 : decode cL_arePeople 304 = .ok (.aload_n 3, 1) := by decide +kernel
theorem dL_arePeople_305 : decode cL_arePeople 305 = .ok (.iload 9, 2) := by decide +kernel
theorem dL_arePeople_307 : decode cL_arePeople 307 = .ok (.invokestatic 9, 3) := by decide +kernel
theorem dL_arePeople_310 : decode cL_arePeople 310 = .ok (.imul, 1) := by decide +kernel
theorem dL_arePeople_311 : decode cL_arePeople 311 = .ok (.if_icmp .eq 7, 3) := by decide +kernel
theorem dL_arePeople_314 : decode cL_arePeople 314 = .ok (.iconst 1, 1) := by decide +kernel
theorem dL_arePeople_315 : decode cL_arePeople 315 = .ok (.goto 4, 3) := by decide +kernel
theorem dL_arePeople_318 : decode cL_arePeople 318 = .ok (.iconst 0, 1) := by decide +kernel
theorem dL_arePeople_319 : decode cL_arePeople 319 = .ok (.iadd, 1) := by decide +kernel
theorem dL_arePeople_320 : decode cL_arePeople 320 = .ok (.istore 6, 2) := by decide +kernel
theorem dL_arePeople_322 : decode cL_arePeople 322 = .ok (.iload 7, 2) := by decide +kernel
theorem dL_arePeople_324 : decode cL_arePeople 324 = .ok (.aload_n 2, 1) := by decide +kernel
theorem dL_arePeople_325 : decode cL_arePeople 325 = .ok (.aload 4, 2) := by decide +kernel
theorem dL_arePeople_327 : decode cL_arePeople 327 = .ok (.iload 9, 2) := by decide +kernel
theorem dL_arePeople_329 : decode cL_arePeople 329 = .ok (.invokestatic 50, 3) := by decide +kernel
theorem dL_arePeople_332 : decode cL_arePeople 332 = .ok (.iconst 1, 1) := by decide +kernel
theorem dL_arePeople_333 : decode cL_arePeople 333 = .ok (.if_icmp .le 7, 3) := by decide +kernel
theorem dL_arePeople_336 : decode cL_arePeople 336 = .ok (.iconst 1, 1) := by decide +kernel
theorem dL_arePeople_337 : decode cL_arePeople 337 = .ok (.goto 4, 3) := by decide +kernel
theorem dL_arePeople_340 : decode cL_arePeople 340 = .ok (.iconst 0, 1) := by decide +kernel
theorem dL_arePeople_341 : decode cL_arePeople 341 = .ok (.iadd, 1) := by decide +kernel
theorem dL_arePeople_342 : decode cL_arePeople 342 = .ok (.istore 7, 2) := by decide +kernel
theorem dL_arePeople_344 : decode cL_arePeople 344 = .ok (.iinc 9 1, 3) := by decide +kernel
theorem dL_arePeople_347 : decode cL_arePeople 347 = .ok (.goto (-316), 3) := by decide +kernel
theorem dL_arePeople_350 : decode cL_arePeople 350 = .ok (.iload 8, 2) := by decide +kernel
theorem dL_arePeople_352 : decode cL_arePeople 352 = .ok (.ifCond .eq 64, 3) := by decide +kernel
theorem dL_arePeople_355 : decode cL_arePeople 355 = .ok (.aload_n 0, 1) := by decide +kernel
theorem dL_arePeople_356 : decode cL_arePeople 356 = .ok (.iconst 2, 1) := by decide +kernel
theorem dL_arePeople_357 : decode cL_arePeople 357 = .ok (.invokevirtual 38, 3) := by decide +kernel
theorem dL_arePeople_360 : decode cL_arePeople 360 = .ok (.iload 5, 2) := by decide +kernel
theorem dL_arePeople_362 : decode cL_arePeople 362 = .ok (.if_icmp .ne 54, 3) := by decide +kernel
theorem dL_arePeople_365 : decode cL_arePeople 365 = .ok (.aload_n 0, 1) := by decide +kernel
theorem dL_arePeople_366 : decode cL_arePeople 366 = .ok (.iconst 4, 1) := by decide +kernel
theorem dL_arePeople_367 : decode cL_arePeople 367 = .ok (.invokevirtual 38, 3) := by decide +kernel
theorem dL_arePeople_370 : decode cL_arePeople 370 = .ok (.iload 6, 2) := by decide +kernel
theorem dL_arePeople_372 : decode cL_arePeople 372 = .ok (.if_icmp .ne 44, 3) := by decide +kernel
theorem dL_arePeople_375 : decode cL_arePeople 375 = .ok (.aload_n 0, 1) := by decide +kernel
theorem dL_arePeople_376 : decode cL_arePeople 376 = .ok (.iconst 5, 1) := by decide +kernel
theorem dL_arePeople_377 : decode cL_arePeople 377 = .ok (.invokevirtual 38, 3) := by decide +kernel
theorem dL_arePeople_380 : decode cL_arePeople 380 = .ok (.iload 7, 2) := by decide +kernel
theorem dL_arePeople_382 : decode cL_arePeople 382 = .ok (.if_icmp .ne 34, 3) := by decide +kernel
theorem dL_arePeople_385 : decode cL_arePeople 385 = .ok (.aload_n 0, 1) := by decide +kernel
theorem dL_arePeople_386 : decode cL_arePeople 386 = .ok (.invokevirtual 53, 3) := by decide +kernel
theorem dL_arePeople_389 : decode cL_arePeople 389 = .ok (.iload 5, 2) := by decide +kernel
theorem dL_arePeople_391 : decode cL_arePeople 391 = .ok (.ifCond .ne 7, 3) := by decide +kernel
theorem dL_arePeople_394 : decode cL_arePeople 394 = .ok (.dconst 1, 1) := by decide +kernel
theorem dL_arePeople_395 : decode cL_arePeople 395 = .ok (.goto 13, 3) := by decide +kernel
theorem dL_arePeople_398 : decode cL_arePeople 398 = .ok (.iload 5, 2) := by decide +kernel
theorem dL_arePeople_400 : decode cL_arePeople 400 = .ok (.iload 6, 2) := by decide +kernel
theorem dL_arePeople_402 : decode cL_arePeople 402 = .ok (.isub, 1) := by decide +kernel
theorem dL_arePeople_403 : decode cL_arePeople 403 = .ok (.i2d, 1) := by decide +kernel
theorem dL_arePeople_404 : decode cL_arePeople 404 = .ok (.iload 5, 2) := by decide +kernel
theorem dL_arePeople_406 : decode cL_arePeople 406 = .ok (.i2d, 1) := by decide +kernel
theorem dL_arePeople_407 : decode cL_arePeople 407 = .ok (.ddiv, 1) := by decide +kernel
theorem dL_arePeople_408 : decode cL_arePeople 408 = .ok (.dcmp .l, 1) := by decide +kernel
theorem dL_arePeople_409 : decode cL_arePeople 409 = .ok (.ifCond .ne 7, 3) := by decide +kernel
theorem dL_arePeople_412 : decode cL_arePeople 412 = .ok (.iconst 1, 1) := by decide +kernel
theorem dL_arePeople_413 : decode cL_arePeople 413 = .ok (.goto 4, 3) := by decide +kernel
theorem dL_arePeople_416 : decode cL_arePeople 416 = .ok (.iconst 0, 1) := by decide +kernel
theorem dL_arePeople_417 : decode cL_arePeople 417 = .ok (.ireturn, 1) := by decide +kernel
set_option maxRecDepth 20000 in
theorem ggL_areRows_X7_count : GoodIn wsL_areRows wsX7_count := goodIn_ca (goodIn_r _ [5, 6, 7, 8, 9, 10, 11, 12, 13, 14, 15, 16, 17, 18, 19, 20, 21, 22, 23, 24, 25, 26, 27, 28, 29, 30, 31, 32, 4, 33, 34, 35, 36, 37, 38, 39, 40, 41, 42, 43, 44, 45, 46, 47, 48, 49, 50, 51, 52, 53, 54, 55, 56, 57, 58, 59, 60, 61, 62, 63, 64, 65, 66, 67, 68, 69, 70, 71, 72, 73, 74, 75, 76, 77, 78, 79, 80, 81, 82, 83, 84, 85, 86, 87, 88, 89, 90, 91, 92, 93, 94, 95, 96, 97, 98, 99, 100, 101, 102, 103, 104, 105, 106, 107, 108, 109, 110, 111, 112, 113, 114, 115, 116, 117, 118, 119, 120, 121, 122, 123, 124, 125, 126, 127, 128, 129, 130, 131, 132, 133, 134, 135, 199, 200, 201, 202, 203, 204, 205, 206, 207, 208, 209, 210, 211, 212, 213, 214, 215, 216, 217, 218, 219, 220, 221, 222] (by decide +kernel) (by decide +kernel)) (goodIn_sub (fun _ h => List.mem_cons_of_mem _ (List.mem_append_left _ (List.mem_append_right _ h))) (by decide +kernel))
set_option maxRecDepth 20000 in
theorem gL_areRows_X7_count : GoodIn wsL_areRows (wsV RL 38 RX7 yX7_count wsX7_count) := goodIn_app (goodIn_of _ (by decide +kernel)) ggL_areRows_X7_count
set_option maxRecDepth 20000 in
theorem ggL_areRows_L_all : GoodIn wsL_areRows wsL_all := goodIn_r _ [139, 140, 141, 138, 142, 143, 144, 145, 146, 147, 148] (by decide +kernel) (by decide +kernel)
set_option maxRecDepth 20000 in
theorem gL_areRows_L_all : GoodIn wsL_areRows (va_wsS RL 57 yL_all wsL_all) := goodIn_app (goodIn_of _ (by decide +kernel)) ggL_areRows_L_all
set_option maxRecDepth 20000 in
theorem ggL_areRows_L_ancestors : GoodIn wsL_areRows wsL_ancestors := goodIn_r _ [151] (by decide +kernel) (by decide +kernel)
set_option maxRecDepth 20000 in
theorem gL_areRows_L_ancestors : GoodIn wsL_areRows (va_wsS RL 43 yL_ancestors wsL_ancestors) := goodIn_app (goodIn_of _ (by decide +kernel)) ggL_areRows_L_ancestors
set_option maxRecDepth 20000 in
theorem ggL_areRows_L_ones : GoodIn wsL_areRows wsL_ones := goodIn_r _ [154] (by decide +kernel) (by decide +kernel)
set_option maxRecDepth 20000 in
theorem gL_areRows_L_ones : GoodIn wsL_areRows (va_wsS RL 23 yL_ones wsL_ones) := goodIn_app (goodIn_of _ (by decide +kernel)) ggL_areRows_L_ones
set_option maxRecDepth 20000 in
theorem ggL_areRows_X7_coupleOf : GoodIn wsL_areRows wsX7_coupleOf := goodIn_ca (goodIn_ca (goodIn_r _ [158, 159, 160, 6, 7, 8, 161, 73, 74, 13, 75, 20, 162, 111, 112, 113, 70, 72, 163, 122, 123, 124, 71, 164, 165, 166, 167, 168, 62, 63, 64, 65, 15, 169, 67, 68, 69, 76, 77, 78, 79, 80, 170, 26, 27, 28, 29, 171, 108, 104, 109, 110, 114, 115, 116, 117, 118, 119, 120, 59, 60, 61, 121, 172, 173, 174, 175, 176, 177, 178, 199, 200, 201, 202, 203, 204, 205, 206, 207, 208, 209, 210, 211, 212, 213, 214, 215, 216] (by decide +kernel) (by decide +kernel)) (goodIn_sub (fun _ h => List.mem_cons_of_mem _ (List.mem_append_right _ h)) (by decide +kernel))) (goodIn_sub (fun _ h => List.mem_cons_of_mem _ (List.mem_append_left _ (List.mem_append_right _ h))) (by decide +kernel))
set_option maxRecDepth 20000 in
theorem gL_areRows_X7_coupleOf : GoodIn wsL_areRows (wsV RL 61 RX7 yX7_coupleOf wsX7_coupleOf) := goodIn_app (goodIn_of _ (by decide +kernel)) ggL_areRows_X7_coupleOf
set_option maxRecDepth 20000 in
theorem ggL_areRows_L_middle : GoodIn wsL_areRows wsL_middle := goodIn_r _ [145, 146, 147, 138, 148] (by decide +kernel) (by decide +kernel)
set_option maxRecDepth 20000 in
theorem gL_areRows_L_middle : GoodIn wsL_areRows (va_wsS RL 15 yL_middle wsL_middle) := goodIn_app (goodIn_of _ (by decide +kernel)) ggL_areRows_L_middle
set_option maxRecDepth 20000 in
theorem ggL_areRows_X7_crossings : GoodIn wsL_areRows wsX7_crossings := goodIn_ca (goodIn_ca (goodIn_r _ [182, 159, 160, 6, 7, 34, 8, 183, 184, 4, 185, 35, 36, 37, 38, 39, 40, 41, 42, 43, 44, 45, 13, 46, 47, 48, 49, 50, 51, 52, 53, 54, 55, 56, 57, 58, 59, 60, 61, 29, 62, 63, 64, 65, 15, 66, 67, 68, 69, 70, 71, 72, 73, 74, 75, 20, 76, 77, 78, 79, 80, 81, 82, 83, 84, 186, 187, 188, 189, 190, 191, 192, 193, 199, 200, 201, 202, 203, 204, 205, 206, 217, 218, 219, 207, 208, 209, 210, 211, 212, 213, 214, 215, 216] (by decide +kernel) (by decide +kernel)) (goodIn_sub (fun _ h => List.mem_cons_of_mem _ (List.mem_append_right _ h)) (by decide +kernel))) (goodIn_sub (fun _ h => List.mem_cons_of_mem _ (List.mem_append_left _ (List.mem_append_right _ h))) (by decide +kernel))
set_option maxRecDepth 20000 in
theorem gL_areRows_X7_crossings : GoodIn wsL_areRows (wsV RL 64 RX7 yX7_crossings wsX7_crossings) := goodIn_app (goodIn_of _ (by decide +kernel)) ggL_areRows_X7_crossings
set_option maxRecDepth 20000 in
theorem ggL_areRows_L_crosses : GoodIn wsL_areRows wsL_crosses := goodIn_r _ [142, 143, 144, 138, 145, 146, 147, 148] (by decide +kernel) (by decide +kernel)
set_option maxRecDepth 20000 in
theorem gL_areRows_L_crosses : GoodIn wsL_areRows (va_wsS RL 19 yL_crosses wsL_crosses) := goodIn_app (goodIn_of _ (by decide +kernel)) ggL_areRows_L_crosses
set_option maxRecDepth 20000 in
theorem ggL_areRows_X7_at : GoodIn wsL_areRows wsX7_at := goodIn_ca (goodIn_ca (goodIn_r _ [197, 159, 160, 6, 7, 8, 183, 184, 4, 185, 198, 49, 50, 13, 51, 52, 53, 44, 45, 46, 47, 199, 200, 201, 202, 203, 204, 205, 206, 207, 208, 209, 210, 211, 212, 213, 214, 215, 216] (by decide +kernel) (by decide +kernel)) (goodIn_sub (fun _ h => List.mem_cons_of_mem _ (List.mem_append_right _ h)) (by decide +kernel))) (goodIn_sub (fun _ h => List.mem_cons_of_mem _ (List.mem_append_left _ (List.mem_append_right _ h))) (by decide +kernel))
set_option maxRecDepth 20000 in
theorem gL_areRows_X7_at : GoodIn wsL_areRows (wsV RL 67 RX7 yX7_at wsX7_at) := goodIn_app (goodIn_of _ (by decide +kernel)) ggL_areRows_X7_at
theorem dL_areRows_0 : decode cL_areRows 0 = .ok (.iconst 0, 1) := by decide +kernel
theorem dL_areRows_1 : decode cL_areRows 1 = .ok (.istore 5, 2) := by decide +kernel
theorem dL_areRows_3 : decode cL_areRows 3 = .ok (.aload_n 0, 1) := by decide +kernel
theorem dL_areRows_4 : decode cL_areRows 4 = .ok (.iconst 1, 1) := by decide +kernel
theorem dL_areRows_5 : decode cL_areRows 5 = .ok (.invokevirtual 38, 3) := by decide +kernel
theorem dL_areRows_8 : decode cL_areRows 8 = .ok (.aload 4, 2) := by decide +kernel
theorem dL_areRows_10 : decode cL_areRows 10 = .ok (.iconst 1, 1) := by decide +kernel
theorem dL_areRows_11 : decode cL_areRows 11 = .ok (.iaload, 1) := by decide +kernel
theorem dL_areRows_12 : decode cL_areRows 12 = .ok (.if_icmp .ne 36, 3) := by decide +kernel
theorem dL_areRows_15 : decode cL_areRows 15 = .ok (.aload_n 0, 1) := by decide +kernel
theorem dL_areRows_16 : decode cL_areRows 16 = .ok (.bipush 7, 2) := by decide +kernel
theorem dL_areRows_18 : decode cL_areRows 18 = .ok (.invokevirtual 38, 3) := by decide +kernel
theorem dL_areRows_21 : decode cL_areRows 21 = .ok (.aload 4, 2) := by decide +kernel
theorem dL_areRows_23 : decode cL_areRows 23 = .ok (.iconst 2, 1) := by decide +kernel
theorem dL_areRows_24 : decode cL_areRows 24 = .ok (.iaload, 1) := by decide +kernel
theorem dL_areRows_25 : decode cL_areRows 25 = .ok (.if_icmp .ne 23, 3) := by decide +kernel
theorem dL_areRows_28 : decode cL_areRows 28 = .ok (.aload_n 0, 1) := by decide +kernel
theorem dL_areRows_29 : decode cL_areRows 29 = .ok (.iconst 3, 1) := by decide +kernel
theorem dL_areRows_30 : decode cL_areRows 30 = .ok (.invokevirtual 38, 3) := by decide +kernel
theorem dL_areRows_33 : decode cL_areRows 33 = .ok (.aload_n 1, 1) := by decide +kernel
theorem dL_areRows_34 : decode cL_areRows 34 = .ok (.aload_n 2, 1) := by decide +kernel
theorem dL_areRows_35 : decode cL_areRows 35 = .ok (.aload_n 3, 1) := by decide +kernel
theorem dL_areRows_36 : decode cL_areRows 36 = .ok (.aload 4, 2) := by decide +kernel
theorem dL_areRows_38 : decode cL_areRows 38 = .ok (.invokestatic 57, 3) := by decide +kernel
theorem dL_areRows_41 : decode cL_areRows 41 = .ok (.if_icmp .ne 7, 3) := by decide +kernel
theorem dL_areRows_44 : decode cL_areRows 44 = .ok (.iconst 1, 1) := by decide +kernel
theorem dL_areRows_45 : decode cL_areRows 45 = .ok (.goto 4, 3) := by decide +kernel
theorem dL_areRows_48 : decode cL_areRows 48 = .ok (.iconst 0, 1) := by decide +kernel
theorem dL_areRows_49 : decode cL_areRows 49 = .ok (.istore 6, 2) := by decide +kernel
theorem dL_areRows_51 : decode cL_areRows 51 = .ok (.iconst 0, 1) := by decide +kernel
theorem dL_areRows_52 : decode cL_areRows 52 = .ok (.istore 7, 2) := by decide +kernel
theorem dL_areRows_54 : decode cL_areRows 54 = .ok (.iload 7, 2) := by decide +kernel
theorem dL_areRows_56 : decode cL_areRows 56 = .ok (.aload 4, 2) := by decide +kernel
theorem dL_areRows_58 : decode cL_areRows 58 = .ok (.iconst 1, 1) := by decide +kernel
theorem dL_areRows_59 : decode cL_areRows 59 = .ok (.iaload, 1) := by decide +kernel
theorem dL_areRows_60 : decode cL_areRows 60 = .ok (.if_icmp .ge 210, 3) := by decide +kernel
theorem dL_areRows_63 : decode cL_areRows 63 = .ok (.iload 6, 2) := by decide +kernel
theorem dL_areRows_65 : decode cL_areRows 65 = .ok (.ifCond .eq 205, 3) := by decide +kernel
theorem dL_areRows_68 : decode cL_areRows 68 = .ok (.iconst 0, 1) := by decide +kernel
theorem dL_areRows_69 : decode cL_areRows 69 = .ok (.istore 8, 2) := by decide +kernel
theorem dL_areRows_71 : decode cL_areRows 71 = .ok (.iconst 0, 1) := by decide +kernel
theorem dL_areRows_72 : decode cL_areRows 72 = .ok (.istore 9, 2) := by decide +kernel
theorem dL_areRows_74 : decode cL_areRows 74 = .ok (.iload 9, 2) := by decide +kernel
theorem dL_areRows_76 : decode cL_areRows 76 = .ok (.aload 4, 2) := by decide +kernel
theorem dL_areRows_78 : decode cL_areRows 78 = .ok (.iconst 0, 1) := by decide +kernel
theorem dL_areRows_79 : decode cL_areRows 79 = .ok (.iaload, 1) := by decide +kernel
theorem dL_areRows_80 : decode cL_areRows 80 = .ok (.if_icmp .ge 32, 3) := by decide +kernel
theorem dL_areRows_83 : decode cL_areRows 83 = .ok (.iload 8, 2) := by decide +kernel
theorem dL_areRows_85 : decode cL_areRows 85 = .ok (.aload_n 1, 1) := by decide +kernel
theorem dL_areRows_86 : decode cL_areRows 86 = .ok (.iconst 2, 1) := by decide +kernel
theorem dL_areRows_87 : decode cL_areRows 87 = .ok (.iload 9, 2) := by decide +kernel
theorem dL_areRows_89 : decode cL_areRows 89 = .ok (.imul, 1) := by decide +kernel
theorem dL_areRows_90 : decode cL_areRows 90 = .ok (.iconst 1, 1) := by decide +kernel
theorem dL_areRows_91 : decode cL_areRows 91 = .ok (.iadd, 1) := by decide +kernel
theorem dL_areRows_92 : decode cL_areRows 92 = .ok (.iaload, 1) := by decide +kernel
theorem dL_areRows_93 : decode cL_areRows 93 = .ok (.iload 7, 2) := by decide +kernel
theorem dL_areRows_95 : decode cL_areRows 95 = .ok (.if_icmp .ne 7, 3) := by decide +kernel
theorem dL_areRows_98 : decode cL_areRows 98 = .ok (.iconst 1, 1) := by decide +kernel
theorem dL_areRows_99 : decode cL_areRows 99 = .ok (.goto 4, 3) := by decide +kernel
theorem dL_areRows_102 : decode cL_areRows 102 = .ok (.iconst 0, 1) := by decide +kernel
theorem dL_areRows_103 : decode cL_areRows 103 = .ok (.iadd, 1) := by decide +kernel
theorem dL_areRows_104 : decode cL_areRows 104 = .ok (.istore 8, 2) := by decide +kernel
theorem dL_areRows_106 : decode cL_areRows 106 = .ok (.iinc 9 1, 3) := by decide +kernel
theorem dL_areRows_109 : decode cL_areRows 109 = .ok (.goto (-35), 3) := by decide +kernel
theorem dL_areRows_112 : decode cL_areRows 112 = .ok (.aload_n 1, 1) := by decide +kernel
theorem dL_areRows_113 : decode cL_areRows 113 = .ok (.aload_n 2, 1) := by decide +kernel
theorem dL_areRows_114 : decode cL_areRows 114 = .ok (.aload 4, 2) := by decide +kernel
theorem dL_areRows_116 : decode cL_areRows 116 = .ok (.aload_n 2, 1) := by decide +kernel
theorem dL_areRows_117 : decode cL_areRows 117 = .ok (.iconst 2, 1) := by decide +kernel
theorem dL_areRows_118 : decode cL_areRows 118 = .ok (.iload 7, 2) := by decide +kernel
theorem dL_areRows_120 : decode cL_areRows 120 = .ok (.imul, 1) := by decide +kernel
theorem dL_areRows_121 : decode cL_areRows 121 = .ok (.iaload, 1) := by decide +kernel
theorem dL_areRows_122 : decode cL_areRows 122 = .ok (.invokestatic 43, 3) := by decide +kernel
theorem dL_areRows_125 : decode cL_areRows 125 = .ok (.aload_n 1, 1) := by decide +kernel
theorem dL_areRows_126 : decode cL_areRows 126 = .ok (.aload_n 2, 1) := by decide +kernel
theorem dL_areRows_127 : decode cL_areRows 127 = .ok (.aload 4, 2) := by decide +kernel
theorem dL_areRows_129 : decode cL_areRows 129 = .ok (.aload_n 2, 1) := by decide +kernel
theorem dL_areRows_130 : decode cL_areRows 130 = .ok (.iconst 2, 1) := by decide +kernel
theorem dL_areRows_131 : decode cL_areRows 131 = .ok (.iload 7, 2) := by decide +kernel
theorem dL_areRows_133 : decode cL_areRows 133 = .ok (.imul, 1) := by decide +kernel
theorem dL_areRows_134 : decode cL_areRows 134 = .ok (.iconst 1, 1) := by decide +kernel
theorem dL_areRows_135 : decode cL_areRows 135 = .ok (.iadd, 1) := by decide +kernel
theorem dL_areRows_136 : decode cL_areRows 136 = .ok (.iaload, 1) := by decide +kernel
theorem dL_areRows_137 : decode cL_areRows 137 = .ok (.invokestatic 43, 3) := by decide +kernel
theorem dL_areRows_140 : decode cL_areRows 140 = .ok (.iand, 1) := by decide +kernel
theorem dL_areRows_141 : decode cL_areRows 141 = .ok (.invokestatic 23, 3) := by decide +kernel
theorem dL_areRows_144 : decode cL_areRows 144 = .ok (.istore 9, 2) := by decide +kernel
theorem dL_areRows_146 : decode cL_areRows 146 = .ok (.aload_n 0, 1) := by decide +kernel
theorem dL_areRows_147 : decode cL_areRows 147 = .ok (.iload 7, 2) := by decide +kernel
theorem dL_areRows_149 : decode cL_areRows 149 = .ok (.iconst 0, 1) := by decide +kernel
theorem dL_areRows_150 : decode cL_areRows 150 = .ok (.invokevirtual 61, 3) := by decide +kernel
theorem dL_areRows_153 : decode cL_areRows 153 = .ok (.aload_n 2, 1) := by decide +kernel
theorem dL_areRows_154 : decode cL_areRows 154 = .ok (.iconst 2, 1) := by decide +kernel
theorem dL_areRows_155 : decode cL_areRows 155 = .ok (.iload 7, 2) := by decide +kernel
theorem dL_areRows_157 : decode cL_areRows 157 = .ok (.imul, 1) := by decide +kernel
theorem dL_areRows_158 : decode cL_areRows 158 = .ok (.iaload, 1) := by decide +kernel
theorem dL_areRows_159 : decode cL_areRows 159 = .ok (.if_icmp .ne 87, 3) := by decide +kernel
theorem dL_areRows_162 : decode cL_areRows 162 = .ok (.aload_n 0, 1) := by decide +kernel
theorem dL_areRows_163 : decode cL_areRows 163 = .ok (.iload 7, 2) := by decide +kernel
theorem dL_areRows_165 : decode cL_areRows 165 = .ok (.iconst 1, 1) := by decide +kernel
theorem dL_areRows_166 : decode cL_areRows 166 = .ok (.invokevirtual 61, 3) := by decide +kernel
theorem dL_areRows_169 : decode cL_areRows 169 = .ok (.aload_n 2, 1) := by decide +kernel
theorem dL_areRows_170 : decode cL_areRows 170 = .ok (.iconst 2, 1) := by decide +kernel
theorem dL_areRows_171 : decode cL_areRows 171 = .ok (.iload 7, 2) := by decide +kernel
theorem dL_areRows_173 : decode cL_areRows 173 = .ok (.imul, 1) := by decide +kernel
theorem dL_areRows_174 : decode cL_areRows 174 = .ok (.iconst 1, 1) := by decide +kernel
theorem dL_areRows_175 : decode cL_areRows 175 = .ok (.iadd, 1) := by decide +kernel
theorem dL_areRows_176 : decode cL_areRows 176 = .ok (.iaload, 1) := by decide +kernel
theorem dL_areRows_177 : decode cL_areRows 177 = .ok (.if_icmp .ne 69, 3) := by decide +kernel
theorem dL_areRows_180 : decode cL_areRows 180 = .ok (.aload_n 0, 1) := by decide +kernel
theorem dL_areRows_181 : decode cL_areRows 181 = .ok (.iload 7, 2) := by decide +kernel
theorem dL_areRows_183 : decode cL_areRows 183 = .ok (.iconst 2, 1) := by decide +kernel
theorem dL_areRows_184 : decode cL_areRows 184 = .ok (.invokevirtual 61, 3) := by decide +kernel
theorem dL_areRows_187 : decode cL_areRows 187 = .ok (.aload_n 1, 1) := by decide +kernel
theorem dL_areRows_188 : decode cL_areRows 188 = .ok (.iconst 2, 1) := by decide +kernel
theorem dL_areRows_189 : decode cL_areRows 189 = .ok (.aload_n 2, 1) := by decide +kernel
theorem dL_areRows_190 : decode cL_areRows 190 = .ok (.iconst 2, 1) := by decide +kernel
theorem dL_areRows_191 : decode cL_areRows 191 = .ok (.iload 7, 2) := by decide +kernel
theorem dL_areRows_193 : decode cL_areRows 193 = .ok (.imul, 1) := by decide +kernel
theorem dL_areRows_194 : decode cL_areRows 194 = .ok (.iaload, 1) := by decide +kernel
theorem dL_areRows_195 : decode cL_areRows 195 = .ok (.imul, 1) := by decide +kernel
theorem dL_areRows_196 : decode cL_areRows 196 = .ok (.iaload, 1) := by decide +kernel
theorem dL_areRows_197 : decode cL_areRows 197 = .ok (.if_icmp .ne 49, 3) := by decide +kernel
theorem dL_areRows_200 : decode cL_areRows 200 = .ok (.aload_n 0, 1) := by decide +kernel
theorem dL_areRows_201 : decode cL_areRows 201 = .ok (.iload 7, 2) := by decide +kernel
theorem dL_areRows_203 : decode cL_areRows 203 = .ok (.iconst 3, 1) := by decide +kernel
theorem dL_areRows_204 : decode cL_areRows 204 = .ok (.invokevirtual 61, 3) := by decide +kernel
theorem dL_areRows_207 : decode cL_areRows 207 = .ok (.aload_n 1, 1) := by decide +kernel
theorem dL_areRows_208 : decode cL_areRows 208 = .ok (.aload_n 2, 1) := by decide +kernel
theorem dL_areRows_209 : decode cL_areRows 209 = .ok (.aload_n 3, 1) := by decide +kernel
theorem dL_areRows_210 : decode cL_areRows 210 = .ok (.iload 7, 2) := by decide +kernel
theorem dL_areRows_212 : decode cL_areRows 212 = .ok (.invokestatic 15, 3) := by decide +kernel
theorem dL_areRows_215 : decode cL_areRows 215 = .ok (.if_icmp .ne 31, 3) := by decide +kernel
theorem dL_areRows_218 : decode cL_areRows 218 = .ok (.aload_n 0, 1) := by decide +kernel
theorem dL_areRows_219 : decode cL_areRows 219 = .ok (.iload 7, 2) := by decide +kernel
theorem dL_areRows_221 : decode cL_areRows 221 = .ok (.iconst 4, 1) := by decide +kernel
theorem dL_areRows_222 : decode cL_areRows 222 = .ok (.invokevirtual 61, 3) := by decide +kernel
theorem dL_areRows_225 : decode cL_areRows 225 = .ok (.iload 8, 2) := by decide +kernel
theorem dL_areRows_227 : decode cL_areRows 227 = .ok (.if_icmp .ne 19, 3) := by decide +kernel
theorem dL_areRows_230 : decode cL_areRows 230 = .ok (.aload_n 0, 1) := by decide +kernel
theorem dL_areRows_231 : decode cL_areRows 231 = .ok (.iload 7, 2) := by decide +kernel
theorem dL_areRows_233 : decode cL_areRows 233 = .ok (.iconst 5, 1) := by decide +kernel
theorem dL_areRows_234 : decode cL_areRows 234 = .ok (.invokevirtual 61, 3) := by decide +kernel
theorem dL_areRows_237 : decode cL_areRows 237 = .ok (.iload 9, 2) := by decide +kernel
theorem dL_areRows_239 : decode cL_areRows 239 = .ok (.if_icmp .ne 7, 3) := by decide +kernel
theorem dL_areRows_242 : decode cL_areRows 242 = .ok (.iconst 1, 1) := by decide +kernel
theorem dL_areRows_243 : decode cL_areRows 243 = .ok (.goto 4, 3) := by decide +kernel
theorem dL_areRows_246 : decode cL_areRows 246 = .ok (.iconst 0, 1) := by decide +kernel
theorem dL_areRows_247 : decode cL_areRows 247 = .ok (.istore 6, 2) := by decide +kernel
theorem dL_areRows_249 : decode cL_areRows 249 = .ok (.iload 5, 2) := by decide +kernel
theorem dL_areRows_251 : decode cL_areRows 251 = .ok (.iload 9, 2) := by decide +kernel
theorem dL_areRows_253 : decode cL_areRows 253 = .ok (.ifCond .le 7, 3) := by decide +kernel
theorem dL_areRows_256 : decode cL_areRows 256 = .ok (.iconst 1, 1) := by decide +kernel
theorem dL_areRows_257 : decode cL_areRows 257 = .ok (.goto 4, 3) := by decide +kernel
theorem dL_areRows_260 : decode cL_areRows 260 = .ok (.iconst 0, 1) := by decide +kernel
theorem dL_areRows_261 : decode cL_areRows 261 = .ok (.iadd, 1) := by decide +kernel
theorem dL_areRows_262 : decode cL_areRows 262 = .ok (.istore 5, 2) := by decide +kernel
theorem dL_areRows_264 : decode cL_areRows 264 = .ok (.iinc 7 1, 3) := by decide +kernel
theorem dL_areRows_267 : decode cL_areRows 267 = .ok (.goto (-213), 3) := by decide +kernel
theorem dL_areRows_270 : decode cL_areRows 270 = .ok (.iconst 0, 1) := by decide +kernel
theorem dL_areRows_271 : decode cL_areRows 271 = .ok (.istore 7, 2) := by decide +kernel
theorem dL_areRows_273 : decode cL_areRows 273 = .ok (.iload 7, 2) := by decide +kernel
theorem dL_areRows_275 : decode cL_areRows 275 = .ok (.iconst 4, 1) := by decide +kernel
theorem dL_areRows_276 : decode cL_areRows 276 = .ok (.if_icmp .ge 126, 3) := by decide +kernel
theorem dL_areRows_279 : decode cL_areRows 279 = .ok (.iload 6, 2) := by decide +kernel
theorem dL_areRows_281 : decode cL_areRows 281 = .ok (.ifCond .eq 47, 3) := by decide +kernel
theorem dL_areRows_284 : decode cL_areRows 284 = .ok (.aload_n 0, 1) := by decide +kernel
theorem dL_areRows_285 : decode cL_areRows 285 = .ok (.iload 7, 2) := by decide +kernel
theorem dL_areRows_287 : decode cL_areRows 287 = .ok (.iconst 0, 1) := by decide +kernel
theorem dL_areRows_288 : decode cL_areRows 288 = .ok (.invokevirtual 64, 3) := by decide +kernel
theorem dL_areRows_291 : decode cL_areRows 291 = .ok (.aload_n 1, 1) := by decide +kernel
theorem dL_areRows_292 : decode cL_areRows 292 = .ok (.aload_n 2, 1) := by decide +kernel
theorem dL_areRows_293 : decode cL_areRows 293 = .ok (.aload_n 3, 1) := by decide +kernel
theorem dL_areRows_294 : decode cL_areRows 294 = .ok (.aload 4, 2) := by decide +kernel
theorem dL_areRows_296 : decode cL_areRows 296 = .ok (.iload 7, 2) := by decide +kernel
theorem dL_areRows_298 : decode cL_areRows 298 = .ok (.invokestatic 19, 3) := by decide +kernel
theorem dL_areRows_301 : decode cL_areRows 301 = .ok (.if_icmp .ne 27, 3) := by decide +kernel
theorem dL_areRows_304 : decode cL_areRows 304 = .ok (.aload_n 0, 1) := by decide +kernel
theorem dL_areRows_305 : decode cL_areRows 305 = .ok (.iload 7, 2) := by decide +kernel
theorem dL_areRows_307 : decode cL_areRows 307 = .ok (.iconst 1, 1) := by decide +kernel
theorem dL_areRows_308 : decode cL_areRows 308 = .ok (.invokevirtual 64, 3) := by decide +kernel
theorem dL_areRows_311 : decode cL_areRows 311 = .ok (.aload_n 1, 1) := by decide +kernel
theorem dL_areRows_312 : decode cL_areRows 312 = .ok (.aload_n 2, 1) := by decide +kernel
theorem dL_areRows_313 : decode cL_areRows 313 = .ok (.aload_n 3, 1) := by decide +kernel
theorem dL_areRows_314 : decode cL_areRows 314 = .ok (.aload 4, 2) := by decide +kernel
theorem dL_areRows_316 : decode cL_areRows 316 = .ok (.iload 7, 2) := by decide +kernel
theorem dL_areRows_318 : decode cL_areRows 318 = .ok (.invokestatic 19, 3) := by decide +kernel
theorem dL_areRows_321 : decode cL_areRows 321 = .ok (.if_icmp .ne 7, 3) := by decide +kernel
theorem dL_areRows_324 : decode cL_areRows 324 = .ok (.iconst 1, 1) := by decide +kernel
theorem dL_areRows_325 : decode cL_areRows 325 = .ok (.goto 4, 3) := by decide +kernel
theorem dL_areRows_328 : decode cL_areRows 328 = .ok (.iconst 0, 1) := by decide +kernel
theorem dL_areRows_329 : decode cL_areRows 329 = .ok (.istore 6, 2) := by decide +kernel
theorem dL_areRows_331 : decode cL_areRows 331 = .ok (.iconst 0, 1) := by decide +kernel
theorem dL_areRows_332 : decode cL_areRows 332 = .ok (.istore 8, 2) := by decide +kernel
theorem dL_areRows_334 : decode cL_areRows 334 = .ok (.iload 8, 2) := by decide +kernel
theorem dL_areRows_336 : decode cL_areRows 336 = .ok (.bipush 7, 2) := by decide +kernel
theorem dL_areRows_338 : decode cL_areRows 338 = .ok (.if_icmp .ge 58, 3) := by decide +kernel
theorem dL_areRows_341 : decode cL_areRows 341 = .ok (.iload 6, 2) := by decide +kernel
theorem dL_areRows_343 : decode cL_areRows 343 = .ok (.ifCond .eq 44, 3) := by decide +kernel
theorem dL_areRows_346 : decode cL_areRows 346 = .ok (.aload_n 0, 1) := by decide +kernel
theorem dL_areRows_347 : decode cL_areRows 347 = .ok (.iload 7, 2) := by decide +kernel
theorem dL_areRows_349 : decode cL_areRows 349 = .ok (.iload 8, 2) := by decide +kernel
theorem dL_areRows_351 : decode cL_areRows 351 = .ok (.invokevirtual 67, 3) := by decide +kernel
theorem dL_areRows_354 : decode cL_areRows 354 = .ok (.iload 8, 2) := by decide +kernel
theorem dL_areRows_356 : decode cL_areRows 356 = .ok (.aload 4, 2) := by decide +kernel
theorem dL_areRows_358 : decode cL_areRows 358 = .ok (.iconst 3, 1) := by decide +kernel
theorem dL_areRows_359 : decode cL_areRows 359 = .ok (.iload 7, 2) := by decide +kernel
theorem dL_areRows_361 : decode cL_areRows 361 = .ok (.iadd, 1) := by decide +kernel
theorem dL_areRows_362 : decode cL_areRows 362 = .ok (.iaload, 1) := by decide +kernel
theorem dL_areRows_363 : decode cL_areRows 363 = .ok (.if_icmp .ge 16, 3) := by decide +kernel
theorem dL_areRows_366 : decode cL_areRows 366 = .ok (.aload_n 3, 1) := by decide +kernel
theorem dL_areRows_367 : decode cL_areRows 367 = .ok (.bipush 6, 2) := by decide +kernel
theorem dL_areRows_369 : decode cL_areRows 369 = .ok (.iload 7, 2) := by decide +kernel
theorem dL_areRows_371 : decode cL_areRows 371 = .ok (.imul, 1) := by decide +kernel
theorem dL_areRows_372 : decode cL_areRows 372 = .ok (.iload 8, 2) := by decide +kernel
theorem dL_areRows_374 : decode cL_areRows 374 = .ok (.iadd, 1) := by decide +kernel
theorem dL_areRows_375 : decode cL_areRows 375 = .ok (.iaload, 1) := by decide +kernel
theorem dL_areRows_376 : decode cL_areRows 376 = .ok (.goto 4, 3) := by decide +kernel
theorem dL_areRows_379 : decode cL_areRows 379 = .ok (.iconst (-1), 1) := by decide +kernel
theorem dL_areRows_380 : decode cL_areRows 380 = .ok (.if_icmp .ne 7, 3) := by decide +kernel
theorem dL_areRows_383 : decode cL_areRows 383 = .ok (.iconst 1, 1) := by decide +kernel
theorem dL_areRows_384 : decode cL_areRows 384 = .ok (.goto 4, 3) := by decide +kernel
theorem dL_areRows_387 : decode cL_areRows 387 = .ok (.iconst 0, 1) := by decide +kernel
theorem dL_areRows_388 : decode cL_areRows 388 = .ok (.istore 6, 2) := by decide +kernel
theorem dL_areRows_390 : decode cL_areRows 390 = .ok (.iinc 8 1, 3) := by decide +kernel
theorem dL_areRows_393 : decode cL_areRows 393 = .ok (.goto (-59), 3) := by decide +kernel
theorem dL_areRows_396 : decode cL_areRows 396 = .ok (.iinc 7 1, 3) := by decide +kernel
theorem dL_areRows_399 : decode cL_areRows 399 = .ok (.goto (-126), 3) := by decide +kernel
theorem dL_areRows_402 : decode cL_areRows 402 = .ok (.iload 6, 2) := by decide +kernel
theorem dL_areRows_404 : decode cL_areRows 404 = .ok (.ifCond .eq 18, 3) := by decide +kernel
theorem dL_areRows_407 : decode cL_areRows 407 = .ok (.aload_n 0, 1) := by decide +kernel
theorem dL_areRows_408 : decode cL_areRows 408 = .ok (.bipush 6, 2) := by decide +kernel
theorem dL_areRows_410 : decode cL_areRows 410 = .ok (.invokevirtual 38, 3) := by decide +kernel
theorem dL_areRows_413 : decode cL_areRows 413 = .ok (.iload 5, 2) := by decide +kernel
theorem dL_areRows_415 : decode cL_areRows 415 = .ok (.if_icmp .ne 7, 3) := by decide +kernel
theorem dL_areRows_418 : decode cL_areRows 418 = .ok (.iconst 1, 1) := by decide +kernel
theorem dL_areRows_419 : decode cL_areRows 419 = .ok (.goto 4, 3) := by decide +kernel
theorem dL_areRows_422 : decode cL_areRows 422 = .ok (.iconst 0, 1) := by decide +kernel
theorem dL_areRows_423 : decode cL_areRows 423 = .ok (.ireturn, 1) := by decide +kernel
set_option maxRecDepth 20000 in
theorem ggL_isLeast_L_copy : GoodIn wsL_isLeast wsL_copy := goodIn_r _ [5] (by decide +kernel) (by decide +kernel)
set_option maxRecDepth 20000 in
theorem gL_isLeast_L_copy : GoodIn wsL_isLeast (va_wsS RL 27 yL_copy wsL_copy) := goodIn_app (goodIn_of _ (by decide +kernel)) ggL_isLeast_L_copy
set_option maxRecDepth 20000 in
theorem ggL_isLeast_L_best : GoodIn wsL_isLeast wsL_best := goodIn_r _ [8, 1, 2, 3, 4, 5, 9, 10, 11, 12, 13, 14, 15, 16, 17, 18, 19, 20, 21, 22, 23, 24, 25, 26] (by decide +kernel) (by decide +kernel)
set_option maxRecDepth 20000 in
theorem gL_isLeast_L_best : GoodIn wsL_isLeast (va_wsS RL 70 yL_best wsL_best) := goodIn_app (goodIn_of _ (by decide +kernel)) ggL_isLeast_L_best
set_option maxRecDepth 20000 in
theorem ggL_isLeast_L_lays : GoodIn wsL_isLeast wsL_lays := goodIn_r _ [11, 12, 13, 4, 14] (by decide +kernel) (by decide +kernel)
set_option maxRecDepth 20000 in
theorem gL_isLeast_L_lays : GoodIn wsL_isLeast (va_wsS RL 31 yL_lays wsL_lays) := goodIn_app (goodIn_of _ (by decide +kernel)) ggL_isLeast_L_lays
set_option maxRecDepth 20000 in
theorem ggL_isLeast_L_ofTwo : GoodIn wsL_isLeast wsL_ofTwo := goodIn_r _ [17, 18, 19, 4, 20, 21, 22, 23, 24, 25, 26] (by decide +kernel) (by decide +kernel)
set_option maxRecDepth 20000 in
theorem gL_isLeast_L_ofTwo : GoodIn wsL_isLeast (va_wsS RL 35 yL_ofTwo wsL_ofTwo) := goodIn_app (goodIn_of _ (by decide +kernel)) ggL_isLeast_L_ofTwo
set_option maxRecDepth 20000 in
theorem ggL_isLeast_L_all : GoodIn wsL_isLeast wsL_all := goodIn_r _ [29, 18, 19, 4, 20, 21, 22, 23, 24, 25, 26] (by decide +kernel) (by decide +kernel)
set_option maxRecDepth 20000 in
theorem gL_isLeast_L_all : GoodIn wsL_isLeast (va_wsS RL 57 yL_all wsL_all) := goodIn_app (goodIn_of _ (by decide +kernel)) ggL_isLeast_L_all
set_option maxRecDepth 20000 in
theorem ggL_isLeast_X7_least : GoodIn wsL_isLeast wsX7_least := goodIn_ca (goodIn_ca (goodIn_r _ [34, 35, 36, 37, 38, 39, 40, 41, 42, 33, 43, 44, 45, 46, 47, 48, 49, 50, 51, 52, 53, 54, 55, 56, 57, 58, 59, 60, 61, 62, 63, 64, 65, 66, 67, 68, 69, 70, 71, 72, 73, 74, 75, 76, 77, 78, 79, 80, 81, 82, 83, 84, 85, 86, 87, 88, 89, 90, 91, 92, 93, 94, 95, 96, 97, 98, 99, 100, 101, 102, 103, 104, 105, 106, 107, 108, 109, 110, 111, 112, 113, 114, 115, 116, 117, 118, 119, 120, 121, 122, 123, 124, 125, 126, 127, 128, 129, 130, 131, 132, 133, 134, 135, 136, 137, 138, 139, 140, 141, 142, 143, 144, 145, 146, 147, 148, 149, 150, 151, 152, 153, 154, 155, 156, 157, 158, 159, 160, 161, 162, 163, 164, 165, 166, 167, 168, 169, 170, 171, 172, 173, 174, 175, 176, 177, 178, 179, 241, 242, 243, 244, 245, 246, 247, 248, 249, 250, 251, 252, 253, 254, 255, 256, 257, 258, 259, 260, 261, 262, 263, 264, 265, 266, 267, 268, 269, 270, 271] (by decide +kernel) (by decide +kernel)) (goodIn_sub (fun _ h => List.mem_cons_of_mem _ (List.mem_append_left _ (List.mem_append_right _ h))) (by decide +kernel))) (goodIn_sub (fun _ h => List.mem_cons_of_mem _ (List.mem_append_right _ h)) (by decide +kernel))
set_option maxRecDepth 20000 in
theorem gL_isLeast_X7_least : GoodIn wsL_isLeast (wsV RL 73 RX7 yX7_least wsX7_least) := goodIn_app (goodIn_of _ (by decide +kernel)) ggL_isLeast_X7_least
set_option maxRecDepth 20000 in
theorem ggL_isLeast_X7_bestSwap : GoodIn wsL_isLeast wsX7_bestSwap := goodIn_r _ [183, 40, 184, 185, 186, 33, 187, 188, 189, 190, 191, 192, 193, 194, 195, 196, 197, 107, 108, 58, 109, 110, 198, 112, 113, 114, 115, 116, 199, 76, 77, 78, 79, 80, 81, 82, 83, 66, 67, 68, 69, 60, 84, 85, 86, 87, 88, 89, 90, 91, 92, 93, 94, 95, 96, 97, 98, 99, 200, 201, 202, 203, 204, 205, 206, 207, 208, 209, 210, 211, 212, 213, 241, 242, 243, 244, 245, 246, 247, 248, 272, 273, 274, 262, 263, 264, 265, 266, 267, 268, 269, 270, 271] (by decide +kernel) (by decide +kernel)
set_option maxRecDepth 20000 in
theorem gL_isLeast_X7_bestSwap : GoodIn wsL_isLeast (wsV RL 76 RX7 yX7_bestSwap wsX7_bestSwap) := goodIn_app (goodIn_of _ (by decide +kernel)) ggL_isLeast_X7_bestSwap
