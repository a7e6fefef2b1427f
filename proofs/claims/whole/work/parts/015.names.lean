theorem dX3_exchange_19 : decode cX3_exchange 19 = .ok (.aload_n 0, 1) := by decide +kernel
theorem dX3_exchange_20 : decode cX3_exchange 20 = .ok (.getfield 9, 3) := by decide +kernel
theorem dX3_exchange_23 : decode cX3_exchange 23 = .ok (.iload_n 2, 1) := by decide +kernel
theorem dX3_exchange_24 : decode cX3_exchange 24 = .ok (.iload_n 3, 1) := by decide +kernel
theorem dX3_exchange_25 : decode cX3_exchange 25 = .ok (.iastore, 1) := by decide +kernel
theorem dX3_exchange_26 : decode cX3_exchange 26 = .ok (.return_, 1) := by decide +kernel
set_option maxRecDepth 20000 in
theorem ggX3_crossingsOfFirst_J6_bitCount_0f7a4 : GoodIn wsX3_crossingsOfFirst wsJ6_bitCount_0f7a4 := goodIn_r _ [7, 8, 9, 10] (by decide +kernel) (by decide +kernel)
set_option maxRecDepth 20000 in
theorem gX3_crossingsOfFirst_J6_bitCount_0f7a4 : GoodIn wsX3_crossingsOfFirst (va_wsS RX3 127 yJ6_bitCount_0f7a4 wsJ6_bitCount_0f7a4) := goodIn_app (goodIn_of _ (by decide +kernel)) ggX3_crossingsOfFirst_J6_bitCount_0f7a4
set_option maxRecDepth 20000 in
theorem ggX3_crossingsOfFirst_X3_crossingsFrom : GoodIn wsX3_crossingsOfFirst wsX3_crossingsFrom := goodIn_r _ [15, 16, 17, 18, 19, 3, 20, 21, 22, 23, 24, 25, 26, 27, 28, 29, 30, 31, 32, 33] (by decide +kernel) (by decide +kernel)
set_option maxRecDepth 20000 in
theorem gX3_crossingsOfFirst_X3_crossingsFrom : GoodIn wsX3_crossingsOfFirst (wsV RX3 132 RX3 yX3_crossingsFrom wsX3_crossingsFrom) := goodIn_app (goodIn_of _ (by decide +kernel)) ggX3_crossingsOfFirst_X3_crossingsFrom
theorem dX3_crossingsOfFirst_0 : decode cX3_crossingsOfFirst 0 = .ok (.iconst 0, 1) := by decide +kernel
theorem dX3_crossingsOfFirst_1 : decode cX3_crossingsOfFirst 1 = .ok (.istore_n 2, 1) := by decide +kernel
theorem dX3_crossingsOfFirst_2 : decode cX3_crossingsOfFirst 2 = .ok (.iconst 0, 1) := by decide +kernel
theorem dX3_crossingsOfFirst_3 : decode cX3_crossingsOfFirst 3 = .ok (.istore_n 3, 1) := by decide +kernel
theorem dX3_crossingsOfFirst_4 : decode cX3_crossingsOfFirst 4 = .ok (.iconst 0, 1) := by decide +kernel
theorem dX3_crossingsOfFirst_5 : decode cX3_crossingsOfFirst 5 = .ok (.istore 4, 2) := by decide +kernel
theorem dX3_crossingsOfFirst_7 : decode cX3_crossingsOfFirst 7 = .ok (.iload 4, 2) := by decide +kernel
theorem dX3_crossingsOfFirst_9 : decode cX3_crossingsOfFirst 9 = .ok (.iload_n 1, 1) := by decide +kernel
theorem dX3_crossingsOfFirst_10 : decode cX3_crossingsOfFirst 10 = .ok (.if_icmp .ge 49, 3) := by decide +kernel
theorem dX3_crossingsOfFirst_13 : decode cX3_crossingsOfFirst 13 = .ok (.aload_n 0, 1) := by decide +kernel
theorem dX3_crossingsOfFirst_14 : decode cX3_crossingsOfFirst 14 = .ok (.getfield 9, 3) := by decide +kernel
theorem dX3_crossingsOfFirst_17 : decode cX3_crossingsOfFirst 17 = .ok (.iload 4, 2) := by decide +kernel
theorem dX3_crossingsOfFirst_19 : decode cX3_crossingsOfFirst 19 = .ok (.iaload, 1) := by decide +kernel
theorem dX3_crossingsOfFirst_20 : decode cX3_crossingsOfFirst 20 = .ok (.istore 5, 2) := by decide +kernel
theorem dX3_crossingsOfFirst_22 : decode cX3_crossingsOfFirst 22 = .ok (.iload_n 2, 1) := by decide +kernel
theorem dX3_crossingsOfFirst_23 : decode cX3_crossingsOfFirst 23 = .ok (.iload_n 3, 1) := by decide +kernel
theorem dX3_crossingsOfFirst_24 : decode cX3_crossingsOfFirst 24 = .ok (.aload_n 0, 1) := by decide +kernel
theorem dX3_crossingsOfFirst_25 : decode cX3_crossingsOfFirst 25 = .ok (.getfield 21, 3) := by decide +kernel
theorem dX3_crossingsOfFirst_28 : decode cX3_crossingsOfFirst 28 = .ok (.iload 5, 2) := by decide +kernel
theorem dX3_crossingsOfFirst_30 : decode cX3_crossingsOfFirst 30 = .ok (.iaload, 1) := by decide +kernel
theorem dX3_crossingsOfFirst_31 : decode cX3_crossingsOfFirst 31 = .ok (.iand, 1) := by decide +kernel
theorem dX3_crossingsOfFirst_32 : decode cX3_crossingsOfFirst 32 = .ok (.invokestatic 127, 3) := by decide +kernel
theorem dX3_crossingsOfFirst_35 : decode cX3_crossingsOfFirst 35 = .ok (.iadd, 1) := by decide +kernel
theorem dX3_crossingsOfFirst_36 : decode cX3_crossingsOfFirst 36 = .ok (.istore_n 2, 1) := by decide +kernel
theorem dX3_crossingsOfFirst_37 : decode cX3_crossingsOfFirst 37 = .ok (.iload_n 3, 1) := by decide +kernel
theorem dX3_crossingsOfFirst_38 : decode cX3_crossingsOfFirst 38 = .ok (.iconst 1, 1) := by decide +kernel
theorem dX3_crossingsOfFirst_39 : decode cX3_crossingsOfFirst 39 = .ok (.iload 5, 2) := by decide +kernel
theorem dX3_crossingsOfFirst_41 : decode cX3_crossingsOfFirst 41 = .ok (.ishl, 1) := by decide +kernel
theorem dX3_crossingsOfFirst_42 : decode cX3_crossingsOfFirst 42 = .ok (.ior, 1) := by decide +kernel
theorem dX3_crossingsOfFirst_43 : decode cX3_crossingsOfFirst 43 = .ok (.istore_n 3, 1) := by decide +kernel
theorem dX3_crossingsOfFirst_44 : decode cX3_crossingsOfFirst 44 = .ok (.aload_n 0, 1) := by decide +kernel
theorem dX3_crossingsOfFirst_45 : decode cX3_crossingsOfFirst 45 = .ok (.getfield 18, 3) := by decide +kernel
theorem dX3_crossingsOfFirst_48 : decode cX3_crossingsOfFirst 48 = .ok (.iload 5, 2) := by decide +kernel
theorem dX3_crossingsOfFirst_50 : decode cX3_crossingsOfFirst 50 = .ok (.iload 4, 2) := by decide +kernel
theorem dX3_crossingsOfFirst_52 : decode cX3_crossingsOfFirst 52 = .ok (.iastore, 1) := by decide +kernel
theorem dX3_crossingsOfFirst_53 : decode cX3_crossingsOfFirst 53 = .ok (.iinc 4 1, 3) := by decide +kernel
theorem dX3_crossingsOfFirst_56 : decode cX3_crossingsOfFirst 56 = .ok (.goto (-49), 3) := by decide +kernel
theorem dX3_crossingsOfFirst_59 : decode cX3_crossingsOfFirst 59 = .ok (.iload_n 2, 1) := by decide +kernel
theorem dX3_crossingsOfFirst_60 : decode cX3_crossingsOfFirst 60 = .ok (.aload_n 0, 1) := by decide +kernel
theorem dX3_crossingsOfFirst_61 : decode cX3_crossingsOfFirst 61 = .ok (.iload_n 3, 1) := by decide +kernel
theorem dX3_crossingsOfFirst_62 : decode cX3_crossingsOfFirst 62 = .ok (.invokevirtual 132, 3) := by decide +kernel
theorem dX3_crossingsOfFirst_65 : decode cX3_crossingsOfFirst 65 = .ok (.iadd, 1) := by decide +kernel
theorem dX3_crossingsOfFirst_66 : decode cX3_crossingsOfFirst 66 = .ok (.ireturn, 1) := by decide +kernel
theorem dX3_crossingsFrom_0 : decode cX3_crossingsFrom 0 = .ok (.iconst 0, 1) := by decide +kernel
theorem dX3_crossingsFrom_1 : decode cX3_crossingsFrom 1 = .ok (.istore_n 2, 1) := by decide +kernel
theorem dX3_crossingsFrom_2 : decode cX3_crossingsFrom 2 = .ok (.iconst 0, 1) := by decide +kernel
theorem dX3_crossingsFrom_3 : decode cX3_crossingsFrom 3 = .ok (.istore_n 3, 1) := by decide +kernel
theorem dX3_crossingsFrom_4 : decode cX3_crossingsFrom 4 = .ok (.iload_n 3, 1) := by decide +kernel
theorem dX3_crossingsFrom_5 : decode cX3_crossingsFrom 5 = .ok (.aload_n 0, 1) := by decide +kernel
theorem dX3_crossingsFrom_6 : decode cX3_crossingsFrom 6 = .ok (.getfield 79, 3) := by decide +kernel
theorem dX3_crossingsFrom_9 : decode cX3_crossingsFrom 9 = .ok (.if_icmp .ge 168, 3) := by decide +kernel
theorem dX3_crossingsFrom_12 : decode cX3_crossingsFrom 12 = .ok (.iconst 1, 1) := by decide +kernel
theorem dX3_crossingsFrom_13 : decode cX3_crossingsFrom 13 = .ok (.aload_n 0, 1) := by decide +kernel
theorem dX3_crossingsFrom_14 : decode cX3_crossingsFrom 14 = .ok (.getfield 27, 3) := by decide +kernel
theorem dX3_crossingsFrom_17 : decode cX3_crossingsFrom 17 = .ok (.iload_n 3, 1) := by decide +kernel
theorem dX3_crossingsFrom_18 : decode cX3_crossingsFrom 18 = .ok (.iaload, 1) := by decide +kernel
theorem dX3_crossingsFrom_19 : decode cX3_crossingsFrom 19 = .ok (.ishl, 1) := by decide +kernel
theorem dX3_crossingsFrom_20 : decode cX3_crossingsFrom 20 = .ok (.iconst 1, 1) := by decide +kernel
theorem dX3_crossingsFrom_21 : decode cX3_crossingsFrom 21 = .ok (.aload_n 0, 1) := by decide +kernel
theorem dX3_crossingsFrom_22 : decode cX3_crossingsFrom 22 = .ok (.getfield 30, 3) := by decide +kernel
theorem dX3_crossingsFrom_25 : decode cX3_crossingsFrom 25 = .ok (.iload_n 3, 1) := by decide +kernel
theorem dX3_crossingsFrom_26 : decode cX3_crossingsFrom 26 = .ok (.iaload, 1) := by decide +kernel
theorem dX3_crossingsFrom_27 : decode cX3_crossingsFrom 27 = .ok (.ishl, 1) := by decide +kernel
theorem dX3_crossingsFrom_28 : decode cX3_crossingsFrom 28 = .ok (.ior, 1) := by decide +kernel
theorem dX3_crossingsFrom_29 : decode cX3_crossingsFrom 29 = .ok (.istore 4, 2) := by decide +kernel
theorem dX3_crossingsFrom_31 : decode cX3_crossingsFrom 31 = .ok (.aload_n 0, 1) := by decide +kernel
theorem dX3_crossingsFrom_32 : decode cX3_crossingsFrom 32 = .ok (.getfield 33, 3) := by decide +kernel
theorem dX3_crossingsFrom_35 : decode cX3_crossingsFrom 35 = .ok (.iload_n 3, 1) := by decide +kernel
theorem dX3_crossingsFrom_36 : decode cX3_crossingsFrom 36 = .ok (.iload_n 1, 1) := by decide +kernel
theorem dX3_crossingsFrom_37 : decode cX3_crossingsFrom 37 = .ok (.iload 4, 2) := by decide +kernel
theorem dX3_crossingsFrom_39 : decode cX3_crossingsFrom 39 = .ok (.iand, 1) := by decide +kernel
theorem dX3_crossingsFrom_40 : decode cX3_crossingsFrom 40 = .ok (.iload 4, 2) := by decide +kernel
theorem dX3_crossingsFrom_42 : decode cX3_crossingsFrom 42 = .ok (.if_icmp .ne 29, 3) := by decide +kernel
theorem dX3_crossingsFrom_45 : decode cX3_crossingsFrom 45 = .ok (.aload_n 0, 1) := by decide +kernel
theorem dX3_crossingsFrom_46 : decode cX3_crossingsFrom 46 = .ok (.getfield 18, 3) := by decide +kernel
theorem dX3_crossingsFrom_49 : decode cX3_crossingsFrom 49 = .ok (.aload_n 0, 1) := by decide +kernel
theorem dX3_crossingsFrom_50 : decode cX3_crossingsFrom 50 = .ok (.getfield 27, 3) := by decide +kernel
theorem dX3_crossingsFrom_53 : decode cX3_crossingsFrom 53 = .ok (.iload_n 3, 1) := by decide +kernel
theorem dX3_crossingsFrom_54 : decode cX3_crossingsFrom 54 = .ok (.iaload, 1) := by decide +kernel
theorem dX3_crossingsFrom_55 : decode cX3_crossingsFrom 55 = .ok (.iaload, 1) := by decide +kernel
theorem dX3_crossingsFrom_56 : decode cX3_crossingsFrom 56 = .ok (.aload_n 0, 1) := by decide +kernel
theorem dX3_crossingsFrom_57 : decode cX3_crossingsFrom 57 = .ok (.getfield 18, 3) := by decide +kernel
theorem dX3_crossingsFrom_60 : decode cX3_crossingsFrom 60 = .ok (.aload_n 0, 1) := by decide +kernel
theorem dX3_crossingsFrom_61 : decode cX3_crossingsFrom 61 = .ok (.getfield 30, 3) := by decide +kernel
theorem dX3_crossingsFrom_64 : decode cX3_crossingsFrom 64 = .ok (.iload_n 3, 1) := by decide +kernel
theorem dX3_crossingsFrom_65 : decode cX3_crossingsFrom 65 = .ok (.iaload, 1) := by decide +kernel
theorem dX3_crossingsFrom_66 : decode cX3_crossingsFrom 66 = .ok (.iaload, 1) := by decide +kernel
theorem dX3_crossingsFrom_67 : decode cX3_crossingsFrom 67 = .ok (.iadd, 1) := by decide +kernel
theorem dX3_crossingsFrom_68 : decode cX3_crossingsFrom 68 = .ok (.goto 4, 3) := by decide +kernel
theorem dX3_crossingsFrom_71 : decode cX3_crossingsFrom 71 = .ok (.iconst (-1), 1) := by decide +kernel
theorem dX3_crossingsFrom_72 : decode cX3_crossingsFrom 72 = .ok (.iastore, 1) := by decide +kernel
theorem dX3_crossingsFrom_73 : decode cX3_crossingsFrom 73 = .ok (.iconst 0, 1) := by decide +kernel
theorem dX3_crossingsFrom_74 : decode cX3_crossingsFrom 74 = .ok (.istore 5, 2) := by decide +kernel
theorem dX3_crossingsFrom_76 : decode cX3_crossingsFrom 76 = .ok (.iload 5, 2) := by decide +kernel
theorem dX3_crossingsFrom_78 : decode cX3_crossingsFrom 78 = .ok (.iload_n 3, 1) := by decide +kernel
theorem dX3_crossingsFrom_79 : decode cX3_crossingsFrom 79 = .ok (.if_icmp .ge 92, 3) := by decide +kernel
theorem dX3_crossingsFrom_82 : decode cX3_crossingsFrom 82 = .ok (.aload_n 0, 1) := by decide +kernel
theorem dX3_crossingsFrom_83 : decode cX3_crossingsFrom 83 = .ok (.getfield 33, 3) := by decide +kernel
theorem dX3_crossingsFrom_86 : decode cX3_crossingsFrom 86 = .ok (.iload_n 3, 1) := by decide +kernel
theorem dX3_crossingsFrom_87 : decode cX3_crossingsFrom 87 = .ok (.iaload, 1) := by decide +kernel
theorem dX3_crossingsFrom_88 : decode cX3_crossingsFrom 88 = .ok (.iconst (-1), 1) := by decide +kernel
theorem dX3_crossingsFrom_89 : decode cX3_crossingsFrom 89 = .ok (.if_icmp .eq 82, 3) := by decide +kernel
theorem dX3_crossingsFrom_92 : decode cX3_crossingsFrom 92 = .ok (.aload_n 0, 1) := by decide +kernel
theorem dX3_crossingsFrom_93 : decode cX3_crossingsFrom 93 = .ok (.getfield 33, 3) := by decide +kernel
theorem dX3_crossingsFrom_96 : decode cX3_crossingsFrom 96 = .ok (.iload 5, 2) := by decide +kernel
theorem dX3_crossingsFrom_98 : decode cX3_crossingsFrom 98 = .ok (.iaload, 1) := by decide +kernel
theorem dX3_crossingsFrom_99 : decode cX3_crossingsFrom 99 = .ok (.iconst (-1), 1) := by decide +kernel
theorem dX3_crossingsFrom_100 : decode cX3_crossingsFrom 100 = .ok (.if_icmp .ne 6, 3) := by decide +kernel
theorem dX3_crossingsFrom_103 : decode cX3_crossingsFrom 103 = .ok (.goto 62, 3) := by decide +kernel
theorem dX3_crossingsFrom_106 : decode cX3_crossingsFrom 106 = .ok (.aload_n 0, 1) := by decide +kernel
theorem dX3_crossingsFrom_107 : decode cX3_crossingsFrom 107 = .ok (.getfield 33, 3) := by decide +kernel
theorem dX3_crossingsFrom_110 : decode cX3_crossingsFrom 110 = .ok (.iload 5, 2) := by decide +kernel
theorem dX3_crossingsFrom_112 : decode cX3_crossingsFrom 112 = .ok (.iaload, 1) := by decide +kernel
theorem dX3_crossingsFrom_113 : decode cX3_crossingsFrom 113 = .ok (.aload_n 0, 1) := by decide +kernel
theorem dX3_crossingsFrom_114 : decode cX3_crossingsFrom 114 = .ok (.getfield 33, 3) := by decide +kernel
theorem dX3_crossingsFrom_117 : decode cX3_crossingsFrom 117 = .ok (.iload_n 3, 1) := by decide +kernel
theorem dX3_crossingsFrom_118 : decode cX3_crossingsFrom 118 = .ok (.iaload, 1) := by decide +kernel
theorem dX3_crossingsFrom_119 : decode cX3_crossingsFrom 119 = .ok (.if_icmp .ge 18, 3) := by decide +kernel
theorem dX3_crossingsFrom_122 : decode cX3_crossingsFrom 122 = .ok (.iload_n 2, 1) := by decide +kernel
theorem dX3_crossingsFrom_123 : decode cX3_crossingsFrom 123 = .ok (.aload_n 0, 1) := by decide +kernel
theorem dX3_crossingsFrom_124 : decode cX3_crossingsFrom 124 = .ok (.getfield 41, 3) := by decide +kernel
theorem dX3_crossingsFrom_127 : decode cX3_crossingsFrom 127 = .ok (.iload 5, 2) := by decide +kernel
theorem dX3_crossingsFrom_129 : decode cX3_crossingsFrom 129 = .ok (.aaload, 1) := by decide +kernel
theorem dX3_crossingsFrom_130 : decode cX3_crossingsFrom 130 = .ok (.iload_n 3, 1) := by decide +kernel
theorem dX3_crossingsFrom_131 : decode cX3_crossingsFrom 131 = .ok (.iaload, 1) := by decide +kernel
theorem dX3_crossingsFrom_132 : decode cX3_crossingsFrom 132 = .ok (.iadd, 1) := by decide +kernel
theorem dX3_crossingsFrom_133 : decode cX3_crossingsFrom 133 = .ok (.istore_n 2, 1) := by decide +kernel
theorem dX3_crossingsFrom_134 : decode cX3_crossingsFrom 134 = .ok (.goto 31, 3) := by decide +kernel
theorem dX3_crossingsFrom_137 : decode cX3_crossingsFrom 137 = .ok (.aload_n 0, 1) := by decide +kernel
theorem dX3_crossingsFrom_138 : decode cX3_crossingsFrom 138 = .ok (.getfield 33, 3) := by decide +kernel
theorem dX3_crossingsFrom_141 : decode cX3_crossingsFrom 141 = .ok (.iload_n 3, 1) := by decide +kernel
theorem dX3_crossingsFrom_142 : decode cX3_crossingsFrom 142 = .ok (.iaload, 1) := by decide +kernel
theorem dX3_crossingsFrom_143 : decode cX3_crossingsFrom 143 = .ok (.aload_n 0, 1) := by decide +kernel
theorem dX3_crossingsFrom_144 : decode cX3_crossingsFrom 144 = .ok (.getfield 33, 3) := by decide +kernel
theorem dX3_crossingsFrom_147 : decode cX3_crossingsFrom 147 = .ok (.iload 5, 2) := by decide +kernel
theorem dX3_crossingsFrom_149 : decode cX3_crossingsFrom 149 = .ok (.iaload, 1) := by decide +kernel
theorem dX3_crossingsFrom_150 : decode cX3_crossingsFrom 150 = .ok (.if_icmp .ge 15, 3) := by decide +kernel
theorem dX3_crossingsFrom_153 : decode cX3_crossingsFrom 153 = .ok (.iload_n 2, 1) := by decide +kernel
theorem dX3_crossingsFrom_154 : decode cX3_crossingsFrom 154 = .ok (.aload_n 0, 1) := by decide +kernel
theorem dX3_crossingsFrom_155 : decode cX3_crossingsFrom 155 = .ok (.getfield 41, 3) := by decide +kernel
theorem dX3_crossingsFrom_158 : decode cX3_crossingsFrom 158 = .ok (.iload_n 3, 1) := by decide +kernel
theorem dX3_crossingsFrom_159 : decode cX3_crossingsFrom 159 = .ok (.aaload, 1) := by decide +kernel
theorem dX3_crossingsFrom_160 : decode cX3_crossingsFrom 160 = .ok (.iload 5, 2) := by decide +kernel
theorem dX3_crossingsFrom_162 : decode cX3_crossingsFrom 162 = .ok (.iaload, 1) := by decide +kernel
theorem dX3_crossingsFrom_163 : decode cX3_crossingsFrom 163 = .ok (.iadd, 1) := by decide +kernel
theorem dX3_crossingsFrom_164 : decode cX3_crossingsFrom 164 = .ok (.istore_n 2, 1) := by decide +kernel
theorem dX3_crossingsFrom_165 : decode cX3_crossingsFrom 165 = .ok (.iinc 5 1, 3) := by decide +kernel
theorem dX3_crossingsFrom_168 : decode cX3_crossingsFrom 168 = .ok (.goto (-92), 3) := by decide +kernel
theorem dX3_crossingsFrom_171 : decode cX3_crossingsFrom 171 = .ok (.iinc 3 1, 3) := by decide +kernel
theorem dX3_crossingsFrom_174 : decode cX3_crossingsFrom 174 = .ok (.goto (-170), 3) := by decide +kernel
theorem dX3_crossingsFrom_177 : decode cX3_crossingsFrom 177 = .ok (.iload_n 2, 1) := by decide +kernel
theorem dX3_crossingsFrom_178 : decode cX3_crossingsFrom 178 = .ok (.ireturn, 1) := by decide +kernel
set_option maxRecDepth 20000 in
theorem ggX4_init_X5_init : GoodIn wsX4_init wsX5_init := goodIn_r _ [9, 10, 2, 3, 11, 12, 13, 14, 15, 16, 17, 18, 22, 23, 24, 25, 26, 27, 28, 29, 30, 31] (by decide +kernel) (by decide +kernel)
set_option maxRecDepth 20000 in
theorem gX4_init_X5_init_n17 : GoodIn wsX4_init (wsX5_init) := ggX4_init_X5_init
theorem dX4_init_0 : decode cX4_init 0 = .ok (.aload_n 0, 1) := by decide +kernel
theorem dX4_init_1 : decode cX4_init 1 = .ok (.invokespecial 3, 3) := by decide +kernel
theorem dX4_init_4 : decode cX4_init 4 = .ok (.aload_n 0, 1) := by decide +kernel
theorem dX4_init_5 : decode cX4_init 5 = .ok (.bipush 6, 2) := by decide +kernel
theorem dX4_init_7 : decode cX4_init 7 = .ok (.anewarray 9, 3) := by decide +kernel
theorem dX4_init_10 : decode cX4_init 10 = .ok (.putfield 11, 3) := by decide +kernel
theorem dX4_init_13 : decode cX4_init 13 = .ok (.iconst 0, 1) := by decide +kernel
theorem dX4_init_14 : decode cX4_init 14 = .ok (.istore_n 1, 1) := by decide +kernel
theorem dX4_init_15 : decode cX4_init 15 = .ok (.iload_n 1, 1) := by decide +kernel
theorem dX4_init_16 : decode cX4_init 16 = .ok (.bipush 6, 2) := by decide +kernel
theorem dX4_init_18 : decode cX4_init 18 = .ok (.if_icmp .ge 22, 3) := by decide +kernel
theorem dX4_init_21 : decode cX4_init 21 = .ok (.aload_n 0, 1) := by decide +kernel
theorem dX4_init_22 : decode cX4_init 22 = .ok (.getfield 11, 3) := by decide +kernel
theorem dX4_init_25 : decode cX4_init 25 = .ok (.iload_n 1, 1) := by decide +kernel
theorem dX4_init_26 : decode cX4_init 26 = .ok (.new 9, 3) := by decide +kernel
theorem dX4_init_29 : decode cX4_init 29 = .ok (.dup, 1) := by decide +kernel
theorem dX4_init_30 : decode cX4_init 30 = .ok (.invokespecial 17, 3) := by decide +kernel
theorem dX4_init_33 : decode cX4_init 33 = .ok (.aastore, 1) := by decide +kernel
theorem dX4_init_34 : decode cX4_init 34 = .ok (.iinc 1 1, 3) := by decide +kernel
theorem dX4_init_37 : decode cX4_init 37 = .ok (.goto (-22), 3) := by decide +kernel
theorem dX4_init_40 : decode cX4_init 40 = .ok (.return_, 1) := by decide +kernel
theorem dX4_size_0 : decode cX4_size 0 = .ok (.aload_n 0, 1) := by decide +kernel
theorem dX4_size_1 : decode cX4_size 1 = .ok (.getfield 18, 3) := by decide +kernel
theorem dX4_size_4 : decode cX4_size 4 = .ok (.ireturn, 1) := by decide +kernel
set_option maxRecDepth 20000 in
theorem ggX4_push_X5_copyFrom : GoodIn wsX4_push wsX5_copyFrom := goodIn_r _ [8, 9, 10, 11, 12, 13, 14, 15, 16, 17, 18, 19, 20, 21, 22, 26, 27, 28, 29, 30, 31, 32, 33, 34, 35] (by decide +kernel) (by decide +kernel)
set_option maxRecDepth 20000 in
theorem gX4_push_X5_copyFrom : GoodIn wsX4_push (wsV RX4 25 RX5 yX5_copyFrom wsX5_copyFrom) := goodIn_app (goodIn_of _ (by decide +kernel)) ggX4_push_X5_copyFrom
theorem dX4_push_0 : decode cX4_push 0 = .ok (.aload_n 0, 1) := by decide +kernel
theorem dX4_push_1 : decode cX4_push 1 = .ok (.getfield 11, 3) := by decide +kernel
theorem dX4_push_4 : decode cX4_push 4 = .ok (.aload_n 0, 1) := by decide +kernel
theorem dX4_push_5 : decode cX4_push 5 = .ok (.getfield 22, 3) := by decide +kernel
theorem dX4_push_8 : decode cX4_push 8 = .ok (.aload_n 0, 1) := by decide +kernel
theorem dX4_push_9 : decode cX4_push 9 = .ok (.getfield 18, 3) := by decide +kernel
theorem dX4_push_12 : decode cX4_push 12 = .ok (.iadd, 1) := by decide +kernel
theorem dX4_push_13 : decode cX4_push 13 = .ok (.bipush 6, 2) := by decide +kernel
theorem dX4_push_15 : decode cX4_push 15 = .ok (.irem, 1) := by decide +kernel
theorem dX4_push_16 : decode cX4_push 16 = .ok (.aaload, 1) := by decide +kernel
theorem dX4_push_17 : decode cX4_push 17 = .ok (.aload_n 1, 1) := by decide +kernel
theorem dX4_push_18 : decode cX4_push 18 = .ok (.invokevirtual 25, 3) := by decide +kernel
theorem dX4_push_21 : decode cX4_push 21 = .ok (.aload_n 0, 1) := by decide +kernel
theorem dX4_push_22 : decode cX4_push 22 = .ok (.getfield 18, 3) := by decide +kernel
theorem dX4_push_25 : decode cX4_push 25 = .ok (.bipush 6, 2) := by decide +kernel
theorem dX4_push_27 : decode cX4_push 27 = .ok (.if_icmp .ge 16, 3) := by decide +kernel
theorem dX4_push_30 : decode cX4_push 30 = .ok (.aload_n 0, 1) := by decide +kernel
theorem dX4_push_31 : decode cX4_push 31 = .ok (.dup, 1) := by decide +kernel
theorem dX4_push_32 : decode cX4_push 32 = .ok (.getfield 18, 3) := by decide +kernel
theorem dX4_push_35 : decode cX4_push 35 = .ok (.iconst 1, 1) := by decide +kernel
theorem dX4_push_36 : decode cX4_push 36 = .ok (.iadd, 1) := by decide +kernel
theorem dX4_push_37 : decode cX4_push 37 = .ok (.putfield 18, 3) := by decide +kernel
theorem dX4_push_40 : decode cX4_push 40 = .ok (.goto 16, 3) := by decide +kernel
theorem dX4_push_43 : decode cX4_push 43 = .ok (.aload_n 0, 1) := by decide +kernel
theorem dX4_push_44 : decode cX4_push 44 = .ok (.aload_n 0, 1) := by decide +kernel
theorem dX4_push_45 : decode cX4_push 45 = .ok (.getfield 22, 3) := by decide +kernel
theorem dX4_push_48 : decode cX4_push 48 = .ok (.iconst 1, 1) := by decide +kernel
theorem dX4_push_49 : decode cX4_push 49 = .ok (.iadd, 1) := by decide +kernel
theorem dX4_push_50 : decode cX4_push 50 = .ok (.bipush 6, 2) := by decide +kernel
theorem dX4_push_52 : decode cX4_push 52 = .ok (.irem, 1) := by decide +kernel
theorem dX4_push_53 : decode cX4_push 53 = .ok (.putfield 22, 3) := by decide +kernel
theorem dX4_push_56 : decode cX4_push 56 = .ok (.return_, 1) := by decide +kernel
set_option maxRecDepth 20000 in
theorem ggX4_popTo_X5_copyFrom : GoodIn wsX4_popTo wsX5_copyFrom := goodIn_r _ [8, 9, 10, 11, 12, 13, 14, 15, 16, 17, 18, 19, 20, 21, 22, 26, 27, 28, 29, 30, 31, 32, 33, 34, 35] (by decide +kernel) (by decide +kernel)
set_option maxRecDepth 20000 in
theorem gX4_popTo_X5_copyFrom : GoodIn wsX4_popTo (wsV RX4 25 RX5 yX5_copyFrom wsX5_copyFrom) := goodIn_app (goodIn_of _ (by decide +kernel)) ggX4_popTo_X5_copyFrom
theorem dX4_popTo_0 : decode cX4_popTo 0 = .ok (.aload_n 0, 1) := by decide +kernel
theorem dX4_popTo_1 : decode cX4_popTo 1 = .ok (.getfield 18, 3) := by decide +kernel
theorem dX4_popTo_4 : decode cX4_popTo 4 = .ok (.ifCond .le 34, 3) := by decide +kernel
theorem dX4_popTo_7 : decode cX4_popTo 7 = .ok (.aload_n 0, 1) := by decide +kernel
theorem dX4_popTo_8 : decode cX4_popTo 8 = .ok (.dup, 1) := by decide +kernel
theorem dX4_popTo_9 : decode cX4_popTo 9 = .ok (.getfield 18, 3) := by decide +kernel
theorem dX4_popTo_12 : decode cX4_popTo 12 = .ok (.iconst 1, 1) := by decide +kernel
theorem dX4_popTo_13 : decode cX4_popTo 13 = .ok (.isub, 1) := by decide +kernel
theorem dX4_popTo_14 : decode cX4_popTo 14 = .ok (.putfield 18, 3) := by decide +kernel
theorem dX4_popTo_17 : decode cX4_popTo 17 = .ok (.aload_n 1, 1) := by decide +kernel
theorem dX4_popTo_18 : decode cX4_popTo 18 = .ok (.aload_n 0, 1) := by decide +kernel
theorem dX4_popTo_19 : decode cX4_popTo 19 = .ok (.getfield 11, 3) := by decide +kernel
theorem dX4_popTo_22 : decode cX4_popTo 22 = .ok (.aload_n 0, 1) := by decide +kernel
theorem dX4_popTo_23 : decode cX4_popTo 23 = .ok (.getfield 22, 3) := by decide +kernel
theorem dX4_popTo_26 : decode cX4_popTo 26 = .ok (.aload_n 0, 1) := by decide +kernel
theorem dX4_popTo_27 : decode cX4_popTo 27 = .ok (.getfield 18, 3) := by decide +kernel
theorem dX4_popTo_30 : decode cX4_popTo 30 = .ok (.iadd, 1) := by decide +kernel
theorem dX4_popTo_31 : decode cX4_popTo 31 = .ok (.bipush 6, 2) := by decide +kernel
theorem dX4_popTo_33 : decode cX4_popTo 33 = .ok (.irem, 1) := by decide +kernel
theorem dX4_popTo_34 : decode cX4_popTo 34 = .ok (.aaload, 1) := by decide +kernel
theorem dX4_popTo_35 : decode cX4_popTo 35 = .ok (.invokevirtual 25, 3) := by decide +kernel
theorem dX4_popTo_38 : decode cX4_popTo 38 = .ok (.return_, 1) := by decide +kernel
theorem dX5_init_0 : decode cX5_init 0 = .ok (.aload_n 0, 1) := by decide +kernel
theorem dX5_init_1 : decode cX5_init 1 = .ok (.invokespecial 3, 3) := by decide +kernel
theorem dX5_init_4 : decode cX5_init 4 = .ok (.aload_n 0, 1) := by decide +kernel
theorem dX5_init_5 : decode cX5_init 5 = .ok (.bipush 20, 2) := by decide +kernel
theorem dX5_init_7 : decode cX5_init 7 = .ok (.newarray .int, 2) := by decide +kernel
theorem dX5_init_9 : decode cX5_init 9 = .ok (.putfield 9, 3) := by decide +kernel
theorem dX5_init_12 : decode cX5_init 12 = .ok (.aload_n 0, 1) := by decide +kernel
theorem dX5_init_13 : decode cX5_init 13 = .ok (.bipush 20, 2) := by decide +kernel
theorem dX5_init_15 : decode cX5_init 15 = .ok (.newarray .int, 2) := by decide +kernel
theorem dX5_init_17 : decode cX5_init 17 = .ok (.putfield 15, 3) := by decide +kernel
theorem dX5_init_20 : decode cX5_init 20 = .ok (.aload_n 0, 1) := by decide +kernel
theorem dX5_init_21 : decode cX5_init 21 = .ok (.bipush 20, 2) := by decide +kernel
theorem dX5_init_23 : decode cX5_init 23 = .ok (.newarray .int, 2) := by decide +kernel
theorem dX5_init_25 : decode cX5_init 25 = .ok (.putfield 18, 3) := by decide +kernel
theorem dX5_init_28 : decode cX5_init 28 = .ok (.aload_n 0, 1) := by decide +kernel
theorem dX5_init_29 : decode cX5_init 29 = .ok (.bipush 10, 2) := by decide +kernel
theorem dX5_init_31 : decode cX5_init 31 = .ok (.newarray .int, 2) := by decide +kernel
theorem dX5_init_33 : decode cX5_init 33 = .ok (.putfield 21, 3) := by decide +kernel
theorem dX5_init_36 : decode cX5_init 36 = .ok (.aload_n 0, 1) := by decide +kernel
theorem dX5_init_37 : decode cX5_init 37 = .ok (.bipush 10, 2) := by decide +kernel
theorem dX5_init_39 : decode cX5_init 39 = .ok (.newarray .int, 2) := by decide +kernel
theorem dX5_init_41 : decode cX5_init 41 = .ok (.putfield 24, 3) := by decide +kernel
theorem dX5_init_44 : decode cX5_init 44 = .ok (.aload_n 0, 1) := by decide +kernel
theorem dX5_init_45 : decode cX5_init 45 = .ok (.bipush 24, 2) := by decide +kernel
theorem dX5_init_47 : decode cX5_init 47 = .ok (.newarray .int, 2) := by decide +kernel
theorem dX5_init_49 : decode cX5_init 49 = .ok (.putfield 27, 3) := by decide +kernel
theorem dX5_init_52 : decode cX5_init 52 = .ok (.aload_n 0, 1) := by decide +kernel
theorem dX5_init_53 : decode cX5_init 53 = .ok (.iconst 4, 1) := by decide +kernel
theorem dX5_init_54 : decode cX5_init 54 = .ok (.newarray .int, 2) := by decide +kernel
theorem dX5_init_56 : decode cX5_init 56 = .ok (.putfield 30, 3) := by decide +kernel
theorem dX5_init_59 : decode cX5_init 59 = .ok (.return_, 1) := by decide +kernel
theorem dX5_copyFrom_0 : decode cX5_copyFrom 0 = .ok (.aload_n 1, 1) := by decide +kernel
theorem dX5_copyFrom_1 : decode cX5_copyFrom 1 = .ok (.getfield 9, 3) := by decide +kernel
theorem dX5_copyFrom_4 : decode cX5_copyFrom 4 = .ok (.iconst 0, 1) := by decide +kernel
theorem dX5_copyFrom_5 : decode cX5_copyFrom 5 = .ok (.aload_n 0, 1) := by decide +kernel
theorem dX5_copyFrom_6 : decode cX5_copyFrom 6 = .ok (.getfield 9, 3) := by decide +kernel
theorem dX5_copyFrom_9 : decode cX5_copyFrom 9 = .ok (.iconst 0, 1) := by decide +kernel
theorem dX5_copyFrom_10 : decode cX5_copyFrom 10 = .ok (.bipush 20, 2) := by decide +kernel
theorem dX5_copyFrom_12 : decode cX5_copyFrom 12 = .ok (.invokestatic 33, 3) := by decide +kernel
theorem dX5_copyFrom_15 : decode cX5_copyFrom 15 = .ok (.aload_n 1, 1) := by decide +kernel
theorem dX5_copyFrom_16 : decode cX5_copyFrom 16 = .ok (.getfield 15, 3) := by decide +kernel
theorem dX5_copyFrom_19 : decode cX5_copyFrom 19 = .ok (.iconst 0, 1) := by decide +kernel
theorem dX5_copyFrom_20 : decode cX5_copyFrom 20 = .ok (.aload_n 0, 1) := by decide +kernel
theorem dX5_copyFrom_21 : decode cX5_copyFrom 21 = .ok (.getfield 15, 3) := by decide +kernel
theorem dX5_copyFrom_24 : decode cX5_copyFrom 24 = .ok (.iconst 0, 1) := by decide +kernel
theorem dX5_copyFrom_25 : decode cX5_copyFrom 25 = .ok (.bipush 20, 2) := by decide +kernel
theorem dX5_copyFrom_27 : decode cX5_copyFrom 27 = .ok (.invokestatic 33, 3) := by decide +kernel
theorem dX5_copyFrom_30 : decode cX5_copyFrom 30 = .ok (.aload_n 1, 1) := by decide +kernel
theorem dX5_copyFrom_31 : decode cX5_copyFrom 31 = .ok (.getfield 18, 3) := by decide +kernel
theorem dX5_copyFrom_34 : decode cX5_copyFrom 34 = .ok (.iconst 0, 1) := by decide +kernel
theorem dX5_copyFrom_35 : decode cX5_copyFrom 35 = .ok (.aload_n 0, 1) := by decide +kernel
theorem dX5_copyFrom_36 : decode cX5_copyFrom 36 = .ok (.getfield 18, 3) := by decide +kernel
theorem dX5_copyFrom_39 : decode cX5_copyFrom 39 = .ok (.iconst 0, 1) := by decide +kernel
theorem dX5_copyFrom_40 : decode cX5_copyFrom 40 = .ok (.bipush 20, 2) := by decide +kernel
theorem dX5_copyFrom_42 : decode cX5_copyFrom 42 = .ok (.invokestatic 33, 3) := by decide +kernel
theorem dX5_copyFrom_45 : decode cX5_copyFrom 45 = .ok (.aload_n 1, 1) := by decide +kernel
theorem dX5_copyFrom_46 : decode cX5_copyFrom 46 = .ok (.getfield 21, 3) := by decide +kernel
theorem dX5_copyFrom_49 : decode cX5_copyFrom 49 = .ok (.iconst 0, 1) := by decide +kernel
theorem dX5_copyFrom_50 : decode cX5_copyFrom 50 = .ok (.aload_n 0, 1) := by decide +kernel
theorem dX5_copyFrom_51 : decode cX5_copyFrom 51 = .ok (.getfield 21, 3) := by decide +kernel
theorem dX5_copyFrom_54 : decode cX5_copyFrom 54 = .ok (.iconst 0, 1) := by decide +kernel
theorem dX5_copyFrom_55 : decode cX5_copyFrom 55 = .ok (.bipush 10, 2) := by decide +kernel
theorem dX5_copyFrom_57 : decode cX5_copyFrom 57 = .ok (.invokestatic 33, 3) := by decide +kernel
theorem dX5_copyFrom_60 : decode cX5_copyFrom 60 = .ok (.aload_n 1, 1) := by decide +kernel
theorem dX5_copyFrom_61 : decode cX5_copyFrom 61 = .ok (.getfield 24, 3) := by decide +kernel
theorem dX5_copyFrom_64 : decode cX5_copyFrom 64 = .ok (.iconst 0, 1) := by decide +kernel
theorem dX5_copyFrom_65 : decode cX5_copyFrom 65 = .ok (.aload_n 0, 1) := by decide +kernel
theorem dX5_copyFrom_66 : decode cX5_copyFrom 66 = .ok (.getfield 24, 3) := by decide +kernel
theorem dX5_copyFrom_69 : decode cX5_copyFrom 69 = .ok (.iconst 0, 1) := by decide +kernel
theorem dX5_copyFrom_70 : decode cX5_copyFrom 70 = .ok (.bipush 10, 2) := by decide +kernel
theorem dX5_copyFrom_72 : decode cX5_copyFrom 72 = .ok (.invokestatic 33, 3) := by decide +kernel
theorem dX5_copyFrom_75 : decode cX5_copyFrom 75 = .ok (.aload_n 1, 1) := by decide +kernel
theorem dX5_copyFrom_76 : decode cX5_copyFrom 76 = .ok (.getfield 27, 3) := by decide +kernel
theorem dX5_copyFrom_79 : decode cX5_copyFrom 79 = .ok (.iconst 0, 1) := by decide +kernel
theorem dX5_copyFrom_80 : decode cX5_copyFrom 80 = .ok (.aload_n 0, 1) := by decide +kernel
theorem dX5_copyFrom_81 : decode cX5_copyFrom 81 = .ok (.getfield 27, 3) := by decide +kernel
theorem dX5_copyFrom_84 : decode cX5_copyFrom 84 = .ok (.iconst 0, 1) := by decide +kernel
theorem dX5_copyFrom_85 : decode cX5_copyFrom 85 = .ok (.bipush 24, 2) := by decide +kernel
theorem dX5_copyFrom_87 : decode cX5_copyFrom 87 = .ok (.invokestatic 33, 3) := by decide +kernel
theorem dX5_copyFrom_90 : decode cX5_copyFrom 90 = .ok (.aload_n 1, 1) := by decide +kernel
theorem dX5_copyFrom_91 : decode cX5_copyFrom 91 = .ok (.getfield 30, 3) := by decide +kernel
theorem dX5_copyFrom_94 : decode cX5_copyFrom 94 = .ok (.iconst 0, 1) := by decide +kernel
theorem dX5_copyFrom_95 : decode cX5_copyFrom 95 = .ok (.aload_n 0, 1) := by decide +kernel
theorem dX5_copyFrom_96 : decode cX5_copyFrom 96 = .ok (.getfield 30, 3) := by decide +kernel
theorem dX5_copyFrom_99 : decode cX5_copyFrom 99 = .ok (.iconst 0, 1) := by decide +kernel
theorem dX5_copyFrom_100 : decode cX5_copyFrom 100 = .ok (.iconst 4, 1) := by decide +kernel
theorem dX5_copyFrom_101 : decode cX5_copyFrom 101 = .ok (.invokestatic 33, 3) := by decide +kernel
theorem dX5_copyFrom_104 : decode cX5_copyFrom 104 = .ok (.aload_n 0, 1) := by decide +kernel
theorem dX5_copyFrom_105 : decode cX5_copyFrom 105 = .ok (.aload_n 1, 1) := by decide +kernel
theorem dX5_copyFrom_106 : decode cX5_copyFrom 106 = .ok (.getfield 39, 3) := by decide +kernel
theorem dX5_copyFrom_109 : decode cX5_copyFrom 109 = .ok (.putfield 39, 3) := by decide +kernel
theorem dX5_copyFrom_112 : decode cX5_copyFrom 112 = .ok (.aload_n 0, 1) := by decide +kernel
theorem dX5_copyFrom_113 : decode cX5_copyFrom 113 = .ok (.aload_n 1, 1) := by decide +kernel
theorem dX5_copyFrom_114 : decode cX5_copyFrom 114 = .ok (.getfield 43, 3) := by decide +kernel
theorem dX5_copyFrom_117 : decode cX5_copyFrom 117 = .ok (.putfield 43, 3) := by decide +kernel
theorem dX5_copyFrom_120 : decode cX5_copyFrom 120 = .ok (.aload_n 0, 1) := by decide +kernel
theorem dX5_copyFrom_121 : decode cX5_copyFrom 121 = .ok (.aload_n 1, 1) := by decide +kernel
theorem dX5_copyFrom_122 : decode cX5_copyFrom 122 = .ok (.getfield 46, 3) := by decide +kernel
theorem dX5_copyFrom_125 : decode cX5_copyFrom 125 = .ok (.putfield 46, 3) := by decide +kernel
theorem dX5_copyFrom_128 : decode cX5_copyFrom 128 = .ok (.return_, 1) := by decide +kernel
theorem dX5_people_0 : decode cX5_people 0 = .ok (.aload_n 0, 1) := by decide +kernel
theorem dX5_people_1 : decode cX5_people 1 = .ok (.getfield 39, 3) := by decide +kernel
theorem dX5_people_4 : decode cX5_people 4 = .ok (.ireturn, 1) := by decide +kernel
theorem dX5_couples_0 : decode cX5_couples 0 = .ok (.aload_n 0, 1) := by decide +kernel
theorem dX5_couples_1 : decode cX5_couples 1 = .ok (.getfield 43, 3) := by decide +kernel
theorem dX5_couples_4 : decode cX5_couples 4 = .ok (.ireturn, 1) := by decide +kernel
theorem dX5_refused_0 : decode cX5_refused 0 = .ok (.aload_n 0, 1) := by decide +kernel
theorem dX5_refused_1 : decode cX5_refused 1 = .ok (.getfield 46, 3) := by decide +kernel
theorem dX5_refused_4 : decode cX5_refused 4 = .ok (.ireturn, 1) := by decide +kernel
theorem dX5_isPerson_0 : decode cX5_isPerson 0 = .ok (.iload_n 1, 1) := by decide +kernel
theorem dX5_isPerson_1 : decode cX5_isPerson 1 = .ok (.ifCond .lt 15, 3) := by decide +kernel
theorem dX5_isPerson_4 : decode cX5_isPerson 4 = .ok (.iload_n 1, 1) := by decide +kernel
theorem dX5_isPerson_5 : decode cX5_isPerson 5 = .ok (.aload_n 0, 1) := by decide +kernel
theorem dX5_isPerson_6 : decode cX5_isPerson 6 = .ok (.getfield 39, 3) := by decide +kernel
theorem dX5_isPerson_9 : decode cX5_isPerson 9 = .ok (.if_icmp .ge 7, 3) := by decide +kernel
theorem dX5_isPerson_12 : decode cX5_isPerson 12 = .ok (.iconst 1, 1) := by decide +kernel
theorem dX5_isPerson_13 : decode cX5_isPerson 13 = .ok (.goto 4, 3) := by decide +kernel
theorem dX5_isPerson_16 : decode cX5_isPerson 16 = .ok (.iconst 0, 1) := by decide +kernel
theorem dX5_isPerson_17 : decode cX5_isPerson 17 = .ok (.ireturn, 1) := by decide +kernel
theorem dX5_isCouple_0 : decode cX5_isCouple 0 = .ok (.iload_n 1, 1) := by decide +kernel
theorem dX5_isCouple_1 : decode cX5_isCouple 1 = .ok (.ifCond .lt 15, 3) := by decide +kernel
theorem dX5_isCouple_4 : decode cX5_isCouple 4 = .ok (.iload_n 1, 1) := by decide +kernel
theorem dX5_isCouple_5 : decode cX5_isCouple 5 = .ok (.aload_n 0, 1) := by decide +kernel
theorem dX5_isCouple_6 : decode cX5_isCouple 6 = .ok (.getfield 43, 3) := by decide +kernel
theorem dX5_isCouple_9 : decode cX5_isCouple 9 = .ok (.if_icmp .ge 7, 3) := by decide +kernel
theorem dX5_isCouple_12 : decode cX5_isCouple 12 = .ok (.iconst 1, 1) := by decide +kernel
theorem dX5_isCouple_13 : decode cX5_isCouple 13 = .ok (.goto 4, 3) := by decide +kernel
theorem dX5_isCouple_16 : decode cX5_isCouple 16 = .ok (.iconst 0, 1) := by decide +kernel
theorem dX5_isCouple_17 : decode cX5_isCouple 17 = .ok (.ireturn, 1) := by decide +kernel
theorem dX5_sizeOf_0 : decode cX5_sizeOf 0 = .ok (.iload_n 1, 1) := by decide +kernel
theorem dX5_sizeOf_1 : decode cX5_sizeOf 1 = .ok (.ifCond .lt 17, 3) := by decide +kernel
theorem dX5_sizeOf_4 : decode cX5_sizeOf 4 = .ok (.iload_n 1, 1) := by decide +kernel
theorem dX5_sizeOf_5 : decode cX5_sizeOf 5 = .ok (.iconst 4, 1) := by decide +kernel
theorem dX5_sizeOf_6 : decode cX5_sizeOf 6 = .ok (.if_icmp .ge 12, 3) := by decide +kernel
theorem dX5_sizeOf_9 : decode cX5_sizeOf 9 = .ok (.aload_n 0, 1) := by decide +kernel
theorem dX5_sizeOf_10 : decode cX5_sizeOf 10 = .ok (.getfield 30, 3) := by decide +kernel
theorem dX5_sizeOf_13 : decode cX5_sizeOf 13 = .ok (.iload_n 1, 1) := by decide +kernel
theorem dX5_sizeOf_14 : decode cX5_sizeOf 14 = .ok (.iaload, 1) := by decide +kernel
theorem dX5_sizeOf_15 : decode cX5_sizeOf 15 = .ok (.goto 4, 3) := by decide +kernel
theorem dX5_sizeOf_18 : decode cX5_sizeOf 18 = .ok (.iconst 0, 1) := by decide +kernel
theorem dX5_sizeOf_19 : decode cX5_sizeOf 19 = .ok (.ireturn, 1) := by decide +kernel
set_option maxRecDepth 20000 in
theorem ggX5_rowOf_X5_isPerson : GoodIn wsX5_rowOf wsX5_isPerson := goodIn_r _ [6, 7, 8, 9, 10, 11, 12, 13, 14, 15, 16, 17] (by decide +kernel) (by decide +kernel)
set_option maxRecDepth 20000 in
theorem gX5_rowOf_X5_isPerson : GoodIn wsX5_rowOf (wsV RX5 49 RX5 yX5_isPerson wsX5_isPerson) := goodIn_app (goodIn_of _ (by decide +kernel)) ggX5_rowOf_X5_isPerson
theorem dX5_rowOf_0 : decode cX5_rowOf 0 = .ok (.aload_n 0, 1) := by decide +kernel
theorem dX5_rowOf_1 : decode cX5_rowOf 1 = .ok (.iload_n 1, 1) := by decide +kernel
theorem dX5_rowOf_2 : decode cX5_rowOf 2 = .ok (.invokevirtual 49, 3) := by decide +kernel
theorem dX5_rowOf_5 : decode cX5_rowOf 5 = .ok (.ifCond .eq 12, 3) := by decide +kernel
theorem dX5_rowOf_8 : decode cX5_rowOf 8 = .ok (.aload_n 0, 1) := by decide +kernel
theorem dX5_rowOf_9 : decode cX5_rowOf 9 = .ok (.getfield 9, 3) := by decide +kernel
theorem dX5_rowOf_12 : decode cX5_rowOf 12 = .ok (.iload_n 1, 1) := by decide +kernel
theorem dX5_rowOf_13 : decode cX5_rowOf 13 = .ok (.iaload, 1) := by decide +kernel
theorem dX5_rowOf_14 : decode cX5_rowOf 14 = .ok (.goto 4, 3) := by decide +kernel
theorem dX5_rowOf_17 : decode cX5_rowOf 17 = .ok (.iconst (-1), 1) := by decide +kernel
theorem dX5_rowOf_18 : decode cX5_rowOf 18 = .ok (.ireturn, 1) := by decide +kernel
set_option maxRecDepth 20000 in
theorem ggX5_placeOf_X5_isPerson : GoodIn wsX5_placeOf wsX5_isPerson := goodIn_r _ [6, 7, 8, 9, 10, 11, 12, 13, 14, 15, 16, 17] (by decide +kernel) (by decide +kernel)
set_option maxRecDepth 20000 in
theorem gX5_placeOf_X5_isPerson : GoodIn wsX5_placeOf (wsV RX5 49 RX5 yX5_isPerson wsX5_isPerson) := goodIn_app (goodIn_of _ (by decide +kernel)) ggX5_placeOf_X5_isPerson
theorem dX5_placeOf_0 : decode cX5_placeOf 0 = .ok (.aload_n 0, 1) := by decide +kernel
theorem dX5_placeOf_1 : decode cX5_placeOf 1 = .ok (.iload_n 1, 1) := by decide +kernel
theorem dX5_placeOf_2 : decode cX5_placeOf 2 = .ok (.invokevirtual 49, 3) := by decide +kernel
theorem dX5_placeOf_5 : decode cX5_placeOf 5 = .ok (.ifCond .eq 12, 3) := by decide +kernel
theorem dX5_placeOf_8 : decode cX5_placeOf 8 = .ok (.aload_n 0, 1) := by decide +kernel
theorem dX5_placeOf_9 : decode cX5_placeOf 9 = .ok (.getfield 15, 3) := by decide +kernel
theorem dX5_placeOf_12 : decode cX5_placeOf 12 = .ok (.iload_n 1, 1) := by decide +kernel
theorem dX5_placeOf_13 : decode cX5_placeOf 13 = .ok (.iaload, 1) := by decide +kernel
theorem dX5_placeOf_14 : decode cX5_placeOf 14 = .ok (.goto 4, 3) := by decide +kernel
theorem dX5_placeOf_17 : decode cX5_placeOf 17 = .ok (.iconst (-1), 1) := by decide +kernel
theorem dX5_placeOf_18 : decode cX5_placeOf 18 = .ok (.ireturn, 1) := by decide +kernel
set_option maxRecDepth 20000 in
theorem ggX5_parentsOf_X5_isPerson : GoodIn wsX5_parentsOf wsX5_isPerson := goodIn_r _ [6, 7, 8, 9, 10, 11, 12, 13, 14, 15, 16, 17] (by decide +kernel) (by decide +kernel)
set_option maxRecDepth 20000 in
theorem gX5_parentsOf_X5_isPerson : GoodIn wsX5_parentsOf (wsV RX5 49 RX5 yX5_isPerson wsX5_isPerson) := goodIn_app (goodIn_of _ (by decide +kernel)) ggX5_parentsOf_X5_isPerson
theorem dX5_parentsOf_0 : decode cX5_parentsOf 0 = .ok (.aload_n 0, 1) := by decide +kernel
theorem dX5_parentsOf_1 : decode cX5_parentsOf 1 = .ok (.iload_n 1, 1) := by decide +kernel
theorem dX5_parentsOf_2 : decode cX5_parentsOf 2 = .ok (.invokevirtual 49, 3) := by decide +kernel
theorem dX5_parentsOf_5 : decode cX5_parentsOf 5 = .ok (.ifCond .eq 12, 3) := by decide +kernel
theorem dX5_parentsOf_8 : decode cX5_parentsOf 8 = .ok (.aload_n 0, 1) := by decide +kernel
theorem dX5_parentsOf_9 : decode cX5_parentsOf 9 = .ok (.getfield 18, 3) := by decide +kernel
theorem dX5_parentsOf_12 : decode cX5_parentsOf 12 = .ok (.iload_n 1, 1) := by decide +kernel
theorem dX5_parentsOf_13 : decode cX5_parentsOf 13 = .ok (.iaload, 1) := by decide +kernel
theorem dX5_parentsOf_14 : decode cX5_parentsOf 14 = .ok (.goto 4, 3) := by decide +kernel
theorem dX5_parentsOf_17 : decode cX5_parentsOf 17 = .ok (.iconst (-1), 1) := by decide +kernel
theorem dX5_parentsOf_18 : decode cX5_parentsOf 18 = .ok (.ireturn, 1) := by decide +kernel
set_option maxRecDepth 20000 in
theorem ggX5_lesserOf_X5_isCouple : GoodIn wsX5_lesserOf wsX5_isCouple := goodIn_r _ [6, 7, 8, 9, 10, 11, 12, 13, 14, 15, 16, 17] (by decide +kernel) (by decide +kernel)
set_option maxRecDepth 20000 in
theorem gX5_lesserOf_X5_isCouple : GoodIn wsX5_lesserOf (wsV RX5 53 RX5 yX5_isCouple wsX5_isCouple) := goodIn_app (goodIn_of _ (by decide +kernel)) ggX5_lesserOf_X5_isCouple
theorem dX5_lesserOf_0 : decode cX5_lesserOf 0 = .ok (.aload_n 0, 1) := by decide +kernel
theorem dX5_lesserOf_1 : decode cX5_lesserOf 1 = .ok (.iload_n 1, 1) := by decide +kernel
theorem dX5_lesserOf_2 : decode cX5_lesserOf 2 = .ok (.invokevirtual 53, 3) := by decide +kernel
theorem dX5_lesserOf_5 : decode cX5_lesserOf 5 = .ok (.ifCond .eq 12, 3) := by decide +kernel
theorem dX5_lesserOf_8 : decode cX5_lesserOf 8 = .ok (.aload_n 0, 1) := by decide +kernel
theorem dX5_lesserOf_9 : decode cX5_lesserOf 9 = .ok (.getfield 21, 3) := by decide +kernel
theorem dX5_lesserOf_12 : decode cX5_lesserOf 12 = .ok (.iload_n 1, 1) := by decide +kernel
theorem dX5_lesserOf_13 : decode cX5_lesserOf 13 = .ok (.iaload, 1) := by decide +kernel
theorem dX5_lesserOf_14 : decode cX5_lesserOf 14 = .ok (.goto 4, 3) := by decide +kernel
theorem dX5_lesserOf_17 : decode cX5_lesserOf 17 = .ok (.iconst (-1), 1) := by decide +kernel
theorem dX5_lesserOf_18 : decode cX5_lesserOf 18 = .ok (.ireturn, 1) := by decide +kernel
set_option maxRecDepth 20000 in
theorem ggX5_greaterOf_X5_isCouple : GoodIn wsX5_greaterOf wsX5_isCouple := goodIn_r _ [6, 7, 8, 9, 10, 11, 12, 13, 14, 15, 16, 17] (by decide +kernel) (by decide +kernel)
set_option maxRecDepth 20000 in
theorem gX5_greaterOf_X5_isCouple : GoodIn wsX5_greaterOf (wsV RX5 53 RX5 yX5_isCouple wsX5_isCouple) := goodIn_app (goodIn_of _ (by decide +kernel)) ggX5_greaterOf_X5_isCouple
theorem dX5_greaterOf_0 : decode cX5_greaterOf 0 = .ok (.aload_n 0, 1) := by decide +kernel
theorem dX5_greaterOf_1 : decode cX5_greaterOf 1 = .ok (.iload_n 1, 1) := by decide +kernel
theorem dX5_greaterOf_2 : decode cX5_greaterOf 2 = .ok (.invokevirtual 53, 3) := by decide +kernel
theorem dX5_greaterOf_5 : decode cX5_greaterOf 5 = .ok (.ifCond .eq 12, 3) := by decide +kernel
theorem dX5_greaterOf_8 : decode cX5_greaterOf 8 = .ok (.aload_n 0, 1) := by decide +kernel
theorem dX5_greaterOf_9 : decode cX5_greaterOf 9 = .ok (.getfield 24, 3) := by decide +kernel
theorem dX5_greaterOf_12 : decode cX5_greaterOf 12 = .ok (.iload_n 1, 1) := by decide +kernel
theorem dX5_greaterOf_13 : decode cX5_greaterOf 13 = .ok (.iaload, 1) := by decide +kernel
theorem dX5_greaterOf_14 : decode cX5_greaterOf 14 = .ok (.goto 4, 3) := by decide +kernel
theorem dX5_greaterOf_17 : decode cX5_greaterOf 17 = .ok (.iconst (-1), 1) := by decide +kernel
theorem dX5_greaterOf_18 : decode cX5_greaterOf 18 = .ok (.ireturn, 1) := by decide +kernel
set_option maxRecDepth 20000 in
theorem ggX5_personAt_X5_sizeOf : GoodIn wsX5_personAt wsX5_sizeOf := goodIn_r _ [6, 7, 8, 9, 10, 11, 12, 13, 14, 15, 16, 17] (by decide +kernel) (by decide +kernel)
set_option maxRecDepth 20000 in
theorem gX5_personAt_X5_sizeOf : GoodIn wsX5_personAt (wsV RX5 56 RX5 yX5_sizeOf wsX5_sizeOf) := goodIn_app (goodIn_of _ (by decide +kernel)) ggX5_personAt_X5_sizeOf
theorem dX5_personAt_0 : decode cX5_personAt 0 = .ok (.iload_n 2, 1) := by decide +kernel
theorem dX5_personAt_1 : decode cX5_personAt 1 = .ok (.ifCond .lt 26, 3) := by decide +kernel
theorem dX5_personAt_4 : decode cX5_personAt 4 = .ok (.iload_n 2, 1) := by decide +kernel
theorem dX5_personAt_5 : decode cX5_personAt 5 = .ok (.aload_n 0, 1) := by decide +kernel
theorem dX5_personAt_6 : decode cX5_personAt 6 = .ok (.iload_n 1, 1) := by decide +kernel
theorem dX5_personAt_7 : decode cX5_personAt 7 = .ok (.invokevirtual 56, 3) := by decide +kernel
theorem dX5_personAt_10 : decode cX5_personAt 10 = .ok (.if_icmp .ge 17, 3) := by decide +kernel
theorem dX5_personAt_13 : decode cX5_personAt 13 = .ok (.aload_n 0, 1) := by decide +kernel
theorem dX5_personAt_14 : decode cX5_personAt 14 = .ok (.getfield 27, 3) := by decide +kernel
theorem dX5_personAt_17 : decode cX5_personAt 17 = .ok (.iload_n 1, 1) := by decide +kernel
theorem dX5_personAt_18 : decode cX5_personAt 18 = .ok (.bipush 6, 2) := by decide +kernel
theorem dX5_personAt_20 : decode cX5_personAt 20 = .ok (.imul, 1) := by decide +kernel
theorem dX5_personAt_21 : decode cX5_personAt 21 = .ok (.iload_n 2, 1) := by decide +kernel
theorem dX5_personAt_22 : decode cX5_personAt 22 = .ok (.iadd, 1) := by decide +kernel
theorem dX5_personAt_23 : decode cX5_personAt 23 = .ok (.iaload, 1) := by decide +kernel
theorem dX5_personAt_24 : decode cX5_personAt 24 = .ok (.goto 4, 3) := by decide +kernel
theorem dX5_personAt_27 : decode cX5_personAt 27 = .ok (.iconst (-1), 1) := by decide +kernel
theorem dX5_personAt_28 : decode cX5_personAt 28 = .ok (.ireturn, 1) := by decide +kernel
set_option maxRecDepth 20000 in
theorem ggX5_middleOf_X5_isCouple : GoodIn wsX5_middleOf wsX5_isCouple := goodIn_r _ [7, 8, 19, 20, 21, 22, 23, 24, 25, 26, 27, 28] (by decide +kernel) (by decide +kernel)
set_option maxRecDepth 20000 in
theorem gX5_middleOf_X5_isCouple : GoodIn wsX5_middleOf (wsV RX5 53 RX5 yX5_isCouple wsX5_isCouple) := goodIn_app (goodIn_of _ (by decide +kernel)) ggX5_middleOf_X5_isCouple
set_option maxRecDepth 20000 in
theorem ggX5_middleOf_X5_placeOf : GoodIn wsX5_middleOf wsX5_placeOf := goodIn_r _ [12, 13, 14, 15, 16, 6, 17, 18, 19, 20, 21, 22, 23, 24, 25, 26, 27, 28] (by decide +kernel) (by decide +kernel)
set_option maxRecDepth 20000 in
theorem gX5_middleOf_X5_placeOf : GoodIn wsX5_middleOf (wsV RX5 60 RX5 yX5_placeOf wsX5_placeOf) := goodIn_app (goodIn_of _ (by decide +kernel)) ggX5_middleOf_X5_placeOf
theorem dX5_middleOf_0 : decode cX5_middleOf 0 = .ok (.aload_n 0, 1) := by decide +kernel
theorem dX5_middleOf_1 : decode cX5_middleOf 1 = .ok (.iload_n 1, 1) := by decide +kernel
theorem dX5_middleOf_2 : decode cX5_middleOf 2 = .ok (.invokevirtual 53, 3) := by decide +kernel
theorem dX5_middleOf_5 : decode cX5_middleOf 5 = .ok (.ifCond .eq 27, 3) := by decide +kernel
theorem dX5_middleOf_8 : decode cX5_middleOf 8 = .ok (.aload_n 0, 1) := by decide +kernel
theorem dX5_middleOf_9 : decode cX5_middleOf 9 = .ok (.aload_n 0, 1) := by decide +kernel
theorem dX5_middleOf_10 : decode cX5_middleOf 10 = .ok (.getfield 21, 3) := by decide +kernel
theorem dX5_middleOf_13 : decode cX5_middleOf 13 = .ok (.iload_n 1, 1) := by decide +kernel
theorem dX5_middleOf_14 : decode cX5_middleOf 14 = .ok (.iaload, 1) := by decide +kernel
theorem dX5_middleOf_15 : decode cX5_middleOf 15 = .ok (.invokevirtual 60, 3) := by decide +kernel
theorem dX5_middleOf_18 : decode cX5_middleOf 18 = .ok (.aload_n 0, 1) := by decide +kernel
theorem dX5_middleOf_19 : decode cX5_middleOf 19 = .ok (.aload_n 0, 1) := by decide +kernel
theorem dX5_middleOf_20 : decode cX5_middleOf 20 = .ok (.getfield 24, 3) := by decide +kernel
theorem dX5_middleOf_23 : decode cX5_middleOf 23 = .ok (.iload_n 1, 1) := by decide +kernel
theorem dX5_middleOf_24 : decode cX5_middleOf 24 = .ok (.iaload, 1) := by decide +kernel
theorem dX5_middleOf_25 : decode cX5_middleOf 25 = .ok (.invokevirtual 60, 3) := by decide +kernel
theorem dX5_middleOf_28 : decode cX5_middleOf 28 = .ok (.iadd, 1) := by decide +kernel
theorem dX5_middleOf_29 : decode cX5_middleOf 29 = .ok (.goto 4, 3) := by decide +kernel
theorem dX5_middleOf_32 : decode cX5_middleOf 32 = .ok (.iconst (-1), 1) := by decide +kernel
theorem dX5_middleOf_33 : decode cX5_middleOf 33 = .ok (.ireturn, 1) := by decide +kernel
set_option maxRecDepth 20000 in
theorem ggX5_middleAbove_X5_parentsOf : GoodIn wsX5_middleAbove wsX5_parentsOf := goodIn_r _ [5, 6, 7, 8, 9, 4, 10, 11, 28, 29, 30, 31, 32, 33, 34, 35, 36, 37] (by decide +kernel) (by decide +kernel)
set_option maxRecDepth 20000 in
theorem gX5_middleAbove_X5_parentsOf : GoodIn wsX5_middleAbove (wsV RX5 63 RX5 yX5_parentsOf wsX5_parentsOf) := goodIn_app (goodIn_of _ (by decide +kernel)) ggX5_middleAbove_X5_parentsOf
set_option maxRecDepth 20000 in
theorem ggX5_middleAbove_X5_middleOf : GoodIn wsX5_middleAbove wsX5_middleOf := goodIn_r _ [15, 16, 17, 18, 19, 20, 4, 21, 22, 23, 24, 25, 26, 27, 7, 8, 9, 10, 11, 28, 29, 30, 31, 32, 33, 34, 35, 36, 37] (by decide +kernel) (by decide +kernel)
set_option maxRecDepth 20000 in
theorem gX5_middleAbove_X5_middleOf : GoodIn wsX5_middleAbove (wsV RX5 66 RX5 yX5_middleOf wsX5_middleOf) := goodIn_app (goodIn_of _ (by decide +kernel)) ggX5_middleAbove_X5_middleOf
theorem dX5_middleAbove_0 : decode cX5_middleAbove 0 = .ok (.aload_n 0, 1) := by decide +kernel
theorem dX5_middleAbove_1 : decode cX5_middleAbove 1 = .ok (.aload_n 0, 1) := by decide +kernel
theorem dX5_middleAbove_2 : decode cX5_middleAbove 2 = .ok (.iload_n 1, 1) := by decide +kernel
theorem dX5_middleAbove_3 : decode cX5_middleAbove 3 = .ok (.invokevirtual 63, 3) := by decide +kernel
theorem dX5_middleAbove_6 : decode cX5_middleAbove 6 = .ok (.invokevirtual 66, 3) := by decide +kernel
theorem dX5_middleAbove_9 : decode cX5_middleAbove 9 = .ok (.ireturn, 1) := by decide +kernel
set_option maxRecDepth 20000 in
theorem ggX5_addPerson_X5_sizeOf : GoodIn wsX5_addPerson wsX5_sizeOf := goodIn_r _ [10, 3, 21, 22, 23, 24, 25, 26, 27, 28, 29, 30] (by decide +kernel) (by decide +kernel)
set_option maxRecDepth 20000 in
theorem gX5_addPerson_X5_sizeOf : GoodIn wsX5_addPerson (wsV RX5 56 RX5 yX5_sizeOf wsX5_sizeOf) := goodIn_app (goodIn_of _ (by decide +kernel)) ggX5_addPerson_X5_sizeOf
set_option maxRecDepth 20000 in
theorem ggX5_addPerson_X5_lay : GoodIn wsX5_addPerson wsX5_lay := goodIn_r _ [14, 15, 16, 17, 18, 19, 9, 20, 1, 6, 7, 8, 10, 3, 21, 22, 23, 24, 25, 26, 27, 28, 29, 30] (by decide +kernel) (by decide +kernel)
set_option maxRecDepth 20000 in
theorem gX5_addPerson_X5_lay : GoodIn wsX5_addPerson (wsV RX5 69 RX5 yX5_lay wsX5_lay) := goodIn_app (goodIn_of _ (by decide +kernel)) ggX5_addPerson_X5_lay
theorem dX5_addPerson_0 : decode cX5_addPerson 0 = .ok (.aload_n 0, 1) := by decide +kernel
theorem dX5_addPerson_1 : decode cX5_addPerson 1 = .ok (.iload_n 1, 1) := by decide +kernel
theorem dX5_addPerson_2 : decode cX5_addPerson 2 = .ok (.invokevirtual 56, 3) := by decide +kernel
theorem dX5_addPerson_5 : decode cX5_addPerson 5 = .ok (.istore_n 3, 1) := by decide +kernel
theorem dX5_addPerson_6 : decode cX5_addPerson 6 = .ok (.iload_n 1, 1) := by decide +kernel
theorem dX5_addPerson_7 : decode cX5_addPerson 7 = .ok (.ifCond .lt 23, 3) := by decide +kernel
theorem dX5_addPerson_10 : decode cX5_addPerson 10 = .ok (.iload_n 1, 1) := by decide +kernel
theorem dX5_addPerson_11 : decode cX5_addPerson 11 = .ok (.iconst 4, 1) := by decide +kernel
theorem dX5_addPerson_12 : decode cX5_addPerson 12 = .ok (.if_icmp .ge 18, 3) := by decide +kernel
theorem dX5_addPerson_15 : decode cX5_addPerson 15 = .ok (.iload_n 3, 1) := by decide +kernel
theorem dX5_addPerson_16 : decode cX5_addPerson 16 = .ok (.bipush 6, 2) := by decide +kernel
theorem dX5_addPerson_18 : decode cX5_addPerson 18 = .ok (.if_icmp .ge 12, 3) := by decide +kernel
theorem dX5_addPerson_21 : decode cX5_addPerson 21 = .ok (.aload_n 0, 1) := by decide +kernel
theorem dX5_addPerson_22 : decode cX5_addPerson 22 = .ok (.getfield 39, 3) := by decide +kernel
theorem dX5_addPerson_25 : decode cX5_addPerson 25 = .ok (.bipush 20, 2) := by decide +kernel
theorem dX5_addPerson_27 : decode cX5_addPerson 27 = .ok (.if_icmp .lt 15, 3) := by decide +kernel
theorem dX5_addPerson_30 : decode cX5_addPerson 30 = .ok (.aload_n 0, 1) := by decide +kernel
theorem dX5_addPerson_31 : decode cX5_addPerson 31 = .ok (.dup, 1) := by decide +kernel
theorem dX5_addPerson_32 : decode cX5_addPerson 32 = .ok (.getfield 46, 3) := by decide +kernel
theorem dX5_addPerson_35 : decode cX5_addPerson 35 = .ok (.iconst 1, 1) := by decide +kernel
theorem dX5_addPerson_36 : decode cX5_addPerson 36 = .ok (.iadd, 1) := by decide +kernel
theorem dX5_addPerson_37 : decode cX5_addPerson 37 = .ok (.putfield 46, 3) := by decide +kernel
theorem dX5_addPerson_40 : decode cX5_addPerson 40 = .ok (.iconst (-1), 1) := by decide +kernel
theorem dX5_addPerson_41 : decode cX5_addPerson 41 = .ok (.ireturn, 1) := by decide +kernel
theorem dX5_addPerson_42 : decode cX5_addPerson 42 = .ok (.aload_n 0, 1) := by decide +kernel
theorem dX5_addPerson_43 : decode cX5_addPerson 43 = .ok (.getfield 39, 3) := by decide +kernel
theorem dX5_addPerson_46 : decode cX5_addPerson 46 = .ok (.istore 4, 2) := by decide +kernel
theorem dX5_addPerson_48 : decode cX5_addPerson 48 = .ok (.aload_n 0, 1) := by decide +kernel
theorem dX5_addPerson_49 : decode cX5_addPerson 49 = .ok (.dup, 1) := by decide +kernel
theorem dX5_addPerson_50 : decode cX5_addPerson 50 = .ok (.getfield 39, 3) := by decide +kernel
theorem dX5_addPerson_53 : decode cX5_addPerson 53 = .ok (.iconst 1, 1) := by decide +kernel
theorem dX5_addPerson_54 : decode cX5_addPerson 54 = .ok (.iadd, 1) := by decide +kernel
theorem dX5_addPerson_55 : decode cX5_addPerson 55 = .ok (.putfield 39, 3) := by decide +kernel
theorem dX5_addPerson_58 : decode cX5_addPerson 58 = .ok (.aload_n 0, 1) := by decide +kernel
theorem dX5_addPerson_59 : decode cX5_addPerson 59 = .ok (.getfield 30, 3) := by decide +kernel
theorem dX5_addPerson_62 : decode cX5_addPerson 62 = .ok (.iload_n 1, 1) := by decide +kernel
theorem dX5_addPerson_63 : decode cX5_addPerson 63 = .ok (.dup2, 1) := by decide +kernel
theorem dX5_addPerson_64 : decode cX5_addPerson 64 = .ok (.iaload, 1) := by decide +kernel
theorem dX5_addPerson_65 : decode cX5_addPerson 65 = .ok (.iconst 1, 1) := by decide +kernel
theorem dX5_addPerson_66 : decode cX5_addPerson 66 = .ok (.iadd, 1) := by decide +kernel
theorem dX5_addPerson_67 : decode cX5_addPerson 67 = .ok (.iastore, 1) := by decide +kernel
theorem dX5_addPerson_68 : decode cX5_addPerson 68 = .ok (.aload_n 0, 1) := by decide +kernel
theorem dX5_addPerson_69 : decode cX5_addPerson 69 = .ok (.getfield 9, 3) := by decide +kernel
theorem dX5_addPerson_72 : decode cX5_addPerson 72 = .ok (.iload 4, 2) := by decide +kernel
theorem dX5_addPerson_74 : decode cX5_addPerson 74 = .ok (.iload_n 1, 1) := by decide +kernel
theorem dX5_addPerson_75 : decode cX5_addPerson 75 = .ok (.iastore, 1) := by decide +kernel
theorem dX5_addPerson_76 : decode cX5_addPerson 76 = .ok (.aload_n 0, 1) := by decide +kernel
theorem dX5_addPerson_77 : decode cX5_addPerson 77 = .ok (.getfield 18, 3) := by decide +kernel
theorem dX5_addPerson_80 : decode cX5_addPerson 80 = .ok (.iload 4, 2) := by decide +kernel
theorem dX5_addPerson_82 : decode cX5_addPerson 82 = .ok (.iload_n 2, 1) := by decide +kernel
theorem dX5_addPerson_83 : decode cX5_addPerson 83 = .ok (.iastore, 1) := by decide +kernel
theorem dX5_addPerson_84 : decode cX5_addPerson 84 = .ok (.aload_n 0, 1) := by decide +kernel
theorem dX5_addPerson_85 : decode cX5_addPerson 85 = .ok (.iload_n 1, 1) := by decide +kernel
theorem dX5_addPerson_86 : decode cX5_addPerson 86 = .ok (.iload_n 3, 1) := by decide +kernel
theorem dX5_addPerson_87 : decode cX5_addPerson 87 = .ok (.iload 4, 2) := by decide +kernel
theorem dX5_addPerson_89 : decode cX5_addPerson 89 = .ok (.invokevirtual 69, 3) := by decide +kernel
theorem dX5_addPerson_92 : decode cX5_addPerson 92 = .ok (.iload 4, 2) := by decide +kernel
theorem dX5_addPerson_94 : decode cX5_addPerson 94 = .ok (.ireturn, 1) := by decide +kernel
set_option maxRecDepth 20000 in
theorem ggX5_addChild_X5_lesserOf : GoodIn wsX5_addChild wsX5_lesserOf := goodIn_r _ [5, 6, 7, 8, 9, 4, 10, 11, 39, 40, 41, 42, 43, 44, 45, 46, 47, 48] (by decide +kernel) (by decide +kernel)
set_option maxRecDepth 20000 in
theorem gX5_addChild_X5_lesserOf : GoodIn wsX5_addChild (wsV RX5 73 RX5 yX5_lesserOf wsX5_lesserOf) := goodIn_app (goodIn_of _ (by decide +kernel)) ggX5_addChild_X5_lesserOf
set_option maxRecDepth 20000 in
theorem ggX5_addChild_X5_rowOf : GoodIn wsX5_addChild wsX5_rowOf := goodIn_r _ [15, 16, 17, 18, 19, 4, 20, 21, 39, 40, 41, 42, 43, 44, 45, 46, 47, 48] (by decide +kernel) (by decide +kernel)
set_option maxRecDepth 20000 in
theorem gX5_addChild_X5_rowOf : GoodIn wsX5_addChild (wsV RX5 76 RX5 yX5_rowOf wsX5_rowOf) := goodIn_app (goodIn_of _ (by decide +kernel)) ggX5_addChild_X5_rowOf
set_option maxRecDepth 20000 in
theorem ggX5_addChild_X5_addPerson : GoodIn wsX5_addChild wsX5_addPerson := goodIn_r _ [25, 21, 26, 27, 16, 28, 29, 30, 31, 4, 32, 33, 34, 35, 36, 37, 38, 17, 18, 19, 20, 39, 40, 41, 42, 43, 44, 45, 46, 47, 48] (by decide +kernel) (by decide +kernel)
set_option maxRecDepth 20000 in
theorem gX5_addChild_X5_addPerson : GoodIn wsX5_addChild (wsV RX5 79 RX5 yX5_addPerson wsX5_addPerson) := goodIn_app (goodIn_of _ (by decide +kernel)) ggX5_addChild_X5_addPerson
theorem dX5_addChild_0 : decode cX5_addChild 0 = .ok (.aload_n 0, 1) := by decide +kernel
theorem dX5_addChild_1 : decode cX5_addChild 1 = .ok (.aload_n 0, 1) := by decide +kernel
theorem dX5_addChild_2 : decode cX5_addChild 2 = .ok (.aload_n 0, 1) := by decide +kernel
theorem dX5_addChild_3 : decode cX5_addChild 3 = .ok (.iload_n 1, 1) := by decide +kernel
theorem dX5_addChild_4 : decode cX5_addChild 4 = .ok (.invokevirtual 73, 3) := by decide +kernel
theorem dX5_addChild_7 : decode cX5_addChild 7 = .ok (.invokevirtual 76, 3) := by decide +kernel
theorem dX5_addChild_10 : decode cX5_addChild 10 = .ok (.iconst 1, 1) := by decide +kernel
theorem dX5_addChild_11 : decode cX5_addChild 11 = .ok (.iadd, 1) := by decide +kernel
theorem dX5_addChild_12 : decode cX5_addChild 12 = .ok (.iload_n 1, 1) := by decide +kernel
theorem dX5_addChild_13 : decode cX5_addChild 13 = .ok (.invokevirtual 79, 3) := by decide +kernel
theorem dX5_addChild_16 : decode cX5_addChild 16 = .ok (.ireturn, 1) := by decide +kernel
set_option maxRecDepth 20000 in
theorem ggX5_addCouple_X5_reasonAgainst : GoodIn wsX5_addCouple wsX5_reasonAgainst := goodIn_r _ [16, 2, 4, 5, 6, 7, 9, 10, 11, 17, 18, 19, 15, 20, 21, 22, 23, 24, 25, 26, 27, 28, 29, 30, 3, 8, 31, 32, 33, 34, 35, 36, 37, 38, 39, 40, 41, 42, 43, 44, 45, 46, 47, 48] (by decide +kernel) (by decide +kernel)
set_option maxRecDepth 20000 in
theorem gX5_addCouple_X5_reasonAgainst : GoodIn wsX5_addCouple (wsV RX5 83 RX5 yX5_reasonAgainst wsX5_reasonAgainst) := goodIn_app (goodIn_of _ (by decide +kernel)) ggX5_addCouple_X5_reasonAgainst
theorem dX5_addCouple_0 : decode cX5_addCouple 0 = .ok (.aload_n 0, 1) := by decide +kernel
theorem dX5_addCouple_1 : decode cX5_addCouple 1 = .ok (.iload_n 1, 1) := by decide +kernel
theorem dX5_addCouple_2 : decode cX5_addCouple 2 = .ok (.iload_n 2, 1) := by decide +kernel
theorem dX5_addCouple_3 : decode cX5_addCouple 3 = .ok (.invokevirtual 83, 3) := by decide +kernel
theorem dX5_addCouple_6 : decode cX5_addCouple 6 = .ok (.istore_n 3, 1) := by decide +kernel
theorem dX5_addCouple_7 : decode cX5_addCouple 7 = .ok (.iload_n 3, 1) := by decide +kernel
theorem dX5_addCouple_8 : decode cX5_addCouple 8 = .ok (.ifCond .eq 15, 3) := by decide +kernel
theorem dX5_addCouple_11 : decode cX5_addCouple 11 = .ok (.aload_n 0, 1) := by decide +kernel
theorem dX5_addCouple_12 : decode cX5_addCouple 12 = .ok (.dup, 1) := by decide +kernel
theorem dX5_addCouple_13 : decode cX5_addCouple 13 = .ok (.getfield 46, 3) := by decide +kernel
theorem dX5_addCouple_16 : decode cX5_addCouple 16 = .ok (.iconst 1, 1) := by decide +kernel
theorem dX5_addCouple_17 : decode cX5_addCouple 17 = .ok (.iadd, 1) := by decide +kernel
theorem dX5_addCouple_18 : decode cX5_addCouple 18 = .ok (.putfield 46, 3) := by decide +kernel
theorem dX5_addCouple_21 : decode cX5_addCouple 21 = .ok (.iload_n 3, 1) := by decide +kernel
theorem dX5_addCouple_22 : decode cX5_addCouple 22 = .ok (.ireturn, 1) := by decide +kernel
theorem dX5_addCouple_23 : decode cX5_addCouple 23 = .ok (.aload_n 0, 1) := by decide +kernel
theorem dX5_addCouple_24 : decode cX5_addCouple 24 = .ok (.getfield 43, 3) := by decide +kernel
theorem dX5_addCouple_27 : decode cX5_addCouple 27 = .ok (.istore 4, 2) := by decide +kernel
theorem dX5_addCouple_29 : decode cX5_addCouple 29 = .ok (.aload_n 0, 1) := by decide +kernel
theorem dX5_addCouple_30 : decode cX5_addCouple 30 = .ok (.dup, 1) := by decide +kernel
theorem dX5_addCouple_31 : decode cX5_addCouple 31 = .ok (.getfield 43, 3) := by decide +kernel
theorem dX5_addCouple_34 : decode cX5_addCouple 34 = .ok (.iconst 1, 1) := by decide +kernel
theorem dX5_addCouple_35 : decode cX5_addCouple 35 = .ok (.iadd, 1) := by decide +kernel
theorem dX5_addCouple_36 : decode cX5_addCouple 36 = .ok (.putfield 43, 3) := by decide +kernel
theorem dX5_addCouple_39 : decode cX5_addCouple 39 = .ok (.aload_n 0, 1) := by decide +kernel
theorem dX5_addCouple_40 : decode cX5_addCouple 40 = .ok (.getfield 21, 3) := by decide +kernel
theorem dX5_addCouple_43 : decode cX5_addCouple 43 = .ok (.iload 4, 2) := by decide +kernel
theorem dX5_addCouple_45 : decode cX5_addCouple 45 = .ok (.iload_n 1, 1) := by decide +kernel
theorem dX5_addCouple_46 : decode cX5_addCouple 46 = .ok (.iload_n 2, 1) := by decide +kernel
theorem dX5_addCouple_47 : decode cX5_addCouple 47 = .ok (.invokestatic 86, 3) := by decide +kernel
theorem dX5_addCouple_50 : decode cX5_addCouple 50 = .ok (.iastore, 1) := by decide +kernel
theorem dX5_addCouple_51 : decode cX5_addCouple 51 = .ok (.aload_n 0, 1) := by decide +kernel
theorem dX5_addCouple_52 : decode cX5_addCouple 52 = .ok (.getfield 24, 3) := by decide +kernel
theorem dX5_addCouple_55 : decode cX5_addCouple 55 = .ok (.iload 4, 2) := by decide +kernel
theorem dX5_addCouple_57 : decode cX5_addCouple 57 = .ok (.iload_n 1, 1) := by decide +kernel
theorem dX5_addCouple_58 : decode cX5_addCouple 58 = .ok (.iload_n 2, 1) := by decide +kernel
theorem dX5_addCouple_59 : decode cX5_addCouple 59 = .ok (.invokestatic 91, 3) := by decide +kernel
theorem dX5_addCouple_62 : decode cX5_addCouple 62 = .ok (.iastore, 1) := by decide +kernel
theorem dX5_addCouple_63 : decode cX5_addCouple 63 = .ok (.iload 4, 2) := by decide +kernel
theorem dX5_addCouple_65 : decode cX5_addCouple 65 = .ok (.bipush 10, 2) := by decide +kernel
theorem dX5_addCouple_67 : decode cX5_addCouple 67 = .ok (.iadd, 1) := by decide +kernel
theorem dX5_addCouple_68 : decode cX5_addCouple 68 = .ok (.ireturn, 1) := by decide +kernel
set_option maxRecDepth 20000 in
theorem ggX5_reasonAgainst_X5_rowOf : GoodIn wsX5_reasonAgainst wsX5_rowOf := goodIn_r _ [13, 14, 15, 16, 17, 12, 18, 19, 34, 35, 36, 37, 38, 39, 40, 41, 42, 43] (by decide +kernel) (by decide +kernel)
set_option maxRecDepth 20000 in
theorem gX5_reasonAgainst_X5_rowOf : GoodIn wsX5_reasonAgainst (wsV RX5 76 RX5 yX5_rowOf wsX5_rowOf) := goodIn_app (goodIn_of _ (by decide +kernel)) ggX5_reasonAgainst_X5_rowOf
set_option maxRecDepth 20000 in
theorem ggX5_reasonAgainst_X5_areCouple : GoodIn wsX5_reasonAgainst wsX5_areCouple := goodIn_r _ [23, 1, 24, 25, 34, 35, 36, 37, 38, 39, 40, 41, 42, 43] (by decide +kernel) (by decide +kernel)
set_option maxRecDepth 20000 in
theorem gX5_reasonAgainst_X5_areCouple : GoodIn wsX5_reasonAgainst (wsV RX5 94 RX5 yX5_areCouple wsX5_areCouple) := goodIn_app (goodIn_of _ (by decide +kernel)) ggX5_reasonAgainst_X5_areCouple
set_option maxRecDepth 20000 in
theorem ggX5_reasonAgainst_X5_isDouble : GoodIn wsX5_reasonAgainst wsX5_isDouble := goodIn_r _ [29, 30, 31, 32, 12, 33, 1, 24, 25, 34, 35, 36, 37, 38, 39, 40, 41, 42, 43] (by decide +kernel) (by decide +kernel)
set_option maxRecDepth 20000 in
theorem gX5_reasonAgainst_X5_isDouble : GoodIn wsX5_reasonAgainst (wsV RX5 98 RX5 yX5_isDouble wsX5_isDouble) := goodIn_app (goodIn_of _ (by decide +kernel)) ggX5_reasonAgainst_X5_isDouble
theorem dX5_reasonAgainst_0 : decode cX5_reasonAgainst 0 = .ok (.aload_n 0, 1) := by decide +kernel
theorem dX5_reasonAgainst_1 : decode cX5_reasonAgainst 1 = .ok (.getfield 43, 3) := by decide +kernel
theorem dX5_reasonAgainst_4 : decode cX5_reasonAgainst 4 = .ok (.bipush 10, 2) := by decide +kernel
theorem dX5_reasonAgainst_6 : decode cX5_reasonAgainst 6 = .ok (.if_icmp .lt 5, 3) := by decide +kernel
theorem dX5_reasonAgainst_9 : decode cX5_reasonAgainst 9 = .ok (.iconst 1, 1) := by decide +kernel
theorem dX5_reasonAgainst_10 : decode cX5_reasonAgainst 10 = .ok (.ireturn, 1) := by decide +kernel
theorem dX5_reasonAgainst_11 : decode cX5_reasonAgainst 11 = .ok (.aload_n 0, 1) := by decide +kernel
theorem dX5_reasonAgainst_12 : decode cX5_reasonAgainst 12 = .ok (.iload_n 1, 1) := by decide +kernel
theorem dX5_reasonAgainst_13 : decode cX5_reasonAgainst 13 = .ok (.invokevirtual 76, 3) := by decide +kernel
theorem dX5_reasonAgainst_16 : decode cX5_reasonAgainst 16 = .ok (.aload_n 0, 1) := by decide +kernel
theorem dX5_reasonAgainst_17 : decode cX5_reasonAgainst 17 = .ok (.iload_n 2, 1) := by decide +kernel
theorem dX5_reasonAgainst_18 : decode cX5_reasonAgainst 18 = .ok (.invokevirtual 76, 3) := by decide +kernel
theorem dX5_reasonAgainst_21 : decode cX5_reasonAgainst 21 = .ok (.if_icmp .ne 12, 3) := by decide +kernel
theorem dX5_reasonAgainst_24 : decode cX5_reasonAgainst 24 = .ok (.aload_n 0, 1) := by decide +kernel
theorem dX5_reasonAgainst_25 : decode cX5_reasonAgainst 25 = .ok (.iload_n 1, 1) := by decide +kernel
theorem dX5_reasonAgainst_26 : decode cX5_reasonAgainst 26 = .ok (.invokevirtual 76, 3) := by decide +kernel
theorem dX5_reasonAgainst_29 : decode cX5_reasonAgainst 29 = .ok (.iconst 3, 1) := by decide +kernel
theorem dX5_reasonAgainst_30 : decode cX5_reasonAgainst 30 = .ok (.if_icmp .ne 5, 3) := by decide +kernel
theorem dX5_reasonAgainst_33 : decode cX5_reasonAgainst 33 = .ok (.iconst 2, 1) := by decide +kernel
theorem dX5_reasonAgainst_34 : decode cX5_reasonAgainst 34 = .ok (.ireturn, 1) := by decide +kernel
theorem dX5_reasonAgainst_35 : decode cX5_reasonAgainst 35 = .ok (.aload_n 0, 1) := by decide +kernel
theorem dX5_reasonAgainst_36 : decode cX5_reasonAgainst 36 = .ok (.iload_n 1, 1) := by decide +kernel
theorem dX5_reasonAgainst_37 : decode cX5_reasonAgainst 37 = .ok (.iload_n 2, 1) := by decide +kernel
theorem dX5_reasonAgainst_38 : decode cX5_reasonAgainst 38 = .ok (.invokestatic 86, 3) := by decide +kernel
theorem dX5_reasonAgainst_41 : decode cX5_reasonAgainst 41 = .ok (.iload_n 1, 1) := by decide +kernel
theorem dX5_reasonAgainst_42 : decode cX5_reasonAgainst 42 = .ok (.iload_n 2, 1) := by decide +kernel
theorem dX5_reasonAgainst_43 : decode cX5_reasonAgainst 43 = .ok (.invokestatic 91, 3) := by decide +kernel
theorem dX5_reasonAgainst_46 : decode cX5_reasonAgainst 46 = .ok (.invokevirtual 94, 3) := by decide +kernel
theorem dX5_reasonAgainst_49 : decode cX5_reasonAgainst 49 = .ok (.ifCond .eq 5, 3) := by decide +kernel
theorem dX5_reasonAgainst_52 : decode cX5_reasonAgainst 52 = .ok (.iconst 3, 1) := by decide +kernel
theorem dX5_reasonAgainst_53 : decode cX5_reasonAgainst 53 = .ok (.ireturn, 1) := by decide +kernel
theorem dX5_reasonAgainst_54 : decode cX5_reasonAgainst 54 = .ok (.aload_n 0, 1) := by decide +kernel
theorem dX5_reasonAgainst_55 : decode cX5_reasonAgainst 55 = .ok (.iload_n 1, 1) := by decide +kernel
theorem dX5_reasonAgainst_56 : decode cX5_reasonAgainst 56 = .ok (.invokevirtual 98, 3) := by decide +kernel
theorem dX5_reasonAgainst_59 : decode cX5_reasonAgainst 59 = .ok (.ifCond .ne 11, 3) := by decide +kernel
theorem dX5_reasonAgainst_62 : decode cX5_reasonAgainst 62 = .ok (.aload_n 0, 1) := by decide +kernel
theorem dX5_reasonAgainst_63 : decode cX5_reasonAgainst 63 = .ok (.iload_n 2, 1) := by decide +kernel
theorem dX5_reasonAgainst_64 : decode cX5_reasonAgainst 64 = .ok (.invokevirtual 98, 3) := by decide +kernel
theorem dX5_reasonAgainst_67 : decode cX5_reasonAgainst 67 = .ok (.ifCond .eq 5, 3) := by decide +kernel
theorem dX5_reasonAgainst_70 : decode cX5_reasonAgainst 70 = .ok (.iconst 4, 1) := by decide +kernel
theorem dX5_reasonAgainst_71 : decode cX5_reasonAgainst 71 = .ok (.ireturn, 1) := by decide +kernel
theorem dX5_reasonAgainst_72 : decode cX5_reasonAgainst 72 = .ok (.iconst 0, 1) := by decide +kernel
theorem dX5_reasonAgainst_73 : decode cX5_reasonAgainst 73 = .ok (.ireturn, 1) := by decide +kernel
theorem dX5_areCouple_0 : decode cX5_areCouple 0 = .ok (.iconst 0, 1) := by decide +kernel
theorem dX5_areCouple_1 : decode cX5_areCouple 1 = .ok (.istore_n 3, 1) := by decide +kernel
theorem dX5_areCouple_2 : decode cX5_areCouple 2 = .ok (.iload_n 3, 1) := by decide +kernel
theorem dX5_areCouple_3 : decode cX5_areCouple 3 = .ok (.aload_n 0, 1) := by decide +kernel
theorem dX5_areCouple_4 : decode cX5_areCouple 4 = .ok (.getfield 43, 3) := by decide +kernel
theorem dX5_areCouple_7 : decode cX5_areCouple 7 = .ok (.if_icmp .ge 31, 3) := by decide +kernel
theorem dX5_areCouple_10 : decode cX5_areCouple 10 = .ok (.aload_n 0, 1) := by decide +kernel
theorem dX5_areCouple_11 : decode cX5_areCouple 11 = .ok (.getfield 21, 3) := by decide +kernel
theorem dX5_areCouple_14 : decode cX5_areCouple 14 = .ok (.iload_n 3, 1) := by decide +kernel
theorem dX5_areCouple_15 : decode cX5_areCouple 15 = .ok (.iaload, 1) := by decide +kernel
theorem dX5_areCouple_16 : decode cX5_areCouple 16 = .ok (.iload_n 1, 1) := by decide +kernel
theorem dX5_areCouple_17 : decode cX5_areCouple 17 = .ok (.if_icmp .ne 15, 3) := by decide +kernel
theorem dX5_areCouple_20 : decode cX5_areCouple 20 = .ok (.aload_n 0, 1) := by decide +kernel
theorem dX5_areCouple_21 : decode cX5_areCouple 21 = .ok (.getfield 24, 3) := by decide +kernel
theorem dX5_areCouple_24 : decode cX5_areCouple 24 = .ok (.iload_n 3, 1) := by decide +kernel
theorem dX5_areCouple_25 : decode cX5_areCouple 25 = .ok (.iaload, 1) := by decide +kernel
theorem dX5_areCouple_26 : decode cX5_areCouple 26 = .ok (.iload_n 2, 1) := by decide +kernel
theorem dX5_areCouple_27 : decode cX5_areCouple 27 = .ok (.if_icmp .ne 5, 3) := by decide +kernel
theorem dX5_areCouple_30 : decode cX5_areCouple 30 = .ok (.iconst 1, 1) := by decide +kernel
theorem dX5_areCouple_31 : decode cX5_areCouple 31 = .ok (.ireturn, 1) := by decide +kernel
theorem dX5_areCouple_32 : decode cX5_areCouple 32 = .ok (.iinc 3 1, 3) := by decide +kernel
theorem dX5_areCouple_35 : decode cX5_areCouple 35 = .ok (.goto (-33), 3) := by decide +kernel
theorem dX5_areCouple_38 : decode cX5_areCouple 38 = .ok (.iconst 0, 1) := by decide +kernel
theorem dX5_areCouple_39 : decode cX5_areCouple 39 = .ok (.ireturn, 1) := by decide +kernel
set_option maxRecDepth 20000 in
theorem ggX5_isDouble_X5_couplesWith : GoodIn wsX5_isDouble wsX5_couplesWith := goodIn_r _ [5, 6, 7, 8, 9, 10, 11, 12, 13, 14, 15, 16, 17, 18] (by decide +kernel) (by decide +kernel)
set_option maxRecDepth 20000 in
theorem gX5_isDouble_X5_couplesWith : GoodIn wsX5_isDouble (wsV RX5 101 RX5 yX5_couplesWith wsX5_couplesWith) := goodIn_app (goodIn_of _ (by decide +kernel)) ggX5_isDouble_X5_couplesWith
theorem dX5_isDouble_0 : decode cX5_isDouble 0 = .ok (.aload_n 0, 1) := by decide +kernel
theorem dX5_isDouble_1 : decode cX5_isDouble 1 = .ok (.iload_n 1, 1) := by decide +kernel
theorem dX5_isDouble_2 : decode cX5_isDouble 2 = .ok (.invokevirtual 101, 3) := by decide +kernel
theorem dX5_isDouble_5 : decode cX5_isDouble 5 = .ok (.iconst 2, 1) := by decide +kernel
theorem dX5_isDouble_6 : decode cX5_isDouble 6 = .ok (.if_icmp .lt 7, 3) := by decide +kernel
theorem dX5_isDouble_9 : decode cX5_isDouble 9 = .ok (.iconst 1, 1) := by decide +kernel
theorem dX5_isDouble_10 : decode cX5_isDouble 10 = .ok (.goto 4, 3) := by decide +kernel
theorem dX5_isDouble_13 : decode cX5_isDouble 13 = .ok (.iconst 0, 1) := by decide +kernel
theorem dX5_isDouble_14 : decode cX5_isDouble 14 = .ok (.ireturn, 1) := by decide +kernel
set_option maxRecDepth 20000 in
theorem ggX5_lay_X5_isPerson : GoodIn wsX5_lay wsX5_isPerson := goodIn_r _ [7, 8, 14, 15, 16, 17, 18, 19, 20, 21, 22, 23] (by decide +kernel) (by decide +kernel)
set_option maxRecDepth 20000 in
theorem gX5_lay_X5_isPerson : GoodIn wsX5_lay (wsV RX5 49 RX5 yX5_isPerson wsX5_isPerson) := goodIn_app (goodIn_of _ (by decide +kernel)) ggX5_lay_X5_isPerson
set_option maxRecDepth 20000 in
theorem ggX5_lay_X5_sizeOf : GoodIn wsX5_lay wsX5_sizeOf := goodIn_r _ [12, 13, 14, 15, 16, 17, 18, 19, 20, 21, 22, 23] (by decide +kernel) (by decide +kernel)
set_option maxRecDepth 20000 in
theorem gX5_lay_X5_sizeOf : GoodIn wsX5_lay (wsV RX5 56 RX5 yX5_sizeOf wsX5_sizeOf) := goodIn_app (goodIn_of _ (by decide +kernel)) ggX5_lay_X5_sizeOf
theorem dX5_lay_0 : decode cX5_lay 0 = .ok (.aload_n 0, 1) := by decide +kernel
theorem dX5_lay_1 : decode cX5_lay 1 = .ok (.iload_n 3, 1) := by decide +kernel
theorem dX5_lay_2 : decode cX5_lay 2 = .ok (.invokevirtual 49, 3) := by decide +kernel
theorem dX5_lay_5 : decode cX5_lay 5 = .ok (.ifCond .eq 35, 3) := by decide +kernel
theorem dX5_lay_8 : decode cX5_lay 8 = .ok (.iload_n 2, 1) := by decide +kernel
theorem dX5_lay_9 : decode cX5_lay 9 = .ok (.ifCond .lt 31, 3) := by decide +kernel
theorem dX5_lay_12 : decode cX5_lay 12 = .ok (.iload_n 2, 1) := by decide +kernel
theorem dX5_lay_13 : decode cX5_lay 13 = .ok (.aload_n 0, 1) := by decide +kernel
theorem dX5_lay_14 : decode cX5_lay 14 = .ok (.iload_n 1, 1) := by decide +kernel
theorem dX5_lay_15 : decode cX5_lay 15 = .ok (.invokevirtual 56, 3) := by decide +kernel
theorem dX5_lay_18 : decode cX5_lay 18 = .ok (.if_icmp .ge 22, 3) := by decide +kernel
theorem dX5_lay_21 : decode cX5_lay 21 = .ok (.aload_n 0, 1) := by decide +kernel
theorem dX5_lay_22 : decode cX5_lay 22 = .ok (.getfield 27, 3) := by decide +kernel
theorem dX5_lay_25 : decode cX5_lay 25 = .ok (.iload_n 1, 1) := by decide +kernel
theorem dX5_lay_26 : decode cX5_lay 26 = .ok (.bipush 6, 2) := by decide +kernel
theorem dX5_lay_28 : decode cX5_lay 28 = .ok (.imul, 1) := by decide +kernel
theorem dX5_lay_29 : decode cX5_lay 29 = .ok (.iload_n 2, 1) := by decide +kernel
theorem dX5_lay_30 : decode cX5_lay 30 = .ok (.iadd, 1) := by decide +kernel
theorem dX5_lay_31 : decode cX5_lay 31 = .ok (.iload_n 3, 1) := by decide +kernel
theorem dX5_lay_32 : decode cX5_lay 32 = .ok (.iastore, 1) := by decide +kernel
theorem dX5_lay_33 : decode cX5_lay 33 = .ok (.aload_n 0, 1) := by decide +kernel
theorem dX5_lay_34 : decode cX5_lay 34 = .ok (.getfield 15, 3) := by decide +kernel
theorem dX5_lay_37 : decode cX5_lay 37 = .ok (.iload_n 3, 1) := by decide +kernel
theorem dX5_lay_38 : decode cX5_lay 38 = .ok (.iload_n 2, 1) := by decide +kernel
theorem dX5_lay_39 : decode cX5_lay 39 = .ok (.iastore, 1) := by decide +kernel
theorem dX5_lay_40 : decode cX5_lay 40 = .ok (.return_, 1) := by decide +kernel
set_option maxRecDepth 20000 in
theorem ggX5_exchange_X5_personAt : GoodIn wsX5_exchange wsX5_personAt := goodIn_r _ [5, 6, 7, 8, 9, 4, 10, 11, 22, 23, 24, 25, 26, 27, 28, 29, 30, 31] (by decide +kernel) (by decide +kernel)
set_option maxRecDepth 20000 in
theorem gX5_exchange_X5_personAt : GoodIn wsX5_exchange (wsV RX5 104 RX5 yX5_personAt wsX5_personAt) := goodIn_app (goodIn_of _ (by decide +kernel)) ggX5_exchange_X5_personAt
