theorem dX8_keep_20 : decode cX8_keep 20 = .ok (.iconst 0, 1) := by decide +kernel
theorem dX8_keep_21 : decode cX8_keep 21 = .ok (.istore_n 2, 1) := by decide +kernel
theorem dX8_keep_22 : decode cX8_keep 22 = .ok (.iload_n 2, 1) := by decide +kernel
theorem dX8_keep_23 : decode cX8_keep 23 = .ok (.bipush 91, 2) := by decide +kernel
theorem dX8_keep_25 : decode cX8_keep 25 = .ok (.if_icmp .ge 26, 3) := by decide +kernel
theorem dX8_keep_28 : decode cX8_keep 28 = .ok (.aload_n 0, 1) := by decide +kernel
theorem dX8_keep_29 : decode cX8_keep 29 = .ok (.getfield 16, 3) := by decide +kernel
theorem dX8_keep_32 : decode cX8_keep 32 = .ok (.bipush 91, 2) := by decide +kernel
theorem dX8_keep_34 : decode cX8_keep 34 = .ok (.iload_n 1, 1) := by decide +kernel
theorem dX8_keep_35 : decode cX8_keep 35 = .ok (.imul, 1) := by decide +kernel
theorem dX8_keep_36 : decode cX8_keep 36 = .ok (.iload_n 2, 1) := by decide +kernel
theorem dX8_keep_37 : decode cX8_keep 37 = .ok (.iadd, 1) := by decide +kernel
theorem dX8_keep_38 : decode cX8_keep 38 = .ok (.aload_n 0, 1) := by decide +kernel
theorem dX8_keep_39 : decode cX8_keep 39 = .ok (.getfield 7, 3) := by decide +kernel
theorem dX8_keep_42 : decode cX8_keep 42 = .ok (.iload_n 2, 1) := by decide +kernel
theorem dX8_keep_43 : decode cX8_keep 43 = .ok (.iaload, 1) := by decide +kernel
theorem dX8_keep_44 : decode cX8_keep 44 = .ok (.iastore, 1) := by decide +kernel
theorem dX8_keep_45 : decode cX8_keep 45 = .ok (.iinc 2 1, 3) := by decide +kernel
theorem dX8_keep_48 : decode cX8_keep 48 = .ok (.goto (-26), 3) := by decide +kernel
theorem dX8_keep_51 : decode cX8_keep 51 = .ok (.aload_n 0, 1) := by decide +kernel
theorem dX8_keep_52 : decode cX8_keep 52 = .ok (.getfield 19, 3) := by decide +kernel
theorem dX8_keep_55 : decode cX8_keep 55 = .ok (.iload_n 1, 1) := by decide +kernel
theorem dX8_keep_56 : decode cX8_keep 56 = .ok (.iconst 1, 1) := by decide +kernel
theorem dX8_keep_57 : decode cX8_keep 57 = .ok (.bastore, 1) := by decide +kernel
theorem dX8_keep_58 : decode cX8_keep 58 = .ok (.aload_n 0, 1) := by decide +kernel
theorem dX8_keep_59 : decode cX8_keep 59 = .ok (.getfield 7, 3) := by decide +kernel
theorem dX8_keep_62 : decode cX8_keep 62 = .ok (.iconst 0, 1) := by decide +kernel
theorem dX8_keep_63 : decode cX8_keep 63 = .ok (.iaload, 1) := by decide +kernel
theorem dX8_keep_64 : decode cX8_keep 64 = .ok (.ireturn, 1) := by decide +kernel
set_option maxRecDepth 20000 in
theorem ggX8_goBack_X8_in : GoodIn wsX8_goBack wsX8_in := goodIn_r _ [8] (by decide +kernel) (by decide +kernel)
set_option maxRecDepth 20000 in
theorem gX8_goBack_X8_in : GoodIn wsX8_goBack (va_wsS RX8 54 yX8_in wsX8_in) := goodIn_app (goodIn_of _ (by decide +kernel)) ggX8_goBack_X8_in
set_option maxRecDepth 20000 in
theorem ggX8_goBack_X8_fails : GoodIn wsX8_goBack wsX8_fails := goodIn_r _ [12, 1, 19, 20, 21, 22, 23, 24, 25, 26, 27, 28, 29, 30, 31, 32, 33, 34, 35, 36, 37, 38, 39] (by decide +kernel) (by decide +kernel)
set_option maxRecDepth 20000 in
theorem gX8_goBack_X8_fails : GoodIn wsX8_goBack (wsV RX8 69 RX8 yX8_fails wsX8_fails) := goodIn_app (goodIn_of _ (by decide +kernel)) ggX8_goBack_X8_fails
set_option maxRecDepth 20000 in
theorem ggX8_goBack_X8_save : GoodIn wsX8_goBack wsX8_save := goodIn_r _ [16, 17, 18, 3, 19, 20, 21, 22, 23, 24, 25, 26, 27, 28, 29, 30, 31, 32, 33, 34, 35, 36, 37, 38, 39] (by decide +kernel) (by decide +kernel)
set_option maxRecDepth 20000 in
theorem gX8_goBack_X8_save : GoodIn wsX8_goBack (wsV RX8 72 RX8 yX8_save wsX8_save) := goodIn_app (goodIn_of _ (by decide +kernel)) ggX8_goBack_X8_save
theorem dX8_goBack_0 : decode cX8_goBack 0 = .ok (.aload_n 0, 1) := by decide +kernel
theorem dX8_goBack_1 : decode cX8_goBack 1 = .ok (.iconst 0, 1) := by decide +kernel
theorem dX8_goBack_2 : decode cX8_goBack 2 = .ok (.putfield 50, 3) := by decide +kernel
theorem dX8_goBack_5 : decode cX8_goBack 5 = .ok (.iload_n 1, 1) := by decide +kernel
theorem dX8_goBack_6 : decode cX8_goBack 6 = .ok (.iconst 0, 1) := by decide +kernel
theorem dX8_goBack_7 : decode cX8_goBack 7 = .ok (.iconst 1, 1) := by decide +kernel
theorem dX8_goBack_8 : decode cX8_goBack 8 = .ok (.invokestatic 54, 3) := by decide +kernel
theorem dX8_goBack_11 : decode cX8_goBack 11 = .ok (.ifCond .ne 9, 3) := by decide +kernel
theorem dX8_goBack_14 : decode cX8_goBack 14 = .ok (.aload_n 0, 1) := by decide +kernel
theorem dX8_goBack_15 : decode cX8_goBack 15 = .ok (.iconst 1, 1) := by decide +kernel
theorem dX8_goBack_16 : decode cX8_goBack 16 = .ok (.invokevirtual 69, 3) := by decide +kernel
theorem dX8_goBack_19 : decode cX8_goBack 19 = .ok (.ireturn, 1) := by decide +kernel
theorem dX8_goBack_20 : decode cX8_goBack 20 = .ok (.aload_n 0, 1) := by decide +kernel
theorem dX8_goBack_21 : decode cX8_goBack 21 = .ok (.getfield 19, 3) := by decide +kernel
theorem dX8_goBack_24 : decode cX8_goBack 24 = .ok (.iload_n 1, 1) := by decide +kernel
theorem dX8_goBack_25 : decode cX8_goBack 25 = .ok (.baload, 1) := by decide +kernel
theorem dX8_goBack_26 : decode cX8_goBack 26 = .ok (.ifCond .ne 9, 3) := by decide +kernel
theorem dX8_goBack_29 : decode cX8_goBack 29 = .ok (.aload_n 0, 1) := by decide +kernel
theorem dX8_goBack_30 : decode cX8_goBack 30 = .ok (.iconst 2, 1) := by decide +kernel
theorem dX8_goBack_31 : decode cX8_goBack 31 = .ok (.invokevirtual 69, 3) := by decide +kernel
theorem dX8_goBack_34 : decode cX8_goBack 34 = .ok (.ireturn, 1) := by decide +kernel
theorem dX8_goBack_35 : decode cX8_goBack 35 = .ok (.aload_n 0, 1) := by decide +kernel
theorem dX8_goBack_36 : decode cX8_goBack 36 = .ok (.invokevirtual 72, 3) := by decide +kernel
theorem dX8_goBack_39 : decode cX8_goBack 39 = .ok (.iconst 0, 1) := by decide +kernel
theorem dX8_goBack_40 : decode cX8_goBack 40 = .ok (.istore_n 2, 1) := by decide +kernel
theorem dX8_goBack_41 : decode cX8_goBack 41 = .ok (.iload_n 2, 1) := by decide +kernel
theorem dX8_goBack_42 : decode cX8_goBack 42 = .ok (.bipush 91, 2) := by decide +kernel
theorem dX8_goBack_44 : decode cX8_goBack 44 = .ok (.if_icmp .ge 26, 3) := by decide +kernel
theorem dX8_goBack_47 : decode cX8_goBack 47 = .ok (.aload_n 0, 1) := by decide +kernel
theorem dX8_goBack_48 : decode cX8_goBack 48 = .ok (.getfield 7, 3) := by decide +kernel
theorem dX8_goBack_51 : decode cX8_goBack 51 = .ok (.iload_n 2, 1) := by decide +kernel
theorem dX8_goBack_52 : decode cX8_goBack 52 = .ok (.aload_n 0, 1) := by decide +kernel
theorem dX8_goBack_53 : decode cX8_goBack 53 = .ok (.getfield 16, 3) := by decide +kernel
theorem dX8_goBack_56 : decode cX8_goBack 56 = .ok (.bipush 91, 2) := by decide +kernel
theorem dX8_goBack_58 : decode cX8_goBack 58 = .ok (.iload_n 1, 1) := by decide +kernel
theorem dX8_goBack_59 : decode cX8_goBack 59 = .ok (.imul, 1) := by decide +kernel
theorem dX8_goBack_60 : decode cX8_goBack 60 = .ok (.iload_n 2, 1) := by decide +kernel
theorem dX8_goBack_61 : decode cX8_goBack 61 = .ok (.iadd, 1) := by decide +kernel
theorem dX8_goBack_62 : decode cX8_goBack 62 = .ok (.iaload, 1) := by decide +kernel
theorem dX8_goBack_63 : decode cX8_goBack 63 = .ok (.iastore, 1) := by decide +kernel
theorem dX8_goBack_64 : decode cX8_goBack 64 = .ok (.iinc 2 1, 3) := by decide +kernel
theorem dX8_goBack_67 : decode cX8_goBack 67 = .ok (.goto (-26), 3) := by decide +kernel
theorem dX8_goBack_70 : decode cX8_goBack 70 = .ok (.aload_n 0, 1) := by decide +kernel
theorem dX8_goBack_71 : decode cX8_goBack 71 = .ok (.getfield 7, 3) := by decide +kernel
theorem dX8_goBack_74 : decode cX8_goBack 74 = .ok (.iconst 0, 1) := by decide +kernel
theorem dX8_goBack_75 : decode cX8_goBack 75 = .ok (.iaload, 1) := by decide +kernel
theorem dX8_goBack_76 : decode cX8_goBack 76 = .ok (.ireturn, 1) := by decide +kernel
theorem dX8_personNow_0 : decode cX8_personNow 0 = .ok (.aload_n 0, 1) := by decide +kernel
theorem dX8_personNow_1 : decode cX8_personNow 1 = .ok (.getfield 7, 3) := by decide +kernel
theorem dX8_personNow_4 : decode cX8_personNow 4 = .ok (.bipush 63, 2) := by decide +kernel
theorem dX8_personNow_6 : decode cX8_personNow 6 = .ok (.iload_n 1, 1) := by decide +kernel
theorem dX8_personNow_7 : decode cX8_personNow 7 = .ok (.iadd, 1) := by decide +kernel
theorem dX8_personNow_8 : decode cX8_personNow 8 = .ok (.iaload, 1) := by decide +kernel
theorem dX8_personNow_9 : decode cX8_personNow 9 = .ok (.bipush 6, 2) := by decide +kernel
theorem dX8_personNow_11 : decode cX8_personNow 11 = .ok (.if_icmp .eq 14, 3) := by decide +kernel
theorem dX8_personNow_14 : decode cX8_personNow 14 = .ok (.aload_n 0, 1) := by decide +kernel
theorem dX8_personNow_15 : decode cX8_personNow 15 = .ok (.getfield 7, 3) := by decide +kernel
theorem dX8_personNow_18 : decode cX8_personNow 18 = .ok (.iconst 0, 1) := by decide +kernel
theorem dX8_personNow_19 : decode cX8_personNow 19 = .ok (.iaload, 1) := by decide +kernel
theorem dX8_personNow_20 : decode cX8_personNow 20 = .ok (.bipush 20, 2) := by decide +kernel
theorem dX8_personNow_22 : decode cX8_personNow 22 = .ok (.if_icmp .ne 15, 3) := by decide +kernel
theorem dX8_personNow_25 : decode cX8_personNow 25 = .ok (.aload_n 0, 1) := by decide +kernel
theorem dX8_personNow_26 : decode cX8_personNow 26 = .ok (.getfield 7, 3) := by decide +kernel
theorem dX8_personNow_29 : decode cX8_personNow 29 = .ok (.iconst 2, 1) := by decide +kernel
theorem dX8_personNow_30 : decode cX8_personNow 30 = .ok (.dup2, 1) := by decide +kernel
theorem dX8_personNow_31 : decode cX8_personNow 31 = .ok (.iaload, 1) := by decide +kernel
theorem dX8_personNow_32 : decode cX8_personNow 32 = .ok (.iconst 1, 1) := by decide +kernel
theorem dX8_personNow_33 : decode cX8_personNow 33 = .ok (.iadd, 1) := by decide +kernel
theorem dX8_personNow_34 : decode cX8_personNow 34 = .ok (.iastore, 1) := by decide +kernel
theorem dX8_personNow_35 : decode cX8_personNow 35 = .ok (.iconst (-1), 1) := by decide +kernel
theorem dX8_personNow_36 : decode cX8_personNow 36 = .ok (.ireturn, 1) := by decide +kernel
theorem dX8_personNow_37 : decode cX8_personNow 37 = .ok (.aload_n 0, 1) := by decide +kernel
theorem dX8_personNow_38 : decode cX8_personNow 38 = .ok (.getfield 7, 3) := by decide +kernel
theorem dX8_personNow_41 : decode cX8_personNow 41 = .ok (.iconst 0, 1) := by decide +kernel
theorem dX8_personNow_42 : decode cX8_personNow 42 = .ok (.iaload, 1) := by decide +kernel
theorem dX8_personNow_43 : decode cX8_personNow 43 = .ok (.istore_n 3, 1) := by decide +kernel
theorem dX8_personNow_44 : decode cX8_personNow 44 = .ok (.aload_n 0, 1) := by decide +kernel
theorem dX8_personNow_45 : decode cX8_personNow 45 = .ok (.getfield 7, 3) := by decide +kernel
theorem dX8_personNow_48 : decode cX8_personNow 48 = .ok (.iconst 3, 1) := by decide +kernel
theorem dX8_personNow_49 : decode cX8_personNow 49 = .ok (.iconst 2, 1) := by decide +kernel
theorem dX8_personNow_50 : decode cX8_personNow 50 = .ok (.iload_n 3, 1) := by decide +kernel
theorem dX8_personNow_51 : decode cX8_personNow 51 = .ok (.imul, 1) := by decide +kernel
theorem dX8_personNow_52 : decode cX8_personNow 52 = .ok (.iadd, 1) := by decide +kernel
theorem dX8_personNow_53 : decode cX8_personNow 53 = .ok (.iload_n 1, 1) := by decide +kernel
theorem dX8_personNow_54 : decode cX8_personNow 54 = .ok (.iastore, 1) := by decide +kernel
theorem dX8_personNow_55 : decode cX8_personNow 55 = .ok (.aload_n 0, 1) := by decide +kernel
theorem dX8_personNow_56 : decode cX8_personNow 56 = .ok (.getfield 7, 3) := by decide +kernel
theorem dX8_personNow_59 : decode cX8_personNow 59 = .ok (.iconst 3, 1) := by decide +kernel
theorem dX8_personNow_60 : decode cX8_personNow 60 = .ok (.iconst 2, 1) := by decide +kernel
theorem dX8_personNow_61 : decode cX8_personNow 61 = .ok (.iload_n 3, 1) := by decide +kernel
theorem dX8_personNow_62 : decode cX8_personNow 62 = .ok (.imul, 1) := by decide +kernel
theorem dX8_personNow_63 : decode cX8_personNow 63 = .ok (.iadd, 1) := by decide +kernel
theorem dX8_personNow_64 : decode cX8_personNow 64 = .ok (.iconst 1, 1) := by decide +kernel
theorem dX8_personNow_65 : decode cX8_personNow 65 = .ok (.iadd, 1) := by decide +kernel
theorem dX8_personNow_66 : decode cX8_personNow 66 = .ok (.iload_n 2, 1) := by decide +kernel
theorem dX8_personNow_67 : decode cX8_personNow 67 = .ok (.iastore, 1) := by decide +kernel
theorem dX8_personNow_68 : decode cX8_personNow 68 = .ok (.aload_n 0, 1) := by decide +kernel
theorem dX8_personNow_69 : decode cX8_personNow 69 = .ok (.getfield 7, 3) := by decide +kernel
theorem dX8_personNow_72 : decode cX8_personNow 72 = .ok (.bipush 67, 2) := by decide +kernel
theorem dX8_personNow_74 : decode cX8_personNow 74 = .ok (.bipush 6, 2) := by decide +kernel
theorem dX8_personNow_76 : decode cX8_personNow 76 = .ok (.iload_n 1, 1) := by decide +kernel
theorem dX8_personNow_77 : decode cX8_personNow 77 = .ok (.imul, 1) := by decide +kernel
theorem dX8_personNow_78 : decode cX8_personNow 78 = .ok (.iadd, 1) := by decide +kernel
theorem dX8_personNow_79 : decode cX8_personNow 79 = .ok (.aload_n 0, 1) := by decide +kernel
theorem dX8_personNow_80 : decode cX8_personNow 80 = .ok (.getfield 7, 3) := by decide +kernel
theorem dX8_personNow_83 : decode cX8_personNow 83 = .ok (.bipush 63, 2) := by decide +kernel
theorem dX8_personNow_85 : decode cX8_personNow 85 = .ok (.iload_n 1, 1) := by decide +kernel
theorem dX8_personNow_86 : decode cX8_personNow 86 = .ok (.iadd, 1) := by decide +kernel
theorem dX8_personNow_87 : decode cX8_personNow 87 = .ok (.iaload, 1) := by decide +kernel
theorem dX8_personNow_88 : decode cX8_personNow 88 = .ok (.iadd, 1) := by decide +kernel
theorem dX8_personNow_89 : decode cX8_personNow 89 = .ok (.iload_n 3, 1) := by decide +kernel
theorem dX8_personNow_90 : decode cX8_personNow 90 = .ok (.iastore, 1) := by decide +kernel
theorem dX8_personNow_91 : decode cX8_personNow 91 = .ok (.aload_n 0, 1) := by decide +kernel
theorem dX8_personNow_92 : decode cX8_personNow 92 = .ok (.getfield 7, 3) := by decide +kernel
theorem dX8_personNow_95 : decode cX8_personNow 95 = .ok (.bipush 63, 2) := by decide +kernel
theorem dX8_personNow_97 : decode cX8_personNow 97 = .ok (.iload_n 1, 1) := by decide +kernel
theorem dX8_personNow_98 : decode cX8_personNow 98 = .ok (.iadd, 1) := by decide +kernel
theorem dX8_personNow_99 : decode cX8_personNow 99 = .ok (.dup2, 1) := by decide +kernel
theorem dX8_personNow_100 : decode cX8_personNow 100 = .ok (.iaload, 1) := by decide +kernel
theorem dX8_personNow_101 : decode cX8_personNow 101 = .ok (.iconst 1, 1) := by decide +kernel
theorem dX8_personNow_102 : decode cX8_personNow 102 = .ok (.iadd, 1) := by decide +kernel
theorem dX8_personNow_103 : decode cX8_personNow 103 = .ok (.iastore, 1) := by decide +kernel
theorem dX8_personNow_104 : decode cX8_personNow 104 = .ok (.aload_n 0, 1) := by decide +kernel
theorem dX8_personNow_105 : decode cX8_personNow 105 = .ok (.getfield 7, 3) := by decide +kernel
theorem dX8_personNow_108 : decode cX8_personNow 108 = .ok (.iconst 0, 1) := by decide +kernel
theorem dX8_personNow_109 : decode cX8_personNow 109 = .ok (.dup2, 1) := by decide +kernel
theorem dX8_personNow_110 : decode cX8_personNow 110 = .ok (.iaload, 1) := by decide +kernel
theorem dX8_personNow_111 : decode cX8_personNow 111 = .ok (.iconst 1, 1) := by decide +kernel
theorem dX8_personNow_112 : decode cX8_personNow 112 = .ok (.iadd, 1) := by decide +kernel
theorem dX8_personNow_113 : decode cX8_personNow 113 = .ok (.iastore, 1) := by decide +kernel
theorem dX8_personNow_114 : decode cX8_personNow 114 = .ok (.iload_n 3, 1) := by decide +kernel
theorem dX8_personNow_115 : decode cX8_personNow 115 = .ok (.ireturn, 1) := by decide +kernel
set_option maxRecDepth 20000 in
theorem ggX8_couplesOf_X8_one : GoodIn wsX8_couplesOf wsX8_one := goodIn_r _ [6, 1, 11, 12, 13, 14, 15, 16, 17, 18, 19, 20, 21, 22, 23, 24, 25, 26, 27, 28, 29, 30, 31] (by decide +kernel) (by decide +kernel)
set_option maxRecDepth 20000 in
theorem gX8_couplesOf_X8_one : GoodIn wsX8_couplesOf (wsV RX8 75 RX8 yX8_one wsX8_one) := goodIn_app (goodIn_of _ (by decide +kernel)) ggX8_couplesOf_X8_one
set_option maxRecDepth 20000 in
theorem ggX8_couplesOf_X8_other : GoodIn wsX8_couplesOf wsX8_other := goodIn_r _ [10, 1, 11, 12, 13, 14, 15, 16, 17, 18, 19, 20, 21, 22, 23, 24, 25, 26, 27, 28, 29, 30, 31] (by decide +kernel) (by decide +kernel)
set_option maxRecDepth 20000 in
theorem gX8_couplesOf_X8_other : GoodIn wsX8_couplesOf (wsV RX8 78 RX8 yX8_other wsX8_other) := goodIn_app (goodIn_of _ (by decide +kernel)) ggX8_couplesOf_X8_other
theorem dX8_couplesOf_0 : decode cX8_couplesOf 0 = .ok (.iconst 0, 1) := by decide +kernel
theorem dX8_couplesOf_1 : decode cX8_couplesOf 1 = .ok (.istore_n 2, 1) := by decide +kernel
theorem dX8_couplesOf_2 : decode cX8_couplesOf 2 = .ok (.iconst 0, 1) := by decide +kernel
theorem dX8_couplesOf_3 : decode cX8_couplesOf 3 = .ok (.istore_n 3, 1) := by decide +kernel
theorem dX8_couplesOf_4 : decode cX8_couplesOf 4 = .ok (.iload_n 3, 1) := by decide +kernel
theorem dX8_couplesOf_5 : decode cX8_couplesOf 5 = .ok (.aload_n 0, 1) := by decide +kernel
theorem dX8_couplesOf_6 : decode cX8_couplesOf 6 = .ok (.getfield 7, 3) := by decide +kernel
theorem dX8_couplesOf_9 : decode cX8_couplesOf 9 = .ok (.iconst 1, 1) := by decide +kernel
theorem dX8_couplesOf_10 : decode cX8_couplesOf 10 = .ok (.iaload, 1) := by decide +kernel
theorem dX8_couplesOf_11 : decode cX8_couplesOf 11 = .ok (.if_icmp .ge 35, 3) := by decide +kernel
theorem dX8_couplesOf_14 : decode cX8_couplesOf 14 = .ok (.iload_n 2, 1) := by decide +kernel
theorem dX8_couplesOf_15 : decode cX8_couplesOf 15 = .ok (.aload_n 0, 1) := by decide +kernel
theorem dX8_couplesOf_16 : decode cX8_couplesOf 16 = .ok (.iload_n 3, 1) := by decide +kernel
theorem dX8_couplesOf_17 : decode cX8_couplesOf 17 = .ok (.invokevirtual 75, 3) := by decide +kernel
theorem dX8_couplesOf_20 : decode cX8_couplesOf 20 = .ok (.iload_n 1, 1) := by decide +kernel
theorem dX8_couplesOf_21 : decode cX8_couplesOf 21 = .ok (.if_icmp .eq 12, 3) := by decide +kernel
theorem dX8_couplesOf_24 : decode cX8_couplesOf 24 = .ok (.aload_n 0, 1) := by decide +kernel
theorem dX8_couplesOf_25 : decode cX8_couplesOf 25 = .ok (.iload_n 3, 1) := by decide +kernel
theorem dX8_couplesOf_26 : decode cX8_couplesOf 26 = .ok (.invokevirtual 78, 3) := by decide +kernel
theorem dX8_couplesOf_29 : decode cX8_couplesOf 29 = .ok (.iload_n 1, 1) := by decide +kernel
theorem dX8_couplesOf_30 : decode cX8_couplesOf 30 = .ok (.if_icmp .ne 7, 3) := by decide +kernel
theorem dX8_couplesOf_33 : decode cX8_couplesOf 33 = .ok (.iconst 1, 1) := by decide +kernel
theorem dX8_couplesOf_34 : decode cX8_couplesOf 34 = .ok (.goto 4, 3) := by decide +kernel
theorem dX8_couplesOf_37 : decode cX8_couplesOf 37 = .ok (.iconst 0, 1) := by decide +kernel
theorem dX8_couplesOf_38 : decode cX8_couplesOf 38 = .ok (.iadd, 1) := by decide +kernel
theorem dX8_couplesOf_39 : decode cX8_couplesOf 39 = .ok (.istore_n 2, 1) := by decide +kernel
theorem dX8_couplesOf_40 : decode cX8_couplesOf 40 = .ok (.iinc 3 1, 3) := by decide +kernel
theorem dX8_couplesOf_43 : decode cX8_couplesOf 43 = .ok (.goto (-39), 3) := by decide +kernel
theorem dX8_couplesOf_46 : decode cX8_couplesOf 46 = .ok (.iload_n 2, 1) := by decide +kernel
theorem dX8_couplesOf_47 : decode cX8_couplesOf 47 = .ok (.ireturn, 1) := by decide +kernel
set_option maxRecDepth 20000 in
theorem ggX8_areCouple_X8_one : GoodIn wsX8_areCouple wsX8_one := goodIn_r _ [6, 1, 11, 12, 13, 14, 15, 16, 17, 18, 19, 20, 21, 22, 23, 24, 25, 26, 27, 28, 29, 30, 31] (by decide +kernel) (by decide +kernel)
set_option maxRecDepth 20000 in
theorem gX8_areCouple_X8_one : GoodIn wsX8_areCouple (wsV RX8 75 RX8 yX8_one wsX8_one) := goodIn_app (goodIn_of _ (by decide +kernel)) ggX8_areCouple_X8_one
set_option maxRecDepth 20000 in
theorem ggX8_areCouple_X8_other : GoodIn wsX8_areCouple wsX8_other := goodIn_r _ [10, 1, 11, 12, 13, 14, 15, 16, 17, 18, 19, 20, 21, 22, 23, 24, 25, 26, 27, 28, 29, 30, 31] (by decide +kernel) (by decide +kernel)
set_option maxRecDepth 20000 in
theorem gX8_areCouple_X8_other : GoodIn wsX8_areCouple (wsV RX8 78 RX8 yX8_other wsX8_other) := goodIn_app (goodIn_of _ (by decide +kernel)) ggX8_areCouple_X8_other
theorem dX8_areCouple_0 : decode cX8_areCouple 0 = .ok (.iconst 0, 1) := by decide +kernel
theorem dX8_areCouple_1 : decode cX8_areCouple 1 = .ok (.istore_n 3, 1) := by decide +kernel
theorem dX8_areCouple_2 : decode cX8_areCouple 2 = .ok (.iconst 0, 1) := by decide +kernel
theorem dX8_areCouple_3 : decode cX8_areCouple 3 = .ok (.istore 4, 2) := by decide +kernel
theorem dX8_areCouple_5 : decode cX8_areCouple 5 = .ok (.iload 4, 2) := by decide +kernel
theorem dX8_areCouple_7 : decode cX8_areCouple 7 = .ok (.aload_n 0, 1) := by decide +kernel
theorem dX8_areCouple_8 : decode cX8_areCouple 8 = .ok (.getfield 7, 3) := by decide +kernel
theorem dX8_areCouple_11 : decode cX8_areCouple 11 = .ok (.iconst 1, 1) := by decide +kernel
theorem dX8_areCouple_12 : decode cX8_areCouple 12 = .ok (.iaload, 1) := by decide +kernel
theorem dX8_areCouple_13 : decode cX8_areCouple 13 = .ok (.if_icmp .ge 39, 3) := by decide +kernel
theorem dX8_areCouple_16 : decode cX8_areCouple 16 = .ok (.iload_n 3, 1) := by decide +kernel
theorem dX8_areCouple_17 : decode cX8_areCouple 17 = .ok (.ifCond .ne 23, 3) := by decide +kernel
theorem dX8_areCouple_20 : decode cX8_areCouple 20 = .ok (.aload_n 0, 1) := by decide +kernel
theorem dX8_areCouple_21 : decode cX8_areCouple 21 = .ok (.iload 4, 2) := by decide +kernel
theorem dX8_areCouple_23 : decode cX8_areCouple 23 = .ok (.invokevirtual 75, 3) := by decide +kernel
theorem dX8_areCouple_26 : decode cX8_areCouple 26 = .ok (.iload_n 1, 1) := by decide +kernel
theorem dX8_areCouple_27 : decode cX8_areCouple 27 = .ok (.if_icmp .ne 17, 3) := by decide +kernel
theorem dX8_areCouple_30 : decode cX8_areCouple 30 = .ok (.aload_n 0, 1) := by decide +kernel
theorem dX8_areCouple_31 : decode cX8_areCouple 31 = .ok (.iload 4, 2) := by decide +kernel
theorem dX8_areCouple_33 : decode cX8_areCouple 33 = .ok (.invokevirtual 78, 3) := by decide +kernel
theorem dX8_areCouple_36 : decode cX8_areCouple 36 = .ok (.iload_n 2, 1) := by decide +kernel
theorem dX8_areCouple_37 : decode cX8_areCouple 37 = .ok (.if_icmp .ne 7, 3) := by decide +kernel
theorem dX8_areCouple_40 : decode cX8_areCouple 40 = .ok (.iconst 1, 1) := by decide +kernel
theorem dX8_areCouple_41 : decode cX8_areCouple 41 = .ok (.goto 4, 3) := by decide +kernel
theorem dX8_areCouple_44 : decode cX8_areCouple 44 = .ok (.iconst 0, 1) := by decide +kernel
theorem dX8_areCouple_45 : decode cX8_areCouple 45 = .ok (.istore_n 3, 1) := by decide +kernel
theorem dX8_areCouple_46 : decode cX8_areCouple 46 = .ok (.iinc 4 1, 3) := by decide +kernel
theorem dX8_areCouple_49 : decode cX8_areCouple 49 = .ok (.goto (-44), 3) := by decide +kernel
theorem dX8_areCouple_52 : decode cX8_areCouple 52 = .ok (.iload_n 3, 1) := by decide +kernel
theorem dX8_areCouple_53 : decode cX8_areCouple 53 = .ok (.ireturn, 1) := by decide +kernel
set_option maxRecDepth 20000 in
theorem ggX8_reason_X8_rowOf : GoodIn wsX8_reason wsX8_rowOf := goodIn_r _ [6, 1, 23, 24, 25, 26, 27, 28, 29, 30, 31, 32, 33, 34, 35, 36, 37, 38, 39, 40, 41, 42, 43] (by decide +kernel) (by decide +kernel)
set_option maxRecDepth 20000 in
theorem gX8_reason_X8_rowOf : GoodIn wsX8_reason (wsV RX8 58 RX8 yX8_rowOf wsX8_rowOf) := goodIn_app (goodIn_of _ (by decide +kernel)) ggX8_reason_X8_rowOf
set_option maxRecDepth 20000 in
theorem ggX8_reason_X8_areCouple : GoodIn wsX8_reason wsX8_areCouple := goodIn_r _ [10, 1, 11, 12, 13, 5, 14, 15, 16, 17, 18, 23, 24, 25, 26, 27, 28, 29, 30, 31, 32, 33, 34, 35, 36, 37, 38, 39, 40, 41, 42, 43] (by decide +kernel) (by decide +kernel)
set_option maxRecDepth 20000 in
theorem gX8_reason_X8_areCouple : GoodIn wsX8_reason (wsV RX8 81 RX8 yX8_areCouple wsX8_areCouple) := goodIn_app (goodIn_of _ (by decide +kernel)) ggX8_reason_X8_areCouple
set_option maxRecDepth 20000 in
theorem ggX8_reason_X8_couplesOf : GoodIn wsX8_reason wsX8_couplesOf := goodIn_r _ [22, 1, 11, 12, 13, 5, 14, 15, 16, 17, 18, 23, 24, 25, 26, 27, 28, 29, 30, 31, 32, 33, 34, 35, 36, 37, 38, 39, 40, 41, 42, 43] (by decide +kernel) (by decide +kernel)
set_option maxRecDepth 20000 in
theorem gX8_reason_X8_couplesOf : GoodIn wsX8_reason (wsV RX8 85 RX8 yX8_couplesOf wsX8_couplesOf) := goodIn_app (goodIn_of _ (by decide +kernel)) ggX8_reason_X8_couplesOf
theorem dX8_reason_0 : decode cX8_reason 0 = .ok (.aload_n 0, 1) := by decide +kernel
theorem dX8_reason_1 : decode cX8_reason 1 = .ok (.getfield 7, 3) := by decide +kernel
theorem dX8_reason_4 : decode cX8_reason 4 = .ok (.iconst 1, 1) := by decide +kernel
theorem dX8_reason_5 : decode cX8_reason 5 = .ok (.iaload, 1) := by decide +kernel
theorem dX8_reason_6 : decode cX8_reason 6 = .ok (.bipush 10, 2) := by decide +kernel
theorem dX8_reason_8 : decode cX8_reason 8 = .ok (.if_icmp .ne 5, 3) := by decide +kernel
theorem dX8_reason_11 : decode cX8_reason 11 = .ok (.iconst 1, 1) := by decide +kernel
theorem dX8_reason_12 : decode cX8_reason 12 = .ok (.ireturn, 1) := by decide +kernel
theorem dX8_reason_13 : decode cX8_reason 13 = .ok (.aload_n 0, 1) := by decide +kernel
theorem dX8_reason_14 : decode cX8_reason 14 = .ok (.iload_n 1, 1) := by decide +kernel
theorem dX8_reason_15 : decode cX8_reason 15 = .ok (.invokevirtual 58, 3) := by decide +kernel
theorem dX8_reason_18 : decode cX8_reason 18 = .ok (.aload_n 0, 1) := by decide +kernel
theorem dX8_reason_19 : decode cX8_reason 19 = .ok (.iload_n 2, 1) := by decide +kernel
theorem dX8_reason_20 : decode cX8_reason 20 = .ok (.invokevirtual 58, 3) := by decide +kernel
theorem dX8_reason_23 : decode cX8_reason 23 = .ok (.if_icmp .ne 12, 3) := by decide +kernel
theorem dX8_reason_26 : decode cX8_reason 26 = .ok (.aload_n 0, 1) := by decide +kernel
theorem dX8_reason_27 : decode cX8_reason 27 = .ok (.iload_n 1, 1) := by decide +kernel
theorem dX8_reason_28 : decode cX8_reason 28 = .ok (.invokevirtual 58, 3) := by decide +kernel
theorem dX8_reason_31 : decode cX8_reason 31 = .ok (.iconst 3, 1) := by decide +kernel
theorem dX8_reason_32 : decode cX8_reason 32 = .ok (.if_icmp .ne 5, 3) := by decide +kernel
theorem dX8_reason_35 : decode cX8_reason 35 = .ok (.iconst 2, 1) := by decide +kernel
theorem dX8_reason_36 : decode cX8_reason 36 = .ok (.ireturn, 1) := by decide +kernel
theorem dX8_reason_37 : decode cX8_reason 37 = .ok (.aload_n 0, 1) := by decide +kernel
theorem dX8_reason_38 : decode cX8_reason 38 = .ok (.iload_n 1, 1) := by decide +kernel
theorem dX8_reason_39 : decode cX8_reason 39 = .ok (.iload_n 2, 1) := by decide +kernel
theorem dX8_reason_40 : decode cX8_reason 40 = .ok (.invokevirtual 81, 3) := by decide +kernel
theorem dX8_reason_43 : decode cX8_reason 43 = .ok (.ifCond .eq 7, 3) := by decide +kernel
theorem dX8_reason_46 : decode cX8_reason 46 = .ok (.iconst 3, 1) := by decide +kernel
theorem dX8_reason_47 : decode cX8_reason 47 = .ok (.goto 26, 3) := by decide +kernel
theorem dX8_reason_50 : decode cX8_reason 50 = .ok (.aload_n 0, 1) := by decide +kernel
theorem dX8_reason_51 : decode cX8_reason 51 = .ok (.iload_n 1, 1) := by decide +kernel
theorem dX8_reason_52 : decode cX8_reason 52 = .ok (.invokevirtual 85, 3) := by decide +kernel
theorem dX8_reason_55 : decode cX8_reason 55 = .ok (.iconst 2, 1) := by decide +kernel
theorem dX8_reason_56 : decode cX8_reason 56 = .ok (.if_icmp .eq 12, 3) := by decide +kernel
theorem dX8_reason_59 : decode cX8_reason 59 = .ok (.aload_n 0, 1) := by decide +kernel
theorem dX8_reason_60 : decode cX8_reason 60 = .ok (.iload_n 2, 1) := by decide +kernel
theorem dX8_reason_61 : decode cX8_reason 61 = .ok (.invokevirtual 85, 3) := by decide +kernel
theorem dX8_reason_64 : decode cX8_reason 64 = .ok (.iconst 2, 1) := by decide +kernel
theorem dX8_reason_65 : decode cX8_reason 65 = .ok (.if_icmp .ne 7, 3) := by decide +kernel
theorem dX8_reason_68 : decode cX8_reason 68 = .ok (.iconst 4, 1) := by decide +kernel
theorem dX8_reason_69 : decode cX8_reason 69 = .ok (.goto 4, 3) := by decide +kernel
theorem dX8_reason_72 : decode cX8_reason 72 = .ok (.iconst 0, 1) := by decide +kernel
theorem dX8_reason_73 : decode cX8_reason 73 = .ok (.ireturn, 1) := by decide +kernel
set_option maxRecDepth 20000 in
theorem ggX8_marryNow_X8_reason : GoodIn wsX8_marryNow wsX8_reason := goodIn_r _ [6, 1, 7, 8, 9, 5, 10, 11, 12, 13, 14, 15, 16, 17, 18, 19, 20, 21, 22, 23, 24, 25, 26, 27, 28, 29, 30, 31, 32, 33, 34, 35, 36, 37, 38, 39, 40, 41, 42, 43, 44, 45, 46, 47] (by decide +kernel) (by decide +kernel)
set_option maxRecDepth 20000 in
theorem gX8_marryNow_X8_reason : GoodIn wsX8_marryNow (wsV RX8 88 RX8 yX8_reason wsX8_reason) := goodIn_app (goodIn_of _ (by decide +kernel)) ggX8_marryNow_X8_reason
theorem dX8_marryNow_0 : decode cX8_marryNow 0 = .ok (.iload_n 1, 1) := by decide +kernel
theorem dX8_marryNow_1 : decode cX8_marryNow 1 = .ok (.iload_n 2, 1) := by decide +kernel
theorem dX8_marryNow_2 : decode cX8_marryNow 2 = .ok (.if_icmp .ge 7, 3) := by decide +kernel
theorem dX8_marryNow_5 : decode cX8_marryNow 5 = .ok (.iload_n 1, 1) := by decide +kernel
theorem dX8_marryNow_6 : decode cX8_marryNow 6 = .ok (.goto 4, 3) := by decide +kernel
theorem dX8_marryNow_9 : decode cX8_marryNow 9 = .ok (.iload_n 2, 1) := by decide +kernel
theorem dX8_marryNow_10 : decode cX8_marryNow 10 = .ok (.istore_n 3, 1) := by decide +kernel
theorem dX8_marryNow_11 : decode cX8_marryNow 11 = .ok (.iload_n 1, 1) := by decide +kernel
theorem dX8_marryNow_12 : decode cX8_marryNow 12 = .ok (.iload_n 2, 1) := by decide +kernel
theorem dX8_marryNow_13 : decode cX8_marryNow 13 = .ok (.if_icmp .ge 7, 3) := by decide +kernel
theorem dX8_marryNow_16 : decode cX8_marryNow 16 = .ok (.iload_n 2, 1) := by decide +kernel
theorem dX8_marryNow_17 : decode cX8_marryNow 17 = .ok (.goto 4, 3) := by decide +kernel
theorem dX8_marryNow_20 : decode cX8_marryNow 20 = .ok (.iload_n 1, 1) := by decide +kernel
theorem dX8_marryNow_21 : decode cX8_marryNow 21 = .ok (.istore 4, 2) := by decide +kernel
theorem dX8_marryNow_23 : decode cX8_marryNow 23 = .ok (.aload_n 0, 1) := by decide +kernel
theorem dX8_marryNow_24 : decode cX8_marryNow 24 = .ok (.iload_n 3, 1) := by decide +kernel
theorem dX8_marryNow_25 : decode cX8_marryNow 25 = .ok (.iload 4, 2) := by decide +kernel
theorem dX8_marryNow_27 : decode cX8_marryNow 27 = .ok (.invokevirtual 88, 3) := by decide +kernel
theorem dX8_marryNow_30 : decode cX8_marryNow 30 = .ok (.istore 5, 2) := by decide +kernel
theorem dX8_marryNow_32 : decode cX8_marryNow 32 = .ok (.iload 5, 2) := by decide +kernel
theorem dX8_marryNow_34 : decode cX8_marryNow 34 = .ok (.ifCond .le 16, 3) := by decide +kernel
theorem dX8_marryNow_37 : decode cX8_marryNow 37 = .ok (.aload_n 0, 1) := by decide +kernel
theorem dX8_marryNow_38 : decode cX8_marryNow 38 = .ok (.getfield 7, 3) := by decide +kernel
theorem dX8_marryNow_41 : decode cX8_marryNow 41 = .ok (.iconst 2, 1) := by decide +kernel
theorem dX8_marryNow_42 : decode cX8_marryNow 42 = .ok (.dup2, 1) := by decide +kernel
theorem dX8_marryNow_43 : decode cX8_marryNow 43 = .ok (.iaload, 1) := by decide +kernel
theorem dX8_marryNow_44 : decode cX8_marryNow 44 = .ok (.iconst 1, 1) := by decide +kernel
theorem dX8_marryNow_45 : decode cX8_marryNow 45 = .ok (.iadd, 1) := by decide +kernel
theorem dX8_marryNow_46 : decode cX8_marryNow 46 = .ok (.iastore, 1) := by decide +kernel
theorem dX8_marryNow_47 : decode cX8_marryNow 47 = .ok (.iload 5, 2) := by decide +kernel
theorem dX8_marryNow_49 : decode cX8_marryNow 49 = .ok (.ireturn, 1) := by decide +kernel
theorem dX8_marryNow_50 : decode cX8_marryNow 50 = .ok (.aload_n 0, 1) := by decide +kernel
theorem dX8_marryNow_51 : decode cX8_marryNow 51 = .ok (.getfield 7, 3) := by decide +kernel
theorem dX8_marryNow_54 : decode cX8_marryNow 54 = .ok (.bipush 43, 2) := by decide +kernel
theorem dX8_marryNow_56 : decode cX8_marryNow 56 = .ok (.iconst 2, 1) := by decide +kernel
theorem dX8_marryNow_57 : decode cX8_marryNow 57 = .ok (.aload_n 0, 1) := by decide +kernel
theorem dX8_marryNow_58 : decode cX8_marryNow 58 = .ok (.getfield 7, 3) := by decide +kernel
theorem dX8_marryNow_61 : decode cX8_marryNow 61 = .ok (.iconst 1, 1) := by decide +kernel
theorem dX8_marryNow_62 : decode cX8_marryNow 62 = .ok (.iaload, 1) := by decide +kernel
theorem dX8_marryNow_63 : decode cX8_marryNow 63 = .ok (.imul, 1) := by decide +kernel
theorem dX8_marryNow_64 : decode cX8_marryNow 64 = .ok (.iadd, 1) := by decide +kernel
theorem dX8_marryNow_65 : decode cX8_marryNow 65 = .ok (.iload_n 3, 1) := by decide +kernel
theorem dX8_marryNow_66 : decode cX8_marryNow 66 = .ok (.iastore, 1) := by decide +kernel
theorem dX8_marryNow_67 : decode cX8_marryNow 67 = .ok (.aload_n 0, 1) := by decide +kernel
theorem dX8_marryNow_68 : decode cX8_marryNow 68 = .ok (.getfield 7, 3) := by decide +kernel
theorem dX8_marryNow_71 : decode cX8_marryNow 71 = .ok (.bipush 43, 2) := by decide +kernel
theorem dX8_marryNow_73 : decode cX8_marryNow 73 = .ok (.iconst 2, 1) := by decide +kernel
theorem dX8_marryNow_74 : decode cX8_marryNow 74 = .ok (.aload_n 0, 1) := by decide +kernel
theorem dX8_marryNow_75 : decode cX8_marryNow 75 = .ok (.getfield 7, 3) := by decide +kernel
theorem dX8_marryNow_78 : decode cX8_marryNow 78 = .ok (.iconst 1, 1) := by decide +kernel
theorem dX8_marryNow_79 : decode cX8_marryNow 79 = .ok (.iaload, 1) := by decide +kernel
theorem dX8_marryNow_80 : decode cX8_marryNow 80 = .ok (.imul, 1) := by decide +kernel
theorem dX8_marryNow_81 : decode cX8_marryNow 81 = .ok (.iadd, 1) := by decide +kernel
theorem dX8_marryNow_82 : decode cX8_marryNow 82 = .ok (.iconst 1, 1) := by decide +kernel
theorem dX8_marryNow_83 : decode cX8_marryNow 83 = .ok (.iadd, 1) := by decide +kernel
theorem dX8_marryNow_84 : decode cX8_marryNow 84 = .ok (.iload 4, 2) := by decide +kernel
theorem dX8_marryNow_86 : decode cX8_marryNow 86 = .ok (.iastore, 1) := by decide +kernel
theorem dX8_marryNow_87 : decode cX8_marryNow 87 = .ok (.aload_n 0, 1) := by decide +kernel
theorem dX8_marryNow_88 : decode cX8_marryNow 88 = .ok (.getfield 7, 3) := by decide +kernel
theorem dX8_marryNow_91 : decode cX8_marryNow 91 = .ok (.iconst 1, 1) := by decide +kernel
theorem dX8_marryNow_92 : decode cX8_marryNow 92 = .ok (.dup2, 1) := by decide +kernel
theorem dX8_marryNow_93 : decode cX8_marryNow 93 = .ok (.iaload, 1) := by decide +kernel
theorem dX8_marryNow_94 : decode cX8_marryNow 94 = .ok (.iconst 1, 1) := by decide +kernel
theorem dX8_marryNow_95 : decode cX8_marryNow 95 = .ok (.iadd, 1) := by decide +kernel
theorem dX8_marryNow_96 : decode cX8_marryNow 96 = .ok (.iastore, 1) := by decide +kernel
theorem dX8_marryNow_97 : decode cX8_marryNow 97 = .ok (.aload_n 0, 1) := by decide +kernel
theorem dX8_marryNow_98 : decode cX8_marryNow 98 = .ok (.getfield 7, 3) := by decide +kernel
theorem dX8_marryNow_101 : decode cX8_marryNow 101 = .ok (.iconst 1, 1) := by decide +kernel
theorem dX8_marryNow_102 : decode cX8_marryNow 102 = .ok (.iaload, 1) := by decide +kernel
theorem dX8_marryNow_103 : decode cX8_marryNow 103 = .ok (.bipush 9, 2) := by decide +kernel
theorem dX8_marryNow_105 : decode cX8_marryNow 105 = .ok (.iadd, 1) := by decide +kernel
theorem dX8_marryNow_106 : decode cX8_marryNow 106 = .ok (.ireturn, 1) := by decide +kernel
set_option maxRecDepth 20000 in
theorem ggX8_childNow_X8_one : GoodIn wsX8_childNow wsX8_one := goodIn_r _ [5, 6, 15, 16, 17, 18, 19, 20, 21, 22, 23, 24, 25, 26, 27, 28, 29, 30, 31, 32, 33, 34, 35] (by decide +kernel) (by decide +kernel)
set_option maxRecDepth 20000 in
theorem gX8_childNow_X8_one : GoodIn wsX8_childNow (wsV RX8 75 RX8 yX8_one wsX8_one) := goodIn_app (goodIn_of _ (by decide +kernel)) ggX8_childNow_X8_one
set_option maxRecDepth 20000 in
theorem ggX8_childNow_X8_rowOf : GoodIn wsX8_childNow wsX8_rowOf := goodIn_r _ [10, 6, 15, 16, 17, 18, 19, 20, 21, 22, 23, 24, 25, 26, 27, 28, 29, 30, 31, 32, 33, 34, 35] (by decide +kernel) (by decide +kernel)
set_option maxRecDepth 20000 in
theorem gX8_childNow_X8_rowOf : GoodIn wsX8_childNow (wsV RX8 58 RX8 yX8_rowOf wsX8_rowOf) := goodIn_app (goodIn_of _ (by decide +kernel)) ggX8_childNow_X8_rowOf
set_option maxRecDepth 20000 in
theorem ggX8_childNow_X8_personNow : GoodIn wsX8_childNow wsX8_personNow := goodIn_r _ [14, 6, 15, 16, 17, 18, 19, 20, 21, 22, 23, 24, 25, 26, 27, 28, 29, 30, 31, 32, 33, 34, 35] (by decide +kernel) (by decide +kernel)
set_option maxRecDepth 20000 in
theorem gX8_childNow_X8_personNow : GoodIn wsX8_childNow (wsV RX8 91 RX8 yX8_personNow wsX8_personNow) := goodIn_app (goodIn_of _ (by decide +kernel)) ggX8_childNow_X8_personNow
theorem dX8_childNow_0 : decode cX8_childNow 0 = .ok (.aload_n 0, 1) := by decide +kernel
theorem dX8_childNow_1 : decode cX8_childNow 1 = .ok (.aload_n 0, 1) := by decide +kernel
theorem dX8_childNow_2 : decode cX8_childNow 2 = .ok (.aload_n 0, 1) := by decide +kernel
theorem dX8_childNow_3 : decode cX8_childNow 3 = .ok (.iload_n 1, 1) := by decide +kernel
theorem dX8_childNow_4 : decode cX8_childNow 4 = .ok (.invokevirtual 75, 3) := by decide +kernel
theorem dX8_childNow_7 : decode cX8_childNow 7 = .ok (.invokevirtual 58, 3) := by decide +kernel
theorem dX8_childNow_10 : decode cX8_childNow 10 = .ok (.iconst 1, 1) := by decide +kernel
theorem dX8_childNow_11 : decode cX8_childNow 11 = .ok (.iadd, 1) := by decide +kernel
theorem dX8_childNow_12 : decode cX8_childNow 12 = .ok (.iload_n 1, 1) := by decide +kernel
theorem dX8_childNow_13 : decode cX8_childNow 13 = .ok (.invokevirtual 91, 3) := by decide +kernel
theorem dX8_childNow_16 : decode cX8_childNow 16 = .ok (.ireturn, 1) := by decide +kernel
set_option maxRecDepth 20000 in
theorem ggX8_person_X8_isRow : GoodIn wsX8_person wsX8_isRow := goodIn_r _ [5, 6, 7, 4, 8] (by decide +kernel) (by decide +kernel)
set_option maxRecDepth 20000 in
theorem gX8_person_X8_isRow : GoodIn wsX8_person (va_wsS RX8 94 yX8_isRow wsX8_isRow) := goodIn_app (goodIn_of _ (by decide +kernel)) ggX8_person_X8_isRow
set_option maxRecDepth 20000 in
theorem ggX8_person_X8_fails : GoodIn wsX8_person wsX8_fails := goodIn_r _ [12, 1, 24, 25, 26, 27, 28, 29, 30, 31, 32, 33, 34, 35, 36, 37, 38, 39, 40, 41, 42, 43, 44] (by decide +kernel) (by decide +kernel)
set_option maxRecDepth 20000 in
theorem gX8_person_X8_fails : GoodIn wsX8_person (wsV RX8 69 RX8 yX8_fails wsX8_fails) := goodIn_app (goodIn_of _ (by decide +kernel)) ggX8_person_X8_fails
set_option maxRecDepth 20000 in
theorem ggX8_person_X8_save : GoodIn wsX8_person wsX8_save := goodIn_r _ [16, 17, 18, 19, 24, 25, 26, 27, 28, 29, 30, 31, 32, 33, 34, 35, 36, 37, 38, 39, 40, 41, 42, 43, 44] (by decide +kernel) (by decide +kernel)
set_option maxRecDepth 20000 in
theorem gX8_person_X8_save : GoodIn wsX8_person (wsV RX8 72 RX8 yX8_save wsX8_save) := goodIn_app (goodIn_of _ (by decide +kernel)) ggX8_person_X8_save
set_option maxRecDepth 20000 in
theorem ggX8_person_X8_personNow : GoodIn wsX8_person wsX8_personNow := goodIn_r _ [23, 19, 24, 25, 26, 27, 28, 29, 30, 31, 32, 33, 34, 35, 36, 37, 38, 39, 40, 41, 42, 43, 44] (by decide +kernel) (by decide +kernel)
set_option maxRecDepth 20000 in
theorem gX8_person_X8_personNow : GoodIn wsX8_person (wsV RX8 91 RX8 yX8_personNow wsX8_personNow) := goodIn_app (goodIn_of _ (by decide +kernel)) ggX8_person_X8_personNow
theorem dX8_person_0 : decode cX8_person 0 = .ok (.aload_n 0, 1) := by decide +kernel
theorem dX8_person_1 : decode cX8_person 1 = .ok (.iconst 0, 1) := by decide +kernel
theorem dX8_person_2 : decode cX8_person 2 = .ok (.putfield 50, 3) := by decide +kernel
theorem dX8_person_5 : decode cX8_person 5 = .ok (.iload_n 1, 1) := by decide +kernel
theorem dX8_person_6 : decode cX8_person 6 = .ok (.invokestatic 94, 3) := by decide +kernel
theorem dX8_person_9 : decode cX8_person 9 = .ok (.ifCond .ne 9, 3) := by decide +kernel
theorem dX8_person_12 : decode cX8_person 12 = .ok (.aload_n 0, 1) := by decide +kernel
theorem dX8_person_13 : decode cX8_person 13 = .ok (.iconst 1, 1) := by decide +kernel
theorem dX8_person_14 : decode cX8_person 14 = .ok (.invokevirtual 69, 3) := by decide +kernel
theorem dX8_person_17 : decode cX8_person 17 = .ok (.ireturn, 1) := by decide +kernel
theorem dX8_person_18 : decode cX8_person 18 = .ok (.aload_n 0, 1) := by decide +kernel
theorem dX8_person_19 : decode cX8_person 19 = .ok (.invokevirtual 72, 3) := by decide +kernel
theorem dX8_person_22 : decode cX8_person 22 = .ok (.aload_n 0, 1) := by decide +kernel
theorem dX8_person_23 : decode cX8_person 23 = .ok (.iload_n 1, 1) := by decide +kernel
theorem dX8_person_24 : decode cX8_person 24 = .ok (.iconst (-1), 1) := by decide +kernel
theorem dX8_person_25 : decode cX8_person 25 = .ok (.invokevirtual 91, 3) := by decide +kernel
theorem dX8_person_28 : decode cX8_person 28 = .ok (.ireturn, 1) := by decide +kernel
set_option maxRecDepth 20000 in
theorem ggX8_marry_X8_isPerson : GoodIn wsX8_marry wsX8_isPerson := goodIn_r _ [6, 7, 8, 9, 5, 10, 49, 50, 51, 52, 53, 54, 55, 56, 57, 58, 59, 60, 61, 62, 63, 64, 65, 66, 67, 68, 69] (by decide +kernel) (by decide +kernel)
set_option maxRecDepth 20000 in
theorem gX8_marry_X8_isPerson : GoodIn wsX8_marry (wsV RX8 98 RX8 yX8_isPerson wsX8_isPerson) := goodIn_app (goodIn_of _ (by decide +kernel)) ggX8_marry_X8_isPerson
set_option maxRecDepth 20000 in
theorem ggX8_marry_X8_fails : GoodIn wsX8_marry wsX8_fails := goodIn_r _ [14, 1, 49, 50, 51, 52, 53, 54, 55, 56, 57, 58, 59, 60, 61, 62, 63, 64, 65, 66, 67, 68, 69] (by decide +kernel) (by decide +kernel)
set_option maxRecDepth 20000 in
theorem gX8_marry_X8_fails : GoodIn wsX8_marry (wsV RX8 69 RX8 yX8_fails wsX8_fails) := goodIn_app (goodIn_of _ (by decide +kernel)) ggX8_marry_X8_fails
set_option maxRecDepth 20000 in
theorem ggX8_marry_X8_save : GoodIn wsX8_marry wsX8_save := goodIn_r _ [18, 19, 20, 7, 49, 50, 51, 52, 53, 54, 55, 56, 57, 58, 59, 60, 61, 62, 63, 64, 65, 66, 67, 68, 69] (by decide +kernel) (by decide +kernel)
set_option maxRecDepth 20000 in
theorem gX8_marry_X8_save : GoodIn wsX8_marry (wsV RX8 72 RX8 yX8_save wsX8_save) := goodIn_app (goodIn_of _ (by decide +kernel)) ggX8_marry_X8_save
set_option maxRecDepth 20000 in
theorem ggX8_marry_X8_marryNow : GoodIn wsX8_marry wsX8_marryNow := goodIn_r _ [24, 7, 25, 26, 27, 5, 28, 29, 30, 31, 32, 33, 34, 35, 36, 37, 38, 39, 40, 41, 42, 43, 44, 45, 46, 47, 48, 49, 50, 51, 52, 53, 54, 55, 56, 57, 58, 59, 60, 61, 62, 63, 64, 65, 66, 67, 68, 69] (by decide +kernel) (by decide +kernel)
set_option maxRecDepth 20000 in
theorem gX8_marry_X8_marryNow : GoodIn wsX8_marry (wsV RX8 101 RX8 yX8_marryNow wsX8_marryNow) := goodIn_app (goodIn_of _ (by decide +kernel)) ggX8_marry_X8_marryNow
theorem dX8_marry_0 : decode cX8_marry 0 = .ok (.aload_n 0, 1) := by decide +kernel
theorem dX8_marry_1 : decode cX8_marry 1 = .ok (.iconst 0, 1) := by decide +kernel
theorem dX8_marry_2 : decode cX8_marry 2 = .ok (.putfield 50, 3) := by decide +kernel
theorem dX8_marry_5 : decode cX8_marry 5 = .ok (.aload_n 0, 1) := by decide +kernel
theorem dX8_marry_6 : decode cX8_marry 6 = .ok (.iload_n 1, 1) := by decide +kernel
theorem dX8_marry_7 : decode cX8_marry 7 = .ok (.invokevirtual 98, 3) := by decide +kernel
theorem dX8_marry_10 : decode cX8_marry 10 = .ok (.ifCond .eq 11, 3) := by decide +kernel
theorem dX8_marry_13 : decode cX8_marry 13 = .ok (.aload_n 0, 1) := by decide +kernel
theorem dX8_marry_14 : decode cX8_marry 14 = .ok (.iload_n 2, 1) := by decide +kernel
theorem dX8_marry_15 : decode cX8_marry 15 = .ok (.invokevirtual 98, 3) := by decide +kernel
theorem dX8_marry_18 : decode cX8_marry 18 = .ok (.ifCond .ne 9, 3) := by decide +kernel
theorem dX8_marry_21 : decode cX8_marry 21 = .ok (.aload_n 0, 1) := by decide +kernel
theorem dX8_marry_22 : decode cX8_marry 22 = .ok (.iconst 1, 1) := by decide +kernel
theorem dX8_marry_23 : decode cX8_marry 23 = .ok (.invokevirtual 69, 3) := by decide +kernel
theorem dX8_marry_26 : decode cX8_marry 26 = .ok (.ireturn, 1) := by decide +kernel
theorem dX8_marry_27 : decode cX8_marry 27 = .ok (.iload_n 1, 1) := by decide +kernel
theorem dX8_marry_28 : decode cX8_marry 28 = .ok (.iload_n 2, 1) := by decide +kernel
theorem dX8_marry_29 : decode cX8_marry 29 = .ok (.if_icmp .ne 9, 3) := by decide +kernel
theorem dX8_marry_32 : decode cX8_marry 32 = .ok (.aload_n 0, 1) := by decide +kernel
theorem dX8_marry_33 : decode cX8_marry 33 = .ok (.iconst 2, 1) := by decide +kernel
theorem dX8_marry_34 : decode cX8_marry 34 = .ok (.invokevirtual 69, 3) := by decide +kernel
theorem dX8_marry_37 : decode cX8_marry 37 = .ok (.ireturn, 1) := by decide +kernel
theorem dX8_marry_38 : decode cX8_marry 38 = .ok (.aload_n 0, 1) := by decide +kernel
theorem dX8_marry_39 : decode cX8_marry 39 = .ok (.invokevirtual 72, 3) := by decide +kernel
theorem dX8_marry_42 : decode cX8_marry 42 = .ok (.aload_n 0, 1) := by decide +kernel
theorem dX8_marry_43 : decode cX8_marry 43 = .ok (.iload_n 1, 1) := by decide +kernel
theorem dX8_marry_44 : decode cX8_marry 44 = .ok (.iload_n 2, 1) := by decide +kernel
theorem dX8_marry_45 : decode cX8_marry 45 = .ok (.invokevirtual 101, 3) := by decide +kernel
theorem dX8_marry_48 : decode cX8_marry 48 = .ok (.ireturn, 1) := by decide +kernel
set_option maxRecDepth 20000 in
theorem ggX8_child_X8_isCouple : GoodIn wsX8_child wsX8_isCouple := goodIn_r _ [6, 7, 8, 9, 5, 10, 37, 38, 39, 40, 41, 42, 43, 44, 45, 46, 47, 48, 49, 50, 51, 52, 53, 54, 55, 56, 57] (by decide +kernel) (by decide +kernel)
set_option maxRecDepth 20000 in
theorem gX8_child_X8_isCouple : GoodIn wsX8_child (wsV RX8 104 RX8 yX8_isCouple wsX8_isCouple) := goodIn_app (goodIn_of _ (by decide +kernel)) ggX8_child_X8_isCouple
set_option maxRecDepth 20000 in
theorem ggX8_child_X8_fails : GoodIn wsX8_child wsX8_fails := goodIn_r _ [14, 1, 37, 38, 39, 40, 41, 42, 43, 44, 45, 46, 47, 48, 49, 50, 51, 52, 53, 54, 55, 56, 57] (by decide +kernel) (by decide +kernel)
set_option maxRecDepth 20000 in
theorem gX8_child_X8_fails : GoodIn wsX8_child (wsV RX8 69 RX8 yX8_fails wsX8_fails) := goodIn_app (goodIn_of _ (by decide +kernel)) ggX8_child_X8_fails
set_option maxRecDepth 20000 in
theorem ggX8_child_X8_save : GoodIn wsX8_child wsX8_save := goodIn_r _ [18, 19, 20, 7, 37, 38, 39, 40, 41, 42, 43, 44, 45, 46, 47, 48, 49, 50, 51, 52, 53, 54, 55, 56, 57] (by decide +kernel) (by decide +kernel)
set_option maxRecDepth 20000 in
theorem gX8_child_X8_save : GoodIn wsX8_child (wsV RX8 72 RX8 yX8_save wsX8_save) := goodIn_app (goodIn_of _ (by decide +kernel)) ggX8_child_X8_save
set_option maxRecDepth 20000 in
theorem ggX8_child_X8_childNow : GoodIn wsX8_child wsX8_childNow := goodIn_r _ [24, 25, 26, 27, 5, 28, 7, 29, 30, 31, 32, 33, 34, 35, 36, 37, 38, 39, 40, 41, 42, 43, 44, 45, 46, 47, 48, 49, 50, 51, 52, 53, 54, 55, 56, 57] (by decide +kernel) (by decide +kernel)
set_option maxRecDepth 20000 in
theorem gX8_child_X8_childNow : GoodIn wsX8_child (wsV RX8 107 RX8 yX8_childNow wsX8_childNow) := goodIn_app (goodIn_of _ (by decide +kernel)) ggX8_child_X8_childNow
theorem dX8_child_0 : decode cX8_child 0 = .ok (.aload_n 0, 1) := by decide +kernel
theorem dX8_child_1 : decode cX8_child 1 = .ok (.iconst 0, 1) := by decide +kernel
theorem dX8_child_2 : decode cX8_child 2 = .ok (.putfield 50, 3) := by decide +kernel
theorem dX8_child_5 : decode cX8_child 5 = .ok (.aload_n 0, 1) := by decide +kernel
theorem dX8_child_6 : decode cX8_child 6 = .ok (.iload_n 1, 1) := by decide +kernel
theorem dX8_child_7 : decode cX8_child 7 = .ok (.invokevirtual 104, 3) := by decide +kernel
theorem dX8_child_10 : decode cX8_child 10 = .ok (.ifCond .ne 9, 3) := by decide +kernel
theorem dX8_child_13 : decode cX8_child 13 = .ok (.aload_n 0, 1) := by decide +kernel
theorem dX8_child_14 : decode cX8_child 14 = .ok (.iconst 1, 1) := by decide +kernel
theorem dX8_child_15 : decode cX8_child 15 = .ok (.invokevirtual 69, 3) := by decide +kernel
theorem dX8_child_18 : decode cX8_child 18 = .ok (.ireturn, 1) := by decide +kernel
theorem dX8_child_19 : decode cX8_child 19 = .ok (.aload_n 0, 1) := by decide +kernel
theorem dX8_child_20 : decode cX8_child 20 = .ok (.invokevirtual 72, 3) := by decide +kernel
theorem dX8_child_23 : decode cX8_child 23 = .ok (.aload_n 0, 1) := by decide +kernel
theorem dX8_child_24 : decode cX8_child 24 = .ok (.iload_n 1, 1) := by decide +kernel
theorem dX8_child_25 : decode cX8_child 25 = .ok (.invokevirtual 107, 3) := by decide +kernel
theorem dX8_child_28 : decode cX8_child 28 = .ok (.ireturn, 1) := by decide +kernel
set_option maxRecDepth 20000 in
theorem ggX8_middle_X8_one : GoodIn wsX8_middle wsX8_one := goodIn_r _ [5, 6, 23, 24, 25, 26, 27, 28, 29, 30, 31, 32, 33, 34, 35, 36, 37, 38, 39, 40, 41, 42, 43] (by decide +kernel) (by decide +kernel)
set_option maxRecDepth 20000 in
theorem gX8_middle_X8_one : GoodIn wsX8_middle (wsV RX8 75 RX8 yX8_one wsX8_one) := goodIn_app (goodIn_of _ (by decide +kernel)) ggX8_middle_X8_one
set_option maxRecDepth 20000 in
theorem ggX8_middle_X8_placeOf : GoodIn wsX8_middle wsX8_placeOf := goodIn_r _ [10, 11, 12, 13, 4, 14, 6, 15, 16, 17, 18, 23, 24, 25, 26, 27, 28, 29, 30, 31, 32, 33, 34, 35, 36, 37, 38, 39, 40, 41, 42, 43] (by decide +kernel) (by decide +kernel)
set_option maxRecDepth 20000 in
theorem gX8_middle_X8_placeOf : GoodIn wsX8_middle (wsV RX8 110 RX8 yX8_placeOf wsX8_placeOf) := goodIn_app (goodIn_of _ (by decide +kernel)) ggX8_middle_X8_placeOf
set_option maxRecDepth 20000 in
theorem ggX8_middle_X8_other : GoodIn wsX8_middle wsX8_other := goodIn_r _ [22, 6, 23, 24, 25, 26, 27, 28, 29, 30, 31, 32, 33, 34, 35, 36, 37, 38, 39, 40, 41, 42, 43] (by decide +kernel) (by decide +kernel)
set_option maxRecDepth 20000 in
theorem gX8_middle_X8_other : GoodIn wsX8_middle (wsV RX8 78 RX8 yX8_other wsX8_other) := goodIn_app (goodIn_of _ (by decide +kernel)) ggX8_middle_X8_other
theorem dX8_middle_0 : decode cX8_middle 0 = .ok (.aload_n 0, 1) := by decide +kernel
theorem dX8_middle_1 : decode cX8_middle 1 = .ok (.aload_n 0, 1) := by decide +kernel
theorem dX8_middle_2 : decode cX8_middle 2 = .ok (.iload_n 1, 1) := by decide +kernel
theorem dX8_middle_3 : decode cX8_middle 3 = .ok (.invokevirtual 75, 3) := by decide +kernel
theorem dX8_middle_6 : decode cX8_middle 6 = .ok (.invokevirtual 110, 3) := by decide +kernel
theorem dX8_middle_9 : decode cX8_middle 9 = .ok (.aload_n 0, 1) := by decide +kernel
theorem dX8_middle_10 : decode cX8_middle 10 = .ok (.aload_n 0, 1) := by decide +kernel
theorem dX8_middle_11 : decode cX8_middle 11 = .ok (.iload_n 1, 1) := by decide +kernel
theorem dX8_middle_12 : decode cX8_middle 12 = .ok (.invokevirtual 78, 3) := by decide +kernel
theorem dX8_middle_15 : decode cX8_middle 15 = .ok (.invokevirtual 110, 3) := by decide +kernel
theorem dX8_middle_18 : decode cX8_middle 18 = .ok (.iadd, 1) := by decide +kernel
theorem dX8_middle_19 : decode cX8_middle 19 = .ok (.ireturn, 1) := by decide +kernel
set_option maxRecDepth 20000 in
theorem ggX8_draw_X8_whoIs : GoodIn wsX8_draw wsX8_whoIs := goodIn_r _ [9, 2, 34, 35, 36, 37, 38, 39, 40, 41, 42, 43, 44, 45, 46, 47, 48, 49, 50, 51, 52, 53, 54] (by decide +kernel) (by decide +kernel)
set_option maxRecDepth 20000 in
theorem gX8_draw_X8_whoIs : GoodIn wsX8_draw (wsV RX8 62 RX8 yX8_whoIs wsX8_whoIs) := goodIn_app (goodIn_of _ (by decide +kernel)) ggX8_draw_X8_whoIs
set_option maxRecDepth 20000 in
theorem ggX8_draw_X8_parentsOf : GoodIn wsX8_draw wsX8_parentsOf := goodIn_r _ [13, 2, 34, 35, 36, 37, 38, 39, 40, 41, 42, 43, 44, 45, 46, 47, 48, 49, 50, 51, 52, 53, 54] (by decide +kernel) (by decide +kernel)
set_option maxRecDepth 20000 in
theorem gX8_draw_X8_parentsOf : GoodIn wsX8_draw (wsV RX8 116 RX8 yX8_parentsOf wsX8_parentsOf) := goodIn_app (goodIn_of _ (by decide +kernel)) ggX8_draw_X8_parentsOf
set_option maxRecDepth 20000 in
theorem ggX8_draw_X8_middle : GoodIn wsX8_draw wsX8_middle := goodIn_r _ [17, 18, 19, 20, 8, 21, 2, 22, 23, 24, 25, 26, 27, 28, 29, 5, 6, 7, 9, 30, 31, 32, 33, 34, 35, 36, 37, 38, 39, 40, 41, 42, 43, 44, 45, 46, 47, 48, 49, 50, 51, 52, 53, 54] (by decide +kernel) (by decide +kernel)
set_option maxRecDepth 20000 in
theorem gX8_draw_X8_middle : GoodIn wsX8_draw (wsV RX8 119 RX8 yX8_middle wsX8_middle) := goodIn_app (goodIn_of _ (by decide +kernel)) ggX8_draw_X8_middle
theorem dX8_draw_0 : decode cX8_draw 0 = .ok (.aload_n 0, 1) := by decide +kernel
theorem dX8_draw_1 : decode cX8_draw 1 = .ok (.iconst 0, 1) := by decide +kernel
theorem dX8_draw_2 : decode cX8_draw 2 = .ok (.putfield 113, 3) := by decide +kernel
theorem dX8_draw_5 : decode cX8_draw 5 = .ok (.iconst 0, 1) := by decide +kernel
theorem dX8_draw_6 : decode cX8_draw 6 = .ok (.istore_n 2, 1) := by decide +kernel
theorem dX8_draw_7 : decode cX8_draw 7 = .ok (.iload_n 2, 1) := by decide +kernel
theorem dX8_draw_8 : decode cX8_draw 8 = .ok (.aload_n 0, 1) := by decide +kernel
theorem dX8_draw_9 : decode cX8_draw 9 = .ok (.getfield 7, 3) := by decide +kernel
theorem dX8_draw_12 : decode cX8_draw 12 = .ok (.bipush 63, 2) := by decide +kernel
theorem dX8_draw_14 : decode cX8_draw 14 = .ok (.iload_n 1, 1) := by decide +kernel
theorem dX8_draw_15 : decode cX8_draw 15 = .ok (.iadd, 1) := by decide +kernel
theorem dX8_draw_16 : decode cX8_draw 16 = .ok (.iaload, 1) := by decide +kernel
theorem dX8_draw_17 : decode cX8_draw 17 = .ok (.if_icmp .ge 59, 3) := by decide +kernel
theorem dX8_draw_20 : decode cX8_draw 20 = .ok (.aload_n 0, 1) := by decide +kernel
theorem dX8_draw_21 : decode cX8_draw 21 = .ok (.aload_n 0, 1) := by decide +kernel
theorem dX8_draw_22 : decode cX8_draw 22 = .ok (.iload_n 1, 1) := by decide +kernel
theorem dX8_draw_23 : decode cX8_draw 23 = .ok (.iload_n 2, 1) := by decide +kernel
theorem dX8_draw_24 : decode cX8_draw 24 = .ok (.invokevirtual 62, 3) := by decide +kernel
theorem dX8_draw_27 : decode cX8_draw 27 = .ok (.invokevirtual 116, 3) := by decide +kernel
theorem dX8_draw_30 : decode cX8_draw 30 = .ok (.istore_n 3, 1) := by decide +kernel
theorem dX8_draw_31 : decode cX8_draw 31 = .ok (.iload_n 3, 1) := by decide +kernel
theorem dX8_draw_32 : decode cX8_draw 32 = .ok (.iconst (-1), 1) := by decide +kernel
theorem dX8_draw_33 : decode cX8_draw 33 = .ok (.if_icmp .eq 37, 3) := by decide +kernel
theorem dX8_draw_36 : decode cX8_draw 36 = .ok (.aload_n 0, 1) := by decide +kernel
theorem dX8_draw_37 : decode cX8_draw 37 = .ok (.getfield 23, 3) := by decide +kernel
theorem dX8_draw_40 : decode cX8_draw 40 = .ok (.aload_n 0, 1) := by decide +kernel
theorem dX8_draw_41 : decode cX8_draw 41 = .ok (.getfield 113, 3) := by decide +kernel
theorem dX8_draw_44 : decode cX8_draw 44 = .ok (.aload_n 0, 1) := by decide +kernel
theorem dX8_draw_45 : decode cX8_draw 45 = .ok (.iload_n 3, 1) := by decide +kernel
theorem dX8_draw_46 : decode cX8_draw 46 = .ok (.invokevirtual 119, 3) := by decide +kernel
theorem dX8_draw_49 : decode cX8_draw 49 = .ok (.iastore, 1) := by decide +kernel
theorem dX8_draw_50 : decode cX8_draw 50 = .ok (.aload_n 0, 1) := by decide +kernel
theorem dX8_draw_51 : decode cX8_draw 51 = .ok (.getfield 26, 3) := by decide +kernel
theorem dX8_draw_54 : decode cX8_draw 54 = .ok (.aload_n 0, 1) := by decide +kernel
theorem dX8_draw_55 : decode cX8_draw 55 = .ok (.getfield 113, 3) := by decide +kernel
theorem dX8_draw_58 : decode cX8_draw 58 = .ok (.iload_n 2, 1) := by decide +kernel
theorem dX8_draw_59 : decode cX8_draw 59 = .ok (.iastore, 1) := by decide +kernel
theorem dX8_draw_60 : decode cX8_draw 60 = .ok (.aload_n 0, 1) := by decide +kernel
theorem dX8_draw_61 : decode cX8_draw 61 = .ok (.dup, 1) := by decide +kernel
theorem dX8_draw_62 : decode cX8_draw 62 = .ok (.getfield 113, 3) := by decide +kernel
theorem dX8_draw_65 : decode cX8_draw 65 = .ok (.iconst 1, 1) := by decide +kernel
theorem dX8_draw_66 : decode cX8_draw 66 = .ok (.iadd, 1) := by decide +kernel
theorem dX8_draw_67 : decode cX8_draw 67 = .ok (.putfield 113, 3) := by decide +kernel
theorem dX8_draw_70 : decode cX8_draw 70 = .ok (.iinc 2 1, 3) := by decide +kernel
theorem dX8_draw_73 : decode cX8_draw 73 = .ok (.goto (-66), 3) := by decide +kernel
theorem dX8_draw_76 : decode cX8_draw 76 = .ok (.return_, 1) := by decide +kernel
set_option maxRecDepth 20000 in
theorem ggX8_crossingsTo_X8_draw : GoodIn wsX8_crossingsTo wsX8_draw := goodIn_r _ [8, 1, 9, 2, 3, 10, 11, 12, 7, 13, 14, 15, 16, 17, 18, 19, 20, 21, 22, 23, 24, 25, 26, 27, 28, 29, 30, 31, 32, 33, 34, 35, 36, 37, 38, 39, 40, 41, 42, 43, 44, 45, 46, 47, 48, 49, 50, 51, 52, 53, 54, 55, 56, 57, 58] (by decide +kernel) (by decide +kernel)
set_option maxRecDepth 20000 in
theorem gX8_crossingsTo_X8_draw : GoodIn wsX8_crossingsTo (wsV RX8 122 RX8 yX8_draw wsX8_draw) := goodIn_app (goodIn_of _ (by decide +kernel)) ggX8_crossingsTo_X8_draw
theorem dX8_crossingsTo_0 : decode cX8_crossingsTo 0 = .ok (.aload_n 0, 1) := by decide +kernel
theorem dX8_crossingsTo_1 : decode cX8_crossingsTo 1 = .ok (.iload_n 1, 1) := by decide +kernel
theorem dX8_crossingsTo_2 : decode cX8_crossingsTo 2 = .ok (.invokevirtual 122, 3) := by decide +kernel
theorem dX8_crossingsTo_5 : decode cX8_crossingsTo 5 = .ok (.iconst 0, 1) := by decide +kernel
theorem dX8_crossingsTo_6 : decode cX8_crossingsTo 6 = .ok (.istore_n 2, 1) := by decide +kernel
theorem dX8_crossingsTo_7 : decode cX8_crossingsTo 7 = .ok (.iconst 0, 1) := by decide +kernel
theorem dX8_crossingsTo_8 : decode cX8_crossingsTo 8 = .ok (.istore_n 3, 1) := by decide +kernel
theorem dX8_crossingsTo_9 : decode cX8_crossingsTo 9 = .ok (.iload_n 3, 1) := by decide +kernel
theorem dX8_crossingsTo_10 : decode cX8_crossingsTo 10 = .ok (.aload_n 0, 1) := by decide +kernel
theorem dX8_crossingsTo_11 : decode cX8_crossingsTo 11 = .ok (.getfield 113, 3) := by decide +kernel
theorem dX8_crossingsTo_14 : decode cX8_crossingsTo 14 = .ok (.if_icmp .ge 67, 3) := by decide +kernel
theorem dX8_crossingsTo_17 : decode cX8_crossingsTo 17 = .ok (.iconst 0, 1) := by decide +kernel
theorem dX8_crossingsTo_18 : decode cX8_crossingsTo 18 = .ok (.istore 4, 2) := by decide +kernel
theorem dX8_crossingsTo_20 : decode cX8_crossingsTo 20 = .ok (.iload 4, 2) := by decide +kernel
theorem dX8_crossingsTo_22 : decode cX8_crossingsTo 22 = .ok (.aload_n 0, 1) := by decide +kernel
theorem dX8_crossingsTo_23 : decode cX8_crossingsTo 23 = .ok (.getfield 113, 3) := by decide +kernel
theorem dX8_crossingsTo_26 : decode cX8_crossingsTo 26 = .ok (.if_icmp .ge 49, 3) := by decide +kernel
theorem dX8_crossingsTo_29 : decode cX8_crossingsTo 29 = .ok (.iload_n 2, 1) := by decide +kernel
theorem dX8_crossingsTo_30 : decode cX8_crossingsTo 30 = .ok (.aload_n 0, 1) := by decide +kernel
theorem dX8_crossingsTo_31 : decode cX8_crossingsTo 31 = .ok (.getfield 23, 3) := by decide +kernel
theorem dX8_crossingsTo_34 : decode cX8_crossingsTo 34 = .ok (.iload_n 3, 1) := by decide +kernel
theorem dX8_crossingsTo_35 : decode cX8_crossingsTo 35 = .ok (.iaload, 1) := by decide +kernel
theorem dX8_crossingsTo_36 : decode cX8_crossingsTo 36 = .ok (.aload_n 0, 1) := by decide +kernel
theorem dX8_crossingsTo_37 : decode cX8_crossingsTo 37 = .ok (.getfield 23, 3) := by decide +kernel
theorem dX8_crossingsTo_40 : decode cX8_crossingsTo 40 = .ok (.iload 4, 2) := by decide +kernel
theorem dX8_crossingsTo_42 : decode cX8_crossingsTo 42 = .ok (.iaload, 1) := by decide +kernel
theorem dX8_crossingsTo_43 : decode cX8_crossingsTo 43 = .ok (.if_icmp .ge 23, 3) := by decide +kernel
theorem dX8_crossingsTo_46 : decode cX8_crossingsTo 46 = .ok (.aload_n 0, 1) := by decide +kernel
theorem dX8_crossingsTo_47 : decode cX8_crossingsTo 47 = .ok (.getfield 26, 3) := by decide +kernel
theorem dX8_crossingsTo_50 : decode cX8_crossingsTo 50 = .ok (.iload_n 3, 1) := by decide +kernel
theorem dX8_crossingsTo_51 : decode cX8_crossingsTo 51 = .ok (.iaload, 1) := by decide +kernel
theorem dX8_crossingsTo_52 : decode cX8_crossingsTo 52 = .ok (.aload_n 0, 1) := by decide +kernel
theorem dX8_crossingsTo_53 : decode cX8_crossingsTo 53 = .ok (.getfield 26, 3) := by decide +kernel
theorem dX8_crossingsTo_56 : decode cX8_crossingsTo 56 = .ok (.iload 4, 2) := by decide +kernel
theorem dX8_crossingsTo_58 : decode cX8_crossingsTo 58 = .ok (.iaload, 1) := by decide +kernel
theorem dX8_crossingsTo_59 : decode cX8_crossingsTo 59 = .ok (.if_icmp .le 7, 3) := by decide +kernel
theorem dX8_crossingsTo_62 : decode cX8_crossingsTo 62 = .ok (.iconst 1, 1) := by decide +kernel
theorem dX8_crossingsTo_63 : decode cX8_crossingsTo 63 = .ok (.goto 4, 3) := by decide +kernel
theorem dX8_crossingsTo_66 : decode cX8_crossingsTo 66 = .ok (.iconst 0, 1) := by decide +kernel
theorem dX8_crossingsTo_67 : decode cX8_crossingsTo 67 = .ok (.iadd, 1) := by decide +kernel
theorem dX8_crossingsTo_68 : decode cX8_crossingsTo 68 = .ok (.istore_n 2, 1) := by decide +kernel
theorem dX8_crossingsTo_69 : decode cX8_crossingsTo 69 = .ok (.iinc 4 1, 3) := by decide +kernel
theorem dX8_crossingsTo_72 : decode cX8_crossingsTo 72 = .ok (.goto (-52), 3) := by decide +kernel
theorem dX8_crossingsTo_75 : decode cX8_crossingsTo 75 = .ok (.iinc 3 1, 3) := by decide +kernel
theorem dX8_crossingsTo_78 : decode cX8_crossingsTo 78 = .ok (.goto (-69), 3) := by decide +kernel
theorem dX8_crossingsTo_81 : decode cX8_crossingsTo 81 = .ok (.iload_n 2, 1) := by decide +kernel
theorem dX8_crossingsTo_82 : decode cX8_crossingsTo 82 = .ok (.ireturn, 1) := by decide +kernel
set_option maxRecDepth 20000 in
theorem ggX8_allCrossings_X8_crossingsTo : GoodIn wsX8_allCrossings wsX8_crossingsTo := goodIn_r _ [5, 6, 7, 8, 9, 10, 11, 4, 12, 13, 14, 15, 16, 17, 18, 19, 20, 21, 22, 23, 24, 25, 26, 27, 28, 29, 30, 31, 32, 33, 34, 35, 36, 37, 38, 39, 40, 41, 42, 43, 44, 45, 46, 47, 48, 49, 50, 51, 52, 53, 54, 55, 56, 57, 58, 59, 60, 61, 62] (by decide +kernel) (by decide +kernel)
set_option maxRecDepth 20000 in
theorem gX8_allCrossings_X8_crossingsTo : GoodIn wsX8_allCrossings (wsV RX8 126 RX8 yX8_crossingsTo wsX8_crossingsTo) := goodIn_app (goodIn_of _ (by decide +kernel)) ggX8_allCrossings_X8_crossingsTo
theorem dX8_allCrossings_0 : decode cX8_allCrossings 0 = .ok (.aload_n 0, 1) := by decide +kernel
theorem dX8_allCrossings_1 : decode cX8_allCrossings 1 = .ok (.iconst 0, 1) := by decide +kernel
theorem dX8_allCrossings_2 : decode cX8_allCrossings 2 = .ok (.invokevirtual 126, 3) := by decide +kernel
theorem dX8_allCrossings_5 : decode cX8_allCrossings 5 = .ok (.aload_n 0, 1) := by decide +kernel
theorem dX8_allCrossings_6 : decode cX8_allCrossings 6 = .ok (.iconst 1, 1) := by decide +kernel
theorem dX8_allCrossings_7 : decode cX8_allCrossings 7 = .ok (.invokevirtual 126, 3) := by decide +kernel
theorem dX8_allCrossings_10 : decode cX8_allCrossings 10 = .ok (.iadd, 1) := by decide +kernel
theorem dX8_allCrossings_11 : decode cX8_allCrossings 11 = .ok (.aload_n 0, 1) := by decide +kernel
theorem dX8_allCrossings_12 : decode cX8_allCrossings 12 = .ok (.iconst 2, 1) := by decide +kernel
theorem dX8_allCrossings_13 : decode cX8_allCrossings 13 = .ok (.invokevirtual 126, 3) := by decide +kernel
theorem dX8_allCrossings_16 : decode cX8_allCrossings 16 = .ok (.iadd, 1) := by decide +kernel
theorem dX8_allCrossings_17 : decode cX8_allCrossings 17 = .ok (.aload_n 0, 1) := by decide +kernel
theorem dX8_allCrossings_18 : decode cX8_allCrossings 18 = .ok (.iconst 3, 1) := by decide +kernel
theorem dX8_allCrossings_19 : decode cX8_allCrossings 19 = .ok (.invokevirtual 126, 3) := by decide +kernel
theorem dX8_allCrossings_22 : decode cX8_allCrossings 22 = .ok (.iadd, 1) := by decide +kernel
theorem dX8_allCrossings_23 : decode cX8_allCrossings 23 = .ok (.ireturn, 1) := by decide +kernel
set_option maxRecDepth 20000 in
theorem ggX8_crossingsAt_X8_crossingsTo : GoodIn wsX8_crossingsAt wsX8_crossingsTo := goodIn_r _ [5, 6, 7, 8, 9, 10, 11, 4, 12, 13, 14, 15, 16, 17, 18, 19, 20, 21, 22, 23, 24, 25, 26, 27, 28, 29, 30, 31, 32, 33, 34, 35, 36, 37, 38, 39, 40, 41, 42, 43, 44, 45, 46, 47, 48, 49, 50, 51, 52, 53, 54, 55, 56, 57, 58, 59, 60, 61, 62] (by decide +kernel) (by decide +kernel)
set_option maxRecDepth 20000 in
theorem gX8_crossingsAt_X8_crossingsTo : GoodIn wsX8_crossingsAt (wsV RX8 126 RX8 yX8_crossingsTo wsX8_crossingsTo) := goodIn_app (goodIn_of _ (by decide +kernel)) ggX8_crossingsAt_X8_crossingsTo
theorem dX8_crossingsAt_0 : decode cX8_crossingsAt 0 = .ok (.aload_n 0, 1) := by decide +kernel
theorem dX8_crossingsAt_1 : decode cX8_crossingsAt 1 = .ok (.iload_n 1, 1) := by decide +kernel
theorem dX8_crossingsAt_2 : decode cX8_crossingsAt 2 = .ok (.invokevirtual 126, 3) := by decide +kernel
theorem dX8_crossingsAt_5 : decode cX8_crossingsAt 5 = .ok (.iload_n 1, 1) := by decide +kernel
theorem dX8_crossingsAt_6 : decode cX8_crossingsAt 6 = .ok (.iconst 3, 1) := by decide +kernel
theorem dX8_crossingsAt_7 : decode cX8_crossingsAt 7 = .ok (.if_icmp .ge 13, 3) := by decide +kernel
theorem dX8_crossingsAt_10 : decode cX8_crossingsAt 10 = .ok (.aload_n 0, 1) := by decide +kernel
theorem dX8_crossingsAt_11 : decode cX8_crossingsAt 11 = .ok (.iload_n 1, 1) := by decide +kernel
theorem dX8_crossingsAt_12 : decode cX8_crossingsAt 12 = .ok (.iconst 1, 1) := by decide +kernel
theorem dX8_crossingsAt_13 : decode cX8_crossingsAt 13 = .ok (.iadd, 1) := by decide +kernel
theorem dX8_crossingsAt_14 : decode cX8_crossingsAt 14 = .ok (.invokevirtual 126, 3) := by decide +kernel
theorem dX8_crossingsAt_17 : decode cX8_crossingsAt 17 = .ok (.goto 4, 3) := by decide +kernel
theorem dX8_crossingsAt_20 : decode cX8_crossingsAt 20 = .ok (.iconst 0, 1) := by decide +kernel
theorem dX8_crossingsAt_21 : decode cX8_crossingsAt 21 = .ok (.iadd, 1) := by decide +kernel
theorem dX8_crossingsAt_22 : decode cX8_crossingsAt 22 = .ok (.ireturn, 1) := by decide +kernel
theorem dX8_exchange_0 : decode cX8_exchange 0 = .ok (.bipush 67, 2) := by decide +kernel
theorem dX8_exchange_2 : decode cX8_exchange 2 = .ok (.bipush 6, 2) := by decide +kernel
theorem dX8_exchange_4 : decode cX8_exchange 4 = .ok (.iload_n 1, 1) := by decide +kernel
theorem dX8_exchange_5 : decode cX8_exchange 5 = .ok (.imul, 1) := by decide +kernel
theorem dX8_exchange_6 : decode cX8_exchange 6 = .ok (.iadd, 1) := by decide +kernel
theorem dX8_exchange_7 : decode cX8_exchange 7 = .ok (.istore 4, 2) := by decide +kernel
theorem dX8_exchange_9 : decode cX8_exchange 9 = .ok (.aload_n 0, 1) := by decide +kernel
theorem dX8_exchange_10 : decode cX8_exchange 10 = .ok (.getfield 7, 3) := by decide +kernel
theorem dX8_exchange_13 : decode cX8_exchange 13 = .ok (.iload 4, 2) := by decide +kernel
theorem dX8_exchange_15 : decode cX8_exchange 15 = .ok (.iload_n 2, 1) := by decide +kernel
theorem dX8_exchange_16 : decode cX8_exchange 16 = .ok (.iadd, 1) := by decide +kernel
theorem dX8_exchange_17 : decode cX8_exchange 17 = .ok (.iaload, 1) := by decide +kernel
theorem dX8_exchange_18 : decode cX8_exchange 18 = .ok (.istore 5, 2) := by decide +kernel
theorem dX8_exchange_20 : decode cX8_exchange 20 = .ok (.aload_n 0, 1) := by decide +kernel
theorem dX8_exchange_21 : decode cX8_exchange 21 = .ok (.getfield 7, 3) := by decide +kernel
theorem dX8_exchange_24 : decode cX8_exchange 24 = .ok (.iload 4, 2) := by decide +kernel
theorem dX8_exchange_26 : decode cX8_exchange 26 = .ok (.iload_n 2, 1) := by decide +kernel
theorem dX8_exchange_27 : decode cX8_exchange 27 = .ok (.iadd, 1) := by decide +kernel
theorem dX8_exchange_28 : decode cX8_exchange 28 = .ok (.aload_n 0, 1) := by decide +kernel
theorem dX8_exchange_29 : decode cX8_exchange 29 = .ok (.getfield 7, 3) := by decide +kernel
theorem dX8_exchange_32 : decode cX8_exchange 32 = .ok (.iload 4, 2) := by decide +kernel
theorem dX8_exchange_34 : decode cX8_exchange 34 = .ok (.iload_n 3, 1) := by decide +kernel
theorem dX8_exchange_35 : decode cX8_exchange 35 = .ok (.iadd, 1) := by decide +kernel
theorem dX8_exchange_36 : decode cX8_exchange 36 = .ok (.iaload, 1) := by decide +kernel
theorem dX8_exchange_37 : decode cX8_exchange 37 = .ok (.iastore, 1) := by decide +kernel
theorem dX8_exchange_38 : decode cX8_exchange 38 = .ok (.aload_n 0, 1) := by decide +kernel
theorem dX8_exchange_39 : decode cX8_exchange 39 = .ok (.getfield 7, 3) := by decide +kernel
theorem dX8_exchange_42 : decode cX8_exchange 42 = .ok (.iload 4, 2) := by decide +kernel
theorem dX8_exchange_44 : decode cX8_exchange 44 = .ok (.iload_n 3, 1) := by decide +kernel
theorem dX8_exchange_45 : decode cX8_exchange 45 = .ok (.iadd, 1) := by decide +kernel
theorem dX8_exchange_46 : decode cX8_exchange 46 = .ok (.iload 5, 2) := by decide +kernel
theorem dX8_exchange_48 : decode cX8_exchange 48 = .ok (.iastore, 1) := by decide +kernel
theorem dX8_exchange_49 : decode cX8_exchange 49 = .ok (.return_, 1) := by decide +kernel
set_option maxRecDepth 20000 in
theorem ggX8_swap_X8_isRow : GoodIn wsX8_swap wsX8_isRow := goodIn_r _ [6, 7, 8, 5, 9] (by decide +kernel) (by decide +kernel)
set_option maxRecDepth 20000 in
theorem gX8_swap_X8_isRow : GoodIn wsX8_swap (va_wsS RX8 94 yX8_isRow wsX8_isRow) := goodIn_app (goodIn_of _ (by decide +kernel)) ggX8_swap_X8_isRow
set_option maxRecDepth 20000 in
theorem ggX8_swap_X8_fails : GoodIn wsX8_swap wsX8_fails := goodIn_r _ [13, 1, 67, 68, 69, 70, 71, 72, 73, 74, 75, 76, 77, 78, 79, 80, 81, 82, 83, 84, 85, 86, 87] (by decide +kernel) (by decide +kernel)
set_option maxRecDepth 20000 in
theorem gX8_swap_X8_fails : GoodIn wsX8_swap (wsV RX8 69 RX8 yX8_fails wsX8_fails) := goodIn_app (goodIn_of _ (by decide +kernel)) ggX8_swap_X8_fails
set_option maxRecDepth 20000 in
theorem ggX8_swap_X8_in : GoodIn wsX8_swap wsX8_in := goodIn_r _ [9] (by decide +kernel) (by decide +kernel)
set_option maxRecDepth 20000 in
theorem gX8_swap_X8_in : GoodIn wsX8_swap (va_wsS RX8 54 yX8_in wsX8_in) := goodIn_app (goodIn_of _ (by decide +kernel)) ggX8_swap_X8_in
set_option maxRecDepth 20000 in
theorem ggX8_swap_X8_save : GoodIn wsX8_swap wsX8_save := goodIn_r _ [17, 18, 19, 2, 67, 68, 69, 70, 71, 72, 73, 74, 75, 76, 77, 78, 79, 80, 81, 82, 83, 84, 85, 86, 87] (by decide +kernel) (by decide +kernel)
set_option maxRecDepth 20000 in
theorem gX8_swap_X8_save : GoodIn wsX8_swap (wsV RX8 72 RX8 yX8_save wsX8_save) := goodIn_app (goodIn_of _ (by decide +kernel)) ggX8_swap_X8_save
set_option maxRecDepth 20000 in
theorem ggX8_swap_X8_allCrossings : GoodIn wsX8_swap wsX8_allCrossings := goodIn_r _ [23, 24, 25, 26, 5, 27, 28, 29, 30, 31, 32, 33, 34, 2, 35, 36, 37, 38, 39, 40, 41, 42, 43, 44, 45, 46, 47, 48, 49, 50, 51, 52, 53, 54, 55, 56, 57, 58, 59, 60, 61, 62, 67, 68, 69, 70, 71, 72, 73, 74, 75, 76, 77, 78, 79, 80, 81, 82, 83, 84, 85, 86, 87] (by decide +kernel) (by decide +kernel)
set_option maxRecDepth 20000 in
theorem gX8_swap_X8_allCrossings : GoodIn wsX8_swap (wsV RX8 129 RX8 yX8_allCrossings wsX8_allCrossings) := goodIn_app (goodIn_of _ (by decide +kernel)) ggX8_swap_X8_allCrossings
set_option maxRecDepth 20000 in
theorem ggX8_swap_X8_exchange : GoodIn wsX8_swap wsX8_exchange := goodIn_r _ [66, 2, 67, 68, 69, 70, 71, 72, 73, 74, 75, 76, 77, 78, 79, 80, 81, 82, 83, 84, 85, 86, 87] (by decide +kernel) (by decide +kernel)
set_option maxRecDepth 20000 in
theorem gX8_swap_X8_exchange : GoodIn wsX8_swap (wsV RX8 133 RX8 yX8_exchange wsX8_exchange) := goodIn_app (goodIn_of _ (by decide +kernel)) ggX8_swap_X8_exchange
theorem dX8_swap_0 : decode cX8_swap 0 = .ok (.aload_n 0, 1) := by decide +kernel
theorem dX8_swap_1 : decode cX8_swap 1 = .ok (.iconst 0, 1) := by decide +kernel
theorem dX8_swap_2 : decode cX8_swap 2 = .ok (.putfield 50, 3) := by decide +kernel
theorem dX8_swap_5 : decode cX8_swap 5 = .ok (.iload_n 1, 1) := by decide +kernel
theorem dX8_swap_6 : decode cX8_swap 6 = .ok (.invokestatic 94, 3) := by decide +kernel
theorem dX8_swap_9 : decode cX8_swap 9 = .ok (.ifCond .ne 9, 3) := by decide +kernel
theorem dX8_swap_12 : decode cX8_swap 12 = .ok (.aload_n 0, 1) := by decide +kernel
theorem dX8_swap_13 : decode cX8_swap 13 = .ok (.iconst 1, 1) := by decide +kernel
theorem dX8_swap_14 : decode cX8_swap 14 = .ok (.invokevirtual 69, 3) := by decide +kernel
theorem dX8_swap_17 : decode cX8_swap 17 = .ok (.ireturn, 1) := by decide +kernel
theorem dX8_swap_18 : decode cX8_swap 18 = .ok (.iload_n 2, 1) := by decide +kernel
theorem dX8_swap_19 : decode cX8_swap 19 = .ok (.iconst 0, 1) := by decide +kernel
theorem dX8_swap_20 : decode cX8_swap 20 = .ok (.aload_n 0, 1) := by decide +kernel
theorem dX8_swap_21 : decode cX8_swap 21 = .ok (.getfield 7, 3) := by decide +kernel
theorem dX8_swap_24 : decode cX8_swap 24 = .ok (.bipush 63, 2) := by decide +kernel
theorem dX8_swap_26 : decode cX8_swap 26 = .ok (.iload_n 1, 1) := by decide +kernel
theorem dX8_swap_27 : decode cX8_swap 27 = .ok (.iadd, 1) := by decide +kernel
theorem dX8_swap_28 : decode cX8_swap 28 = .ok (.iaload, 1) := by decide +kernel
theorem dX8_swap_29 : decode cX8_swap 29 = .ok (.iconst 2, 1) := by decide +kernel
theorem dX8_swap_30 : decode cX8_swap 30 = .ok (.isub, 1) := by decide +kernel
theorem dX8_swap_31 : decode cX8_swap 31 = .ok (.invokestatic 54, 3) := by decide +kernel
theorem dX8_swap_34 : decode cX8_swap 34 = .ok (.ifCond .ne 9, 3) := by decide +kernel
theorem dX8_swap_37 : decode cX8_swap 37 = .ok (.aload_n 0, 1) := by decide +kernel
theorem dX8_swap_38 : decode cX8_swap 38 = .ok (.iconst 2, 1) := by decide +kernel
theorem dX8_swap_39 : decode cX8_swap 39 = .ok (.invokevirtual 69, 3) := by decide +kernel
theorem dX8_swap_42 : decode cX8_swap 42 = .ok (.ireturn, 1) := by decide +kernel
theorem dX8_swap_43 : decode cX8_swap 43 = .ok (.aload_n 0, 1) := by decide +kernel
theorem dX8_swap_44 : decode cX8_swap 44 = .ok (.invokevirtual 72, 3) := by decide +kernel
theorem dX8_swap_47 : decode cX8_swap 47 = .ok (.aload_n 0, 1) := by decide +kernel
theorem dX8_swap_48 : decode cX8_swap 48 = .ok (.invokevirtual 129, 3) := by decide +kernel
theorem dX8_swap_51 : decode cX8_swap 51 = .ok (.istore_n 3, 1) := by decide +kernel
theorem dX8_swap_52 : decode cX8_swap 52 = .ok (.aload_n 0, 1) := by decide +kernel
theorem dX8_swap_53 : decode cX8_swap 53 = .ok (.iload_n 1, 1) := by decide +kernel
theorem dX8_swap_54 : decode cX8_swap 54 = .ok (.iload_n 2, 1) := by decide +kernel
theorem dX8_swap_55 : decode cX8_swap 55 = .ok (.iload_n 2, 1) := by decide +kernel
theorem dX8_swap_56 : decode cX8_swap 56 = .ok (.iconst 1, 1) := by decide +kernel
theorem dX8_swap_57 : decode cX8_swap 57 = .ok (.iadd, 1) := by decide +kernel
theorem dX8_swap_58 : decode cX8_swap 58 = .ok (.invokevirtual 133, 3) := by decide +kernel
theorem dX8_swap_61 : decode cX8_swap 61 = .ok (.aload_n 0, 1) := by decide +kernel
theorem dX8_swap_62 : decode cX8_swap 62 = .ok (.invokevirtual 129, 3) := by decide +kernel
theorem dX8_swap_65 : decode cX8_swap 65 = .ok (.iload_n 3, 1) := by decide +kernel
theorem dX8_swap_66 : decode cX8_swap 66 = .ok (.isub, 1) := by decide +kernel
theorem dX8_swap_67 : decode cX8_swap 67 = .ok (.bipush 100, 2) := by decide +kernel
theorem dX8_swap_69 : decode cX8_swap 69 = .ok (.iadd, 1) := by decide +kernel
theorem dX8_swap_70 : decode cX8_swap 70 = .ok (.ireturn, 1) := by decide +kernel
set_option maxRecDepth 20000 in
theorem ggX8_remember_X8_whoIs : GoodIn wsX8_remember wsX8_whoIs := goodIn_r _ [6, 7, 8, 9, 10, 11, 12, 13, 14, 15, 16, 17, 18, 19, 20, 21, 22, 23, 24, 25, 26, 27, 28] (by decide +kernel) (by decide +kernel)
set_option maxRecDepth 20000 in
theorem gX8_remember_X8_whoIs : GoodIn wsX8_remember (wsV RX8 62 RX8 yX8_whoIs wsX8_whoIs) := goodIn_app (goodIn_of _ (by decide +kernel)) ggX8_remember_X8_whoIs
theorem dX8_remember_0 : decode cX8_remember 0 = .ok (.iconst 0, 1) := by decide +kernel
theorem dX8_remember_1 : decode cX8_remember 1 = .ok (.istore_n 2, 1) := by decide +kernel
theorem dX8_remember_2 : decode cX8_remember 2 = .ok (.iload_n 2, 1) := by decide +kernel
theorem dX8_remember_3 : decode cX8_remember 3 = .ok (.bipush 6, 2) := by decide +kernel
theorem dX8_remember_5 : decode cX8_remember 5 = .ok (.if_icmp .ge 21, 3) := by decide +kernel
theorem dX8_remember_8 : decode cX8_remember 8 = .ok (.aload_n 0, 1) := by decide +kernel
theorem dX8_remember_9 : decode cX8_remember 9 = .ok (.getfield 32, 3) := by decide +kernel
theorem dX8_remember_12 : decode cX8_remember 12 = .ok (.iload_n 2, 1) := by decide +kernel
