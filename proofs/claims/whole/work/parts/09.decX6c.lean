theorem dX6_fieldsWanted_6 : decode cX6_fieldsWanted 6 = .ok (.istore_n 2, 1) := by decide +kernel
theorem dX6_fieldsWanted_7 : decode cX6_fieldsWanted 7 = .ok (.iconst 0, 1) := by decide +kernel
theorem dX6_fieldsWanted_8 : decode cX6_fieldsWanted 8 = .ok (.istore_n 3, 1) := by decide +kernel
theorem dX6_fieldsWanted_9 : decode cX6_fieldsWanted 9 = .ok (.iload_n 3, 1) := by decide +kernel
theorem dX6_fieldsWanted_10 : decode cX6_fieldsWanted 10 = .ok (.aload_n 0, 1) := by decide +kernel
theorem dX6_fieldsWanted_11 : decode cX6_fieldsWanted 11 = .ok (.getfield 46, 3) := by decide +kernel
theorem dX6_fieldsWanted_14 : decode cX6_fieldsWanted 14 = .ok (.aload_n 0, 1) := by decide +kernel
theorem dX6_fieldsWanted_15 : decode cX6_fieldsWanted 15 = .ok (.getfield 49, 3) := by decide +kernel
theorem dX6_fieldsWanted_18 : decode cX6_fieldsWanted 18 = .ok (.imul, 1) := by decide +kernel
theorem dX6_fieldsWanted_19 : decode cX6_fieldsWanted 19 = .ok (.if_icmp .ge 76, 3) := by decide +kernel
theorem dX6_fieldsWanted_22 : decode cX6_fieldsWanted 22 = .ok (.iconst 0, 1) := by decide +kernel
theorem dX6_fieldsWanted_23 : decode cX6_fieldsWanted 23 = .ok (.istore 4, 2) := by decide +kernel
theorem dX6_fieldsWanted_25 : decode cX6_fieldsWanted 25 = .ok (.iconst 0, 1) := by decide +kernel
theorem dX6_fieldsWanted_26 : decode cX6_fieldsWanted 26 = .ok (.istore 5, 2) := by decide +kernel
theorem dX6_fieldsWanted_28 : decode cX6_fieldsWanted 28 = .ok (.iload 5, 2) := by decide +kernel
theorem dX6_fieldsWanted_30 : decode cX6_fieldsWanted 30 = .ok (.iload_n 1, 1) := by decide +kernel
theorem dX6_fieldsWanted_31 : decode cX6_fieldsWanted 31 = .ok (.if_icmp .ge 31, 3) := by decide +kernel
theorem dX6_fieldsWanted_34 : decode cX6_fieldsWanted 34 = .ok (.iload 4, 2) := by decide +kernel
theorem dX6_fieldsWanted_36 : decode cX6_fieldsWanted 36 = .ok (.aload_n 0, 1) := by decide +kernel
theorem dX6_fieldsWanted_37 : decode cX6_fieldsWanted 37 = .ok (.aload_n 0, 1) := by decide +kernel
theorem dX6_fieldsWanted_38 : decode cX6_fieldsWanted 38 = .ok (.getfield 23, 3) := by decide +kernel
theorem dX6_fieldsWanted_41 : decode cX6_fieldsWanted 41 = .ok (.iload_n 3, 1) := by decide +kernel
theorem dX6_fieldsWanted_42 : decode cX6_fieldsWanted 42 = .ok (.iload_n 1, 1) := by decide +kernel
theorem dX6_fieldsWanted_43 : decode cX6_fieldsWanted 43 = .ok (.imul, 1) := by decide +kernel
theorem dX6_fieldsWanted_44 : decode cX6_fieldsWanted 44 = .ok (.iload 5, 2) := by decide +kernel
theorem dX6_fieldsWanted_46 : decode cX6_fieldsWanted 46 = .ok (.iadd, 1) := by decide +kernel
theorem dX6_fieldsWanted_47 : decode cX6_fieldsWanted 47 = .ok (.iaload, 1) := by decide +kernel
theorem dX6_fieldsWanted_48 : decode cX6_fieldsWanted 48 = .ok (.iconst 2, 1) := by decide +kernel
theorem dX6_fieldsWanted_49 : decode cX6_fieldsWanted 49 = .ok (.idiv, 1) := by decide +kernel
theorem dX6_fieldsWanted_50 : decode cX6_fieldsWanted 50 = .ok (.invokevirtual 129, 3) := by decide +kernel
theorem dX6_fieldsWanted_53 : decode cX6_fieldsWanted 53 = .ok (.iadd, 1) := by decide +kernel
theorem dX6_fieldsWanted_54 : decode cX6_fieldsWanted 54 = .ok (.istore 4, 2) := by decide +kernel
theorem dX6_fieldsWanted_56 : decode cX6_fieldsWanted 56 = .ok (.iinc 5 1, 3) := by decide +kernel
theorem dX6_fieldsWanted_59 : decode cX6_fieldsWanted 59 = .ok (.goto (-31), 3) := by decide +kernel
theorem dX6_fieldsWanted_62 : decode cX6_fieldsWanted 62 = .ok (.iload 4, 2) := by decide +kernel
theorem dX6_fieldsWanted_64 : decode cX6_fieldsWanted 64 = .ok (.ifCond .le 12, 3) := by decide +kernel
theorem dX6_fieldsWanted_67 : decode cX6_fieldsWanted 67 = .ok (.iload 4, 2) := by decide +kernel
theorem dX6_fieldsWanted_69 : decode cX6_fieldsWanted 69 = .ok (.iload_n 1, 1) := by decide +kernel
theorem dX6_fieldsWanted_70 : decode cX6_fieldsWanted 70 = .ok (.if_icmp .ge 6, 3) := by decide +kernel
theorem dX6_fieldsWanted_73 : decode cX6_fieldsWanted 73 = .ok (.bipush (-6), 2) := by decide +kernel
theorem dX6_fieldsWanted_75 : decode cX6_fieldsWanted 75 = .ok (.ireturn, 1) := by decide +kernel
theorem dX6_fieldsWanted_76 : decode cX6_fieldsWanted 76 = .ok (.iload_n 2, 1) := by decide +kernel
theorem dX6_fieldsWanted_77 : decode cX6_fieldsWanted 77 = .ok (.iload 4, 2) := by decide +kernel
theorem dX6_fieldsWanted_79 : decode cX6_fieldsWanted 79 = .ok (.ifCond .le 7, 3) := by decide +kernel
theorem dX6_fieldsWanted_82 : decode cX6_fieldsWanted 82 = .ok (.iconst 1, 1) := by decide +kernel
theorem dX6_fieldsWanted_83 : decode cX6_fieldsWanted 83 = .ok (.goto 4, 3) := by decide +kernel
theorem dX6_fieldsWanted_86 : decode cX6_fieldsWanted 86 = .ok (.iconst 0, 1) := by decide +kernel
theorem dX6_fieldsWanted_87 : decode cX6_fieldsWanted 87 = .ok (.iadd, 1) := by decide +kernel
theorem dX6_fieldsWanted_88 : decode cX6_fieldsWanted 88 = .ok (.istore_n 2, 1) := by decide +kernel
theorem dX6_fieldsWanted_89 : decode cX6_fieldsWanted 89 = .ok (.iinc 3 1, 3) := by decide +kernel
theorem dX6_fieldsWanted_92 : decode cX6_fieldsWanted 92 = .ok (.goto (-83), 3) := by decide +kernel
theorem dX6_fieldsWanted_95 : decode cX6_fieldsWanted 95 = .ok (.iload_n 2, 1) := by decide +kernel
theorem dX6_fieldsWanted_96 : decode cX6_fieldsWanted 96 = .ok (.ireturn, 1) := by decide +kernel
set_option maxRecDepth 20000 in
theorem ggX6_punches_X6_layNow : GoodIn wsX6_punches wsX6_layNow := goodIn_r _ [5, 6, 7, 8, 9, 4, 10, 11, 12, 13, 14, 15, 16, 17, 18, 19, 20, 21, 22, 23, 24, 25, 26, 27, 28, 37, 38, 39, 40, 41, 42, 43, 44, 45, 46, 47, 48, 49, 50, 51, 52] (by decide +kernel) (by decide +kernel)
set_option maxRecDepth 20000 in
theorem gX6_punches_X6_layNow : GoodIn wsX6_punches (wsV RX6 71 RX6 yX6_layNow wsX6_layNow) := goodIn_app (goodIn_of _ (by decide +kernel)) ggX6_punches_X6_layNow
set_option maxRecDepth 20000 in
theorem ggX6_punches_X6_fieldsWanted : GoodIn wsX6_punches wsX6_fieldsWanted := goodIn_r _ [32, 11, 12, 13, 19, 20, 21, 4, 22, 33, 34, 35, 36, 6, 37, 38, 39, 40, 41, 42, 43, 44, 45, 46, 47, 48, 49, 50, 51, 52] (by decide +kernel) (by decide +kernel)
set_option maxRecDepth 20000 in
theorem gX6_punches_X6_fieldsWanted : GoodIn wsX6_punches (wsV RX6 138 RX6 yX6_fieldsWanted wsX6_fieldsWanted) := goodIn_app (goodIn_of _ (by decide +kernel)) ggX6_punches_X6_fieldsWanted
theorem dX6_punches_0 : decode cX6_punches 0 = .ok (.aload_n 0, 1) := by decide +kernel
theorem dX6_punches_1 : decode cX6_punches 1 = .ok (.invokevirtual 71, 3) := by decide +kernel
theorem dX6_punches_4 : decode cX6_punches 4 = .ok (.aload_n 0, 1) := by decide +kernel
theorem dX6_punches_5 : decode cX6_punches 5 = .ok (.invokevirtual 138, 3) := by decide +kernel
theorem dX6_punches_8 : decode cX6_punches 8 = .ok (.ireturn, 1) := by decide +kernel
set_option maxRecDepth 20000 in
theorem ggX6_bestFolds_X6_lay : GoodIn wsX6_bestFolds wsX6_lay := goodIn_r _ [5, 6, 7, 8, 9, 10, 11, 12, 4, 13, 14, 15, 16, 17, 18, 19, 20, 21, 22, 23, 24, 33, 34, 35, 36, 37, 38, 39, 40, 41, 42, 43, 44, 45, 46, 47, 48] (by decide +kernel) (by decide +kernel)
set_option maxRecDepth 20000 in
theorem gX6_bestFolds_X6_lay : GoodIn wsX6_bestFolds (wsV RX6 68 RX6 yX6_lay wsX6_lay) := goodIn_app (goodIn_of _ (by decide +kernel)) ggX6_bestFolds_X6_lay
set_option maxRecDepth 20000 in
theorem ggX6_bestFolds_X6_layFold : GoodIn wsX6_bestFolds wsX6_layFold := goodIn_r _ [13, 6, 7, 14, 8, 15, 16, 17, 4, 18, 19, 20, 21, 22, 23, 24, 33, 34, 35, 36, 37, 38, 39, 40, 41, 42, 43, 44, 45, 46, 47, 48] (by decide +kernel) (by decide +kernel)
set_option maxRecDepth 20000 in
theorem gX6_bestFolds_X6_layFold : GoodIn wsX6_bestFolds (wsV RX6 52 RX6 yX6_layFold wsX6_layFold) := goodIn_app (goodIn_of _ (by decide +kernel)) ggX6_bestFolds_X6_layFold
set_option maxRecDepth 20000 in
theorem ggX6_bestFolds_X6_fieldsWanted : GoodIn wsX6_bestFolds wsX6_fieldsWanted := goodIn_r _ [28, 6, 7, 8, 15, 16, 17, 4, 18, 29, 30, 31, 32, 9, 33, 34, 35, 36, 37, 38, 39, 40, 41, 42, 43, 44, 45, 46, 47, 48] (by decide +kernel) (by decide +kernel)
set_option maxRecDepth 20000 in
theorem gX6_bestFolds_X6_fieldsWanted : GoodIn wsX6_bestFolds (wsV RX6 138 RX6 yX6_fieldsWanted wsX6_fieldsWanted) := goodIn_app (goodIn_of _ (by decide +kernel)) ggX6_bestFolds_X6_fieldsWanted
theorem dX6_bestFolds_0 : decode cX6_bestFolds 0 = .ok (.bipush (-6), 2) := by decide +kernel
theorem dX6_bestFolds_2 : decode cX6_bestFolds 2 = .ok (.istore_n 1, 1) := by decide +kernel
theorem dX6_bestFolds_3 : decode cX6_bestFolds 3 = .ok (.iconst 0, 1) := by decide +kernel
theorem dX6_bestFolds_4 : decode cX6_bestFolds 4 = .ok (.istore_n 2, 1) := by decide +kernel
theorem dX6_bestFolds_5 : decode cX6_bestFolds 5 = .ok (.iconst 0, 1) := by decide +kernel
theorem dX6_bestFolds_6 : decode cX6_bestFolds 6 = .ok (.istore_n 3, 1) := by decide +kernel
theorem dX6_bestFolds_7 : decode cX6_bestFolds 7 = .ok (.iload_n 3, 1) := by decide +kernel
theorem dX6_bestFolds_8 : decode cX6_bestFolds 8 = .ok (.bipush 6, 2) := by decide +kernel
theorem dX6_bestFolds_10 : decode cX6_bestFolds 10 = .ok (.if_icmp .gt 138, 3) := by decide +kernel
theorem dX6_bestFolds_13 : decode cX6_bestFolds 13 = .ok (.iconst 0, 1) := by decide +kernel
theorem dX6_bestFolds_14 : decode cX6_bestFolds 14 = .ok (.istore 4, 2) := by decide +kernel
theorem dX6_bestFolds_16 : decode cX6_bestFolds 16 = .ok (.iload 4, 2) := by decide +kernel
theorem dX6_bestFolds_18 : decode cX6_bestFolds 18 = .ok (.iconst 3, 1) := by decide +kernel
theorem dX6_bestFolds_19 : decode cX6_bestFolds 19 = .ok (.if_icmp .gt 123, 3) := by decide +kernel
theorem dX6_bestFolds_22 : decode cX6_bestFolds 22 = .ok (.iload 4, 2) := by decide +kernel
theorem dX6_bestFolds_24 : decode cX6_bestFolds 24 = .ok (.iload_n 3, 1) := by decide +kernel
theorem dX6_bestFolds_25 : decode cX6_bestFolds 25 = .ok (.if_icmp .gt 117, 3) := by decide +kernel
theorem dX6_bestFolds_28 : decode cX6_bestFolds 28 = .ok (.iload_n 3, 1) := by decide +kernel
theorem dX6_bestFolds_29 : decode cX6_bestFolds 29 = .ok (.iload 4, 2) := by decide +kernel
theorem dX6_bestFolds_31 : decode cX6_bestFolds 31 = .ok (.isub, 1) := by decide +kernel
theorem dX6_bestFolds_32 : decode cX6_bestFolds 32 = .ok (.iconst 3, 1) := by decide +kernel
theorem dX6_bestFolds_33 : decode cX6_bestFolds 33 = .ok (.if_icmp .gt 103, 3) := by decide +kernel
theorem dX6_bestFolds_36 : decode cX6_bestFolds 36 = .ok (.aload_n 0, 1) := by decide +kernel
theorem dX6_bestFolds_37 : decode cX6_bestFolds 37 = .ok (.iconst 0, 1) := by decide +kernel
theorem dX6_bestFolds_38 : decode cX6_bestFolds 38 = .ok (.invokevirtual 68, 3) := by decide +kernel
theorem dX6_bestFolds_41 : decode cX6_bestFolds 41 = .ok (.iconst 0, 1) := by decide +kernel
theorem dX6_bestFolds_42 : decode cX6_bestFolds 42 = .ok (.istore 5, 2) := by decide +kernel
theorem dX6_bestFolds_44 : decode cX6_bestFolds 44 = .ok (.iload 5, 2) := by decide +kernel
theorem dX6_bestFolds_46 : decode cX6_bestFolds 46 = .ok (.iload_n 3, 1) := by decide +kernel
theorem dX6_bestFolds_47 : decode cX6_bestFolds 47 = .ok (.if_icmp .ge 25, 3) := by decide +kernel
theorem dX6_bestFolds_50 : decode cX6_bestFolds 50 = .ok (.aload_n 0, 1) := by decide +kernel
theorem dX6_bestFolds_51 : decode cX6_bestFolds 51 = .ok (.iload 5, 2) := by decide +kernel
theorem dX6_bestFolds_53 : decode cX6_bestFolds 53 = .ok (.iload 4, 2) := by decide +kernel
theorem dX6_bestFolds_55 : decode cX6_bestFolds 55 = .ok (.if_icmp .ge 7, 3) := by decide +kernel
theorem dX6_bestFolds_58 : decode cX6_bestFolds 58 = .ok (.iconst 0, 1) := by decide +kernel
theorem dX6_bestFolds_59 : decode cX6_bestFolds 59 = .ok (.goto 4, 3) := by decide +kernel
theorem dX6_bestFolds_62 : decode cX6_bestFolds 62 = .ok (.iconst 2, 1) := by decide +kernel
theorem dX6_bestFolds_63 : decode cX6_bestFolds 63 = .ok (.invokevirtual 52, 3) := by decide +kernel
theorem dX6_bestFolds_66 : decode cX6_bestFolds 66 = .ok (.iinc 5 1, 3) := by decide +kernel
theorem dX6_bestFolds_69 : decode cX6_bestFolds 69 = .ok (.goto (-25), 3) := by decide +kernel
theorem dX6_bestFolds_72 : decode cX6_bestFolds 72 = .ok (.aload_n 0, 1) := by decide +kernel
theorem dX6_bestFolds_73 : decode cX6_bestFolds 73 = .ok (.invokevirtual 138, 3) := by decide +kernel
theorem dX6_bestFolds_76 : decode cX6_bestFolds 76 = .ok (.istore 5, 2) := by decide +kernel
theorem dX6_bestFolds_78 : decode cX6_bestFolds 78 = .ok (.iload 5, 2) := by decide +kernel
theorem dX6_bestFolds_80 : decode cX6_bestFolds 80 = .ok (.bipush (-6), 2) := by decide +kernel
theorem dX6_bestFolds_82 : decode cX6_bestFolds 82 = .ok (.if_icmp .eq 19, 3) := by decide +kernel
theorem dX6_bestFolds_85 : decode cX6_bestFolds 85 = .ok (.iload_n 1, 1) := by decide +kernel
theorem dX6_bestFolds_86 : decode cX6_bestFolds 86 = .ok (.bipush (-6), 2) := by decide +kernel
theorem dX6_bestFolds_88 : decode cX6_bestFolds 88 = .ok (.if_icmp .eq 9, 3) := by decide +kernel
theorem dX6_bestFolds_91 : decode cX6_bestFolds 91 = .ok (.iload 5, 2) := by decide +kernel
theorem dX6_bestFolds_93 : decode cX6_bestFolds 93 = .ok (.iload_n 2, 1) := by decide +kernel
theorem dX6_bestFolds_94 : decode cX6_bestFolds 94 = .ok (.if_icmp .ge 7, 3) := by decide +kernel
theorem dX6_bestFolds_97 : decode cX6_bestFolds 97 = .ok (.iconst 1, 1) := by decide +kernel
theorem dX6_bestFolds_98 : decode cX6_bestFolds 98 = .ok (.goto 4, 3) := by decide +kernel
theorem dX6_bestFolds_101 : decode cX6_bestFolds 101 = .ok (.iconst 0, 1) := by decide +kernel
theorem dX6_bestFolds_102 : decode cX6_bestFolds 102 = .ok (.istore 6, 2) := by decide +kernel
theorem dX6_bestFolds_104 : decode cX6_bestFolds 104 = .ok (.iload 6, 2) := by decide +kernel
theorem dX6_bestFolds_106 : decode cX6_bestFolds 106 = .ok (.ifCond .eq 16, 3) := by decide +kernel
theorem dX6_bestFolds_109 : decode cX6_bestFolds 109 = .ok (.bipush 10, 2) := by decide +kernel
theorem dX6_bestFolds_111 : decode cX6_bestFolds 111 = .ok (.iload 4, 2) := by decide +kernel
theorem dX6_bestFolds_113 : decode cX6_bestFolds 113 = .ok (.imul, 1) := by decide +kernel
theorem dX6_bestFolds_114 : decode cX6_bestFolds 114 = .ok (.iload_n 3, 1) := by decide +kernel
theorem dX6_bestFolds_115 : decode cX6_bestFolds 115 = .ok (.iadd, 1) := by decide +kernel
theorem dX6_bestFolds_116 : decode cX6_bestFolds 116 = .ok (.iload 4, 2) := by decide +kernel
theorem dX6_bestFolds_118 : decode cX6_bestFolds 118 = .ok (.isub, 1) := by decide +kernel
theorem dX6_bestFolds_119 : decode cX6_bestFolds 119 = .ok (.goto 4, 3) := by decide +kernel
theorem dX6_bestFolds_122 : decode cX6_bestFolds 122 = .ok (.iload_n 1, 1) := by decide +kernel
theorem dX6_bestFolds_123 : decode cX6_bestFolds 123 = .ok (.istore_n 1, 1) := by decide +kernel
theorem dX6_bestFolds_124 : decode cX6_bestFolds 124 = .ok (.iload 6, 2) := by decide +kernel
theorem dX6_bestFolds_126 : decode cX6_bestFolds 126 = .ok (.ifCond .eq 8, 3) := by decide +kernel
theorem dX6_bestFolds_129 : decode cX6_bestFolds 129 = .ok (.iload 5, 2) := by decide +kernel
theorem dX6_bestFolds_131 : decode cX6_bestFolds 131 = .ok (.goto 4, 3) := by decide +kernel
theorem dX6_bestFolds_134 : decode cX6_bestFolds 134 = .ok (.iload_n 2, 1) := by decide +kernel
theorem dX6_bestFolds_135 : decode cX6_bestFolds 135 = .ok (.istore_n 2, 1) := by decide +kernel
theorem dX6_bestFolds_136 : decode cX6_bestFolds 136 = .ok (.iinc 4 1, 3) := by decide +kernel
theorem dX6_bestFolds_139 : decode cX6_bestFolds 139 = .ok (.goto (-123), 3) := by decide +kernel
theorem dX6_bestFolds_142 : decode cX6_bestFolds 142 = .ok (.iinc 3 1, 3) := by decide +kernel
theorem dX6_bestFolds_145 : decode cX6_bestFolds 145 = .ok (.goto (-138), 3) := by decide +kernel
theorem dX6_bestFolds_148 : decode cX6_bestFolds 148 = .ok (.iload_n 1, 1) := by decide +kernel
theorem dX6_bestFolds_149 : decode cX6_bestFolds 149 = .ok (.ireturn, 1) := by decide +kernel
set_option maxRecDepth 20000 in
theorem ggX6_ifPunched_X6_top : GoodIn wsX6_ifPunched wsX6_top := goodIn_r _ [7, 8, 9, 10, 11, 12, 6, 13, 1, 14, 15, 16, 17, 2, 18, 19, 20, 21, 22, 23, 24, 25, 26, 27, 28, 29, 30, 31, 32, 33, 34, 35, 53, 54, 55, 56, 57, 58, 59, 60, 61, 62, 63, 64, 65, 66, 67, 68] (by decide +kernel) (by decide +kernel)
set_option maxRecDepth 20000 in
theorem gX6_ifPunched_X6_top : GoodIn wsX6_ifPunched (wsV RX6 87 RX6 yX6_top wsX6_top) := goodIn_app (goodIn_of _ (by decide +kernel)) ggX6_ifPunched_X6_top
set_option maxRecDepth 20000 in
theorem ggX6_ifPunched_X6_layers : GoodIn wsX6_ifPunched wsX6_layers := goodIn_r _ [26, 8, 9, 53, 54, 55, 56, 57, 58, 59, 60, 61, 62, 63, 64, 65, 66, 67, 68] (by decide +kernel) (by decide +kernel)
set_option maxRecDepth 20000 in
theorem gX6_ifPunched_X6_layers : GoodIn wsX6_ifPunched (wsV RX6 56 RX6 yX6_layers wsX6_layers) := goodIn_app (goodIn_of _ (by decide +kernel)) ggX6_ifPunched_X6_layers
set_option maxRecDepth 20000 in
theorem ggX6_ifPunched_X6_pieceMany : GoodIn wsX6_ifPunched wsX6_pieceMany := goodIn_r _ [39, 40, 41, 42, 6, 43, 44, 45, 46, 47, 48, 1, 49, 50, 51, 52, 53, 54, 55, 56, 57, 58, 59, 60, 61, 62, 63, 64, 65, 66, 67, 68] (by decide +kernel) (by decide +kernel)
set_option maxRecDepth 20000 in
theorem gX6_ifPunched_X6_pieceMany : GoodIn wsX6_ifPunched (wsV RX6 123 RX6 yX6_pieceMany wsX6_pieceMany) := goodIn_app (goodIn_of _ (by decide +kernel)) ggX6_ifPunched_X6_pieceMany
theorem dX6_ifPunched_0 : decode cX6_ifPunched 0 = .ok (.aload_n 0, 1) := by decide +kernel
theorem dX6_ifPunched_1 : decode cX6_ifPunched 1 = .ok (.iload_n 1, 1) := by decide +kernel
theorem dX6_ifPunched_2 : decode cX6_ifPunched 2 = .ok (.iload_n 2, 1) := by decide +kernel
theorem dX6_ifPunched_3 : decode cX6_ifPunched 3 = .ok (.invokevirtual 87, 3) := by decide +kernel
theorem dX6_ifPunched_6 : decode cX6_ifPunched 6 = .ok (.istore_n 3, 1) := by decide +kernel
theorem dX6_ifPunched_7 : decode cX6_ifPunched 7 = .ok (.iload_n 3, 1) := by decide +kernel
theorem dX6_ifPunched_8 : decode cX6_ifPunched 8 = .ok (.bipush (-6), 2) := by decide +kernel
theorem dX6_ifPunched_10 : decode cX6_ifPunched 10 = .ok (.if_icmp .ne 5, 3) := by decide +kernel
theorem dX6_ifPunched_13 : decode cX6_ifPunched 13 = .ok (.iconst (-1), 1) := by decide +kernel
theorem dX6_ifPunched_14 : decode cX6_ifPunched 14 = .ok (.ireturn, 1) := by decide +kernel
theorem dX6_ifPunched_15 : decode cX6_ifPunched 15 = .ok (.iconst 0, 1) := by decide +kernel
theorem dX6_ifPunched_16 : decode cX6_ifPunched 16 = .ok (.istore 4, 2) := by decide +kernel
theorem dX6_ifPunched_18 : decode cX6_ifPunched 18 = .ok (.iload 4, 2) := by decide +kernel
theorem dX6_ifPunched_20 : decode cX6_ifPunched 20 = .ok (.aload_n 0, 1) := by decide +kernel
theorem dX6_ifPunched_21 : decode cX6_ifPunched 21 = .ok (.invokevirtual 56, 3) := by decide +kernel
theorem dX6_ifPunched_24 : decode cX6_ifPunched 24 = .ok (.if_icmp .ge 32, 3) := by decide +kernel
theorem dX6_ifPunched_27 : decode cX6_ifPunched 27 = .ok (.aload_n 0, 1) := by decide +kernel
theorem dX6_ifPunched_28 : decode cX6_ifPunched 28 = .ok (.getfield 7, 3) := by decide +kernel
theorem dX6_ifPunched_31 : decode cX6_ifPunched 31 = .ok (.bipush 7, 2) := by decide +kernel
theorem dX6_ifPunched_33 : decode cX6_ifPunched 33 = .ok (.aload_n 0, 1) := by decide +kernel
theorem dX6_ifPunched_34 : decode cX6_ifPunched 34 = .ok (.getfield 23, 3) := by decide +kernel
theorem dX6_ifPunched_37 : decode cX6_ifPunched 37 = .ok (.iload_n 3, 1) := by decide +kernel
theorem dX6_ifPunched_38 : decode cX6_ifPunched 38 = .ok (.iload 4, 2) := by decide +kernel
theorem dX6_ifPunched_40 : decode cX6_ifPunched 40 = .ok (.iadd, 1) := by decide +kernel
theorem dX6_ifPunched_41 : decode cX6_ifPunched 41 = .ok (.iaload, 1) := by decide +kernel
theorem dX6_ifPunched_42 : decode cX6_ifPunched 42 = .ok (.iconst 2, 1) := by decide +kernel
theorem dX6_ifPunched_43 : decode cX6_ifPunched 43 = .ok (.idiv, 1) := by decide +kernel
theorem dX6_ifPunched_44 : decode cX6_ifPunched 44 = .ok (.iadd, 1) := by decide +kernel
theorem dX6_ifPunched_45 : decode cX6_ifPunched 45 = .ok (.dup2, 1) := by decide +kernel
theorem dX6_ifPunched_46 : decode cX6_ifPunched 46 = .ok (.iaload, 1) := by decide +kernel
theorem dX6_ifPunched_47 : decode cX6_ifPunched 47 = .ok (.iconst 2, 1) := by decide +kernel
theorem dX6_ifPunched_48 : decode cX6_ifPunched 48 = .ok (.iadd, 1) := by decide +kernel
theorem dX6_ifPunched_49 : decode cX6_ifPunched 49 = .ok (.iastore, 1) := by decide +kernel
theorem dX6_ifPunched_50 : decode cX6_ifPunched 50 = .ok (.iinc 4 1, 3) := by decide +kernel
theorem dX6_ifPunched_53 : decode cX6_ifPunched 53 = .ok (.goto (-35), 3) := by decide +kernel
theorem dX6_ifPunched_56 : decode cX6_ifPunched 56 = .ok (.aload_n 0, 1) := by decide +kernel
theorem dX6_ifPunched_57 : decode cX6_ifPunched 57 = .ok (.invokevirtual 123, 3) := by decide +kernel
theorem dX6_ifPunched_60 : decode cX6_ifPunched 60 = .ok (.istore 4, 2) := by decide +kernel
theorem dX6_ifPunched_62 : decode cX6_ifPunched 62 = .ok (.iconst 0, 1) := by decide +kernel
theorem dX6_ifPunched_63 : decode cX6_ifPunched 63 = .ok (.istore 5, 2) := by decide +kernel
theorem dX6_ifPunched_65 : decode cX6_ifPunched 65 = .ok (.iload 5, 2) := by decide +kernel
theorem dX6_ifPunched_67 : decode cX6_ifPunched 67 = .ok (.aload_n 0, 1) := by decide +kernel
theorem dX6_ifPunched_68 : decode cX6_ifPunched 68 = .ok (.invokevirtual 56, 3) := by decide +kernel
theorem dX6_ifPunched_71 : decode cX6_ifPunched 71 = .ok (.if_icmp .ge 32, 3) := by decide +kernel
theorem dX6_ifPunched_74 : decode cX6_ifPunched 74 = .ok (.aload_n 0, 1) := by decide +kernel
theorem dX6_ifPunched_75 : decode cX6_ifPunched 75 = .ok (.getfield 7, 3) := by decide +kernel
theorem dX6_ifPunched_78 : decode cX6_ifPunched 78 = .ok (.bipush 7, 2) := by decide +kernel
theorem dX6_ifPunched_80 : decode cX6_ifPunched 80 = .ok (.aload_n 0, 1) := by decide +kernel
theorem dX6_ifPunched_81 : decode cX6_ifPunched 81 = .ok (.getfield 23, 3) := by decide +kernel
theorem dX6_ifPunched_84 : decode cX6_ifPunched 84 = .ok (.iload_n 3, 1) := by decide +kernel
theorem dX6_ifPunched_85 : decode cX6_ifPunched 85 = .ok (.iload 5, 2) := by decide +kernel
theorem dX6_ifPunched_87 : decode cX6_ifPunched 87 = .ok (.iadd, 1) := by decide +kernel
theorem dX6_ifPunched_88 : decode cX6_ifPunched 88 = .ok (.iaload, 1) := by decide +kernel
theorem dX6_ifPunched_89 : decode cX6_ifPunched 89 = .ok (.iconst 2, 1) := by decide +kernel
theorem dX6_ifPunched_90 : decode cX6_ifPunched 90 = .ok (.idiv, 1) := by decide +kernel
theorem dX6_ifPunched_91 : decode cX6_ifPunched 91 = .ok (.iadd, 1) := by decide +kernel
theorem dX6_ifPunched_92 : decode cX6_ifPunched 92 = .ok (.dup2, 1) := by decide +kernel
theorem dX6_ifPunched_93 : decode cX6_ifPunched 93 = .ok (.iaload, 1) := by decide +kernel
theorem dX6_ifPunched_94 : decode cX6_ifPunched 94 = .ok (.iconst 2, 1) := by decide +kernel
theorem dX6_ifPunched_95 : decode cX6_ifPunched 95 = .ok (.isub, 1) := by decide +kernel
theorem dX6_ifPunched_96 : decode cX6_ifPunched 96 = .ok (.iastore, 1) := by decide +kernel
theorem dX6_ifPunched_97 : decode cX6_ifPunched 97 = .ok (.iinc 5 1, 3) := by decide +kernel
theorem dX6_ifPunched_100 : decode cX6_ifPunched 100 = .ok (.goto (-35), 3) := by decide +kernel
theorem dX6_ifPunched_103 : decode cX6_ifPunched 103 = .ok (.iload 4, 2) := by decide +kernel
theorem dX6_ifPunched_105 : decode cX6_ifPunched 105 = .ok (.ireturn, 1) := by decide +kernel
set_option maxRecDepth 20000 in
theorem ggX6_append_X6_in : GoodIn wsX6_append wsX6_in := goodIn_r _ [6] (by decide +kernel) (by decide +kernel)
set_option maxRecDepth 20000 in
theorem gX6_append_X6_in : GoodIn wsX6_append (va_wsS RX6 74 yX6_in wsX6_in) := goodIn_app (goodIn_of _ (by decide +kernel)) ggX6_append_X6_in
theorem dX6_append_0 : decode cX6_append 0 = .ok (.iload_n 1, 1) := by decide +kernel
theorem dX6_append_1 : decode cX6_append 1 = .ok (.bipush 33, 2) := by decide +kernel
theorem dX6_append_3 : decode cX6_append 3 = .ok (.bipush 126, 2) := by decide +kernel
theorem dX6_append_5 : decode cX6_append 5 = .ok (.invokestatic 74, 3) := by decide +kernel
theorem dX6_append_8 : decode cX6_append 8 = .ok (.ifCond .ne 6, 3) := by decide +kernel
theorem dX6_append_11 : decode cX6_append 11 = .ok (.bipush (-2), 2) := by decide +kernel
theorem dX6_append_13 : decode cX6_append 13 = .ok (.ireturn, 1) := by decide +kernel
theorem dX6_append_14 : decode cX6_append 14 = .ok (.aload_n 0, 1) := by decide +kernel
theorem dX6_append_15 : decode cX6_append 15 = .ok (.getfield 141, 3) := by decide +kernel
theorem dX6_append_18 : decode cX6_append 18 = .ok (.bipush 60, 2) := by decide +kernel
theorem dX6_append_20 : decode cX6_append 20 = .ok (.if_icmp .ne 6, 3) := by decide +kernel
theorem dX6_append_23 : decode cX6_append 23 = .ok (.bipush (-4), 2) := by decide +kernel
theorem dX6_append_25 : decode cX6_append 25 = .ok (.ireturn, 1) := by decide +kernel
theorem dX6_append_26 : decode cX6_append 26 = .ok (.aload_n 0, 1) := by decide +kernel
theorem dX6_append_27 : decode cX6_append 27 = .ok (.getfield 19, 3) := by decide +kernel
theorem dX6_append_30 : decode cX6_append 30 = .ok (.aload_n 0, 1) := by decide +kernel
theorem dX6_append_31 : decode cX6_append 31 = .ok (.getfield 141, 3) := by decide +kernel
theorem dX6_append_34 : decode cX6_append 34 = .ok (.iload_n 1, 1) := by decide +kernel
theorem dX6_append_35 : decode cX6_append 35 = .ok (.i2c, 1) := by decide +kernel
theorem dX6_append_36 : decode cX6_append 36 = .ok (.castore, 1) := by decide +kernel
theorem dX6_append_37 : decode cX6_append 37 = .ok (.aload_n 0, 1) := by decide +kernel
theorem dX6_append_38 : decode cX6_append 38 = .ok (.dup, 1) := by decide +kernel
theorem dX6_append_39 : decode cX6_append 39 = .ok (.getfield 141, 3) := by decide +kernel
theorem dX6_append_42 : decode cX6_append 42 = .ok (.iconst 1, 1) := by decide +kernel
theorem dX6_append_43 : decode cX6_append 43 = .ok (.iadd, 1) := by decide +kernel
theorem dX6_append_44 : decode cX6_append 44 = .ok (.putfield 141, 3) := by decide +kernel
theorem dX6_append_47 : decode cX6_append 47 = .ok (.aload_n 0, 1) := by decide +kernel
theorem dX6_append_48 : decode cX6_append 48 = .ok (.getfield 141, 3) := by decide +kernel
theorem dX6_append_51 : decode cX6_append 51 = .ok (.ireturn, 1) := by decide +kernel
theorem dX6_clearText_0 : decode cX6_clearText 0 = .ok (.aload_n 0, 1) := by decide +kernel
theorem dX6_clearText_1 : decode cX6_clearText 1 = .ok (.getfield 141, 3) := by decide +kernel
theorem dX6_clearText_4 : decode cX6_clearText 4 = .ok (.istore_n 1, 1) := by decide +kernel
theorem dX6_clearText_5 : decode cX6_clearText 5 = .ok (.aload_n 0, 1) := by decide +kernel
theorem dX6_clearText_6 : decode cX6_clearText 6 = .ok (.iconst 0, 1) := by decide +kernel
theorem dX6_clearText_7 : decode cX6_clearText 7 = .ok (.putfield 141, 3) := by decide +kernel
theorem dX6_clearText_10 : decode cX6_clearText 10 = .ok (.iload_n 1, 1) := by decide +kernel
theorem dX6_clearText_11 : decode cX6_clearText 11 = .ok (.ireturn, 1) := by decide +kernel
theorem dX6_letter_0 : decode cX6_letter 0 = .ok (.aload_n 0, 1) := by decide +kernel
theorem dX6_letter_1 : decode cX6_letter 1 = .ok (.getfield 144, 3) := by decide +kernel
theorem dX6_letter_4 : decode cX6_letter 4 = .ok (.aload_n 0, 1) := by decide +kernel
theorem dX6_letter_5 : decode cX6_letter 5 = .ok (.getfield 141, 3) := by decide +kernel
theorem dX6_letter_8 : decode cX6_letter 8 = .ok (.if_icmp .ge 15, 3) := by decide +kernel
theorem dX6_letter_11 : decode cX6_letter 11 = .ok (.aload_n 0, 1) := by decide +kernel
theorem dX6_letter_12 : decode cX6_letter 12 = .ok (.getfield 19, 3) := by decide +kernel
theorem dX6_letter_15 : decode cX6_letter 15 = .ok (.aload_n 0, 1) := by decide +kernel
theorem dX6_letter_16 : decode cX6_letter 16 = .ok (.getfield 144, 3) := by decide +kernel
theorem dX6_letter_19 : decode cX6_letter 19 = .ok (.caload, 1) := by decide +kernel
theorem dX6_letter_20 : decode cX6_letter 20 = .ok (.goto 5, 3) := by decide +kernel
theorem dX6_letter_23 : decode cX6_letter 23 = .ok (.bipush (-6), 2) := by decide +kernel
theorem dX6_letter_25 : decode cX6_letter 25 = .ok (.ireturn, 1) := by decide +kernel
theorem dX6_wants_0 : decode cX6_wants 0 = .ok (.aload_n 0, 1) := by decide +kernel
theorem dX6_wants_1 : decode cX6_wants 1 = .ok (.getfield 147, 3) := by decide +kernel
theorem dX6_wants_4 : decode cX6_wants 4 = .ok (.bipush (-6), 2) := by decide +kernel
theorem dX6_wants_6 : decode cX6_wants 6 = .ok (.if_icmp .ne 30, 3) := by decide +kernel
theorem dX6_wants_9 : decode cX6_wants 9 = .ok (.aload_n 0, 1) := by decide +kernel
theorem dX6_wants_10 : decode cX6_wants 10 = .ok (.iload_n 1, 1) := by decide +kernel
theorem dX6_wants_11 : decode cX6_wants 11 = .ok (.ifCond .eq 8, 3) := by decide +kernel
theorem dX6_wants_14 : decode cX6_wants 14 = .ok (.bipush (-6), 2) := by decide +kernel
theorem dX6_wants_16 : decode cX6_wants 16 = .ok (.goto 7, 3) := by decide +kernel
theorem dX6_wants_19 : decode cX6_wants 19 = .ok (.aload_n 0, 1) := by decide +kernel
theorem dX6_wants_20 : decode cX6_wants 20 = .ok (.getfield 144, 3) := by decide +kernel
theorem dX6_wants_23 : decode cX6_wants 23 = .ok (.putfield 147, 3) := by decide +kernel
theorem dX6_wants_26 : decode cX6_wants 26 = .ok (.aload_n 0, 1) := by decide +kernel
theorem dX6_wants_27 : decode cX6_wants 27 = .ok (.dup, 1) := by decide +kernel
theorem dX6_wants_28 : decode cX6_wants 28 = .ok (.getfield 144, 3) := by decide +kernel
theorem dX6_wants_31 : decode cX6_wants 31 = .ok (.iconst 1, 1) := by decide +kernel
theorem dX6_wants_32 : decode cX6_wants 32 = .ok (.iadd, 1) := by decide +kernel
theorem dX6_wants_33 : decode cX6_wants 33 = .ok (.putfield 144, 3) := by decide +kernel
theorem dX6_wants_36 : decode cX6_wants 36 = .ok (.return_, 1) := by decide +kernel
set_option maxRecDepth 20000 in
theorem ggX6_figure_X6_letter : GoodIn wsX6_figure wsX6_letter := goodIn_r _ [5, 6, 7, 8, 17, 18, 19, 20, 21, 22, 23, 24, 25, 26, 27, 28, 29, 30, 31, 32] (by decide +kernel) (by decide +kernel)
set_option maxRecDepth 20000 in
theorem gX6_figure_X6_letter : GoodIn wsX6_figure (wsV RX6 150 RX6 yX6_letter wsX6_letter) := goodIn_app (goodIn_of _ (by decide +kernel)) ggX6_figure_X6_letter
set_option maxRecDepth 20000 in
theorem ggX6_figure_X6_in : GoodIn wsX6_figure wsX6_in := goodIn_r _ [11] (by decide +kernel) (by decide +kernel)
set_option maxRecDepth 20000 in
theorem gX6_figure_X6_in : GoodIn wsX6_figure (va_wsS RX6 74 yX6_in wsX6_in) := goodIn_app (goodIn_of _ (by decide +kernel)) ggX6_figure_X6_in
set_option maxRecDepth 20000 in
theorem ggX6_figure_X6_wants : GoodIn wsX6_figure wsX6_wants := goodIn_r _ [15, 16, 6, 17, 18, 19, 20, 21, 22, 23, 24, 25, 26, 27, 28, 29, 30, 31, 32] (by decide +kernel) (by decide +kernel)
set_option maxRecDepth 20000 in
theorem gX6_figure_X6_wants : GoodIn wsX6_figure (wsV RX6 153 RX6 yX6_wants wsX6_wants) := goodIn_app (goodIn_of _ (by decide +kernel)) ggX6_figure_X6_wants
theorem dX6_figure_0 : decode cX6_figure 0 = .ok (.aload_n 0, 1) := by decide +kernel
theorem dX6_figure_1 : decode cX6_figure 1 = .ok (.invokevirtual 150, 3) := by decide +kernel
theorem dX6_figure_4 : decode cX6_figure 4 = .ok (.bipush 48, 2) := by decide +kernel
theorem dX6_figure_6 : decode cX6_figure 6 = .ok (.isub, 1) := by decide +kernel
theorem dX6_figure_7 : decode cX6_figure 7 = .ok (.istore_n 3, 1) := by decide +kernel
theorem dX6_figure_8 : decode cX6_figure 8 = .ok (.aload_n 0, 1) := by decide +kernel
theorem dX6_figure_9 : decode cX6_figure 9 = .ok (.iload_n 3, 1) := by decide +kernel
theorem dX6_figure_10 : decode cX6_figure 10 = .ok (.iload_n 1, 1) := by decide +kernel
theorem dX6_figure_11 : decode cX6_figure 11 = .ok (.iload_n 2, 1) := by decide +kernel
theorem dX6_figure_12 : decode cX6_figure 12 = .ok (.invokestatic 74, 3) := by decide +kernel
theorem dX6_figure_15 : decode cX6_figure 15 = .ok (.invokevirtual 153, 3) := by decide +kernel
theorem dX6_figure_18 : decode cX6_figure 18 = .ok (.iload_n 3, 1) := by decide +kernel
theorem dX6_figure_19 : decode cX6_figure 19 = .ok (.ireturn, 1) := by decide +kernel
set_option maxRecDepth 20000 in
theorem ggX6_depth_X6_figure : GoodIn wsX6_depth wsX6_figure := goodIn_r _ [7, 8, 9, 10, 6, 11, 2, 12, 13, 14, 15, 16, 17, 18, 19, 20, 1, 21, 22, 23, 24, 25, 26, 27, 28, 29, 30, 31, 32, 33, 34, 35, 36] (by decide +kernel) (by decide +kernel)
set_option maxRecDepth 20000 in
theorem gX6_depth_X6_figure : GoodIn wsX6_depth (wsV RX6 157 RX6 yX6_figure wsX6_figure) := goodIn_app (goodIn_of _ (by decide +kernel)) ggX6_depth_X6_figure
set_option maxRecDepth 20000 in
theorem ggX6_depth_X6_letter : GoodIn wsX6_depth wsX6_letter := goodIn_r _ [11, 2, 12, 13, 21, 22, 23, 24, 25, 26, 27, 28, 29, 30, 31, 32, 33, 34, 35, 36] (by decide +kernel) (by decide +kernel)
set_option maxRecDepth 20000 in
theorem gX6_depth_X6_letter : GoodIn wsX6_depth (wsV RX6 150 RX6 yX6_letter wsX6_letter) := goodIn_app (goodIn_of _ (by decide +kernel)) ggX6_depth_X6_letter
set_option maxRecDepth 20000 in
theorem ggX6_depth_X6_in : GoodIn wsX6_depth wsX6_in := goodIn_r _ [16] (by decide +kernel) (by decide +kernel)
set_option maxRecDepth 20000 in
theorem gX6_depth_X6_in : GoodIn wsX6_depth (va_wsS RX6 74 yX6_in wsX6_in) := goodIn_app (goodIn_of _ (by decide +kernel)) ggX6_depth_X6_in
theorem dX6_depth_0 : decode cX6_depth 0 = .ok (.aload_n 0, 1) := by decide +kernel
theorem dX6_depth_1 : decode cX6_depth 1 = .ok (.iconst 1, 1) := by decide +kernel
theorem dX6_depth_2 : decode cX6_depth 2 = .ok (.bipush 9, 2) := by decide +kernel
theorem dX6_depth_4 : decode cX6_depth 4 = .ok (.invokevirtual 157, 3) := by decide +kernel
theorem dX6_depth_7 : decode cX6_depth 7 = .ok (.istore_n 1, 1) := by decide +kernel
theorem dX6_depth_8 : decode cX6_depth 8 = .ok (.aload_n 0, 1) := by decide +kernel
theorem dX6_depth_9 : decode cX6_depth 9 = .ok (.invokevirtual 150, 3) := by decide +kernel
theorem dX6_depth_12 : decode cX6_depth 12 = .ok (.bipush 48, 2) := by decide +kernel
theorem dX6_depth_14 : decode cX6_depth 14 = .ok (.isub, 1) := by decide +kernel
theorem dX6_depth_15 : decode cX6_depth 15 = .ok (.istore_n 2, 1) := by decide +kernel
theorem dX6_depth_16 : decode cX6_depth 16 = .ok (.aload_n 0, 1) := by decide +kernel
theorem dX6_depth_17 : decode cX6_depth 17 = .ok (.getfield 147, 3) := by decide +kernel
theorem dX6_depth_20 : decode cX6_depth 20 = .ok (.bipush (-6), 2) := by decide +kernel
theorem dX6_depth_22 : decode cX6_depth 22 = .ok (.if_icmp .ne 41, 3) := by decide +kernel
theorem dX6_depth_25 : decode cX6_depth 25 = .ok (.iload_n 2, 1) := by decide +kernel
theorem dX6_depth_26 : decode cX6_depth 26 = .ok (.iconst 0, 1) := by decide +kernel
theorem dX6_depth_27 : decode cX6_depth 27 = .ok (.bipush 9, 2) := by decide +kernel
theorem dX6_depth_29 : decode cX6_depth 29 = .ok (.invokestatic 74, 3) := by decide +kernel
theorem dX6_depth_32 : decode cX6_depth 32 = .ok (.ifCond .eq 31, 3) := by decide +kernel
theorem dX6_depth_35 : decode cX6_depth 35 = .ok (.bipush 10, 2) := by decide +kernel
theorem dX6_depth_37 : decode cX6_depth 37 = .ok (.iload_n 1, 1) := by decide +kernel
theorem dX6_depth_38 : decode cX6_depth 38 = .ok (.imul, 1) := by decide +kernel
theorem dX6_depth_39 : decode cX6_depth 39 = .ok (.iload_n 2, 1) := by decide +kernel
theorem dX6_depth_40 : decode cX6_depth 40 = .ok (.iadd, 1) := by decide +kernel
theorem dX6_depth_41 : decode cX6_depth 41 = .ok (.bipush 64, 2) := by decide +kernel
theorem dX6_depth_43 : decode cX6_depth 43 = .ok (.if_icmp .gt 20, 3) := by decide +kernel
theorem dX6_depth_46 : decode cX6_depth 46 = .ok (.aload_n 0, 1) := by decide +kernel
theorem dX6_depth_47 : decode cX6_depth 47 = .ok (.dup, 1) := by decide +kernel
theorem dX6_depth_48 : decode cX6_depth 48 = .ok (.getfield 144, 3) := by decide +kernel
theorem dX6_depth_51 : decode cX6_depth 51 = .ok (.iconst 1, 1) := by decide +kernel
theorem dX6_depth_52 : decode cX6_depth 52 = .ok (.iadd, 1) := by decide +kernel
theorem dX6_depth_53 : decode cX6_depth 53 = .ok (.putfield 144, 3) := by decide +kernel
theorem dX6_depth_56 : decode cX6_depth 56 = .ok (.bipush 10, 2) := by decide +kernel
theorem dX6_depth_58 : decode cX6_depth 58 = .ok (.iload_n 1, 1) := by decide +kernel
theorem dX6_depth_59 : decode cX6_depth 59 = .ok (.imul, 1) := by decide +kernel
theorem dX6_depth_60 : decode cX6_depth 60 = .ok (.iload_n 2, 1) := by decide +kernel
theorem dX6_depth_61 : decode cX6_depth 61 = .ok (.iadd, 1) := by decide +kernel
theorem dX6_depth_62 : decode cX6_depth 62 = .ok (.ireturn, 1) := by decide +kernel
theorem dX6_depth_63 : decode cX6_depth 63 = .ok (.iload_n 1, 1) := by decide +kernel
theorem dX6_depth_64 : decode cX6_depth 64 = .ok (.ireturn, 1) := by decide +kernel
theorem dX6_foldBy_0 : decode cX6_foldBy 0 = .ok (.iload_n 0, 1) := by decide +kernel
theorem dX6_foldBy_1 : decode cX6_foldBy 1 = .ok (.bipush 76, 2) := by decide +kernel
theorem dX6_foldBy_3 : decode cX6_foldBy 3 = .ok (.if_icmp .ne 7, 3) := by decide +kernel
theorem dX6_foldBy_6 : decode cX6_foldBy 6 = .ok (.iconst 0, 1) := by decide +kernel
theorem dX6_foldBy_7 : decode cX6_foldBy 7 = .ok (.goto 35, 3) := by decide +kernel
theorem dX6_foldBy_10 : decode cX6_foldBy 10 = .ok (.iload_n 0, 1) := by decide +kernel
theorem dX6_foldBy_11 : decode cX6_foldBy 11 = .ok (.bipush 82, 2) := by decide +kernel
theorem dX6_foldBy_13 : decode cX6_foldBy 13 = .ok (.if_icmp .ne 7, 3) := by decide +kernel
theorem dX6_foldBy_16 : decode cX6_foldBy 16 = .ok (.iconst 1, 1) := by decide +kernel
theorem dX6_foldBy_17 : decode cX6_foldBy 17 = .ok (.goto 25, 3) := by decide +kernel
theorem dX6_foldBy_20 : decode cX6_foldBy 20 = .ok (.iload_n 0, 1) := by decide +kernel
theorem dX6_foldBy_21 : decode cX6_foldBy 21 = .ok (.bipush 84, 2) := by decide +kernel
theorem dX6_foldBy_23 : decode cX6_foldBy 23 = .ok (.if_icmp .ne 7, 3) := by decide +kernel
theorem dX6_foldBy_26 : decode cX6_foldBy 26 = .ok (.iconst 2, 1) := by decide +kernel
theorem dX6_foldBy_27 : decode cX6_foldBy 27 = .ok (.goto 15, 3) := by decide +kernel
theorem dX6_foldBy_30 : decode cX6_foldBy 30 = .ok (.iload_n 0, 1) := by decide +kernel
theorem dX6_foldBy_31 : decode cX6_foldBy 31 = .ok (.bipush 66, 2) := by decide +kernel
theorem dX6_foldBy_33 : decode cX6_foldBy 33 = .ok (.if_icmp .ne 7, 3) := by decide +kernel
theorem dX6_foldBy_36 : decode cX6_foldBy 36 = .ok (.iconst 3, 1) := by decide +kernel
theorem dX6_foldBy_37 : decode cX6_foldBy 37 = .ok (.goto 5, 3) := by decide +kernel
theorem dX6_foldBy_40 : decode cX6_foldBy 40 = .ok (.bipush (-6), 2) := by decide +kernel
theorem dX6_foldBy_42 : decode cX6_foldBy 42 = .ok (.ireturn, 1) := by decide +kernel
set_option maxRecDepth 20000 in
theorem ggX6_readWork_X6_letter : GoodIn wsX6_readWork wsX6_letter := goodIn_r _ [9, 4, 10, 11, 30, 31, 32, 33, 34, 35, 36, 37, 38, 39, 40, 41, 42, 43, 44, 45] (by decide +kernel) (by decide +kernel)
set_option maxRecDepth 20000 in
theorem gX6_readWork_X6_letter : GoodIn wsX6_readWork (wsV RX6 150 RX6 yX6_letter wsX6_letter) := goodIn_app (goodIn_of _ (by decide +kernel)) ggX6_readWork_X6_letter
set_option maxRecDepth 20000 in
theorem ggX6_readWork_X6_foldBy : GoodIn wsX6_readWork wsX6_foldBy := goodIn_r _ [14] (by decide +kernel) (by decide +kernel)
set_option maxRecDepth 20000 in
theorem gX6_readWork_X6_foldBy : GoodIn wsX6_readWork (va_wsS RX6 160 yX6_foldBy wsX6_foldBy) := goodIn_app (goodIn_of _ (by decide +kernel)) ggX6_readWork_X6_foldBy
set_option maxRecDepth 20000 in
theorem ggX6_readWork_X6_wants : GoodIn wsX6_readWork wsX6_wants := goodIn_r _ [18, 3, 4, 30, 31, 32, 33, 34, 35, 36, 37, 38, 39, 40, 41, 42, 43, 44, 45] (by decide +kernel) (by decide +kernel)
set_option maxRecDepth 20000 in
theorem gX6_readWork_X6_wants : GoodIn wsX6_readWork (wsV RX6 153 RX6 yX6_wants wsX6_wants) := goodIn_app (goodIn_of _ (by decide +kernel)) ggX6_readWork_X6_wants
set_option maxRecDepth 20000 in
theorem ggX6_readWork_X6_figure : GoodIn wsX6_readWork wsX6_figure := goodIn_r _ [22, 5, 6, 7, 8, 9, 4, 10, 11, 23, 24, 25, 15, 16, 17, 18, 3, 30, 31, 32, 33, 34, 35, 36, 37, 38, 39, 40, 41, 42, 43, 44, 45] (by decide +kernel) (by decide +kernel)
set_option maxRecDepth 20000 in
theorem gX6_readWork_X6_figure : GoodIn wsX6_readWork (wsV RX6 157 RX6 yX6_figure wsX6_figure) := goodIn_app (goodIn_of _ (by decide +kernel)) ggX6_readWork_X6_figure
set_option maxRecDepth 20000 in
theorem ggX6_readWork_X6_depth : GoodIn wsX6_readWork wsX6_depth := goodIn_r _ [29, 3, 4, 19, 20, 21, 8, 22, 5, 6, 7, 9, 10, 11, 23, 24, 25, 15, 16, 17, 18, 30, 31, 32, 33, 34, 35, 36, 37, 38, 39, 40, 41, 42, 43, 44, 45] (by decide +kernel) (by decide +kernel)
set_option maxRecDepth 20000 in
theorem gX6_readWork_X6_depth : GoodIn wsX6_readWork (wsV RX6 166 RX6 yX6_depth wsX6_depth) := goodIn_app (goodIn_of _ (by decide +kernel)) ggX6_readWork_X6_depth
theorem dX6_readWork_0 : decode cX6_readWork 0 = .ok (.aload_n 0, 1) := by decide +kernel
theorem dX6_readWork_1 : decode cX6_readWork 1 = .ok (.invokevirtual 150, 3) := by decide +kernel
theorem dX6_readWork_4 : decode cX6_readWork 4 = .ok (.istore_n 1, 1) := by decide +kernel
theorem dX6_readWork_5 : decode cX6_readWork 5 = .ok (.aload_n 0, 1) := by decide +kernel
theorem dX6_readWork_6 : decode cX6_readWork 6 = .ok (.iload_n 1, 1) := by decide +kernel
theorem dX6_readWork_7 : decode cX6_readWork 7 = .ok (.invokestatic 160, 3) := by decide +kernel
theorem dX6_readWork_10 : decode cX6_readWork 10 = .ok (.bipush (-6), 2) := by decide +kernel
theorem dX6_readWork_12 : decode cX6_readWork 12 = .ok (.if_icmp .ne 21, 3) := by decide +kernel
theorem dX6_readWork_15 : decode cX6_readWork 15 = .ok (.iload_n 1, 1) := by decide +kernel
theorem dX6_readWork_16 : decode cX6_readWork 16 = .ok (.bipush 85, 2) := by decide +kernel
theorem dX6_readWork_18 : decode cX6_readWork 18 = .ok (.if_icmp .eq 15, 3) := by decide +kernel
theorem dX6_readWork_21 : decode cX6_readWork 21 = .ok (.iload_n 1, 1) := by decide +kernel
theorem dX6_readWork_22 : decode cX6_readWork 22 = .ok (.bipush 80, 2) := by decide +kernel
theorem dX6_readWork_24 : decode cX6_readWork 24 = .ok (.if_icmp .eq 9, 3) := by decide +kernel
theorem dX6_readWork_27 : decode cX6_readWork 27 = .ok (.iload_n 1, 1) := by decide +kernel
theorem dX6_readWork_28 : decode cX6_readWork 28 = .ok (.bipush 73, 2) := by decide +kernel
theorem dX6_readWork_30 : decode cX6_readWork 30 = .ok (.if_icmp .ne 7, 3) := by decide +kernel
theorem dX6_readWork_33 : decode cX6_readWork 33 = .ok (.iconst 1, 1) := by decide +kernel
theorem dX6_readWork_34 : decode cX6_readWork 34 = .ok (.goto 4, 3) := by decide +kernel
theorem dX6_readWork_37 : decode cX6_readWork 37 = .ok (.iconst 0, 1) := by decide +kernel
theorem dX6_readWork_38 : decode cX6_readWork 38 = .ok (.invokevirtual 153, 3) := by decide +kernel
theorem dX6_readWork_41 : decode cX6_readWork 41 = .ok (.iconst 4, 1) := by decide +kernel
theorem dX6_readWork_42 : decode cX6_readWork 42 = .ok (.aload_n 0, 1) := by decide +kernel
theorem dX6_readWork_43 : decode cX6_readWork 43 = .ok (.getfield 163, 3) := by decide +kernel
theorem dX6_readWork_46 : decode cX6_readWork 46 = .ok (.imul, 1) := by decide +kernel
theorem dX6_readWork_47 : decode cX6_readWork 47 = .ok (.istore_n 2, 1) := by decide +kernel
theorem dX6_readWork_48 : decode cX6_readWork 48 = .ok (.aload_n 0, 1) := by decide +kernel
theorem dX6_readWork_49 : decode cX6_readWork 49 = .ok (.getfield 32, 3) := by decide +kernel
theorem dX6_readWork_52 : decode cX6_readWork 52 = .ok (.iload_n 2, 1) := by decide +kernel
theorem dX6_readWork_53 : decode cX6_readWork 53 = .ok (.iload_n 1, 1) := by decide +kernel
theorem dX6_readWork_54 : decode cX6_readWork 54 = .ok (.iastore, 1) := by decide +kernel
theorem dX6_readWork_55 : decode cX6_readWork 55 = .ok (.aload_n 0, 1) := by decide +kernel
theorem dX6_readWork_56 : decode cX6_readWork 56 = .ok (.getfield 32, 3) := by decide +kernel
theorem dX6_readWork_59 : decode cX6_readWork 59 = .ok (.iload_n 2, 1) := by decide +kernel
theorem dX6_readWork_60 : decode cX6_readWork 60 = .ok (.iconst 3, 1) := by decide +kernel
theorem dX6_readWork_61 : decode cX6_readWork 61 = .ok (.iadd, 1) := by decide +kernel
theorem dX6_readWork_62 : decode cX6_readWork 62 = .ok (.iconst 0, 1) := by decide +kernel
theorem dX6_readWork_63 : decode cX6_readWork 63 = .ok (.iastore, 1) := by decide +kernel
theorem dX6_readWork_64 : decode cX6_readWork 64 = .ok (.iload_n 1, 1) := by decide +kernel
theorem dX6_readWork_65 : decode cX6_readWork 65 = .ok (.bipush 80, 2) := by decide +kernel
theorem dX6_readWork_67 : decode cX6_readWork 67 = .ok (.if_icmp .eq 9, 3) := by decide +kernel
theorem dX6_readWork_70 : decode cX6_readWork 70 = .ok (.iload_n 1, 1) := by decide +kernel
theorem dX6_readWork_71 : decode cX6_readWork 71 = .ok (.bipush 73, 2) := by decide +kernel
theorem dX6_readWork_73 : decode cX6_readWork 73 = .ok (.if_icmp .ne 33, 3) := by decide +kernel
theorem dX6_readWork_76 : decode cX6_readWork 76 = .ok (.aload_n 0, 1) := by decide +kernel
theorem dX6_readWork_77 : decode cX6_readWork 77 = .ok (.getfield 32, 3) := by decide +kernel
theorem dX6_readWork_80 : decode cX6_readWork 80 = .ok (.iload_n 2, 1) := by decide +kernel
theorem dX6_readWork_81 : decode cX6_readWork 81 = .ok (.iconst 1, 1) := by decide +kernel
theorem dX6_readWork_82 : decode cX6_readWork 82 = .ok (.iadd, 1) := by decide +kernel
theorem dX6_readWork_83 : decode cX6_readWork 83 = .ok (.aload_n 0, 1) := by decide +kernel
theorem dX6_readWork_84 : decode cX6_readWork 84 = .ok (.iconst 0, 1) := by decide +kernel
theorem dX6_readWork_85 : decode cX6_readWork 85 = .ok (.bipush 7, 2) := by decide +kernel
theorem dX6_readWork_87 : decode cX6_readWork 87 = .ok (.invokevirtual 157, 3) := by decide +kernel
theorem dX6_readWork_90 : decode cX6_readWork 90 = .ok (.iastore, 1) := by decide +kernel
theorem dX6_readWork_91 : decode cX6_readWork 91 = .ok (.aload_n 0, 1) := by decide +kernel
theorem dX6_readWork_92 : decode cX6_readWork 92 = .ok (.getfield 32, 3) := by decide +kernel
theorem dX6_readWork_95 : decode cX6_readWork 95 = .ok (.iload_n 2, 1) := by decide +kernel
theorem dX6_readWork_96 : decode cX6_readWork 96 = .ok (.iconst 2, 1) := by decide +kernel
theorem dX6_readWork_97 : decode cX6_readWork 97 = .ok (.iadd, 1) := by decide +kernel
theorem dX6_readWork_98 : decode cX6_readWork 98 = .ok (.aload_n 0, 1) := by decide +kernel
theorem dX6_readWork_99 : decode cX6_readWork 99 = .ok (.iconst 0, 1) := by decide +kernel
theorem dX6_readWork_100 : decode cX6_readWork 100 = .ok (.bipush 7, 2) := by decide +kernel
theorem dX6_readWork_102 : decode cX6_readWork 102 = .ok (.invokevirtual 157, 3) := by decide +kernel
theorem dX6_readWork_105 : decode cX6_readWork 105 = .ok (.iastore, 1) := by decide +kernel
theorem dX6_readWork_106 : decode cX6_readWork 106 = .ok (.iload_n 1, 1) := by decide +kernel
theorem dX6_readWork_107 : decode cX6_readWork 107 = .ok (.bipush 73, 2) := by decide +kernel
theorem dX6_readWork_109 : decode cX6_readWork 109 = .ok (.if_icmp .ne 17, 3) := by decide +kernel
theorem dX6_readWork_112 : decode cX6_readWork 112 = .ok (.aload_n 0, 1) := by decide +kernel
theorem dX6_readWork_113 : decode cX6_readWork 113 = .ok (.getfield 32, 3) := by decide +kernel
theorem dX6_readWork_116 : decode cX6_readWork 116 = .ok (.iload_n 2, 1) := by decide +kernel
theorem dX6_readWork_117 : decode cX6_readWork 117 = .ok (.iconst 3, 1) := by decide +kernel
theorem dX6_readWork_118 : decode cX6_readWork 118 = .ok (.iadd, 1) := by decide +kernel
theorem dX6_readWork_119 : decode cX6_readWork 119 = .ok (.aload_n 0, 1) := by decide +kernel
theorem dX6_readWork_120 : decode cX6_readWork 120 = .ok (.iconst 1, 1) := by decide +kernel
theorem dX6_readWork_121 : decode cX6_readWork 121 = .ok (.iconst 5, 1) := by decide +kernel
theorem dX6_readWork_122 : decode cX6_readWork 122 = .ok (.invokevirtual 157, 3) := by decide +kernel
theorem dX6_readWork_125 : decode cX6_readWork 125 = .ok (.iastore, 1) := by decide +kernel
theorem dX6_readWork_126 : decode cX6_readWork 126 = .ok (.iload_n 1, 1) := by decide +kernel
theorem dX6_readWork_127 : decode cX6_readWork 127 = .ok (.bipush 80, 2) := by decide +kernel
theorem dX6_readWork_129 : decode cX6_readWork 129 = .ok (.if_icmp .ne 43, 3) := by decide +kernel
theorem dX6_readWork_132 : decode cX6_readWork 132 = .ok (.aload_n 0, 1) := by decide +kernel
theorem dX6_readWork_133 : decode cX6_readWork 133 = .ok (.getfield 147, 3) := by decide +kernel
theorem dX6_readWork_136 : decode cX6_readWork 136 = .ok (.bipush (-6), 2) := by decide +kernel
theorem dX6_readWork_138 : decode cX6_readWork 138 = .ok (.if_icmp .ne 34, 3) := by decide +kernel
theorem dX6_readWork_141 : decode cX6_readWork 141 = .ok (.aload_n 0, 1) := by decide +kernel
theorem dX6_readWork_142 : decode cX6_readWork 142 = .ok (.invokevirtual 150, 3) := by decide +kernel
theorem dX6_readWork_145 : decode cX6_readWork 145 = .ok (.bipush 58, 2) := by decide +kernel
theorem dX6_readWork_147 : decode cX6_readWork 147 = .ok (.if_icmp .ne 25, 3) := by decide +kernel
theorem dX6_readWork_150 : decode cX6_readWork 150 = .ok (.aload_n 0, 1) := by decide +kernel
theorem dX6_readWork_151 : decode cX6_readWork 151 = .ok (.dup, 1) := by decide +kernel
theorem dX6_readWork_152 : decode cX6_readWork 152 = .ok (.getfield 144, 3) := by decide +kernel
theorem dX6_readWork_155 : decode cX6_readWork 155 = .ok (.iconst 1, 1) := by decide +kernel
theorem dX6_readWork_156 : decode cX6_readWork 156 = .ok (.iadd, 1) := by decide +kernel
theorem dX6_readWork_157 : decode cX6_readWork 157 = .ok (.putfield 144, 3) := by decide +kernel
theorem dX6_readWork_160 : decode cX6_readWork 160 = .ok (.aload_n 0, 1) := by decide +kernel
theorem dX6_readWork_161 : decode cX6_readWork 161 = .ok (.getfield 32, 3) := by decide +kernel
theorem dX6_readWork_164 : decode cX6_readWork 164 = .ok (.iload_n 2, 1) := by decide +kernel
theorem dX6_readWork_165 : decode cX6_readWork 165 = .ok (.iconst 3, 1) := by decide +kernel
theorem dX6_readWork_166 : decode cX6_readWork 166 = .ok (.iadd, 1) := by decide +kernel
theorem dX6_readWork_167 : decode cX6_readWork 167 = .ok (.aload_n 0, 1) := by decide +kernel
theorem dX6_readWork_168 : decode cX6_readWork 168 = .ok (.invokevirtual 166, 3) := by decide +kernel
theorem dX6_readWork_171 : decode cX6_readWork 171 = .ok (.iastore, 1) := by decide +kernel
theorem dX6_readWork_172 : decode cX6_readWork 172 = .ok (.aload_n 0, 1) := by decide +kernel
theorem dX6_readWork_173 : decode cX6_readWork 173 = .ok (.dup, 1) := by decide +kernel
theorem dX6_readWork_174 : decode cX6_readWork 174 = .ok (.getfield 163, 3) := by decide +kernel
theorem dX6_readWork_177 : decode cX6_readWork 177 = .ok (.iconst 1, 1) := by decide +kernel
theorem dX6_readWork_178 : decode cX6_readWork 178 = .ok (.iadd, 1) := by decide +kernel
theorem dX6_readWork_179 : decode cX6_readWork 179 = .ok (.putfield 163, 3) := by decide +kernel
theorem dX6_readWork_182 : decode cX6_readWork 182 = .ok (.return_, 1) := by decide +kernel
set_option maxRecDepth 20000 in
theorem ggX6_errorPosition_X6_readWork : GoodIn wsX6_errorPosition wsX6_readWork := goodIn_r _ [9, 1, 10, 3, 2, 11, 12, 13, 8, 14, 4, 15, 16, 17, 18, 19, 20, 21, 22, 23, 24, 25, 26, 27, 28, 29, 30, 31, 32, 33, 34, 35, 36, 37, 38, 39, 40, 41, 42, 43, 44, 45, 46, 47, 48, 49] (by decide +kernel) (by decide +kernel)
set_option maxRecDepth 20000 in
theorem gX6_errorPosition_X6_readWork : GoodIn wsX6_errorPosition (wsV RX6 169 RX6 yX6_readWork wsX6_readWork) := goodIn_app (goodIn_of _ (by decide +kernel)) ggX6_errorPosition_X6_readWork
theorem dX6_errorPosition_0 : decode cX6_errorPosition 0 = .ok (.aload_n 0, 1) := by decide +kernel
theorem dX6_errorPosition_1 : decode cX6_errorPosition 1 = .ok (.iconst 0, 1) := by decide +kernel
theorem dX6_errorPosition_2 : decode cX6_errorPosition 2 = .ok (.putfield 163, 3) := by decide +kernel
theorem dX6_errorPosition_5 : decode cX6_errorPosition 5 = .ok (.aload_n 0, 1) := by decide +kernel
theorem dX6_errorPosition_6 : decode cX6_errorPosition 6 = .ok (.iconst 0, 1) := by decide +kernel
theorem dX6_errorPosition_7 : decode cX6_errorPosition 7 = .ok (.putfield 144, 3) := by decide +kernel
theorem dX6_errorPosition_10 : decode cX6_errorPosition 10 = .ok (.aload_n 0, 1) := by decide +kernel
theorem dX6_errorPosition_11 : decode cX6_errorPosition 11 = .ok (.bipush (-6), 2) := by decide +kernel
theorem dX6_errorPosition_13 : decode cX6_errorPosition 13 = .ok (.putfield 147, 3) := by decide +kernel
theorem dX6_errorPosition_16 : decode cX6_errorPosition 16 = .ok (.aload_n 0, 1) := by decide +kernel
theorem dX6_errorPosition_17 : decode cX6_errorPosition 17 = .ok (.invokevirtual 169, 3) := by decide +kernel
theorem dX6_errorPosition_20 : decode cX6_errorPosition 20 = .ok (.aload_n 0, 1) := by decide +kernel
theorem dX6_errorPosition_21 : decode cX6_errorPosition 21 = .ok (.getfield 147, 3) := by decide +kernel
theorem dX6_errorPosition_24 : decode cX6_errorPosition 24 = .ok (.bipush (-6), 2) := by decide +kernel
theorem dX6_errorPosition_26 : decode cX6_errorPosition 26 = .ok (.if_icmp .ne 21, 3) := by decide +kernel
theorem dX6_errorPosition_29 : decode cX6_errorPosition 29 = .ok (.aload_n 0, 1) := by decide +kernel
theorem dX6_errorPosition_30 : decode cX6_errorPosition 30 = .ok (.getfield 144, 3) := by decide +kernel
theorem dX6_errorPosition_33 : decode cX6_errorPosition 33 = .ok (.aload_n 0, 1) := by decide +kernel
theorem dX6_errorPosition_34 : decode cX6_errorPosition 34 = .ok (.getfield 141, 3) := by decide +kernel
theorem dX6_errorPosition_37 : decode cX6_errorPosition 37 = .ok (.if_icmp .ge 10, 3) := by decide +kernel
theorem dX6_errorPosition_40 : decode cX6_errorPosition 40 = .ok (.aload_n 0, 1) := by decide +kernel
theorem dX6_errorPosition_41 : decode cX6_errorPosition 41 = .ok (.invokevirtual 169, 3) := by decide +kernel
theorem dX6_errorPosition_44 : decode cX6_errorPosition 44 = .ok (.goto (-24), 3) := by decide +kernel
theorem dX6_errorPosition_47 : decode cX6_errorPosition 47 = .ok (.aload_n 0, 1) := by decide +kernel
theorem dX6_errorPosition_48 : decode cX6_errorPosition 48 = .ok (.getfield 147, 3) := by decide +kernel
theorem dX6_errorPosition_51 : decode cX6_errorPosition 51 = .ok (.ireturn, 1) := by decide +kernel
set_option maxRecDepth 20000 in
theorem ggX6_doOne_X6_unfolds : GoodIn wsX6_doOne wsX6_unfolds := goodIn_r _ [7, 2, 72, 73, 74, 75, 76, 77, 78, 79, 80, 81, 82, 83, 84, 85, 86, 87] (by decide +kernel) (by decide +kernel)
set_option maxRecDepth 20000 in
theorem gX6_doOne_X6_unfolds : GoodIn wsX6_doOne (wsV RX6 84 RX6 yX6_unfolds wsX6_unfolds) := goodIn_app (goodIn_of _ (by decide +kernel)) ggX6_doOne_X6_unfolds
set_option maxRecDepth 20000 in
theorem ggX6_doOne_X6_layNow : GoodIn wsX6_doOne wsX6_layNow := goodIn_r _ [11, 2, 12, 13, 14, 6, 15, 16, 17, 18, 19, 20, 21, 22, 23, 24, 25, 26, 27, 28, 29, 30, 31, 32, 33, 72, 73, 74, 75, 76, 77, 78, 79, 80, 81, 82, 83, 84, 85, 86, 87] (by decide +kernel) (by decide +kernel)
set_option maxRecDepth 20000 in
theorem gX6_doOne_X6_layNow : GoodIn wsX6_doOne (wsV RX6 71 RX6 yX6_layNow wsX6_layNow) := goodIn_app (goodIn_of _ (by decide +kernel)) ggX6_doOne_X6_layNow
set_option maxRecDepth 20000 in
theorem ggX6_doOne_X6_layers : GoodIn wsX6_doOne wsX6_layers := goodIn_r _ [27, 16, 17, 72, 73, 74, 75, 76, 77, 78, 79, 80, 81, 82, 83, 84, 85, 86, 87] (by decide +kernel) (by decide +kernel)
set_option maxRecDepth 20000 in
theorem gX6_doOne_X6_layers : GoodIn wsX6_doOne (wsV RX6 56 RX6 yX6_layers wsX6_layers) := goodIn_app (goodIn_of _ (by decide +kernel)) ggX6_doOne_X6_layers
set_option maxRecDepth 20000 in
theorem ggX6_doOne_X6_whyNotPunch : GoodIn wsX6_doOne wsX6_whyNotPunch := goodIn_r _ [37, 38, 39, 40, 6, 41, 16, 17, 8, 9, 10, 11, 2, 12, 13, 14, 15, 18, 19, 20, 21, 22, 23, 24, 25, 26, 27, 28, 29, 30, 31, 32, 33, 42, 43, 44, 72, 73, 74, 75, 76, 77, 78, 79, 80, 81, 82, 83, 84, 85, 86, 87] (by decide +kernel) (by decide +kernel)
set_option maxRecDepth 20000 in
theorem gX6_doOne_X6_whyNotPunch : GoodIn wsX6_doOne (wsV RX6 91 RX6 yX6_whyNotPunch wsX6_whyNotPunch) := goodIn_app (goodIn_of _ (by decide +kernel)) ggX6_doOne_X6_whyNotPunch
set_option maxRecDepth 20000 in
theorem ggX6_doOne_X6_makesHoles : GoodIn wsX6_doOne wsX6_makesHoles := goodIn_r _ [48, 18, 2, 38, 39, 40, 6, 41, 16, 17, 8, 9, 10, 11, 12, 13, 14, 15, 19, 20, 21, 22, 23, 24, 25, 26, 27, 28, 29, 30, 31, 32, 33, 42, 43, 44, 72, 73, 74, 75, 76, 77, 78, 79, 80, 81, 82, 83, 84, 85, 86, 87] (by decide +kernel) (by decide +kernel)
set_option maxRecDepth 20000 in
theorem gX6_doOne_X6_makesHoles : GoodIn wsX6_doOne (wsV RX6 94 RX6 yX6_makesHoles wsX6_makesHoles) := goodIn_app (goodIn_of _ (by decide +kernel)) ggX6_doOne_X6_makesHoles
set_option maxRecDepth 20000 in
theorem ggX6_doOne_X6_whyNotInk : GoodIn wsX6_doOne wsX6_whyNotInk := goodIn_r _ [52, 38, 39, 40, 6, 41, 16, 17, 8, 9, 10, 11, 2, 12, 13, 14, 15, 18, 19, 20, 21, 22, 23, 24, 25, 26, 27, 28, 29, 30, 31, 32, 33, 42, 43, 44, 72, 73, 74, 75, 76, 77, 78, 79, 80, 81, 82, 83, 84, 85, 86, 87] (by decide +kernel) (by decide +kernel)
set_option maxRecDepth 20000 in
theorem gX6_doOne_X6_whyNotInk : GoodIn wsX6_doOne (wsV RX6 100 RX6 yX6_whyNotInk wsX6_whyNotInk) := goodIn_app (goodIn_of _ (by decide +kernel)) ggX6_doOne_X6_whyNotInk
set_option maxRecDepth 20000 in
theorem ggX6_doOne_X6_inks : GoodIn wsX6_doOne wsX6_inks := goodIn_r _ [56, 2, 38, 39, 40, 6, 41, 16, 17, 8, 9, 10, 11, 12, 13, 14, 15, 18, 19, 20, 21, 22, 23, 24, 25, 26, 27, 28, 29, 30, 31, 32, 33, 42, 43, 44, 57, 58, 59, 60, 72, 73, 74, 75, 76, 77, 78, 79, 80, 81, 82, 83, 84, 85, 86, 87] (by decide +kernel) (by decide +kernel)
set_option maxRecDepth 20000 in
theorem gX6_doOne_X6_inks : GoodIn wsX6_doOne (wsV RX6 103 RX6 yX6_inks wsX6_inks) := goodIn_app (goodIn_of _ (by decide +kernel)) ggX6_doOne_X6_inks
set_option maxRecDepth 20000 in
theorem ggX6_doOne_X6_foldBy : GoodIn wsX6_doOne wsX6_foldBy := goodIn_r _ [63] (by decide +kernel) (by decide +kernel)
set_option maxRecDepth 20000 in
theorem gX6_doOne_X6_foldBy : GoodIn wsX6_doOne (va_wsS RX6 160 yX6_foldBy wsX6_foldBy) := goodIn_app (goodIn_of _ (by decide +kernel)) ggX6_doOne_X6_foldBy
set_option maxRecDepth 20000 in
theorem ggX6_doOne_X6_whyNotFold : GoodIn wsX6_doOne wsX6_whyNotFold := goodIn_r _ [67, 16, 17, 42, 43, 6, 44, 8, 9, 10, 11, 2, 12, 13, 14, 15, 18, 19, 20, 21, 22, 23, 24, 25, 26, 27, 28, 29, 30, 31, 32, 33, 72, 73, 74, 75, 76, 77, 78, 79, 80, 81, 82, 83, 84, 85, 86, 87] (by decide +kernel) (by decide +kernel)
set_option maxRecDepth 20000 in
theorem gX6_doOne_X6_whyNotFold : GoodIn wsX6_doOne (wsV RX6 78 RX6 yX6_whyNotFold wsX6_whyNotFold) := goodIn_app (goodIn_of _ (by decide +kernel)) ggX6_doOne_X6_whyNotFold
set_option maxRecDepth 20000 in
theorem ggX6_doOne_X6_folds : GoodIn wsX6_doOne wsX6_folds := goodIn_r _ [71, 2, 8, 9, 10, 6, 11, 12, 13, 14, 15, 16, 17, 18, 19, 20, 21, 22, 23, 24, 25, 26, 27, 28, 29, 30, 31, 32, 33, 72, 73, 74, 75, 76, 77, 78, 79, 80, 81, 82, 83, 84, 85, 86, 87] (by decide +kernel) (by decide +kernel)
set_option maxRecDepth 20000 in
theorem gX6_doOne_X6_folds : GoodIn wsX6_doOne (wsV RX6 81 RX6 yX6_folds wsX6_folds) := goodIn_app (goodIn_of _ (by decide +kernel)) ggX6_doOne_X6_folds
theorem dX6_doOne_0 : decode cX6_doOne 0 = .ok (.aload_n 0, 1) := by decide +kernel
theorem dX6_doOne_1 : decode cX6_doOne 1 = .ok (.getfield 32, 3) := by decide +kernel
theorem dX6_doOne_4 : decode cX6_doOne 4 = .ok (.iload_n 1, 1) := by decide +kernel
theorem dX6_doOne_5 : decode cX6_doOne 5 = .ok (.iconst 1, 1) := by decide +kernel
theorem dX6_doOne_6 : decode cX6_doOne 6 = .ok (.iadd, 1) := by decide +kernel
theorem dX6_doOne_7 : decode cX6_doOne 7 = .ok (.iaload, 1) := by decide +kernel
theorem dX6_doOne_8 : decode cX6_doOne 8 = .ok (.istore_n 2, 1) := by decide +kernel
theorem dX6_doOne_9 : decode cX6_doOne 9 = .ok (.aload_n 0, 1) := by decide +kernel
theorem dX6_doOne_10 : decode cX6_doOne 10 = .ok (.getfield 32, 3) := by decide +kernel
theorem dX6_doOne_13 : decode cX6_doOne 13 = .ok (.iload_n 1, 1) := by decide +kernel
theorem dX6_doOne_14 : decode cX6_doOne 14 = .ok (.iconst 2, 1) := by decide +kernel
theorem dX6_doOne_15 : decode cX6_doOne 15 = .ok (.iadd, 1) := by decide +kernel
theorem dX6_doOne_16 : decode cX6_doOne 16 = .ok (.iaload, 1) := by decide +kernel
theorem dX6_doOne_17 : decode cX6_doOne 17 = .ok (.istore_n 3, 1) := by decide +kernel
theorem dX6_doOne_18 : decode cX6_doOne 18 = .ok (.aload_n 0, 1) := by decide +kernel
theorem dX6_doOne_19 : decode cX6_doOne 19 = .ok (.getfield 32, 3) := by decide +kernel
theorem dX6_doOne_22 : decode cX6_doOne 22 = .ok (.iload_n 1, 1) := by decide +kernel
theorem dX6_doOne_23 : decode cX6_doOne 23 = .ok (.iconst 3, 1) := by decide +kernel
theorem dX6_doOne_24 : decode cX6_doOne 24 = .ok (.iadd, 1) := by decide +kernel
theorem dX6_doOne_25 : decode cX6_doOne 25 = .ok (.iaload, 1) := by decide +kernel
theorem dX6_doOne_26 : decode cX6_doOne 26 = .ok (.istore 4, 2) := by decide +kernel
theorem dX6_doOne_28 : decode cX6_doOne 28 = .ok (.aload_n 0, 1) := by decide +kernel
theorem dX6_doOne_29 : decode cX6_doOne 29 = .ok (.getfield 32, 3) := by decide +kernel
theorem dX6_doOne_32 : decode cX6_doOne 32 = .ok (.iload_n 1, 1) := by decide +kernel
theorem dX6_doOne_33 : decode cX6_doOne 33 = .ok (.iaload, 1) := by decide +kernel
theorem dX6_doOne_34 : decode cX6_doOne 34 = .ok (.istore 5, 2) := by decide +kernel
theorem dX6_doOne_36 : decode cX6_doOne 36 = .ok (.iconst 0, 1) := by decide +kernel
theorem dX6_doOne_37 : decode cX6_doOne 37 = .ok (.istore 6, 2) := by decide +kernel
theorem dX6_doOne_39 : decode cX6_doOne 39 = .ok (.iload 5, 2) := by decide +kernel
theorem dX6_doOne_41 : decode cX6_doOne 41 = .ok (.bipush 85, 2) := by decide +kernel
theorem dX6_doOne_43 : decode cX6_doOne 43 = .ok (.if_icmp .ne 33, 3) := by decide +kernel
theorem dX6_doOne_46 : decode cX6_doOne 46 = .ok (.aload_n 0, 1) := by decide +kernel
theorem dX6_doOne_47 : decode cX6_doOne 47 = .ok (.getfield 7, 3) := by decide +kernel
theorem dX6_doOne_50 : decode cX6_doOne 50 = .ok (.iconst 0, 1) := by decide +kernel
theorem dX6_doOne_51 : decode cX6_doOne 51 = .ok (.iaload, 1) := by decide +kernel
theorem dX6_doOne_52 : decode cX6_doOne 52 = .ok (.ifCond .ne 8, 3) := by decide +kernel
theorem dX6_doOne_55 : decode cX6_doOne 55 = .ok (.bipush (-3), 2) := by decide +kernel
theorem dX6_doOne_57 : decode cX6_doOne 57 = .ok (.goto 4, 3) := by decide +kernel
theorem dX6_doOne_60 : decode cX6_doOne 60 = .ok (.iconst 0, 1) := by decide +kernel
theorem dX6_doOne_61 : decode cX6_doOne 61 = .ok (.istore 6, 2) := by decide +kernel
theorem dX6_doOne_63 : decode cX6_doOne 63 = .ok (.iload 6, 2) := by decide +kernel
theorem dX6_doOne_65 : decode cX6_doOne 65 = .ok (.ifCond .ne 125, 3) := by decide +kernel
theorem dX6_doOne_68 : decode cX6_doOne 68 = .ok (.aload_n 0, 1) := by decide +kernel
theorem dX6_doOne_69 : decode cX6_doOne 69 = .ok (.invokevirtual 84, 3) := by decide +kernel
theorem dX6_doOne_72 : decode cX6_doOne 72 = .ok (.pop, 1) := by decide +kernel
theorem dX6_doOne_73 : decode cX6_doOne 73 = .ok (.goto 117, 3) := by decide +kernel
theorem dX6_doOne_76 : decode cX6_doOne 76 = .ok (.iload 5, 2) := by decide +kernel
theorem dX6_doOne_78 : decode cX6_doOne 78 = .ok (.bipush 80, 2) := by decide +kernel
theorem dX6_doOne_80 : decode cX6_doOne 80 = .ok (.if_icmp .ne 50, 3) := by decide +kernel
theorem dX6_doOne_83 : decode cX6_doOne 83 = .ok (.aload_n 0, 1) := by decide +kernel
theorem dX6_doOne_84 : decode cX6_doOne 84 = .ok (.invokevirtual 71, 3) := by decide +kernel
theorem dX6_doOne_87 : decode cX6_doOne 87 = .ok (.iload 4, 2) := by decide +kernel
theorem dX6_doOne_89 : decode cX6_doOne 89 = .ok (.ifCond .ne 10, 3) := by decide +kernel
theorem dX6_doOne_92 : decode cX6_doOne 92 = .ok (.aload_n 0, 1) := by decide +kernel
theorem dX6_doOne_93 : decode cX6_doOne 93 = .ok (.invokevirtual 56, 3) := by decide +kernel
theorem dX6_doOne_96 : decode cX6_doOne 96 = .ok (.goto 5, 3) := by decide +kernel
theorem dX6_doOne_99 : decode cX6_doOne 99 = .ok (.iload 4, 2) := by decide +kernel
theorem dX6_doOne_101 : decode cX6_doOne 101 = .ok (.istore 7, 2) := by decide +kernel
theorem dX6_doOne_103 : decode cX6_doOne 103 = .ok (.aload_n 0, 1) := by decide +kernel
theorem dX6_doOne_104 : decode cX6_doOne 104 = .ok (.iload_n 2, 1) := by decide +kernel
theorem dX6_doOne_105 : decode cX6_doOne 105 = .ok (.iload_n 3, 1) := by decide +kernel
theorem dX6_doOne_106 : decode cX6_doOne 106 = .ok (.iload 7, 2) := by decide +kernel
theorem dX6_doOne_108 : decode cX6_doOne 108 = .ok (.invokevirtual 91, 3) := by decide +kernel
theorem dX6_doOne_111 : decode cX6_doOne 111 = .ok (.istore 6, 2) := by decide +kernel
theorem dX6_doOne_113 : decode cX6_doOne 113 = .ok (.iload 6, 2) := by decide +kernel
theorem dX6_doOne_115 : decode cX6_doOne 115 = .ok (.ifCond .ne 12, 3) := by decide +kernel
theorem dX6_doOne_118 : decode cX6_doOne 118 = .ok (.aload_n 0, 1) := by decide +kernel
theorem dX6_doOne_119 : decode cX6_doOne 119 = .ok (.iload_n 2, 1) := by decide +kernel
theorem dX6_doOne_120 : decode cX6_doOne 120 = .ok (.iload_n 3, 1) := by decide +kernel
theorem dX6_doOne_121 : decode cX6_doOne 121 = .ok (.iload 7, 2) := by decide +kernel
theorem dX6_doOne_123 : decode cX6_doOne 123 = .ok (.invokevirtual 94, 3) := by decide +kernel
theorem dX6_doOne_126 : decode cX6_doOne 126 = .ok (.pop, 1) := by decide +kernel
theorem dX6_doOne_127 : decode cX6_doOne 127 = .ok (.goto 63, 3) := by decide +kernel
theorem dX6_doOne_130 : decode cX6_doOne 130 = .ok (.iload 5, 2) := by decide +kernel
theorem dX6_doOne_132 : decode cX6_doOne 132 = .ok (.bipush 73, 2) := by decide +kernel
theorem dX6_doOne_134 : decode cX6_doOne 134 = .ok (.if_icmp .ne 30, 3) := by decide +kernel
theorem dX6_doOne_137 : decode cX6_doOne 137 = .ok (.aload_n 0, 1) := by decide +kernel
theorem dX6_doOne_138 : decode cX6_doOne 138 = .ok (.iload_n 2, 1) := by decide +kernel
theorem dX6_doOne_139 : decode cX6_doOne 139 = .ok (.iload_n 3, 1) := by decide +kernel
theorem dX6_doOne_140 : decode cX6_doOne 140 = .ok (.iload 4, 2) := by decide +kernel
theorem dX6_doOne_142 : decode cX6_doOne 142 = .ok (.invokevirtual 100, 3) := by decide +kernel
theorem dX6_doOne_145 : decode cX6_doOne 145 = .ok (.istore 6, 2) := by decide +kernel
theorem dX6_doOne_147 : decode cX6_doOne 147 = .ok (.iload 6, 2) := by decide +kernel
theorem dX6_doOne_149 : decode cX6_doOne 149 = .ok (.ifCond .ne 41, 3) := by decide +kernel
theorem dX6_doOne_152 : decode cX6_doOne 152 = .ok (.aload_n 0, 1) := by decide +kernel
theorem dX6_doOne_153 : decode cX6_doOne 153 = .ok (.iload_n 2, 1) := by decide +kernel
theorem dX6_doOne_154 : decode cX6_doOne 154 = .ok (.iload_n 3, 1) := by decide +kernel
theorem dX6_doOne_155 : decode cX6_doOne 155 = .ok (.iload 4, 2) := by decide +kernel
theorem dX6_doOne_157 : decode cX6_doOne 157 = .ok (.invokevirtual 103, 3) := by decide +kernel
theorem dX6_doOne_160 : decode cX6_doOne 160 = .ok (.pop, 1) := by decide +kernel
theorem dX6_doOne_161 : decode cX6_doOne 161 = .ok (.goto 29, 3) := by decide +kernel
theorem dX6_doOne_164 : decode cX6_doOne 164 = .ok (.aload_n 0, 1) := by decide +kernel
theorem dX6_doOne_165 : decode cX6_doOne 165 = .ok (.iload 5, 2) := by decide +kernel
theorem dX6_doOne_167 : decode cX6_doOne 167 = .ok (.invokestatic 160, 3) := by decide +kernel
theorem dX6_doOne_170 : decode cX6_doOne 170 = .ok (.invokevirtual 78, 3) := by decide +kernel
theorem dX6_doOne_173 : decode cX6_doOne 173 = .ok (.istore 6, 2) := by decide +kernel
theorem dX6_doOne_175 : decode cX6_doOne 175 = .ok (.iload 6, 2) := by decide +kernel
theorem dX6_doOne_177 : decode cX6_doOne 177 = .ok (.ifCond .ne 13, 3) := by decide +kernel
theorem dX6_doOne_180 : decode cX6_doOne 180 = .ok (.aload_n 0, 1) := by decide +kernel
theorem dX6_doOne_181 : decode cX6_doOne 181 = .ok (.iload 5, 2) := by decide +kernel
theorem dX6_doOne_183 : decode cX6_doOne 183 = .ok (.invokestatic 160, 3) := by decide +kernel
theorem dX6_doOne_186 : decode cX6_doOne 186 = .ok (.invokevirtual 81, 3) := by decide +kernel
theorem dX6_doOne_189 : decode cX6_doOne 189 = .ok (.pop, 1) := by decide +kernel
theorem dX6_doOne_190 : decode cX6_doOne 190 = .ok (.iload 6, 2) := by decide +kernel
theorem dX6_doOne_192 : decode cX6_doOne 192 = .ok (.ireturn, 1) := by decide +kernel
set_option maxRecDepth 20000 in
theorem ggX6_work_X6_errorPosition : GoodIn wsX6_work wsX6_errorPosition := goodIn_r _ [7, 1, 8, 9, 2, 10, 11, 12, 6, 13, 14, 15, 16, 17, 18, 19, 20, 21, 22, 23, 24, 25, 26, 27, 28, 29, 30, 31, 32, 33, 34, 35, 36, 37, 111, 112, 113, 114, 115, 116, 117, 118, 119, 120, 121, 122, 123, 124, 125, 126] (by decide +kernel) (by decide +kernel)
set_option maxRecDepth 20000 in
theorem gX6_work_X6_errorPosition : GoodIn wsX6_work (wsV RX6 172 RX6 yX6_errorPosition wsX6_errorPosition) := goodIn_app (goodIn_of _ (by decide +kernel)) ggX6_work_X6_errorPosition
set_option maxRecDepth 20000 in
theorem ggX6_work_X6_record : GoodIn wsX6_work wsX6_record := goodIn_r _ [41, 42, 43, 44, 111, 112, 113, 114, 115, 116, 117, 118, 119, 120, 121, 122, 123, 124, 125, 126] (by decide +kernel) (by decide +kernel)
set_option maxRecDepth 20000 in
theorem gX6_work_X6_record : GoodIn wsX6_work (wsV RX6 43 RX6 yX6_record wsX6_record) := goodIn_app (goodIn_of _ (by decide +kernel)) ggX6_work_X6_record
set_option maxRecDepth 20000 in
theorem ggX6_work_X6_doOne : GoodIn wsX6_work wsX6_doOne := goodIn_r _ [48, 14, 44, 49, 50, 51, 6, 52, 53, 54, 55, 56, 57, 58, 59, 60, 61, 62, 63, 64, 65, 66, 67, 68, 69, 70, 71, 72, 73, 74, 75, 76, 77, 78, 79, 80, 81, 82, 83, 84, 85, 86, 31, 32, 33, 87, 88, 89, 90, 91, 92, 93, 94, 95, 96, 97, 98, 99, 100, 101, 102, 20, 21, 22, 103, 104, 105, 106, 107, 108, 109, 110, 111, 112, 113, 114, 115, 116, 117, 118, 119, 120, 121, 122, 123, 124, 125, 126] (by decide +kernel) (by decide +kernel)
set_option maxRecDepth 20000 in
theorem gX6_work_X6_doOne : GoodIn wsX6_work (wsV RX6 175 RX6 yX6_doOne wsX6_doOne) := goodIn_app (goodIn_of _ (by decide +kernel)) ggX6_work_X6_doOne
theorem dX6_work_0 : decode cX6_work 0 = .ok (.aload_n 0, 1) := by decide +kernel
theorem dX6_work_1 : decode cX6_work 1 = .ok (.invokevirtual 172, 3) := by decide +kernel
theorem dX6_work_4 : decode cX6_work 4 = .ok (.bipush (-6), 2) := by decide +kernel
theorem dX6_work_6 : decode cX6_work 6 = .ok (.if_icmp .eq 6, 3) := by decide +kernel
theorem dX6_work_9 : decode cX6_work 9 = .ok (.bipush (-5), 2) := by decide +kernel
theorem dX6_work_11 : decode cX6_work 11 = .ok (.ireturn, 1) := by decide +kernel
theorem dX6_work_12 : decode cX6_work 12 = .ok (.aload_n 0, 1) := by decide +kernel
theorem dX6_work_13 : decode cX6_work 13 = .ok (.invokevirtual 43, 3) := by decide +kernel
theorem dX6_work_16 : decode cX6_work 16 = .ok (.iconst 0, 1) := by decide +kernel
theorem dX6_work_17 : decode cX6_work 17 = .ok (.istore_n 1, 1) := by decide +kernel
theorem dX6_work_18 : decode cX6_work 18 = .ok (.iload_n 1, 1) := by decide +kernel
theorem dX6_work_19 : decode cX6_work 19 = .ok (.aload_n 0, 1) := by decide +kernel
theorem dX6_work_20 : decode cX6_work 20 = .ok (.getfield 163, 3) := by decide +kernel
theorem dX6_work_23 : decode cX6_work 23 = .ok (.if_icmp .ge 19, 3) := by decide +kernel
theorem dX6_work_26 : decode cX6_work 26 = .ok (.aload_n 0, 1) := by decide +kernel
theorem dX6_work_27 : decode cX6_work 27 = .ok (.iconst 4, 1) := by decide +kernel
theorem dX6_work_28 : decode cX6_work 28 = .ok (.iload_n 1, 1) := by decide +kernel
theorem dX6_work_29 : decode cX6_work 29 = .ok (.imul, 1) := by decide +kernel
theorem dX6_work_30 : decode cX6_work 30 = .ok (.invokevirtual 175, 3) := by decide +kernel
theorem dX6_work_33 : decode cX6_work 33 = .ok (.ifCond .ne 9, 3) := by decide +kernel
theorem dX6_work_36 : decode cX6_work 36 = .ok (.iinc 1 1, 3) := by decide +kernel
theorem dX6_work_39 : decode cX6_work 39 = .ok (.goto (-21), 3) := by decide +kernel
theorem dX6_work_42 : decode cX6_work 42 = .ok (.aload_n 0, 1) := by decide +kernel
theorem dX6_work_43 : decode cX6_work 43 = .ok (.iconst 0, 1) := by decide +kernel
theorem dX6_work_44 : decode cX6_work 44 = .ok (.putfield 141, 3) := by decide +kernel
theorem dX6_work_47 : decode cX6_work 47 = .ok (.iload_n 1, 1) := by decide +kernel
theorem dX6_work_48 : decode cX6_work 48 = .ok (.ireturn, 1) := by decide +kernel
