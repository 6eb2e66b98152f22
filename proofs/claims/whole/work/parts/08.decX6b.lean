theorem dX6_inks_28 : decode cX6_inks 28 = .ok (.iload 4, 2) := by decide +kernel
theorem dX6_inks_30 : decode cX6_inks 30 = .ok (.iadd, 1) := by decide +kernel
theorem dX6_inks_31 : decode cX6_inks 31 = .ok (.iload_n 3, 1) := by decide +kernel
theorem dX6_inks_32 : decode cX6_inks 32 = .ok (.iastore, 1) := by decide +kernel
theorem dX6_inks_33 : decode cX6_inks 33 = .ok (.iload 4, 2) := by decide +kernel
theorem dX6_inks_35 : decode cX6_inks 35 = .ok (.iconst 2, 1) := by decide +kernel
theorem dX6_inks_36 : decode cX6_inks 36 = .ok (.idiv, 1) := by decide +kernel
theorem dX6_inks_37 : decode cX6_inks 37 = .ok (.ireturn, 1) := by decide +kernel
set_option maxRecDepth 20000 in
theorem ggX6_ink_X6_whyNotInk : GoodIn wsX6_ink wsX6_whyNotInk := goodIn_r _ [5, 6, 7, 8, 4, 9, 10, 11, 12, 13, 14, 15, 16, 17, 18, 19, 20, 21, 22, 23, 24, 25, 26, 27, 28, 29, 30, 31, 32, 33, 34, 35, 36, 37, 38, 39, 54, 55, 56, 57, 58, 59, 60, 61, 62, 63, 64, 65, 66, 67, 68, 69] (by decide +kernel) (by decide +kernel)
set_option maxRecDepth 20000 in
theorem gX6_ink_X6_whyNotInk : GoodIn wsX6_ink (wsV RX6 100 RX6 yX6_whyNotInk wsX6_whyNotInk) := goodIn_app (goodIn_of _ (by decide +kernel)) ggX6_ink_X6_whyNotInk
set_option maxRecDepth 20000 in
theorem ggX6_ink_X6_record : GoodIn wsX6_ink wsX6_record := goodIn_r _ [43, 44, 45, 16, 54, 55, 56, 57, 58, 59, 60, 61, 62, 63, 64, 65, 66, 67, 68, 69] (by decide +kernel) (by decide +kernel)
set_option maxRecDepth 20000 in
theorem gX6_ink_X6_record : GoodIn wsX6_ink (wsV RX6 43 RX6 yX6_record wsX6_record) := goodIn_app (goodIn_of _ (by decide +kernel)) ggX6_ink_X6_record
set_option maxRecDepth 20000 in
theorem ggX6_ink_X6_inks : GoodIn wsX6_ink wsX6_inks := goodIn_r _ [49, 16, 6, 7, 8, 4, 9, 10, 11, 12, 13, 14, 15, 17, 18, 19, 20, 21, 22, 23, 24, 25, 26, 27, 28, 29, 30, 31, 32, 33, 34, 35, 36, 37, 38, 39, 50, 51, 52, 53, 54, 55, 56, 57, 58, 59, 60, 61, 62, 63, 64, 65, 66, 67, 68, 69] (by decide +kernel) (by decide +kernel)
set_option maxRecDepth 20000 in
theorem gX6_ink_X6_inks : GoodIn wsX6_ink (wsV RX6 103 RX6 yX6_inks wsX6_inks) := goodIn_app (goodIn_of _ (by decide +kernel)) ggX6_ink_X6_inks
theorem dX6_ink_0 : decode cX6_ink 0 = .ok (.aload_n 0, 1) := by decide +kernel
theorem dX6_ink_1 : decode cX6_ink 1 = .ok (.iload_n 1, 1) := by decide +kernel
theorem dX6_ink_2 : decode cX6_ink 2 = .ok (.iload_n 2, 1) := by decide +kernel
theorem dX6_ink_3 : decode cX6_ink 3 = .ok (.iload_n 3, 1) := by decide +kernel
theorem dX6_ink_4 : decode cX6_ink 4 = .ok (.invokevirtual 100, 3) := by decide +kernel
theorem dX6_ink_7 : decode cX6_ink 7 = .ok (.istore 4, 2) := by decide +kernel
theorem dX6_ink_9 : decode cX6_ink 9 = .ok (.iload 4, 2) := by decide +kernel
theorem dX6_ink_11 : decode cX6_ink 11 = .ok (.ifCond .ge 6, 3) := by decide +kernel
theorem dX6_ink_14 : decode cX6_ink 14 = .ok (.iload 4, 2) := by decide +kernel
theorem dX6_ink_16 : decode cX6_ink 16 = .ok (.ireturn, 1) := by decide +kernel
theorem dX6_ink_17 : decode cX6_ink 17 = .ok (.aload_n 0, 1) := by decide +kernel
theorem dX6_ink_18 : decode cX6_ink 18 = .ok (.invokevirtual 43, 3) := by decide +kernel
theorem dX6_ink_21 : decode cX6_ink 21 = .ok (.aload_n 0, 1) := by decide +kernel
theorem dX6_ink_22 : decode cX6_ink 22 = .ok (.iload_n 1, 1) := by decide +kernel
theorem dX6_ink_23 : decode cX6_ink 23 = .ok (.iload_n 2, 1) := by decide +kernel
theorem dX6_ink_24 : decode cX6_ink 24 = .ok (.iload_n 3, 1) := by decide +kernel
theorem dX6_ink_25 : decode cX6_ink 25 = .ok (.invokevirtual 103, 3) := by decide +kernel
theorem dX6_ink_28 : decode cX6_ink 28 = .ok (.ireturn, 1) := by decide +kernel
set_option maxRecDepth 20000 in
theorem ggX6_mend_X6_top : GoodIn wsX6_mend wsX6_top := goodIn_r _ [7, 8, 9, 10, 11, 12, 6, 13, 2, 14, 15, 16, 17, 1, 18, 19, 20, 21, 22, 23, 24, 25, 26, 27, 28, 29, 30, 31, 32, 33, 34, 35, 42, 43, 44, 45, 46, 47, 48, 49, 50, 51, 52, 53, 54, 55, 56, 57] (by decide +kernel) (by decide +kernel)
set_option maxRecDepth 20000 in
theorem gX6_mend_X6_top : GoodIn wsX6_mend (wsV RX6 87 RX6 yX6_top wsX6_top) := goodIn_app (goodIn_of _ (by decide +kernel)) ggX6_mend_X6_top
set_option maxRecDepth 20000 in
theorem ggX6_mend_X6_record : GoodIn wsX6_mend wsX6_record := goodIn_r _ [39, 40, 41, 2, 42, 43, 44, 45, 46, 47, 48, 49, 50, 51, 52, 53, 54, 55, 56, 57] (by decide +kernel) (by decide +kernel)
set_option maxRecDepth 20000 in
theorem gX6_mend_X6_record : GoodIn wsX6_mend (wsV RX6 43 RX6 yX6_record wsX6_record) := goodIn_app (goodIn_of _ (by decide +kernel)) ggX6_mend_X6_record
theorem dX6_mend_0 : decode cX6_mend 0 = .ok (.aload_n 0, 1) := by decide +kernel
theorem dX6_mend_1 : decode cX6_mend 1 = .ok (.iload_n 1, 1) := by decide +kernel
theorem dX6_mend_2 : decode cX6_mend 2 = .ok (.iload_n 2, 1) := by decide +kernel
theorem dX6_mend_3 : decode cX6_mend 3 = .ok (.invokevirtual 87, 3) := by decide +kernel
theorem dX6_mend_6 : decode cX6_mend 6 = .ok (.istore_n 3, 1) := by decide +kernel
theorem dX6_mend_7 : decode cX6_mend 7 = .ok (.iload_n 3, 1) := by decide +kernel
theorem dX6_mend_8 : decode cX6_mend 8 = .ok (.bipush (-6), 2) := by decide +kernel
theorem dX6_mend_10 : decode cX6_mend 10 = .ok (.if_icmp .ne 5, 3) := by decide +kernel
theorem dX6_mend_13 : decode cX6_mend 13 = .ok (.iconst (-1), 1) := by decide +kernel
theorem dX6_mend_14 : decode cX6_mend 14 = .ok (.ireturn, 1) := by decide +kernel
theorem dX6_mend_15 : decode cX6_mend 15 = .ok (.aload_n 0, 1) := by decide +kernel
theorem dX6_mend_16 : decode cX6_mend 16 = .ok (.getfield 23, 3) := by decide +kernel
theorem dX6_mend_19 : decode cX6_mend 19 = .ok (.iload_n 3, 1) := by decide +kernel
theorem dX6_mend_20 : decode cX6_mend 20 = .ok (.iaload, 1) := by decide +kernel
theorem dX6_mend_21 : decode cX6_mend 21 = .ok (.iconst 2, 1) := by decide +kernel
theorem dX6_mend_22 : decode cX6_mend 22 = .ok (.idiv, 1) := by decide +kernel
theorem dX6_mend_23 : decode cX6_mend 23 = .ok (.istore 4, 2) := by decide +kernel
theorem dX6_mend_25 : decode cX6_mend 25 = .ok (.aload_n 0, 1) := by decide +kernel
theorem dX6_mend_26 : decode cX6_mend 26 = .ok (.getfield 7, 3) := by decide +kernel
theorem dX6_mend_29 : decode cX6_mend 29 = .ok (.bipush 7, 2) := by decide +kernel
theorem dX6_mend_31 : decode cX6_mend 31 = .ok (.iload 4, 2) := by decide +kernel
theorem dX6_mend_33 : decode cX6_mend 33 = .ok (.iadd, 1) := by decide +kernel
theorem dX6_mend_34 : decode cX6_mend 34 = .ok (.iaload, 1) := by decide +kernel
theorem dX6_mend_35 : decode cX6_mend 35 = .ok (.ifCond .ne 6, 3) := by decide +kernel
theorem dX6_mend_38 : decode cX6_mend 38 = .ok (.bipush (-3), 2) := by decide +kernel
theorem dX6_mend_40 : decode cX6_mend 40 = .ok (.ireturn, 1) := by decide +kernel
theorem dX6_mend_41 : decode cX6_mend 41 = .ok (.aload_n 0, 1) := by decide +kernel
theorem dX6_mend_42 : decode cX6_mend 42 = .ok (.invokevirtual 43, 3) := by decide +kernel
theorem dX6_mend_45 : decode cX6_mend 45 = .ok (.aload_n 0, 1) := by decide +kernel
theorem dX6_mend_46 : decode cX6_mend 46 = .ok (.getfield 7, 3) := by decide +kernel
theorem dX6_mend_49 : decode cX6_mend 49 = .ok (.bipush 7, 2) := by decide +kernel
theorem dX6_mend_51 : decode cX6_mend 51 = .ok (.iload 4, 2) := by decide +kernel
theorem dX6_mend_53 : decode cX6_mend 53 = .ok (.iadd, 1) := by decide +kernel
theorem dX6_mend_54 : decode cX6_mend 54 = .ok (.iconst 0, 1) := by decide +kernel
theorem dX6_mend_55 : decode cX6_mend 55 = .ok (.iastore, 1) := by decide +kernel
theorem dX6_mend_56 : decode cX6_mend 56 = .ok (.aload_n 0, 1) := by decide +kernel
theorem dX6_mend_57 : decode cX6_mend 57 = .ok (.getfield 7, 3) := by decide +kernel
theorem dX6_mend_60 : decode cX6_mend 60 = .ok (.bipush 71, 2) := by decide +kernel
theorem dX6_mend_62 : decode cX6_mend 62 = .ok (.iconst 2, 1) := by decide +kernel
theorem dX6_mend_63 : decode cX6_mend 63 = .ok (.iload 4, 2) := by decide +kernel
theorem dX6_mend_65 : decode cX6_mend 65 = .ok (.imul, 1) := by decide +kernel
theorem dX6_mend_66 : decode cX6_mend 66 = .ok (.iadd, 1) := by decide +kernel
theorem dX6_mend_67 : decode cX6_mend 67 = .ok (.iconst 0, 1) := by decide +kernel
theorem dX6_mend_68 : decode cX6_mend 68 = .ok (.iastore, 1) := by decide +kernel
theorem dX6_mend_69 : decode cX6_mend 69 = .ok (.aload_n 0, 1) := by decide +kernel
theorem dX6_mend_70 : decode cX6_mend 70 = .ok (.getfield 7, 3) := by decide +kernel
theorem dX6_mend_73 : decode cX6_mend 73 = .ok (.bipush 71, 2) := by decide +kernel
theorem dX6_mend_75 : decode cX6_mend 75 = .ok (.iconst 2, 1) := by decide +kernel
theorem dX6_mend_76 : decode cX6_mend 76 = .ok (.iload 4, 2) := by decide +kernel
theorem dX6_mend_78 : decode cX6_mend 78 = .ok (.imul, 1) := by decide +kernel
theorem dX6_mend_79 : decode cX6_mend 79 = .ok (.iadd, 1) := by decide +kernel
theorem dX6_mend_80 : decode cX6_mend 80 = .ok (.iconst 1, 1) := by decide +kernel
theorem dX6_mend_81 : decode cX6_mend 81 = .ok (.iadd, 1) := by decide +kernel
theorem dX6_mend_82 : decode cX6_mend 82 = .ok (.iconst 0, 1) := by decide +kernel
theorem dX6_mend_83 : decode cX6_mend 83 = .ok (.iastore, 1) := by decide +kernel
theorem dX6_mend_84 : decode cX6_mend 84 = .ok (.iload 4, 2) := by decide +kernel
theorem dX6_mend_86 : decode cX6_mend 86 = .ok (.ireturn, 1) := by decide +kernel
set_option maxRecDepth 20000 in
theorem ggX6_layer_X6_top : GoodIn wsX6_layer wsX6_top := goodIn_r _ [7, 8, 9, 10, 11, 12, 6, 13, 2, 14, 15, 16, 17, 1, 18, 19, 20, 21, 22, 23, 24, 25, 26, 27, 28, 29, 30, 31, 32, 33, 34, 35, 36, 37, 38, 39, 40, 41, 42, 43, 44, 45, 46, 47, 48, 49, 50, 51] (by decide +kernel) (by decide +kernel)
set_option maxRecDepth 20000 in
theorem gX6_layer_X6_top : GoodIn wsX6_layer (wsV RX6 87 RX6 yX6_top wsX6_top) := goodIn_app (goodIn_of _ (by decide +kernel)) ggX6_layer_X6_top
set_option maxRecDepth 20000 in
theorem ggX6_layer_X6_layers : GoodIn wsX6_layer wsX6_layers := goodIn_r _ [26, 8, 9, 36, 37, 38, 39, 40, 41, 42, 43, 44, 45, 46, 47, 48, 49, 50, 51] (by decide +kernel) (by decide +kernel)
set_option maxRecDepth 20000 in
theorem gX6_layer_X6_layers : GoodIn wsX6_layer (wsV RX6 56 RX6 yX6_layers wsX6_layers) := goodIn_app (goodIn_of _ (by decide +kernel)) ggX6_layer_X6_layers
set_option maxRecDepth 20000 in
theorem ggX6_layer_X6_in : GoodIn wsX6_layer wsX6_in := goodIn_r _ [35] (by decide +kernel) (by decide +kernel)
set_option maxRecDepth 20000 in
theorem gX6_layer_X6_in : GoodIn wsX6_layer (va_wsS RX6 74 yX6_in wsX6_in) := goodIn_app (goodIn_of _ (by decide +kernel)) ggX6_layer_X6_in
theorem dX6_layer_0 : decode cX6_layer 0 = .ok (.aload_n 0, 1) := by decide +kernel
theorem dX6_layer_1 : decode cX6_layer 1 = .ok (.iload_n 1, 1) := by decide +kernel
theorem dX6_layer_2 : decode cX6_layer 2 = .ok (.iload_n 2, 1) := by decide +kernel
theorem dX6_layer_3 : decode cX6_layer 3 = .ok (.invokevirtual 87, 3) := by decide +kernel
theorem dX6_layer_6 : decode cX6_layer 6 = .ok (.istore 5, 2) := by decide +kernel
theorem dX6_layer_8 : decode cX6_layer 8 = .ok (.iload 5, 2) := by decide +kernel
theorem dX6_layer_10 : decode cX6_layer 10 = .ok (.bipush (-6), 2) := by decide +kernel
theorem dX6_layer_12 : decode cX6_layer 12 = .ok (.if_icmp .eq 17, 3) := by decide +kernel
theorem dX6_layer_15 : decode cX6_layer 15 = .ok (.iload_n 3, 1) := by decide +kernel
theorem dX6_layer_16 : decode cX6_layer 16 = .ok (.iconst 0, 1) := by decide +kernel
theorem dX6_layer_17 : decode cX6_layer 17 = .ok (.aload_n 0, 1) := by decide +kernel
theorem dX6_layer_18 : decode cX6_layer 18 = .ok (.invokevirtual 56, 3) := by decide +kernel
theorem dX6_layer_21 : decode cX6_layer 21 = .ok (.iconst 1, 1) := by decide +kernel
theorem dX6_layer_22 : decode cX6_layer 22 = .ok (.isub, 1) := by decide +kernel
theorem dX6_layer_23 : decode cX6_layer 23 = .ok (.invokestatic 74, 3) := by decide +kernel
theorem dX6_layer_26 : decode cX6_layer 26 = .ok (.ifCond .ne 5, 3) := by decide +kernel
theorem dX6_layer_29 : decode cX6_layer 29 = .ok (.iconst (-1), 1) := by decide +kernel
theorem dX6_layer_30 : decode cX6_layer 30 = .ok (.ireturn, 1) := by decide +kernel
theorem dX6_layer_31 : decode cX6_layer 31 = .ok (.aload_n 0, 1) := by decide +kernel
theorem dX6_layer_32 : decode cX6_layer 32 = .ok (.getfield 23, 3) := by decide +kernel
theorem dX6_layer_35 : decode cX6_layer 35 = .ok (.iload 5, 2) := by decide +kernel
theorem dX6_layer_37 : decode cX6_layer 37 = .ok (.iload_n 3, 1) := by decide +kernel
theorem dX6_layer_38 : decode cX6_layer 38 = .ok (.iadd, 1) := by decide +kernel
theorem dX6_layer_39 : decode cX6_layer 39 = .ok (.iaload, 1) := by decide +kernel
theorem dX6_layer_40 : decode cX6_layer 40 = .ok (.istore 6, 2) := by decide +kernel
theorem dX6_layer_42 : decode cX6_layer 42 = .ok (.iload 4, 2) := by decide +kernel
theorem dX6_layer_44 : decode cX6_layer 44 = .ok (.tableswitch 66 0 3 #[32, 37, 42, 55], 32) := by decide +kernel
theorem dX6_layer_76 : decode cX6_layer 76 = .ok (.iload 6, 2) := by decide +kernel
theorem dX6_layer_78 : decode cX6_layer 78 = .ok (.iconst 2, 1) := by decide +kernel
theorem dX6_layer_79 : decode cX6_layer 79 = .ok (.idiv, 1) := by decide +kernel
theorem dX6_layer_80 : decode cX6_layer 80 = .ok (.ireturn, 1) := by decide +kernel
theorem dX6_layer_81 : decode cX6_layer 81 = .ok (.iload 6, 2) := by decide +kernel
theorem dX6_layer_83 : decode cX6_layer 83 = .ok (.iconst 2, 1) := by decide +kernel
theorem dX6_layer_84 : decode cX6_layer 84 = .ok (.irem, 1) := by decide +kernel
theorem dX6_layer_85 : decode cX6_layer 85 = .ok (.ireturn, 1) := by decide +kernel
theorem dX6_layer_86 : decode cX6_layer 86 = .ok (.aload_n 0, 1) := by decide +kernel
theorem dX6_layer_87 : decode cX6_layer 87 = .ok (.getfield 7, 3) := by decide +kernel
theorem dX6_layer_90 : decode cX6_layer 90 = .ok (.bipush 7, 2) := by decide +kernel
theorem dX6_layer_92 : decode cX6_layer 92 = .ok (.iload 6, 2) := by decide +kernel
theorem dX6_layer_94 : decode cX6_layer 94 = .ok (.iconst 2, 1) := by decide +kernel
theorem dX6_layer_95 : decode cX6_layer 95 = .ok (.idiv, 1) := by decide +kernel
theorem dX6_layer_96 : decode cX6_layer 96 = .ok (.iadd, 1) := by decide +kernel
theorem dX6_layer_97 : decode cX6_layer 97 = .ok (.iaload, 1) := by decide +kernel
theorem dX6_layer_98 : decode cX6_layer 98 = .ok (.ireturn, 1) := by decide +kernel
theorem dX6_layer_99 : decode cX6_layer 99 = .ok (.aload_n 0, 1) := by decide +kernel
theorem dX6_layer_100 : decode cX6_layer 100 = .ok (.getfield 7, 3) := by decide +kernel
theorem dX6_layer_103 : decode cX6_layer 103 = .ok (.bipush 71, 2) := by decide +kernel
theorem dX6_layer_105 : decode cX6_layer 105 = .ok (.iload 6, 2) := by decide +kernel
theorem dX6_layer_107 : decode cX6_layer 107 = .ok (.iadd, 1) := by decide +kernel
theorem dX6_layer_108 : decode cX6_layer 108 = .ok (.iaload, 1) := by decide +kernel
theorem dX6_layer_109 : decode cX6_layer 109 = .ok (.ireturn, 1) := by decide +kernel
theorem dX6_layer_110 : decode cX6_layer 110 = .ok (.bipush (-2), 2) := by decide +kernel
theorem dX6_layer_112 : decode cX6_layer 112 = .ok (.ireturn, 1) := by decide +kernel
set_option maxRecDepth 20000 in
theorem ggX6_seen_X6_top : GoodIn wsX6_seen wsX6_top := goodIn_r _ [6, 7, 8, 9, 10, 11, 5, 12, 1, 13, 14, 15, 16, 17, 18, 19, 20, 21, 22, 23, 24, 25, 26, 27, 28, 29, 30, 31, 32, 33, 34, 35, 40, 41, 42, 43, 44, 45, 46, 47, 48, 49, 50, 51, 52, 53, 54, 55] (by decide +kernel) (by decide +kernel)
set_option maxRecDepth 20000 in
theorem gX6_seen_X6_top : GoodIn wsX6_seen (wsV RX6 87 RX6 yX6_top wsX6_top) := goodIn_app (goodIn_of _ (by decide +kernel)) ggX6_seen_X6_top
set_option maxRecDepth 20000 in
theorem ggX6_seen_X6_firstWhole : GoodIn wsX6_seen wsX6_firstWhole := goodIn_r _ [39, 1, 17, 23, 24, 25, 5, 26, 7, 8, 40, 41, 42, 43, 44, 45, 46, 47, 48, 49, 50, 51, 52, 53, 54, 55] (by decide +kernel) (by decide +kernel)
set_option maxRecDepth 20000 in
theorem gX6_seen_X6_firstWhole : GoodIn wsX6_seen (wsV RX6 97 RX6 yX6_firstWhole wsX6_firstWhole) := goodIn_app (goodIn_of _ (by decide +kernel)) ggX6_seen_X6_firstWhole
theorem dX6_seen_0 : decode cX6_seen 0 = .ok (.aload_n 0, 1) := by decide +kernel
theorem dX6_seen_1 : decode cX6_seen 1 = .ok (.iload_n 1, 1) := by decide +kernel
theorem dX6_seen_2 : decode cX6_seen 2 = .ok (.iload_n 2, 1) := by decide +kernel
theorem dX6_seen_3 : decode cX6_seen 3 = .ok (.invokevirtual 87, 3) := by decide +kernel
theorem dX6_seen_6 : decode cX6_seen 6 = .ok (.istore_n 3, 1) := by decide +kernel
theorem dX6_seen_7 : decode cX6_seen 7 = .ok (.iload_n 3, 1) := by decide +kernel
theorem dX6_seen_8 : decode cX6_seen 8 = .ok (.bipush (-6), 2) := by decide +kernel
theorem dX6_seen_10 : decode cX6_seen 10 = .ok (.if_icmp .ne 5, 3) := by decide +kernel
theorem dX6_seen_13 : decode cX6_seen 13 = .ok (.iconst (-1), 1) := by decide +kernel
theorem dX6_seen_14 : decode cX6_seen 14 = .ok (.ireturn, 1) := by decide +kernel
theorem dX6_seen_15 : decode cX6_seen 15 = .ok (.aload_n 0, 1) := by decide +kernel
theorem dX6_seen_16 : decode cX6_seen 16 = .ok (.iload_n 3, 1) := by decide +kernel
theorem dX6_seen_17 : decode cX6_seen 17 = .ok (.invokevirtual 97, 3) := by decide +kernel
theorem dX6_seen_20 : decode cX6_seen 20 = .ok (.istore 4, 2) := by decide +kernel
theorem dX6_seen_22 : decode cX6_seen 22 = .ok (.iload 4, 2) := by decide +kernel
theorem dX6_seen_24 : decode cX6_seen 24 = .ok (.bipush (-6), 2) := by decide +kernel
theorem dX6_seen_26 : decode cX6_seen 26 = .ok (.if_icmp .ne 8, 3) := by decide +kernel
theorem dX6_seen_29 : decode cX6_seen 29 = .ok (.bipush (-6), 2) := by decide +kernel
theorem dX6_seen_31 : decode cX6_seen 31 = .ok (.goto 21, 3) := by decide +kernel
theorem dX6_seen_34 : decode cX6_seen 34 = .ok (.bipush 10, 2) := by decide +kernel
theorem dX6_seen_36 : decode cX6_seen 36 = .ok (.iload 4, 2) := by decide +kernel
theorem dX6_seen_38 : decode cX6_seen 38 = .ok (.iconst 2, 1) := by decide +kernel
theorem dX6_seen_39 : decode cX6_seen 39 = .ok (.idiv, 1) := by decide +kernel
theorem dX6_seen_40 : decode cX6_seen 40 = .ok (.imul, 1) := by decide +kernel
theorem dX6_seen_41 : decode cX6_seen 41 = .ok (.aload_n 0, 1) := by decide +kernel
theorem dX6_seen_42 : decode cX6_seen 42 = .ok (.getfield 7, 3) := by decide +kernel
theorem dX6_seen_45 : decode cX6_seen 45 = .ok (.bipush 71, 2) := by decide +kernel
theorem dX6_seen_47 : decode cX6_seen 47 = .ok (.iload 4, 2) := by decide +kernel
theorem dX6_seen_49 : decode cX6_seen 49 = .ok (.iadd, 1) := by decide +kernel
theorem dX6_seen_50 : decode cX6_seen 50 = .ok (.iaload, 1) := by decide +kernel
theorem dX6_seen_51 : decode cX6_seen 51 = .ok (.iadd, 1) := by decide +kernel
theorem dX6_seen_52 : decode cX6_seen 52 = .ok (.ireturn, 1) := by decide +kernel
set_option maxRecDepth 20000 in
theorem ggX6_isCell_X6_in : GoodIn wsX6_isCell wsX6_in := goodIn_r _ [4] (by decide +kernel) (by decide +kernel)
set_option maxRecDepth 20000 in
theorem gX6_isCell_X6_in : GoodIn wsX6_isCell (va_wsS RX6 74 yX6_in wsX6_in) := goodIn_app (goodIn_of _ (by decide +kernel)) ggX6_isCell_X6_in
theorem dX6_isCell_0 : decode cX6_isCell 0 = .ok (.iload_n 0, 1) := by decide +kernel
theorem dX6_isCell_1 : decode cX6_isCell 1 = .ok (.iconst 0, 1) := by decide +kernel
theorem dX6_isCell_2 : decode cX6_isCell 2 = .ok (.bipush 63, 2) := by decide +kernel
theorem dX6_isCell_4 : decode cX6_isCell 4 = .ok (.invokestatic 74, 3) := by decide +kernel
theorem dX6_isCell_7 : decode cX6_isCell 7 = .ok (.ireturn, 1) := by decide +kernel
set_option maxRecDepth 20000 in
theorem ggX6_where_X6_isCell : GoodIn wsX6_where wsX6_isCell := goodIn_r _ [6, 7, 8, 5, 9] (by decide +kernel) (by decide +kernel)
set_option maxRecDepth 20000 in
theorem gX6_where_X6_isCell : GoodIn wsX6_where (va_wsS RX6 106 yX6_isCell wsX6_isCell) := goodIn_app (goodIn_of _ (by decide +kernel)) ggX6_where_X6_isCell
set_option maxRecDepth 20000 in
theorem ggX6_where_X6_layNow : GoodIn wsX6_where wsX6_layNow := goodIn_r _ [13, 14, 15, 16, 17, 5, 18, 2, 19, 1, 20, 21, 22, 23, 24, 25, 26, 27, 28, 29, 30, 31, 32, 33, 34, 35, 36, 37, 38, 39, 40, 41, 42, 43, 44, 45, 46, 47, 48, 49, 50] (by decide +kernel) (by decide +kernel)
set_option maxRecDepth 20000 in
theorem gX6_where_X6_layNow : GoodIn wsX6_where (wsV RX6 71 RX6 yX6_layNow wsX6_layNow) := goodIn_app (goodIn_of _ (by decide +kernel)) ggX6_where_X6_layNow
set_option maxRecDepth 20000 in
theorem ggX6_where_X6_layers : GoodIn wsX6_where wsX6_layers := goodIn_r _ [28, 2, 19, 35, 36, 37, 38, 39, 40, 41, 42, 43, 44, 45, 46, 47, 48, 49, 50] (by decide +kernel) (by decide +kernel)
set_option maxRecDepth 20000 in
theorem gX6_where_X6_layers : GoodIn wsX6_where (wsV RX6 56 RX6 yX6_layers wsX6_layers) := goodIn_app (goodIn_of _ (by decide +kernel)) ggX6_where_X6_layers
theorem dX6_where_0 : decode cX6_where 0 = .ok (.iload_n 1, 1) := by decide +kernel
theorem dX6_where_1 : decode cX6_where 1 = .ok (.invokestatic 106, 3) := by decide +kernel
theorem dX6_where_4 : decode cX6_where 4 = .ok (.ifCond .ne 5, 3) := by decide +kernel
theorem dX6_where_7 : decode cX6_where 7 = .ok (.iconst (-1), 1) := by decide +kernel
theorem dX6_where_8 : decode cX6_where 8 = .ok (.ireturn, 1) := by decide +kernel
theorem dX6_where_9 : decode cX6_where 9 = .ok (.aload_n 0, 1) := by decide +kernel
theorem dX6_where_10 : decode cX6_where 10 = .ok (.invokevirtual 71, 3) := by decide +kernel
theorem dX6_where_13 : decode cX6_where 13 = .ok (.iconst 0, 1) := by decide +kernel
theorem dX6_where_14 : decode cX6_where 14 = .ok (.istore_n 3, 1) := by decide +kernel
theorem dX6_where_15 : decode cX6_where 15 = .ok (.aload_n 0, 1) := by decide +kernel
theorem dX6_where_16 : decode cX6_where 16 = .ok (.getfield 23, 3) := by decide +kernel
theorem dX6_where_19 : decode cX6_where 19 = .ok (.iload_n 3, 1) := by decide +kernel
theorem dX6_where_20 : decode cX6_where 20 = .ok (.iaload, 1) := by decide +kernel
theorem dX6_where_21 : decode cX6_where 21 = .ok (.iconst 2, 1) := by decide +kernel
theorem dX6_where_22 : decode cX6_where 22 = .ok (.idiv, 1) := by decide +kernel
theorem dX6_where_23 : decode cX6_where 23 = .ok (.iload_n 1, 1) := by decide +kernel
theorem dX6_where_24 : decode cX6_where 24 = .ok (.if_icmp .eq 9, 3) := by decide +kernel
theorem dX6_where_27 : decode cX6_where 27 = .ok (.iinc 3 1, 3) := by decide +kernel
theorem dX6_where_30 : decode cX6_where 30 = .ok (.goto (-15), 3) := by decide +kernel
theorem dX6_where_33 : decode cX6_where 33 = .ok (.iload_n 3, 1) := by decide +kernel
theorem dX6_where_34 : decode cX6_where 34 = .ok (.aload_n 0, 1) := by decide +kernel
theorem dX6_where_35 : decode cX6_where 35 = .ok (.invokevirtual 56, 3) := by decide +kernel
theorem dX6_where_38 : decode cX6_where 38 = .ok (.idiv, 1) := by decide +kernel
theorem dX6_where_39 : decode cX6_where 39 = .ok (.istore 4, 2) := by decide +kernel
theorem dX6_where_41 : decode cX6_where 41 = .ok (.iload_n 2, 1) := by decide +kernel
theorem dX6_where_42 : decode cX6_where 42 = .ok (.tableswitch 62 0 3 #[30, 38, 46, 53], 30) := by decide +kernel
theorem dX6_where_72 : decode cX6_where 72 = .ok (.iload 4, 2) := by decide +kernel
theorem dX6_where_74 : decode cX6_where 74 = .ok (.aload_n 0, 1) := by decide +kernel
theorem dX6_where_75 : decode cX6_where 75 = .ok (.getfield 46, 3) := by decide +kernel
theorem dX6_where_78 : decode cX6_where 78 = .ok (.irem, 1) := by decide +kernel
theorem dX6_where_79 : decode cX6_where 79 = .ok (.ireturn, 1) := by decide +kernel
theorem dX6_where_80 : decode cX6_where 80 = .ok (.iload 4, 2) := by decide +kernel
theorem dX6_where_82 : decode cX6_where 82 = .ok (.aload_n 0, 1) := by decide +kernel
theorem dX6_where_83 : decode cX6_where 83 = .ok (.getfield 46, 3) := by decide +kernel
theorem dX6_where_86 : decode cX6_where 86 = .ok (.idiv, 1) := by decide +kernel
theorem dX6_where_87 : decode cX6_where 87 = .ok (.ireturn, 1) := by decide +kernel
theorem dX6_where_88 : decode cX6_where 88 = .ok (.iload_n 3, 1) := by decide +kernel
theorem dX6_where_89 : decode cX6_where 89 = .ok (.aload_n 0, 1) := by decide +kernel
theorem dX6_where_90 : decode cX6_where 90 = .ok (.invokevirtual 56, 3) := by decide +kernel
theorem dX6_where_93 : decode cX6_where 93 = .ok (.irem, 1) := by decide +kernel
theorem dX6_where_94 : decode cX6_where 94 = .ok (.ireturn, 1) := by decide +kernel
theorem dX6_where_95 : decode cX6_where 95 = .ok (.aload_n 0, 1) := by decide +kernel
theorem dX6_where_96 : decode cX6_where 96 = .ok (.getfield 23, 3) := by decide +kernel
theorem dX6_where_99 : decode cX6_where 99 = .ok (.iload_n 3, 1) := by decide +kernel
theorem dX6_where_100 : decode cX6_where 100 = .ok (.iaload, 1) := by decide +kernel
theorem dX6_where_101 : decode cX6_where 101 = .ok (.iconst 2, 1) := by decide +kernel
theorem dX6_where_102 : decode cX6_where 102 = .ok (.irem, 1) := by decide +kernel
theorem dX6_where_103 : decode cX6_where 103 = .ok (.ireturn, 1) := by decide +kernel
theorem dX6_where_104 : decode cX6_where 104 = .ok (.bipush (-2), 2) := by decide +kernel
theorem dX6_where_106 : decode cX6_where 106 = .ok (.ireturn, 1) := by decide +kernel
set_option maxRecDepth 20000 in
theorem ggX6_colour_X6_isCell : GoodIn wsX6_colour wsX6_isCell := goodIn_r _ [5, 6, 7, 4, 8] (by decide +kernel) (by decide +kernel)
set_option maxRecDepth 20000 in
theorem gX6_colour_X6_isCell : GoodIn wsX6_colour (va_wsS RX6 106 yX6_isCell wsX6_isCell) := goodIn_app (goodIn_of _ (by decide +kernel)) ggX6_colour_X6_isCell
set_option maxRecDepth 20000 in
theorem ggX6_colour_X6_in : GoodIn wsX6_colour wsX6_in := goodIn_r _ [8] (by decide +kernel) (by decide +kernel)
set_option maxRecDepth 20000 in
theorem gX6_colour_X6_in : GoodIn wsX6_colour (va_wsS RX6 74 yX6_in wsX6_in) := goodIn_app (goodIn_of _ (by decide +kernel)) ggX6_colour_X6_in
theorem dX6_colour_0 : decode cX6_colour 0 = .ok (.iload_n 1, 1) := by decide +kernel
theorem dX6_colour_1 : decode cX6_colour 1 = .ok (.invokestatic 106, 3) := by decide +kernel
theorem dX6_colour_4 : decode cX6_colour 4 = .ok (.ifCond .ne 5, 3) := by decide +kernel
theorem dX6_colour_7 : decode cX6_colour 7 = .ok (.iconst (-1), 1) := by decide +kernel
theorem dX6_colour_8 : decode cX6_colour 8 = .ok (.ireturn, 1) := by decide +kernel
theorem dX6_colour_9 : decode cX6_colour 9 = .ok (.iload_n 2, 1) := by decide +kernel
theorem dX6_colour_10 : decode cX6_colour 10 = .ok (.iconst 0, 1) := by decide +kernel
theorem dX6_colour_11 : decode cX6_colour 11 = .ok (.iconst 1, 1) := by decide +kernel
theorem dX6_colour_12 : decode cX6_colour 12 = .ok (.invokestatic 74, 3) := by decide +kernel
theorem dX6_colour_15 : decode cX6_colour 15 = .ok (.ifCond .eq 19, 3) := by decide +kernel
theorem dX6_colour_18 : decode cX6_colour 18 = .ok (.aload_n 0, 1) := by decide +kernel
theorem dX6_colour_19 : decode cX6_colour 19 = .ok (.getfield 7, 3) := by decide +kernel
theorem dX6_colour_22 : decode cX6_colour 22 = .ok (.bipush 71, 2) := by decide +kernel
theorem dX6_colour_24 : decode cX6_colour 24 = .ok (.iconst 2, 1) := by decide +kernel
theorem dX6_colour_25 : decode cX6_colour 25 = .ok (.iload_n 1, 1) := by decide +kernel
theorem dX6_colour_26 : decode cX6_colour 26 = .ok (.imul, 1) := by decide +kernel
theorem dX6_colour_27 : decode cX6_colour 27 = .ok (.iadd, 1) := by decide +kernel
theorem dX6_colour_28 : decode cX6_colour 28 = .ok (.iload_n 2, 1) := by decide +kernel
theorem dX6_colour_29 : decode cX6_colour 29 = .ok (.iadd, 1) := by decide +kernel
theorem dX6_colour_30 : decode cX6_colour 30 = .ok (.iaload, 1) := by decide +kernel
theorem dX6_colour_31 : decode cX6_colour 31 = .ok (.goto 5, 3) := by decide +kernel
theorem dX6_colour_34 : decode cX6_colour 34 = .ok (.bipush (-2), 2) := by decide +kernel
theorem dX6_colour_36 : decode cX6_colour 36 = .ok (.ireturn, 1) := by decide +kernel
theorem dX6_hole_0 : decode cX6_hole 0 = .ok (.aload_n 0, 1) := by decide +kernel
theorem dX6_hole_1 : decode cX6_hole 1 = .ok (.getfield 7, 3) := by decide +kernel
theorem dX6_hole_4 : decode cX6_hole 4 = .ok (.bipush 7, 2) := by decide +kernel
theorem dX6_hole_6 : decode cX6_hole 6 = .ok (.bipush 8, 2) := by decide +kernel
theorem dX6_hole_8 : decode cX6_hole 8 = .ok (.iload_n 2, 1) := by decide +kernel
theorem dX6_hole_9 : decode cX6_hole 9 = .ok (.imul, 1) := by decide +kernel
theorem dX6_hole_10 : decode cX6_hole 10 = .ok (.iadd, 1) := by decide +kernel
theorem dX6_hole_11 : decode cX6_hole 11 = .ok (.iload_n 1, 1) := by decide +kernel
theorem dX6_hole_12 : decode cX6_hole 12 = .ok (.iadd, 1) := by decide +kernel
theorem dX6_hole_13 : decode cX6_hole 13 = .ok (.iaload, 1) := by decide +kernel
theorem dX6_hole_14 : decode cX6_hole 14 = .ok (.ireturn, 1) := by decide +kernel
set_option maxRecDepth 20000 in
theorem ggX6_holes_X6_in : GoodIn wsX6_holes wsX6_in := goodIn_r _ [4] (by decide +kernel) (by decide +kernel)
set_option maxRecDepth 20000 in
theorem gX6_holes_X6_in : GoodIn wsX6_holes (va_wsS RX6 74 yX6_in wsX6_in) := goodIn_app (goodIn_of _ (by decide +kernel)) ggX6_holes_X6_in
set_option maxRecDepth 20000 in
theorem ggX6_holes_X6_hole : GoodIn wsX6_holes wsX6_hole := goodIn_r _ [8, 9, 10, 11, 12, 13, 14, 15, 16, 17, 18, 19, 20, 21, 22, 23, 24, 25] (by decide +kernel) (by decide +kernel)
set_option maxRecDepth 20000 in
theorem gX6_holes_X6_hole : GoodIn wsX6_holes (wsV RX6 110 RX6 yX6_hole wsX6_hole) := goodIn_app (goodIn_of _ (by decide +kernel)) ggX6_holes_X6_hole
theorem dX6_holes_0 : decode cX6_holes 0 = .ok (.iload_n 1, 1) := by decide +kernel
theorem dX6_holes_1 : decode cX6_holes 1 = .ok (.iconst 0, 1) := by decide +kernel
theorem dX6_holes_2 : decode cX6_holes 2 = .ok (.bipush 7, 2) := by decide +kernel
theorem dX6_holes_4 : decode cX6_holes 4 = .ok (.invokestatic 74, 3) := by decide +kernel
theorem dX6_holes_7 : decode cX6_holes 7 = .ok (.ifCond .ne 5, 3) := by decide +kernel
theorem dX6_holes_10 : decode cX6_holes 10 = .ok (.iconst (-1), 1) := by decide +kernel
theorem dX6_holes_11 : decode cX6_holes 11 = .ok (.ireturn, 1) := by decide +kernel
theorem dX6_holes_12 : decode cX6_holes 12 = .ok (.iconst 0, 1) := by decide +kernel
theorem dX6_holes_13 : decode cX6_holes 13 = .ok (.istore_n 2, 1) := by decide +kernel
theorem dX6_holes_14 : decode cX6_holes 14 = .ok (.iconst 0, 1) := by decide +kernel
theorem dX6_holes_15 : decode cX6_holes 15 = .ok (.istore_n 3, 1) := by decide +kernel
theorem dX6_holes_16 : decode cX6_holes 16 = .ok (.iload_n 3, 1) := by decide +kernel
theorem dX6_holes_17 : decode cX6_holes 17 = .ok (.bipush 8, 2) := by decide +kernel
theorem dX6_holes_19 : decode cX6_holes 19 = .ok (.if_icmp .ge 20, 3) := by decide +kernel
theorem dX6_holes_22 : decode cX6_holes 22 = .ok (.iload_n 2, 1) := by decide +kernel
theorem dX6_holes_23 : decode cX6_holes 23 = .ok (.aload_n 0, 1) := by decide +kernel
theorem dX6_holes_24 : decode cX6_holes 24 = .ok (.iload_n 3, 1) := by decide +kernel
theorem dX6_holes_25 : decode cX6_holes 25 = .ok (.iload_n 1, 1) := by decide +kernel
theorem dX6_holes_26 : decode cX6_holes 26 = .ok (.invokevirtual 110, 3) := by decide +kernel
theorem dX6_holes_29 : decode cX6_holes 29 = .ok (.iload_n 3, 1) := by decide +kernel
theorem dX6_holes_30 : decode cX6_holes 30 = .ok (.ishl, 1) := by decide +kernel
theorem dX6_holes_31 : decode cX6_holes 31 = .ok (.ior, 1) := by decide +kernel
theorem dX6_holes_32 : decode cX6_holes 32 = .ok (.istore_n 2, 1) := by decide +kernel
theorem dX6_holes_33 : decode cX6_holes 33 = .ok (.iinc 3 1, 3) := by decide +kernel
theorem dX6_holes_36 : decode cX6_holes 36 = .ok (.goto (-20), 3) := by decide +kernel
theorem dX6_holes_39 : decode cX6_holes 39 = .ok (.iload_n 2, 1) := by decide +kernel
theorem dX6_holes_40 : decode cX6_holes 40 = .ok (.ireturn, 1) := by decide +kernel
theorem dX6_wanted_0 : decode cX6_wanted 0 = .ok (.aload_n 0, 1) := by decide +kernel
theorem dX6_wanted_1 : decode cX6_wanted 1 = .ok (.getfield 7, 3) := by decide +kernel
theorem dX6_wanted_4 : decode cX6_wanted 4 = .ok (.sipush 199, 3) := by decide +kernel
theorem dX6_wanted_7 : decode cX6_wanted 7 = .ok (.iload_n 1, 1) := by decide +kernel
theorem dX6_wanted_8 : decode cX6_wanted 8 = .ok (.bipush 8, 2) := by decide +kernel
theorem dX6_wanted_10 : decode cX6_wanted 10 = .ok (.idiv, 1) := by decide +kernel
theorem dX6_wanted_11 : decode cX6_wanted 11 = .ok (.iadd, 1) := by decide +kernel
theorem dX6_wanted_12 : decode cX6_wanted 12 = .ok (.iaload, 1) := by decide +kernel
theorem dX6_wanted_13 : decode cX6_wanted 13 = .ok (.iload_n 1, 1) := by decide +kernel
theorem dX6_wanted_14 : decode cX6_wanted 14 = .ok (.bipush 8, 2) := by decide +kernel
theorem dX6_wanted_16 : decode cX6_wanted 16 = .ok (.irem, 1) := by decide +kernel
theorem dX6_wanted_17 : decode cX6_wanted 17 = .ok (.ishr, 1) := by decide +kernel
theorem dX6_wanted_18 : decode cX6_wanted 18 = .ok (.iconst 1, 1) := by decide +kernel
theorem dX6_wanted_19 : decode cX6_wanted 19 = .ok (.iand, 1) := by decide +kernel
theorem dX6_wanted_20 : decode cX6_wanted 20 = .ok (.ireturn, 1) := by decide +kernel
theorem dX6_joins_0 : decode cX6_joins 0 = .ok (.aload_n 0, 1) := by decide +kernel
theorem dX6_joins_1 : decode cX6_joins 1 = .ok (.getfield 29, 3) := by decide +kernel
theorem dX6_joins_4 : decode cX6_joins 4 = .ok (.iload_n 1, 1) := by decide +kernel
theorem dX6_joins_5 : decode cX6_joins 5 = .ok (.iaload, 1) := by decide +kernel
theorem dX6_joins_6 : decode cX6_joins 6 = .ok (.aload_n 0, 1) := by decide +kernel
theorem dX6_joins_7 : decode cX6_joins 7 = .ok (.getfield 29, 3) := by decide +kernel
theorem dX6_joins_10 : decode cX6_joins 10 = .ok (.iload_n 2, 1) := by decide +kernel
theorem dX6_joins_11 : decode cX6_joins 11 = .ok (.iaload, 1) := by decide +kernel
theorem dX6_joins_12 : decode cX6_joins 12 = .ok (.if_icmp .ge 12, 3) := by decide +kernel
theorem dX6_joins_15 : decode cX6_joins 15 = .ok (.aload_n 0, 1) := by decide +kernel
theorem dX6_joins_16 : decode cX6_joins 16 = .ok (.getfield 29, 3) := by decide +kernel
theorem dX6_joins_19 : decode cX6_joins 19 = .ok (.iload_n 1, 1) := by decide +kernel
theorem dX6_joins_20 : decode cX6_joins 20 = .ok (.iaload, 1) := by decide +kernel
theorem dX6_joins_21 : decode cX6_joins 21 = .ok (.goto 9, 3) := by decide +kernel
theorem dX6_joins_24 : decode cX6_joins 24 = .ok (.aload_n 0, 1) := by decide +kernel
theorem dX6_joins_25 : decode cX6_joins 25 = .ok (.getfield 29, 3) := by decide +kernel
theorem dX6_joins_28 : decode cX6_joins 28 = .ok (.iload_n 2, 1) := by decide +kernel
theorem dX6_joins_29 : decode cX6_joins 29 = .ok (.iaload, 1) := by decide +kernel
theorem dX6_joins_30 : decode cX6_joins 30 = .ok (.istore_n 3, 1) := by decide +kernel
theorem dX6_joins_31 : decode cX6_joins 31 = .ok (.aload_n 0, 1) := by decide +kernel
theorem dX6_joins_32 : decode cX6_joins 32 = .ok (.getfield 7, 3) := by decide +kernel
theorem dX6_joins_35 : decode cX6_joins 35 = .ok (.bipush 7, 2) := by decide +kernel
theorem dX6_joins_37 : decode cX6_joins 37 = .ok (.iload_n 1, 1) := by decide +kernel
theorem dX6_joins_38 : decode cX6_joins 38 = .ok (.iadd, 1) := by decide +kernel
theorem dX6_joins_39 : decode cX6_joins 39 = .ok (.iaload, 1) := by decide +kernel
theorem dX6_joins_40 : decode cX6_joins 40 = .ok (.ifCond .ne 34, 3) := by decide +kernel
theorem dX6_joins_43 : decode cX6_joins 43 = .ok (.aload_n 0, 1) := by decide +kernel
theorem dX6_joins_44 : decode cX6_joins 44 = .ok (.getfield 7, 3) := by decide +kernel
theorem dX6_joins_47 : decode cX6_joins 47 = .ok (.bipush 7, 2) := by decide +kernel
theorem dX6_joins_49 : decode cX6_joins 49 = .ok (.iload_n 2, 1) := by decide +kernel
theorem dX6_joins_50 : decode cX6_joins 50 = .ok (.iadd, 1) := by decide +kernel
theorem dX6_joins_51 : decode cX6_joins 51 = .ok (.iaload, 1) := by decide +kernel
theorem dX6_joins_52 : decode cX6_joins 52 = .ok (.ifCond .ne 22, 3) := by decide +kernel
theorem dX6_joins_55 : decode cX6_joins 55 = .ok (.aload_n 0, 1) := by decide +kernel
theorem dX6_joins_56 : decode cX6_joins 56 = .ok (.getfield 29, 3) := by decide +kernel
theorem dX6_joins_59 : decode cX6_joins 59 = .ok (.iload_n 1, 1) := by decide +kernel
theorem dX6_joins_60 : decode cX6_joins 60 = .ok (.iaload, 1) := by decide +kernel
theorem dX6_joins_61 : decode cX6_joins 61 = .ok (.aload_n 0, 1) := by decide +kernel
theorem dX6_joins_62 : decode cX6_joins 62 = .ok (.getfield 29, 3) := by decide +kernel
theorem dX6_joins_65 : decode cX6_joins 65 = .ok (.iload_n 2, 1) := by decide +kernel
theorem dX6_joins_66 : decode cX6_joins 66 = .ok (.iaload, 1) := by decide +kernel
theorem dX6_joins_67 : decode cX6_joins 67 = .ok (.if_icmp .eq 7, 3) := by decide +kernel
theorem dX6_joins_70 : decode cX6_joins 70 = .ok (.iconst 1, 1) := by decide +kernel
theorem dX6_joins_71 : decode cX6_joins 71 = .ok (.goto 4, 3) := by decide +kernel
theorem dX6_joins_74 : decode cX6_joins 74 = .ok (.iconst 0, 1) := by decide +kernel
theorem dX6_joins_75 : decode cX6_joins 75 = .ok (.istore 4, 2) := by decide +kernel
theorem dX6_joins_77 : decode cX6_joins 77 = .ok (.iload 4, 2) := by decide +kernel
theorem dX6_joins_79 : decode cX6_joins 79 = .ok (.ifCond .eq 17, 3) := by decide +kernel
theorem dX6_joins_82 : decode cX6_joins 82 = .ok (.aload_n 0, 1) := by decide +kernel
theorem dX6_joins_83 : decode cX6_joins 83 = .ok (.getfield 29, 3) := by decide +kernel
theorem dX6_joins_86 : decode cX6_joins 86 = .ok (.iload_n 1, 1) := by decide +kernel
theorem dX6_joins_87 : decode cX6_joins 87 = .ok (.iload_n 3, 1) := by decide +kernel
theorem dX6_joins_88 : decode cX6_joins 88 = .ok (.iastore, 1) := by decide +kernel
theorem dX6_joins_89 : decode cX6_joins 89 = .ok (.aload_n 0, 1) := by decide +kernel
theorem dX6_joins_90 : decode cX6_joins 90 = .ok (.getfield 29, 3) := by decide +kernel
theorem dX6_joins_93 : decode cX6_joins 93 = .ok (.iload_n 2, 1) := by decide +kernel
theorem dX6_joins_94 : decode cX6_joins 94 = .ok (.iload_n 3, 1) := by decide +kernel
theorem dX6_joins_95 : decode cX6_joins 95 = .ok (.iastore, 1) := by decide +kernel
theorem dX6_joins_96 : decode cX6_joins 96 = .ok (.iload 4, 2) := by decide +kernel
theorem dX6_joins_98 : decode cX6_joins 98 = .ok (.ireturn, 1) := by decide +kernel
set_option maxRecDepth 20000 in
theorem ggX6_layPieces_X6_joins : GoodIn wsX6_layPieces wsX6_joins := goodIn_r _ [6, 1, 7, 8, 9, 10, 11, 12, 13, 14, 15, 16, 17, 18, 19, 20, 21, 22, 23] (by decide +kernel) (by decide +kernel)
set_option maxRecDepth 20000 in
theorem gX6_layPieces_X6_joins : GoodIn wsX6_layPieces (wsV RX6 113 RX6 yX6_joins wsX6_joins) := goodIn_app (goodIn_of _ (by decide +kernel)) ggX6_layPieces_X6_joins
theorem dX6_layPieces_0 : decode cX6_layPieces 0 = .ok (.iconst 0, 1) := by decide +kernel
theorem dX6_layPieces_1 : decode cX6_layPieces 1 = .ok (.istore_n 1, 1) := by decide +kernel
theorem dX6_layPieces_2 : decode cX6_layPieces 2 = .ok (.iload_n 1, 1) := by decide +kernel
theorem dX6_layPieces_3 : decode cX6_layPieces 3 = .ok (.bipush 64, 2) := by decide +kernel
theorem dX6_layPieces_5 : decode cX6_layPieces 5 = .ok (.if_icmp .ge 16, 3) := by decide +kernel
theorem dX6_layPieces_8 : decode cX6_layPieces 8 = .ok (.aload_n 0, 1) := by decide +kernel
theorem dX6_layPieces_9 : decode cX6_layPieces 9 = .ok (.getfield 29, 3) := by decide +kernel
theorem dX6_layPieces_12 : decode cX6_layPieces 12 = .ok (.iload_n 1, 1) := by decide +kernel
theorem dX6_layPieces_13 : decode cX6_layPieces 13 = .ok (.iload_n 1, 1) := by decide +kernel
theorem dX6_layPieces_14 : decode cX6_layPieces 14 = .ok (.iastore, 1) := by decide +kernel
theorem dX6_layPieces_15 : decode cX6_layPieces 15 = .ok (.iinc 1 1, 3) := by decide +kernel
theorem dX6_layPieces_18 : decode cX6_layPieces 18 = .ok (.goto (-16), 3) := by decide +kernel
theorem dX6_layPieces_21 : decode cX6_layPieces 21 = .ok (.iconst 1, 1) := by decide +kernel
theorem dX6_layPieces_22 : decode cX6_layPieces 22 = .ok (.istore_n 1, 1) := by decide +kernel
theorem dX6_layPieces_23 : decode cX6_layPieces 23 = .ok (.iload_n 1, 1) := by decide +kernel
theorem dX6_layPieces_24 : decode cX6_layPieces 24 = .ok (.ifCond .eq 80, 3) := by decide +kernel
theorem dX6_layPieces_27 : decode cX6_layPieces 27 = .ok (.iconst 0, 1) := by decide +kernel
theorem dX6_layPieces_28 : decode cX6_layPieces 28 = .ok (.istore_n 1, 1) := by decide +kernel
theorem dX6_layPieces_29 : decode cX6_layPieces 29 = .ok (.iconst 0, 1) := by decide +kernel
theorem dX6_layPieces_30 : decode cX6_layPieces 30 = .ok (.istore_n 2, 1) := by decide +kernel
theorem dX6_layPieces_31 : decode cX6_layPieces 31 = .ok (.iload_n 2, 1) := by decide +kernel
theorem dX6_layPieces_32 : decode cX6_layPieces 32 = .ok (.bipush 64, 2) := by decide +kernel
theorem dX6_layPieces_34 : decode cX6_layPieces 34 = .ok (.if_icmp .ge 67, 3) := by decide +kernel
theorem dX6_layPieces_37 : decode cX6_layPieces 37 = .ok (.iload_n 2, 1) := by decide +kernel
theorem dX6_layPieces_38 : decode cX6_layPieces 38 = .ok (.bipush 8, 2) := by decide +kernel
theorem dX6_layPieces_40 : decode cX6_layPieces 40 = .ok (.irem, 1) := by decide +kernel
theorem dX6_layPieces_41 : decode cX6_layPieces 41 = .ok (.bipush 7, 2) := by decide +kernel
theorem dX6_layPieces_43 : decode cX6_layPieces 43 = .ok (.if_icmp .ge 14, 3) := by decide +kernel
theorem dX6_layPieces_46 : decode cX6_layPieces 46 = .ok (.aload_n 0, 1) := by decide +kernel
theorem dX6_layPieces_47 : decode cX6_layPieces 47 = .ok (.iload_n 2, 1) := by decide +kernel
theorem dX6_layPieces_48 : decode cX6_layPieces 48 = .ok (.iload_n 2, 1) := by decide +kernel
theorem dX6_layPieces_49 : decode cX6_layPieces 49 = .ok (.iconst 1, 1) := by decide +kernel
theorem dX6_layPieces_50 : decode cX6_layPieces 50 = .ok (.iadd, 1) := by decide +kernel
theorem dX6_layPieces_51 : decode cX6_layPieces 51 = .ok (.invokevirtual 113, 3) := by decide +kernel
theorem dX6_layPieces_54 : decode cX6_layPieces 54 = .ok (.ifCond .ne 7, 3) := by decide +kernel
theorem dX6_layPieces_57 : decode cX6_layPieces 57 = .ok (.iload_n 1, 1) := by decide +kernel
theorem dX6_layPieces_58 : decode cX6_layPieces 58 = .ok (.ifCond .eq 7, 3) := by decide +kernel
theorem dX6_layPieces_61 : decode cX6_layPieces 61 = .ok (.iconst 1, 1) := by decide +kernel
theorem dX6_layPieces_62 : decode cX6_layPieces 62 = .ok (.goto 4, 3) := by decide +kernel
theorem dX6_layPieces_65 : decode cX6_layPieces 65 = .ok (.iconst 0, 1) := by decide +kernel
theorem dX6_layPieces_66 : decode cX6_layPieces 66 = .ok (.istore_n 1, 1) := by decide +kernel
theorem dX6_layPieces_67 : decode cX6_layPieces 67 = .ok (.iload_n 2, 1) := by decide +kernel
theorem dX6_layPieces_68 : decode cX6_layPieces 68 = .ok (.bipush 56, 2) := by decide +kernel
theorem dX6_layPieces_70 : decode cX6_layPieces 70 = .ok (.if_icmp .ge 15, 3) := by decide +kernel
theorem dX6_layPieces_73 : decode cX6_layPieces 73 = .ok (.aload_n 0, 1) := by decide +kernel
theorem dX6_layPieces_74 : decode cX6_layPieces 74 = .ok (.iload_n 2, 1) := by decide +kernel
theorem dX6_layPieces_75 : decode cX6_layPieces 75 = .ok (.iload_n 2, 1) := by decide +kernel
theorem dX6_layPieces_76 : decode cX6_layPieces 76 = .ok (.bipush 8, 2) := by decide +kernel
theorem dX6_layPieces_78 : decode cX6_layPieces 78 = .ok (.iadd, 1) := by decide +kernel
theorem dX6_layPieces_79 : decode cX6_layPieces 79 = .ok (.invokevirtual 113, 3) := by decide +kernel
theorem dX6_layPieces_82 : decode cX6_layPieces 82 = .ok (.ifCond .ne 7, 3) := by decide +kernel
theorem dX6_layPieces_85 : decode cX6_layPieces 85 = .ok (.iload_n 1, 1) := by decide +kernel
theorem dX6_layPieces_86 : decode cX6_layPieces 86 = .ok (.ifCond .eq 7, 3) := by decide +kernel
theorem dX6_layPieces_89 : decode cX6_layPieces 89 = .ok (.iconst 1, 1) := by decide +kernel
theorem dX6_layPieces_90 : decode cX6_layPieces 90 = .ok (.goto 4, 3) := by decide +kernel
theorem dX6_layPieces_93 : decode cX6_layPieces 93 = .ok (.iconst 0, 1) := by decide +kernel
theorem dX6_layPieces_94 : decode cX6_layPieces 94 = .ok (.istore_n 1, 1) := by decide +kernel
theorem dX6_layPieces_95 : decode cX6_layPieces 95 = .ok (.iinc 2 1, 3) := by decide +kernel
theorem dX6_layPieces_98 : decode cX6_layPieces 98 = .ok (.goto (-67), 3) := by decide +kernel
theorem dX6_layPieces_101 : decode cX6_layPieces 101 = .ok (.goto (-78), 3) := by decide +kernel
theorem dX6_layPieces_104 : decode cX6_layPieces 104 = .ok (.return_, 1) := by decide +kernel
theorem dX6_pieceSize_0 : decode cX6_pieceSize 0 = .ok (.iconst 0, 1) := by decide +kernel
theorem dX6_pieceSize_1 : decode cX6_pieceSize 1 = .ok (.istore_n 2, 1) := by decide +kernel
theorem dX6_pieceSize_2 : decode cX6_pieceSize 2 = .ok (.iconst 0, 1) := by decide +kernel
theorem dX6_pieceSize_3 : decode cX6_pieceSize 3 = .ok (.istore_n 3, 1) := by decide +kernel
theorem dX6_pieceSize_4 : decode cX6_pieceSize 4 = .ok (.iload_n 3, 1) := by decide +kernel
theorem dX6_pieceSize_5 : decode cX6_pieceSize 5 = .ok (.bipush 64, 2) := by decide +kernel
theorem dX6_pieceSize_7 : decode cX6_pieceSize 7 = .ok (.if_icmp .ge 39, 3) := by decide +kernel
theorem dX6_pieceSize_10 : decode cX6_pieceSize 10 = .ok (.iload_n 2, 1) := by decide +kernel
theorem dX6_pieceSize_11 : decode cX6_pieceSize 11 = .ok (.aload_n 0, 1) := by decide +kernel
theorem dX6_pieceSize_12 : decode cX6_pieceSize 12 = .ok (.getfield 7, 3) := by decide +kernel
theorem dX6_pieceSize_15 : decode cX6_pieceSize 15 = .ok (.bipush 7, 2) := by decide +kernel
theorem dX6_pieceSize_17 : decode cX6_pieceSize 17 = .ok (.iload_n 3, 1) := by decide +kernel
theorem dX6_pieceSize_18 : decode cX6_pieceSize 18 = .ok (.iadd, 1) := by decide +kernel
theorem dX6_pieceSize_19 : decode cX6_pieceSize 19 = .ok (.iaload, 1) := by decide +kernel
theorem dX6_pieceSize_20 : decode cX6_pieceSize 20 = .ok (.ifCond .ne 17, 3) := by decide +kernel
theorem dX6_pieceSize_23 : decode cX6_pieceSize 23 = .ok (.aload_n 0, 1) := by decide +kernel
theorem dX6_pieceSize_24 : decode cX6_pieceSize 24 = .ok (.getfield 29, 3) := by decide +kernel
theorem dX6_pieceSize_27 : decode cX6_pieceSize 27 = .ok (.iload_n 3, 1) := by decide +kernel
theorem dX6_pieceSize_28 : decode cX6_pieceSize 28 = .ok (.iaload, 1) := by decide +kernel
theorem dX6_pieceSize_29 : decode cX6_pieceSize 29 = .ok (.iload_n 1, 1) := by decide +kernel
theorem dX6_pieceSize_30 : decode cX6_pieceSize 30 = .ok (.if_icmp .ne 7, 3) := by decide +kernel
theorem dX6_pieceSize_33 : decode cX6_pieceSize 33 = .ok (.iconst 1, 1) := by decide +kernel
theorem dX6_pieceSize_34 : decode cX6_pieceSize 34 = .ok (.goto 4, 3) := by decide +kernel
theorem dX6_pieceSize_37 : decode cX6_pieceSize 37 = .ok (.iconst 0, 1) := by decide +kernel
theorem dX6_pieceSize_38 : decode cX6_pieceSize 38 = .ok (.iadd, 1) := by decide +kernel
theorem dX6_pieceSize_39 : decode cX6_pieceSize 39 = .ok (.istore_n 2, 1) := by decide +kernel
theorem dX6_pieceSize_40 : decode cX6_pieceSize 40 = .ok (.iinc 3 1, 3) := by decide +kernel
theorem dX6_pieceSize_43 : decode cX6_pieceSize 43 = .ok (.goto (-39), 3) := by decide +kernel
theorem dX6_pieceSize_46 : decode cX6_pieceSize 46 = .ok (.iload_n 2, 1) := by decide +kernel
theorem dX6_pieceSize_47 : decode cX6_pieceSize 47 = .ok (.ireturn, 1) := by decide +kernel
set_option maxRecDepth 20000 in
theorem ggX6_pieceMany_X6_layPieces : GoodIn wsX6_pieceMany wsX6_layPieces := goodIn_r _ [5, 6, 7, 8, 9, 4, 10, 11, 16, 17, 18, 19, 20, 21, 22, 23, 24, 25, 26, 27, 28, 29, 30, 31] (by decide +kernel) (by decide +kernel)
set_option maxRecDepth 20000 in
theorem gX6_pieceMany_X6_layPieces : GoodIn wsX6_pieceMany (wsV RX6 117 RX6 yX6_layPieces wsX6_layPieces) := goodIn_app (goodIn_of _ (by decide +kernel)) ggX6_pieceMany_X6_layPieces
set_option maxRecDepth 20000 in
theorem ggX6_pieceMany_X6_pieceSize : GoodIn wsX6_pieceMany wsX6_pieceSize := goodIn_r _ [15, 11, 6, 16, 17, 18, 19, 20, 21, 22, 23, 24, 25, 26, 27, 28, 29, 30, 31] (by decide +kernel) (by decide +kernel)
set_option maxRecDepth 20000 in
theorem gX6_pieceMany_X6_pieceSize : GoodIn wsX6_pieceMany (wsV RX6 120 RX6 yX6_pieceSize wsX6_pieceSize) := goodIn_app (goodIn_of _ (by decide +kernel)) ggX6_pieceMany_X6_pieceSize
theorem dX6_pieceMany_0 : decode cX6_pieceMany 0 = .ok (.aload_n 0, 1) := by decide +kernel
theorem dX6_pieceMany_1 : decode cX6_pieceMany 1 = .ok (.invokevirtual 117, 3) := by decide +kernel
theorem dX6_pieceMany_4 : decode cX6_pieceMany 4 = .ok (.iconst 0, 1) := by decide +kernel
theorem dX6_pieceMany_5 : decode cX6_pieceMany 5 = .ok (.istore_n 1, 1) := by decide +kernel
theorem dX6_pieceMany_6 : decode cX6_pieceMany 6 = .ok (.iconst 0, 1) := by decide +kernel
theorem dX6_pieceMany_7 : decode cX6_pieceMany 7 = .ok (.istore_n 2, 1) := by decide +kernel
theorem dX6_pieceMany_8 : decode cX6_pieceMany 8 = .ok (.iload_n 2, 1) := by decide +kernel
theorem dX6_pieceMany_9 : decode cX6_pieceMany 9 = .ok (.bipush 64, 2) := by decide +kernel
theorem dX6_pieceMany_11 : decode cX6_pieceMany 11 = .ok (.if_icmp .ge 25, 3) := by decide +kernel
theorem dX6_pieceMany_14 : decode cX6_pieceMany 14 = .ok (.iload_n 1, 1) := by decide +kernel
theorem dX6_pieceMany_15 : decode cX6_pieceMany 15 = .ok (.aload_n 0, 1) := by decide +kernel
theorem dX6_pieceMany_16 : decode cX6_pieceMany 16 = .ok (.iload_n 2, 1) := by decide +kernel
theorem dX6_pieceMany_17 : decode cX6_pieceMany 17 = .ok (.invokevirtual 120, 3) := by decide +kernel
theorem dX6_pieceMany_20 : decode cX6_pieceMany 20 = .ok (.ifCond .le 7, 3) := by decide +kernel
theorem dX6_pieceMany_23 : decode cX6_pieceMany 23 = .ok (.iconst 1, 1) := by decide +kernel
theorem dX6_pieceMany_24 : decode cX6_pieceMany 24 = .ok (.goto 4, 3) := by decide +kernel
theorem dX6_pieceMany_27 : decode cX6_pieceMany 27 = .ok (.iconst 0, 1) := by decide +kernel
theorem dX6_pieceMany_28 : decode cX6_pieceMany 28 = .ok (.iadd, 1) := by decide +kernel
theorem dX6_pieceMany_29 : decode cX6_pieceMany 29 = .ok (.istore_n 1, 1) := by decide +kernel
theorem dX6_pieceMany_30 : decode cX6_pieceMany 30 = .ok (.iinc 2 1, 3) := by decide +kernel
theorem dX6_pieceMany_33 : decode cX6_pieceMany 33 = .ok (.goto (-25), 3) := by decide +kernel
theorem dX6_pieceMany_36 : decode cX6_pieceMany 36 = .ok (.iload_n 1, 1) := by decide +kernel
theorem dX6_pieceMany_37 : decode cX6_pieceMany 37 = .ok (.ireturn, 1) := by decide +kernel
set_option maxRecDepth 20000 in
theorem ggX6_largest_X6_layPieces : GoodIn wsX6_largest wsX6_layPieces := goodIn_r _ [5, 6, 7, 8, 9, 4, 10, 11, 16, 17, 18, 19, 20, 21, 22, 23, 24, 25, 26, 27, 28, 29, 30, 31] (by decide +kernel) (by decide +kernel)
set_option maxRecDepth 20000 in
theorem gX6_largest_X6_layPieces : GoodIn wsX6_largest (wsV RX6 117 RX6 yX6_layPieces wsX6_layPieces) := goodIn_app (goodIn_of _ (by decide +kernel)) ggX6_largest_X6_layPieces
set_option maxRecDepth 20000 in
theorem ggX6_largest_X6_pieceSize : GoodIn wsX6_largest wsX6_pieceSize := goodIn_r _ [15, 11, 6, 16, 17, 18, 19, 20, 21, 22, 23, 24, 25, 26, 27, 28, 29, 30, 31] (by decide +kernel) (by decide +kernel)
set_option maxRecDepth 20000 in
theorem gX6_largest_X6_pieceSize : GoodIn wsX6_largest (wsV RX6 120 RX6 yX6_pieceSize wsX6_pieceSize) := goodIn_app (goodIn_of _ (by decide +kernel)) ggX6_largest_X6_pieceSize
theorem dX6_largest_0 : decode cX6_largest 0 = .ok (.aload_n 0, 1) := by decide +kernel
theorem dX6_largest_1 : decode cX6_largest 1 = .ok (.invokevirtual 117, 3) := by decide +kernel
theorem dX6_largest_4 : decode cX6_largest 4 = .ok (.iconst 0, 1) := by decide +kernel
theorem dX6_largest_5 : decode cX6_largest 5 = .ok (.istore_n 1, 1) := by decide +kernel
theorem dX6_largest_6 : decode cX6_largest 6 = .ok (.iconst 0, 1) := by decide +kernel
theorem dX6_largest_7 : decode cX6_largest 7 = .ok (.istore_n 2, 1) := by decide +kernel
theorem dX6_largest_8 : decode cX6_largest 8 = .ok (.iload_n 2, 1) := by decide +kernel
theorem dX6_largest_9 : decode cX6_largest 9 = .ok (.bipush 64, 2) := by decide +kernel
theorem dX6_largest_11 : decode cX6_largest 11 = .ok (.if_icmp .ge 26, 3) := by decide +kernel
theorem dX6_largest_14 : decode cX6_largest 14 = .ok (.aload_n 0, 1) := by decide +kernel
theorem dX6_largest_15 : decode cX6_largest 15 = .ok (.iload_n 2, 1) := by decide +kernel
theorem dX6_largest_16 : decode cX6_largest 16 = .ok (.invokevirtual 120, 3) := by decide +kernel
theorem dX6_largest_19 : decode cX6_largest 19 = .ok (.istore_n 3, 1) := by decide +kernel
theorem dX6_largest_20 : decode cX6_largest 20 = .ok (.iload_n 3, 1) := by decide +kernel
theorem dX6_largest_21 : decode cX6_largest 21 = .ok (.iload_n 1, 1) := by decide +kernel
theorem dX6_largest_22 : decode cX6_largest 22 = .ok (.if_icmp .le 7, 3) := by decide +kernel
theorem dX6_largest_25 : decode cX6_largest 25 = .ok (.iload_n 3, 1) := by decide +kernel
theorem dX6_largest_26 : decode cX6_largest 26 = .ok (.goto 4, 3) := by decide +kernel
theorem dX6_largest_29 : decode cX6_largest 29 = .ok (.iload_n 1, 1) := by decide +kernel
theorem dX6_largest_30 : decode cX6_largest 30 = .ok (.istore_n 1, 1) := by decide +kernel
theorem dX6_largest_31 : decode cX6_largest 31 = .ok (.iinc 2 1, 3) := by decide +kernel
theorem dX6_largest_34 : decode cX6_largest 34 = .ok (.goto (-26), 3) := by decide +kernel
theorem dX6_largest_37 : decode cX6_largest 37 = .ok (.iload_n 1, 1) := by decide +kernel
theorem dX6_largest_38 : decode cX6_largest 38 = .ok (.ireturn, 1) := by decide +kernel
set_option maxRecDepth 20000 in
theorem ggX6_count_X6_pieceMany : GoodIn wsX6_count wsX6_pieceMany := goodIn_r _ [6, 7, 8, 9, 5, 10, 11, 12, 13, 14, 15, 1, 16, 17, 18, 19, 28, 29, 30, 31, 32, 33, 34, 35, 36, 37, 38, 39, 40, 41, 42, 43] (by decide +kernel) (by decide +kernel)
set_option maxRecDepth 20000 in
theorem gX6_count_X6_pieceMany : GoodIn wsX6_count (wsV RX6 123 RX6 yX6_pieceMany wsX6_pieceMany) := goodIn_app (goodIn_of _ (by decide +kernel)) ggX6_count_X6_pieceMany
set_option maxRecDepth 20000 in
theorem ggX6_count_X6_largest : GoodIn wsX6_count wsX6_largest := goodIn_r _ [23, 7, 8, 9, 5, 10, 11, 12, 13, 14, 15, 1, 16, 17, 18, 19, 28, 29, 30, 31, 32, 33, 34, 35, 36, 37, 38, 39, 40, 41, 42, 43] (by decide +kernel) (by decide +kernel)
set_option maxRecDepth 20000 in
theorem gX6_count_X6_largest : GoodIn wsX6_count (wsV RX6 126 RX6 yX6_largest wsX6_largest) := goodIn_app (goodIn_of _ (by decide +kernel)) ggX6_count_X6_largest
set_option maxRecDepth 20000 in
theorem ggX6_count_X6_wanted : GoodIn wsX6_count wsX6_wanted := goodIn_r _ [27, 1, 28, 29, 30, 31, 32, 33, 34, 35, 36, 37, 38, 39, 40, 41, 42, 43] (by decide +kernel) (by decide +kernel)
set_option maxRecDepth 20000 in
theorem gX6_count_X6_wanted : GoodIn wsX6_count (wsV RX6 129 RX6 yX6_wanted wsX6_wanted) := goodIn_app (goodIn_of _ (by decide +kernel)) ggX6_count_X6_wanted
theorem dX6_count_0 : decode cX6_count 0 = .ok (.iconst 0, 1) := by decide +kernel
theorem dX6_count_1 : decode cX6_count 1 = .ok (.istore_n 2, 1) := by decide +kernel
theorem dX6_count_2 : decode cX6_count 2 = .ok (.iload_n 1, 1) := by decide +kernel
theorem dX6_count_3 : decode cX6_count 3 = .ok (.tableswitch 177 0 5 #[37, 65, 70, 75, 112, 136], 37) := by decide +kernel
theorem dX6_count_40 : decode cX6_count 40 = .ok (.iconst 0, 1) := by decide +kernel
theorem dX6_count_41 : decode cX6_count 41 = .ok (.istore_n 3, 1) := by decide +kernel
theorem dX6_count_42 : decode cX6_count 42 = .ok (.iload_n 3, 1) := by decide +kernel
theorem dX6_count_43 : decode cX6_count 43 = .ok (.bipush 64, 2) := by decide +kernel
theorem dX6_count_45 : decode cX6_count 45 = .ok (.if_icmp .ge 21, 3) := by decide +kernel
theorem dX6_count_48 : decode cX6_count 48 = .ok (.iload_n 2, 1) := by decide +kernel
theorem dX6_count_49 : decode cX6_count 49 = .ok (.aload_n 0, 1) := by decide +kernel
theorem dX6_count_50 : decode cX6_count 50 = .ok (.getfield 7, 3) := by decide +kernel
theorem dX6_count_53 : decode cX6_count 53 = .ok (.bipush 7, 2) := by decide +kernel
theorem dX6_count_55 : decode cX6_count 55 = .ok (.iload_n 3, 1) := by decide +kernel
theorem dX6_count_56 : decode cX6_count 56 = .ok (.iadd, 1) := by decide +kernel
theorem dX6_count_57 : decode cX6_count 57 = .ok (.iaload, 1) := by decide +kernel
theorem dX6_count_58 : decode cX6_count 58 = .ok (.iadd, 1) := by decide +kernel
theorem dX6_count_59 : decode cX6_count 59 = .ok (.istore_n 2, 1) := by decide +kernel
theorem dX6_count_60 : decode cX6_count 60 = .ok (.iinc 3 1, 3) := by decide +kernel
theorem dX6_count_63 : decode cX6_count 63 = .ok (.goto (-21), 3) := by decide +kernel
theorem dX6_count_66 : decode cX6_count 66 = .ok (.iload_n 2, 1) := by decide +kernel
theorem dX6_count_67 : decode cX6_count 67 = .ok (.ireturn, 1) := by decide +kernel
theorem dX6_count_68 : decode cX6_count 68 = .ok (.aload_n 0, 1) := by decide +kernel
theorem dX6_count_69 : decode cX6_count 69 = .ok (.invokevirtual 123, 3) := by decide +kernel
theorem dX6_count_72 : decode cX6_count 72 = .ok (.ireturn, 1) := by decide +kernel
theorem dX6_count_73 : decode cX6_count 73 = .ok (.aload_n 0, 1) := by decide +kernel
theorem dX6_count_74 : decode cX6_count 74 = .ok (.invokevirtual 126, 3) := by decide +kernel
theorem dX6_count_77 : decode cX6_count 77 = .ok (.ireturn, 1) := by decide +kernel
theorem dX6_count_78 : decode cX6_count 78 = .ok (.iconst 0, 1) := by decide +kernel
theorem dX6_count_79 : decode cX6_count 79 = .ok (.istore_n 3, 1) := by decide +kernel
theorem dX6_count_80 : decode cX6_count 80 = .ok (.iload_n 3, 1) := by decide +kernel
theorem dX6_count_81 : decode cX6_count 81 = .ok (.sipush 128, 3) := by decide +kernel
theorem dX6_count_84 : decode cX6_count 84 = .ok (.if_icmp .ge 29, 3) := by decide +kernel
theorem dX6_count_87 : decode cX6_count 87 = .ok (.iload_n 2, 1) := by decide +kernel
theorem dX6_count_88 : decode cX6_count 88 = .ok (.aload_n 0, 1) := by decide +kernel
theorem dX6_count_89 : decode cX6_count 89 = .ok (.getfield 7, 3) := by decide +kernel
theorem dX6_count_92 : decode cX6_count 92 = .ok (.bipush 71, 2) := by decide +kernel
theorem dX6_count_94 : decode cX6_count 94 = .ok (.iload_n 3, 1) := by decide +kernel
theorem dX6_count_95 : decode cX6_count 95 = .ok (.iadd, 1) := by decide +kernel
theorem dX6_count_96 : decode cX6_count 96 = .ok (.iaload, 1) := by decide +kernel
theorem dX6_count_97 : decode cX6_count 97 = .ok (.ifCond .ne 7, 3) := by decide +kernel
theorem dX6_count_100 : decode cX6_count 100 = .ok (.iconst 0, 1) := by decide +kernel
theorem dX6_count_101 : decode cX6_count 101 = .ok (.goto 4, 3) := by decide +kernel
theorem dX6_count_104 : decode cX6_count 104 = .ok (.iconst 1, 1) := by decide +kernel
theorem dX6_count_105 : decode cX6_count 105 = .ok (.iadd, 1) := by decide +kernel
theorem dX6_count_106 : decode cX6_count 106 = .ok (.istore_n 2, 1) := by decide +kernel
theorem dX6_count_107 : decode cX6_count 107 = .ok (.iinc 3 1, 3) := by decide +kernel
theorem dX6_count_110 : decode cX6_count 110 = .ok (.goto (-30), 3) := by decide +kernel
theorem dX6_count_113 : decode cX6_count 113 = .ok (.iload_n 2, 1) := by decide +kernel
theorem dX6_count_114 : decode cX6_count 114 = .ok (.ireturn, 1) := by decide +kernel
theorem dX6_count_115 : decode cX6_count 115 = .ok (.iconst 0, 1) := by decide +kernel
theorem dX6_count_116 : decode cX6_count 116 = .ok (.istore_n 3, 1) := by decide +kernel
theorem dX6_count_117 : decode cX6_count 117 = .ok (.iload_n 3, 1) := by decide +kernel
theorem dX6_count_118 : decode cX6_count 118 = .ok (.bipush 64, 2) := by decide +kernel
theorem dX6_count_120 : decode cX6_count 120 = .ok (.if_icmp .ge 17, 3) := by decide +kernel
theorem dX6_count_123 : decode cX6_count 123 = .ok (.iload_n 2, 1) := by decide +kernel
theorem dX6_count_124 : decode cX6_count 124 = .ok (.aload_n 0, 1) := by decide +kernel
theorem dX6_count_125 : decode cX6_count 125 = .ok (.iload_n 3, 1) := by decide +kernel
theorem dX6_count_126 : decode cX6_count 126 = .ok (.invokevirtual 129, 3) := by decide +kernel
theorem dX6_count_129 : decode cX6_count 129 = .ok (.iadd, 1) := by decide +kernel
theorem dX6_count_130 : decode cX6_count 130 = .ok (.istore_n 2, 1) := by decide +kernel
theorem dX6_count_131 : decode cX6_count 131 = .ok (.iinc 3 1, 3) := by decide +kernel
theorem dX6_count_134 : decode cX6_count 134 = .ok (.goto (-17), 3) := by decide +kernel
theorem dX6_count_137 : decode cX6_count 137 = .ok (.iload_n 2, 1) := by decide +kernel
theorem dX6_count_138 : decode cX6_count 138 = .ok (.ireturn, 1) := by decide +kernel
theorem dX6_count_139 : decode cX6_count 139 = .ok (.iconst 0, 1) := by decide +kernel
theorem dX6_count_140 : decode cX6_count 140 = .ok (.istore_n 3, 1) := by decide +kernel
theorem dX6_count_141 : decode cX6_count 141 = .ok (.iload_n 3, 1) := by decide +kernel
theorem dX6_count_142 : decode cX6_count 142 = .ok (.bipush 64, 2) := by decide +kernel
theorem dX6_count_144 : decode cX6_count 144 = .ok (.if_icmp .ge 34, 3) := by decide +kernel
theorem dX6_count_147 : decode cX6_count 147 = .ok (.iload_n 2, 1) := by decide +kernel
theorem dX6_count_148 : decode cX6_count 148 = .ok (.aload_n 0, 1) := by decide +kernel
theorem dX6_count_149 : decode cX6_count 149 = .ok (.iload_n 3, 1) := by decide +kernel
theorem dX6_count_150 : decode cX6_count 150 = .ok (.invokevirtual 129, 3) := by decide +kernel
theorem dX6_count_153 : decode cX6_count 153 = .ok (.aload_n 0, 1) := by decide +kernel
theorem dX6_count_154 : decode cX6_count 154 = .ok (.getfield 7, 3) := by decide +kernel
theorem dX6_count_157 : decode cX6_count 157 = .ok (.bipush 7, 2) := by decide +kernel
theorem dX6_count_159 : decode cX6_count 159 = .ok (.iload_n 3, 1) := by decide +kernel
theorem dX6_count_160 : decode cX6_count 160 = .ok (.iadd, 1) := by decide +kernel
theorem dX6_count_161 : decode cX6_count 161 = .ok (.iaload, 1) := by decide +kernel
theorem dX6_count_162 : decode cX6_count 162 = .ok (.if_icmp .ne 7, 3) := by decide +kernel
theorem dX6_count_165 : decode cX6_count 165 = .ok (.iconst 0, 1) := by decide +kernel
theorem dX6_count_166 : decode cX6_count 166 = .ok (.goto 4, 3) := by decide +kernel
theorem dX6_count_169 : decode cX6_count 169 = .ok (.iconst 1, 1) := by decide +kernel
theorem dX6_count_170 : decode cX6_count 170 = .ok (.iadd, 1) := by decide +kernel
theorem dX6_count_171 : decode cX6_count 171 = .ok (.istore_n 2, 1) := by decide +kernel
theorem dX6_count_172 : decode cX6_count 172 = .ok (.iinc 3 1, 3) := by decide +kernel
theorem dX6_count_175 : decode cX6_count 175 = .ok (.goto (-34), 3) := by decide +kernel
theorem dX6_count_178 : decode cX6_count 178 = .ok (.iload_n 2, 1) := by decide +kernel
theorem dX6_count_179 : decode cX6_count 179 = .ok (.ireturn, 1) := by decide +kernel
theorem dX6_count_180 : decode cX6_count 180 = .ok (.bipush (-2), 2) := by decide +kernel
theorem dX6_count_182 : decode cX6_count 182 = .ok (.ireturn, 1) := by decide +kernel
set_option maxRecDepth 20000 in
theorem ggX6_symmetries_X6_hole : GoodIn wsX6_symmetries wsX6_hole := goodIn_r _ [5, 6, 7, 8, 9, 10, 11, 12, 13, 14, 15, 16, 17, 18, 19, 20, 21, 22] (by decide +kernel) (by decide +kernel)
set_option maxRecDepth 20000 in
theorem gX6_symmetries_X6_hole : GoodIn wsX6_symmetries (wsV RX6 110 RX6 yX6_hole wsX6_hole) := goodIn_app (goodIn_of _ (by decide +kernel)) ggX6_symmetries_X6_hole
theorem dX6_symmetries_0 : decode cX6_symmetries 0 = .ok (.bipush 15, 2) := by decide +kernel
theorem dX6_symmetries_2 : decode cX6_symmetries 2 = .ok (.istore_n 1, 1) := by decide +kernel
theorem dX6_symmetries_3 : decode cX6_symmetries 3 = .ok (.iconst 0, 1) := by decide +kernel
theorem dX6_symmetries_4 : decode cX6_symmetries 4 = .ok (.istore_n 2, 1) := by decide +kernel
theorem dX6_symmetries_5 : decode cX6_symmetries 5 = .ok (.iload_n 2, 1) := by decide +kernel
theorem dX6_symmetries_6 : decode cX6_symmetries 6 = .ok (.bipush 8, 2) := by decide +kernel
theorem dX6_symmetries_8 : decode cX6_symmetries 8 = .ok (.if_icmp .ge 127, 3) := by decide +kernel
theorem dX6_symmetries_11 : decode cX6_symmetries 11 = .ok (.iconst 0, 1) := by decide +kernel
theorem dX6_symmetries_12 : decode cX6_symmetries 12 = .ok (.istore_n 3, 1) := by decide +kernel
theorem dX6_symmetries_13 : decode cX6_symmetries 13 = .ok (.iload_n 3, 1) := by decide +kernel
theorem dX6_symmetries_14 : decode cX6_symmetries 14 = .ok (.bipush 8, 2) := by decide +kernel
theorem dX6_symmetries_16 : decode cX6_symmetries 16 = .ok (.if_icmp .ge 113, 3) := by decide +kernel
theorem dX6_symmetries_19 : decode cX6_symmetries 19 = .ok (.aload_n 0, 1) := by decide +kernel
theorem dX6_symmetries_20 : decode cX6_symmetries 20 = .ok (.iload_n 3, 1) := by decide +kernel
theorem dX6_symmetries_21 : decode cX6_symmetries 21 = .ok (.iload_n 2, 1) := by decide +kernel
theorem dX6_symmetries_22 : decode cX6_symmetries 22 = .ok (.invokevirtual 110, 3) := by decide +kernel
theorem dX6_symmetries_25 : decode cX6_symmetries 25 = .ok (.istore 4, 2) := by decide +kernel
theorem dX6_symmetries_27 : decode cX6_symmetries 27 = .ok (.iload_n 1, 1) := by decide +kernel
theorem dX6_symmetries_28 : decode cX6_symmetries 28 = .ok (.aload_n 0, 1) := by decide +kernel
theorem dX6_symmetries_29 : decode cX6_symmetries 29 = .ok (.bipush 7, 2) := by decide +kernel
theorem dX6_symmetries_31 : decode cX6_symmetries 31 = .ok (.iload_n 3, 1) := by decide +kernel
theorem dX6_symmetries_32 : decode cX6_symmetries 32 = .ok (.isub, 1) := by decide +kernel
theorem dX6_symmetries_33 : decode cX6_symmetries 33 = .ok (.iload_n 2, 1) := by decide +kernel
theorem dX6_symmetries_34 : decode cX6_symmetries 34 = .ok (.invokevirtual 110, 3) := by decide +kernel
theorem dX6_symmetries_37 : decode cX6_symmetries 37 = .ok (.iload 4, 2) := by decide +kernel
theorem dX6_symmetries_39 : decode cX6_symmetries 39 = .ok (.if_icmp .ne 8, 3) := by decide +kernel
theorem dX6_symmetries_42 : decode cX6_symmetries 42 = .ok (.bipush 15, 2) := by decide +kernel
theorem dX6_symmetries_44 : decode cX6_symmetries 44 = .ok (.goto 5, 3) := by decide +kernel
theorem dX6_symmetries_47 : decode cX6_symmetries 47 = .ok (.bipush 14, 2) := by decide +kernel
theorem dX6_symmetries_49 : decode cX6_symmetries 49 = .ok (.iand, 1) := by decide +kernel
theorem dX6_symmetries_50 : decode cX6_symmetries 50 = .ok (.istore_n 1, 1) := by decide +kernel
theorem dX6_symmetries_51 : decode cX6_symmetries 51 = .ok (.iload_n 1, 1) := by decide +kernel
theorem dX6_symmetries_52 : decode cX6_symmetries 52 = .ok (.aload_n 0, 1) := by decide +kernel
theorem dX6_symmetries_53 : decode cX6_symmetries 53 = .ok (.iload_n 3, 1) := by decide +kernel
theorem dX6_symmetries_54 : decode cX6_symmetries 54 = .ok (.bipush 7, 2) := by decide +kernel
theorem dX6_symmetries_56 : decode cX6_symmetries 56 = .ok (.iload_n 2, 1) := by decide +kernel
theorem dX6_symmetries_57 : decode cX6_symmetries 57 = .ok (.isub, 1) := by decide +kernel
theorem dX6_symmetries_58 : decode cX6_symmetries 58 = .ok (.invokevirtual 110, 3) := by decide +kernel
theorem dX6_symmetries_61 : decode cX6_symmetries 61 = .ok (.iload 4, 2) := by decide +kernel
theorem dX6_symmetries_63 : decode cX6_symmetries 63 = .ok (.if_icmp .ne 8, 3) := by decide +kernel
theorem dX6_symmetries_66 : decode cX6_symmetries 66 = .ok (.bipush 15, 2) := by decide +kernel
theorem dX6_symmetries_68 : decode cX6_symmetries 68 = .ok (.goto 5, 3) := by decide +kernel
theorem dX6_symmetries_71 : decode cX6_symmetries 71 = .ok (.bipush 13, 2) := by decide +kernel
theorem dX6_symmetries_73 : decode cX6_symmetries 73 = .ok (.iand, 1) := by decide +kernel
theorem dX6_symmetries_74 : decode cX6_symmetries 74 = .ok (.istore_n 1, 1) := by decide +kernel
theorem dX6_symmetries_75 : decode cX6_symmetries 75 = .ok (.iload_n 1, 1) := by decide +kernel
theorem dX6_symmetries_76 : decode cX6_symmetries 76 = .ok (.aload_n 0, 1) := by decide +kernel
theorem dX6_symmetries_77 : decode cX6_symmetries 77 = .ok (.bipush 7, 2) := by decide +kernel
theorem dX6_symmetries_79 : decode cX6_symmetries 79 = .ok (.iload_n 3, 1) := by decide +kernel
theorem dX6_symmetries_80 : decode cX6_symmetries 80 = .ok (.isub, 1) := by decide +kernel
theorem dX6_symmetries_81 : decode cX6_symmetries 81 = .ok (.bipush 7, 2) := by decide +kernel
theorem dX6_symmetries_83 : decode cX6_symmetries 83 = .ok (.iload_n 2, 1) := by decide +kernel
theorem dX6_symmetries_84 : decode cX6_symmetries 84 = .ok (.isub, 1) := by decide +kernel
theorem dX6_symmetries_85 : decode cX6_symmetries 85 = .ok (.invokevirtual 110, 3) := by decide +kernel
theorem dX6_symmetries_88 : decode cX6_symmetries 88 = .ok (.iload 4, 2) := by decide +kernel
theorem dX6_symmetries_90 : decode cX6_symmetries 90 = .ok (.if_icmp .ne 8, 3) := by decide +kernel
theorem dX6_symmetries_93 : decode cX6_symmetries 93 = .ok (.bipush 15, 2) := by decide +kernel
theorem dX6_symmetries_95 : decode cX6_symmetries 95 = .ok (.goto 5, 3) := by decide +kernel
theorem dX6_symmetries_98 : decode cX6_symmetries 98 = .ok (.bipush 11, 2) := by decide +kernel
theorem dX6_symmetries_100 : decode cX6_symmetries 100 = .ok (.iand, 1) := by decide +kernel
theorem dX6_symmetries_101 : decode cX6_symmetries 101 = .ok (.istore_n 1, 1) := by decide +kernel
theorem dX6_symmetries_102 : decode cX6_symmetries 102 = .ok (.iload_n 1, 1) := by decide +kernel
theorem dX6_symmetries_103 : decode cX6_symmetries 103 = .ok (.aload_n 0, 1) := by decide +kernel
theorem dX6_symmetries_104 : decode cX6_symmetries 104 = .ok (.iload_n 2, 1) := by decide +kernel
theorem dX6_symmetries_105 : decode cX6_symmetries 105 = .ok (.iload_n 3, 1) := by decide +kernel
theorem dX6_symmetries_106 : decode cX6_symmetries 106 = .ok (.invokevirtual 110, 3) := by decide +kernel
theorem dX6_symmetries_109 : decode cX6_symmetries 109 = .ok (.iload 4, 2) := by decide +kernel
theorem dX6_symmetries_111 : decode cX6_symmetries 111 = .ok (.if_icmp .ne 8, 3) := by decide +kernel
theorem dX6_symmetries_114 : decode cX6_symmetries 114 = .ok (.bipush 15, 2) := by decide +kernel
theorem dX6_symmetries_116 : decode cX6_symmetries 116 = .ok (.goto 5, 3) := by decide +kernel
theorem dX6_symmetries_119 : decode cX6_symmetries 119 = .ok (.bipush 7, 2) := by decide +kernel
theorem dX6_symmetries_121 : decode cX6_symmetries 121 = .ok (.iand, 1) := by decide +kernel
theorem dX6_symmetries_122 : decode cX6_symmetries 122 = .ok (.istore_n 1, 1) := by decide +kernel
theorem dX6_symmetries_123 : decode cX6_symmetries 123 = .ok (.iinc 3 1, 3) := by decide +kernel
theorem dX6_symmetries_126 : decode cX6_symmetries 126 = .ok (.goto (-113), 3) := by decide +kernel
theorem dX6_symmetries_129 : decode cX6_symmetries 129 = .ok (.iinc 2 1, 3) := by decide +kernel
theorem dX6_symmetries_132 : decode cX6_symmetries 132 = .ok (.goto (-127), 3) := by decide +kernel
theorem dX6_symmetries_135 : decode cX6_symmetries 135 = .ok (.iload_n 1, 1) := by decide +kernel
theorem dX6_symmetries_136 : decode cX6_symmetries 136 = .ok (.ireturn, 1) := by decide +kernel
set_option maxRecDepth 20000 in
theorem ggX6_aim_X6_in : GoodIn wsX6_aim wsX6_in := goodIn_r _ [5] (by decide +kernel) (by decide +kernel)
set_option maxRecDepth 20000 in
theorem gX6_aim_X6_in : GoodIn wsX6_aim (va_wsS RX6 74 yX6_in wsX6_in) := goodIn_app (goodIn_of _ (by decide +kernel)) ggX6_aim_X6_in
set_option maxRecDepth 20000 in
theorem ggX6_aim_X6_record : GoodIn wsX6_aim wsX6_record := goodIn_r _ [9, 10, 11, 1, 12, 13, 14, 15, 16, 17, 18, 19, 20, 21, 22, 23, 24, 25, 26, 27] (by decide +kernel) (by decide +kernel)
set_option maxRecDepth 20000 in
theorem gX6_aim_X6_record : GoodIn wsX6_aim (wsV RX6 43 RX6 yX6_record wsX6_record) := goodIn_app (goodIn_of _ (by decide +kernel)) ggX6_aim_X6_record
theorem dX6_aim_0 : decode cX6_aim 0 = .ok (.iload_n 1, 1) := by decide +kernel
theorem dX6_aim_1 : decode cX6_aim 1 = .ok (.iconst 0, 1) := by decide +kernel
theorem dX6_aim_2 : decode cX6_aim 2 = .ok (.bipush 7, 2) := by decide +kernel
theorem dX6_aim_4 : decode cX6_aim 4 = .ok (.invokestatic 74, 3) := by decide +kernel
theorem dX6_aim_7 : decode cX6_aim 7 = .ok (.ifCond .ne 5, 3) := by decide +kernel
theorem dX6_aim_10 : decode cX6_aim 10 = .ok (.iconst (-1), 1) := by decide +kernel
theorem dX6_aim_11 : decode cX6_aim 11 = .ok (.ireturn, 1) := by decide +kernel
theorem dX6_aim_12 : decode cX6_aim 12 = .ok (.iload_n 2, 1) := by decide +kernel
theorem dX6_aim_13 : decode cX6_aim 13 = .ok (.iconst 0, 1) := by decide +kernel
theorem dX6_aim_14 : decode cX6_aim 14 = .ok (.sipush 255, 3) := by decide +kernel
theorem dX6_aim_17 : decode cX6_aim 17 = .ok (.invokestatic 74, 3) := by decide +kernel
theorem dX6_aim_20 : decode cX6_aim 20 = .ok (.ifCond .ne 6, 3) := by decide +kernel
theorem dX6_aim_23 : decode cX6_aim 23 = .ok (.bipush (-2), 2) := by decide +kernel
theorem dX6_aim_25 : decode cX6_aim 25 = .ok (.ireturn, 1) := by decide +kernel
theorem dX6_aim_26 : decode cX6_aim 26 = .ok (.aload_n 0, 1) := by decide +kernel
theorem dX6_aim_27 : decode cX6_aim 27 = .ok (.invokevirtual 43, 3) := by decide +kernel
theorem dX6_aim_30 : decode cX6_aim 30 = .ok (.aload_n 0, 1) := by decide +kernel
theorem dX6_aim_31 : decode cX6_aim 31 = .ok (.getfield 7, 3) := by decide +kernel
theorem dX6_aim_34 : decode cX6_aim 34 = .ok (.sipush 199, 3) := by decide +kernel
theorem dX6_aim_37 : decode cX6_aim 37 = .ok (.iload_n 1, 1) := by decide +kernel
theorem dX6_aim_38 : decode cX6_aim 38 = .ok (.iadd, 1) := by decide +kernel
theorem dX6_aim_39 : decode cX6_aim 39 = .ok (.iaload, 1) := by decide +kernel
theorem dX6_aim_40 : decode cX6_aim 40 = .ok (.istore_n 3, 1) := by decide +kernel
theorem dX6_aim_41 : decode cX6_aim 41 = .ok (.aload_n 0, 1) := by decide +kernel
theorem dX6_aim_42 : decode cX6_aim 42 = .ok (.getfield 7, 3) := by decide +kernel
theorem dX6_aim_45 : decode cX6_aim 45 = .ok (.sipush 199, 3) := by decide +kernel
theorem dX6_aim_48 : decode cX6_aim 48 = .ok (.iload_n 1, 1) := by decide +kernel
theorem dX6_aim_49 : decode cX6_aim 49 = .ok (.iadd, 1) := by decide +kernel
theorem dX6_aim_50 : decode cX6_aim 50 = .ok (.iload_n 2, 1) := by decide +kernel
theorem dX6_aim_51 : decode cX6_aim 51 = .ok (.iastore, 1) := by decide +kernel
theorem dX6_aim_52 : decode cX6_aim 52 = .ok (.iload_n 3, 1) := by decide +kernel
theorem dX6_aim_53 : decode cX6_aim 53 = .ok (.ireturn, 1) := by decide +kernel
set_option maxRecDepth 20000 in
theorem ggX6_aimHere_X6_record : GoodIn wsX6_aimHere wsX6_record := goodIn_r _ [6, 7, 8, 1, 49, 50, 51, 52, 53, 54, 55, 56, 57, 58, 59, 60, 61, 62, 63, 64] (by decide +kernel) (by decide +kernel)
set_option maxRecDepth 20000 in
theorem gX6_aimHere_X6_record : GoodIn wsX6_aimHere (wsV RX6 43 RX6 yX6_record wsX6_record) := goodIn_app (goodIn_of _ (by decide +kernel)) ggX6_aimHere_X6_record
set_option maxRecDepth 20000 in
theorem ggX6_aimHere_X6_holes : GoodIn wsX6_aimHere wsX6_holes := goodIn_r _ [12, 13, 14, 5, 15, 16, 17, 18, 19, 1, 49, 50, 51, 52, 53, 54, 55, 56, 57, 58, 59, 60, 61, 62, 63, 64] (by decide +kernel) (by decide +kernel)
set_option maxRecDepth 20000 in
theorem gX6_aimHere_X6_holes : GoodIn wsX6_aimHere (wsV RX6 132 RX6 yX6_holes wsX6_holes) := goodIn_app (goodIn_of _ (by decide +kernel)) ggX6_aimHere_X6_holes
set_option maxRecDepth 20000 in
theorem ggX6_aimHere_X6_count : GoodIn wsX6_aimHere wsX6_count := goodIn_r _ [23, 1, 24, 25, 26, 5, 27, 28, 29, 30, 31, 32, 33, 34, 35, 36, 37, 38, 39, 40, 41, 42, 43, 44, 45, 46, 47, 48, 49, 50, 51, 52, 53, 54, 55, 56, 57, 58, 59, 60, 61, 62, 63, 64] (by decide +kernel) (by decide +kernel)
set_option maxRecDepth 20000 in
theorem gX6_aimHere_X6_count : GoodIn wsX6_aimHere (wsV RX6 135 RX6 yX6_count wsX6_count) := goodIn_app (goodIn_of _ (by decide +kernel)) ggX6_aimHere_X6_count
theorem dX6_aimHere_0 : decode cX6_aimHere 0 = .ok (.aload_n 0, 1) := by decide +kernel
theorem dX6_aimHere_1 : decode cX6_aimHere 1 = .ok (.invokevirtual 43, 3) := by decide +kernel
theorem dX6_aimHere_4 : decode cX6_aimHere 4 = .ok (.iconst 0, 1) := by decide +kernel
theorem dX6_aimHere_5 : decode cX6_aimHere 5 = .ok (.istore_n 1, 1) := by decide +kernel
theorem dX6_aimHere_6 : decode cX6_aimHere 6 = .ok (.iload_n 1, 1) := by decide +kernel
theorem dX6_aimHere_7 : decode cX6_aimHere 7 = .ok (.bipush 8, 2) := by decide +kernel
theorem dX6_aimHere_9 : decode cX6_aimHere 9 = .ok (.if_icmp .ge 24, 3) := by decide +kernel
theorem dX6_aimHere_12 : decode cX6_aimHere 12 = .ok (.aload_n 0, 1) := by decide +kernel
theorem dX6_aimHere_13 : decode cX6_aimHere 13 = .ok (.getfield 7, 3) := by decide +kernel
theorem dX6_aimHere_16 : decode cX6_aimHere 16 = .ok (.sipush 199, 3) := by decide +kernel
theorem dX6_aimHere_19 : decode cX6_aimHere 19 = .ok (.iload_n 1, 1) := by decide +kernel
theorem dX6_aimHere_20 : decode cX6_aimHere 20 = .ok (.iadd, 1) := by decide +kernel
theorem dX6_aimHere_21 : decode cX6_aimHere 21 = .ok (.aload_n 0, 1) := by decide +kernel
theorem dX6_aimHere_22 : decode cX6_aimHere 22 = .ok (.iload_n 1, 1) := by decide +kernel
theorem dX6_aimHere_23 : decode cX6_aimHere 23 = .ok (.invokevirtual 132, 3) := by decide +kernel
theorem dX6_aimHere_26 : decode cX6_aimHere 26 = .ok (.iastore, 1) := by decide +kernel
theorem dX6_aimHere_27 : decode cX6_aimHere 27 = .ok (.iinc 1 1, 3) := by decide +kernel
theorem dX6_aimHere_30 : decode cX6_aimHere 30 = .ok (.goto (-24), 3) := by decide +kernel
theorem dX6_aimHere_33 : decode cX6_aimHere 33 = .ok (.aload_n 0, 1) := by decide +kernel
theorem dX6_aimHere_34 : decode cX6_aimHere 34 = .ok (.iconst 4, 1) := by decide +kernel
theorem dX6_aimHere_35 : decode cX6_aimHere 35 = .ok (.invokevirtual 135, 3) := by decide +kernel
theorem dX6_aimHere_38 : decode cX6_aimHere 38 = .ok (.ireturn, 1) := by decide +kernel
set_option maxRecDepth 20000 in
theorem ggX6_target_X6_in : GoodIn wsX6_target wsX6_in := goodIn_r _ [5] (by decide +kernel) (by decide +kernel)
set_option maxRecDepth 20000 in
theorem gX6_target_X6_in : GoodIn wsX6_target (va_wsS RX6 74 yX6_in wsX6_in) := goodIn_app (goodIn_of _ (by decide +kernel)) ggX6_target_X6_in
theorem dX6_target_0 : decode cX6_target 0 = .ok (.iload_n 1, 1) := by decide +kernel
theorem dX6_target_1 : decode cX6_target 1 = .ok (.iconst 0, 1) := by decide +kernel
theorem dX6_target_2 : decode cX6_target 2 = .ok (.bipush 7, 2) := by decide +kernel
theorem dX6_target_4 : decode cX6_target 4 = .ok (.invokestatic 74, 3) := by decide +kernel
theorem dX6_target_7 : decode cX6_target 7 = .ok (.ifCond .eq 16, 3) := by decide +kernel
theorem dX6_target_10 : decode cX6_target 10 = .ok (.aload_n 0, 1) := by decide +kernel
theorem dX6_target_11 : decode cX6_target 11 = .ok (.getfield 7, 3) := by decide +kernel
theorem dX6_target_14 : decode cX6_target 14 = .ok (.sipush 199, 3) := by decide +kernel
theorem dX6_target_17 : decode cX6_target 17 = .ok (.iload_n 1, 1) := by decide +kernel
theorem dX6_target_18 : decode cX6_target 18 = .ok (.iadd, 1) := by decide +kernel
theorem dX6_target_19 : decode cX6_target 19 = .ok (.iaload, 1) := by decide +kernel
theorem dX6_target_20 : decode cX6_target 20 = .ok (.goto 4, 3) := by decide +kernel
theorem dX6_target_23 : decode cX6_target 23 = .ok (.iconst (-1), 1) := by decide +kernel
theorem dX6_target_24 : decode cX6_target 24 = .ok (.ireturn, 1) := by decide +kernel
set_option maxRecDepth 20000 in
theorem ggX6_fieldsWanted_X6_layers : GoodIn wsX6_fieldsWanted wsX6_layers := goodIn_r _ [8, 1, 2, 14, 15, 16, 17, 18, 19, 20, 21, 22, 23, 24, 25, 26, 27, 28, 29] (by decide +kernel) (by decide +kernel)
set_option maxRecDepth 20000 in
theorem gX6_fieldsWanted_X6_layers : GoodIn wsX6_fieldsWanted (wsV RX6 56 RX6 yX6_layers wsX6_layers) := goodIn_app (goodIn_of _ (by decide +kernel)) ggX6_fieldsWanted_X6_layers
set_option maxRecDepth 20000 in
theorem ggX6_fieldsWanted_X6_wanted : GoodIn wsX6_fieldsWanted wsX6_wanted := goodIn_r _ [12, 13, 14, 15, 16, 17, 18, 19, 20, 21, 22, 23, 24, 25, 26, 27, 28, 29] (by decide +kernel) (by decide +kernel)
set_option maxRecDepth 20000 in
theorem gX6_fieldsWanted_X6_wanted : GoodIn wsX6_fieldsWanted (wsV RX6 129 RX6 yX6_wanted wsX6_wanted) := goodIn_app (goodIn_of _ (by decide +kernel)) ggX6_fieldsWanted_X6_wanted
theorem dX6_fieldsWanted_0 : decode cX6_fieldsWanted 0 = .ok (.aload_n 0, 1) := by decide +kernel
theorem dX6_fieldsWanted_1 : decode cX6_fieldsWanted 1 = .ok (.invokevirtual 56, 3) := by decide +kernel
theorem dX6_fieldsWanted_4 : decode cX6_fieldsWanted 4 = .ok (.istore_n 1, 1) := by decide +kernel
theorem dX6_fieldsWanted_5 : decode cX6_fieldsWanted 5 = .ok (.iconst 0, 1) := by decide +kernel
