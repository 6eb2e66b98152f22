theorem dX6_init_0 : decode cX6_init 0 = .ok (.aload_n 0, 1) := by decide +kernel
theorem dX6_init_1 : decode cX6_init 1 = .ok (.invokespecial 1, 3) := by decide +kernel
theorem dX6_init_4 : decode cX6_init 4 = .ok (.aload_n 0, 1) := by decide +kernel
theorem dX6_init_5 : decode cX6_init 5 = .ok (.sipush 207, 3) := by decide +kernel
theorem dX6_init_8 : decode cX6_init 8 = .ok (.newarray .int, 2) := by decide +kernel
theorem dX6_init_10 : decode cX6_init 10 = .ok (.putfield 7, 3) := by decide +kernel
theorem dX6_init_13 : decode cX6_init 13 = .ok (.aload_n 0, 1) := by decide +kernel
theorem dX6_init_14 : decode cX6_init 14 = .ok (.sipush 1035, 3) := by decide +kernel
theorem dX6_init_17 : decode cX6_init 17 = .ok (.newarray .int, 2) := by decide +kernel
theorem dX6_init_19 : decode cX6_init 19 = .ok (.putfield 13, 3) := by decide +kernel
theorem dX6_init_22 : decode cX6_init 22 = .ok (.aload_n 0, 1) := by decide +kernel
theorem dX6_init_23 : decode cX6_init 23 = .ok (.sipush 207, 3) := by decide +kernel
theorem dX6_init_26 : decode cX6_init 26 = .ok (.newarray .int, 2) := by decide +kernel
theorem dX6_init_28 : decode cX6_init 28 = .ok (.putfield 16, 3) := by decide +kernel
theorem dX6_init_31 : decode cX6_init 31 = .ok (.aload_n 0, 1) := by decide +kernel
theorem dX6_init_32 : decode cX6_init 32 = .ok (.bipush 60, 2) := by decide +kernel
theorem dX6_init_34 : decode cX6_init 34 = .ok (.newarray .char, 2) := by decide +kernel
theorem dX6_init_36 : decode cX6_init 36 = .ok (.putfield 19, 3) := by decide +kernel
theorem dX6_init_39 : decode cX6_init 39 = .ok (.aload_n 0, 1) := by decide +kernel
theorem dX6_init_40 : decode cX6_init 40 = .ok (.bipush 64, 2) := by decide +kernel
theorem dX6_init_42 : decode cX6_init 42 = .ok (.newarray .int, 2) := by decide +kernel
theorem dX6_init_44 : decode cX6_init 44 = .ok (.putfield 23, 3) := by decide +kernel
theorem dX6_init_47 : decode cX6_init 47 = .ok (.aload_n 0, 1) := by decide +kernel
theorem dX6_init_48 : decode cX6_init 48 = .ok (.bipush 64, 2) := by decide +kernel
theorem dX6_init_50 : decode cX6_init 50 = .ok (.newarray .int, 2) := by decide +kernel
theorem dX6_init_52 : decode cX6_init 52 = .ok (.putfield 26, 3) := by decide +kernel
theorem dX6_init_55 : decode cX6_init 55 = .ok (.aload_n 0, 1) := by decide +kernel
theorem dX6_init_56 : decode cX6_init 56 = .ok (.bipush 64, 2) := by decide +kernel
theorem dX6_init_58 : decode cX6_init 58 = .ok (.newarray .int, 2) := by decide +kernel
theorem dX6_init_60 : decode cX6_init 60 = .ok (.putfield 29, 3) := by decide +kernel
theorem dX6_init_63 : decode cX6_init 63 = .ok (.aload_n 0, 1) := by decide +kernel
theorem dX6_init_64 : decode cX6_init 64 = .ok (.sipush 240, 3) := by decide +kernel
theorem dX6_init_67 : decode cX6_init 67 = .ok (.newarray .int, 2) := by decide +kernel
theorem dX6_init_69 : decode cX6_init 69 = .ok (.putfield 32, 3) := by decide +kernel
theorem dX6_init_72 : decode cX6_init 72 = .ok (.return_, 1) := by decide +kernel
theorem dX6_in_0 : decode cX6_in 0 = .ok (.iload_n 0, 1) := by decide +kernel
theorem dX6_in_1 : decode cX6_in 1 = .ok (.iload_n 1, 1) := by decide +kernel
theorem dX6_in_2 : decode cX6_in 2 = .ok (.if_icmp .lt 12, 3) := by decide +kernel
theorem dX6_in_5 : decode cX6_in 5 = .ok (.iload_n 0, 1) := by decide +kernel
theorem dX6_in_6 : decode cX6_in 6 = .ok (.iload_n 2, 1) := by decide +kernel
theorem dX6_in_7 : decode cX6_in 7 = .ok (.if_icmp .gt 7, 3) := by decide +kernel
theorem dX6_in_10 : decode cX6_in 10 = .ok (.iconst 1, 1) := by decide +kernel
theorem dX6_in_11 : decode cX6_in 11 = .ok (.goto 4, 3) := by decide +kernel
theorem dX6_in_14 : decode cX6_in 14 = .ok (.iconst 0, 1) := by decide +kernel
theorem dX6_in_15 : decode cX6_in 15 = .ok (.ireturn, 1) := by decide +kernel
theorem dX6_record_0 : decode cX6_record 0 = .ok (.aload_n 0, 1) := by decide +kernel
theorem dX6_record_1 : decode cX6_record 1 = .ok (.getfield 35, 3) := by decide +kernel
theorem dX6_record_4 : decode cX6_record 4 = .ok (.iconst 5, 1) := by decide +kernel
theorem dX6_record_5 : decode cX6_record 5 = .ok (.if_icmp .ne 44, 3) := by decide +kernel
theorem dX6_record_8 : decode cX6_record 8 = .ok (.iconst 0, 1) := by decide +kernel
theorem dX6_record_9 : decode cX6_record 9 = .ok (.istore_n 1, 1) := by decide +kernel
theorem dX6_record_10 : decode cX6_record 10 = .ok (.iload_n 1, 1) := by decide +kernel
theorem dX6_record_11 : decode cX6_record 11 = .ok (.sipush 828, 3) := by decide +kernel
theorem dX6_record_14 : decode cX6_record 14 = .ok (.if_icmp .ge 25, 3) := by decide +kernel
theorem dX6_record_17 : decode cX6_record 17 = .ok (.aload_n 0, 1) := by decide +kernel
theorem dX6_record_18 : decode cX6_record 18 = .ok (.getfield 13, 3) := by decide +kernel
theorem dX6_record_21 : decode cX6_record 21 = .ok (.iload_n 1, 1) := by decide +kernel
theorem dX6_record_22 : decode cX6_record 22 = .ok (.aload_n 0, 1) := by decide +kernel
theorem dX6_record_23 : decode cX6_record 23 = .ok (.getfield 13, 3) := by decide +kernel
theorem dX6_record_26 : decode cX6_record 26 = .ok (.iload_n 1, 1) := by decide +kernel
theorem dX6_record_27 : decode cX6_record 27 = .ok (.sipush 207, 3) := by decide +kernel
theorem dX6_record_30 : decode cX6_record 30 = .ok (.iadd, 1) := by decide +kernel
theorem dX6_record_31 : decode cX6_record 31 = .ok (.iaload, 1) := by decide +kernel
theorem dX6_record_32 : decode cX6_record 32 = .ok (.iastore, 1) := by decide +kernel
theorem dX6_record_33 : decode cX6_record 33 = .ok (.iinc 1 1, 3) := by decide +kernel
theorem dX6_record_36 : decode cX6_record 36 = .ok (.goto (-26), 3) := by decide +kernel
theorem dX6_record_39 : decode cX6_record 39 = .ok (.aload_n 0, 1) := by decide +kernel
theorem dX6_record_40 : decode cX6_record 40 = .ok (.dup, 1) := by decide +kernel
theorem dX6_record_41 : decode cX6_record 41 = .ok (.getfield 35, 3) := by decide +kernel
theorem dX6_record_44 : decode cX6_record 44 = .ok (.iconst 1, 1) := by decide +kernel
theorem dX6_record_45 : decode cX6_record 45 = .ok (.isub, 1) := by decide +kernel
theorem dX6_record_46 : decode cX6_record 46 = .ok (.putfield 35, 3) := by decide +kernel
theorem dX6_record_49 : decode cX6_record 49 = .ok (.iconst 0, 1) := by decide +kernel
theorem dX6_record_50 : decode cX6_record 50 = .ok (.istore_n 1, 1) := by decide +kernel
theorem dX6_record_51 : decode cX6_record 51 = .ok (.iload_n 1, 1) := by decide +kernel
theorem dX6_record_52 : decode cX6_record 52 = .ok (.sipush 207, 3) := by decide +kernel
theorem dX6_record_55 : decode cX6_record 55 = .ok (.if_icmp .ge 30, 3) := by decide +kernel
theorem dX6_record_58 : decode cX6_record 58 = .ok (.aload_n 0, 1) := by decide +kernel
theorem dX6_record_59 : decode cX6_record 59 = .ok (.getfield 13, 3) := by decide +kernel
theorem dX6_record_62 : decode cX6_record 62 = .ok (.aload_n 0, 1) := by decide +kernel
theorem dX6_record_63 : decode cX6_record 63 = .ok (.getfield 35, 3) := by decide +kernel
theorem dX6_record_66 : decode cX6_record 66 = .ok (.sipush 207, 3) := by decide +kernel
theorem dX6_record_69 : decode cX6_record 69 = .ok (.imul, 1) := by decide +kernel
theorem dX6_record_70 : decode cX6_record 70 = .ok (.iload_n 1, 1) := by decide +kernel
theorem dX6_record_71 : decode cX6_record 71 = .ok (.iadd, 1) := by decide +kernel
theorem dX6_record_72 : decode cX6_record 72 = .ok (.aload_n 0, 1) := by decide +kernel
theorem dX6_record_73 : decode cX6_record 73 = .ok (.getfield 7, 3) := by decide +kernel
theorem dX6_record_76 : decode cX6_record 76 = .ok (.iload_n 1, 1) := by decide +kernel
theorem dX6_record_77 : decode cX6_record 77 = .ok (.iaload, 1) := by decide +kernel
theorem dX6_record_78 : decode cX6_record 78 = .ok (.iastore, 1) := by decide +kernel
theorem dX6_record_79 : decode cX6_record 79 = .ok (.iinc 1 1, 3) := by decide +kernel
theorem dX6_record_82 : decode cX6_record 82 = .ok (.goto (-31), 3) := by decide +kernel
theorem dX6_record_85 : decode cX6_record 85 = .ok (.aload_n 0, 1) := by decide +kernel
theorem dX6_record_86 : decode cX6_record 86 = .ok (.dup, 1) := by decide +kernel
theorem dX6_record_87 : decode cX6_record 87 = .ok (.getfield 35, 3) := by decide +kernel
theorem dX6_record_90 : decode cX6_record 90 = .ok (.iconst 1, 1) := by decide +kernel
theorem dX6_record_91 : decode cX6_record 91 = .ok (.iadd, 1) := by decide +kernel
theorem dX6_record_92 : decode cX6_record 92 = .ok (.putfield 35, 3) := by decide +kernel
theorem dX6_record_95 : decode cX6_record 95 = .ok (.return_, 1) := by decide +kernel
theorem dX6_undo_0 : decode cX6_undo 0 = .ok (.aload_n 0, 1) := by decide +kernel
theorem dX6_undo_1 : decode cX6_undo 1 = .ok (.getfield 35, 3) := by decide +kernel
theorem dX6_undo_4 : decode cX6_undo 4 = .ok (.ifCond .ne 6, 3) := by decide +kernel
theorem dX6_undo_7 : decode cX6_undo 7 = .ok (.bipush (-3), 2) := by decide +kernel
theorem dX6_undo_9 : decode cX6_undo 9 = .ok (.ireturn, 1) := by decide +kernel
theorem dX6_undo_10 : decode cX6_undo 10 = .ok (.aload_n 0, 1) := by decide +kernel
theorem dX6_undo_11 : decode cX6_undo 11 = .ok (.dup, 1) := by decide +kernel
theorem dX6_undo_12 : decode cX6_undo 12 = .ok (.getfield 35, 3) := by decide +kernel
theorem dX6_undo_15 : decode cX6_undo 15 = .ok (.iconst 1, 1) := by decide +kernel
theorem dX6_undo_16 : decode cX6_undo 16 = .ok (.isub, 1) := by decide +kernel
theorem dX6_undo_17 : decode cX6_undo 17 = .ok (.putfield 35, 3) := by decide +kernel
theorem dX6_undo_20 : decode cX6_undo 20 = .ok (.iconst 0, 1) := by decide +kernel
theorem dX6_undo_21 : decode cX6_undo 21 = .ok (.istore_n 1, 1) := by decide +kernel
theorem dX6_undo_22 : decode cX6_undo 22 = .ok (.iload_n 1, 1) := by decide +kernel
theorem dX6_undo_23 : decode cX6_undo 23 = .ok (.sipush 207, 3) := by decide +kernel
theorem dX6_undo_26 : decode cX6_undo 26 = .ok (.if_icmp .ge 30, 3) := by decide +kernel
theorem dX6_undo_29 : decode cX6_undo 29 = .ok (.aload_n 0, 1) := by decide +kernel
theorem dX6_undo_30 : decode cX6_undo 30 = .ok (.getfield 7, 3) := by decide +kernel
theorem dX6_undo_33 : decode cX6_undo 33 = .ok (.iload_n 1, 1) := by decide +kernel
theorem dX6_undo_34 : decode cX6_undo 34 = .ok (.aload_n 0, 1) := by decide +kernel
theorem dX6_undo_35 : decode cX6_undo 35 = .ok (.getfield 13, 3) := by decide +kernel
theorem dX6_undo_38 : decode cX6_undo 38 = .ok (.aload_n 0, 1) := by decide +kernel
theorem dX6_undo_39 : decode cX6_undo 39 = .ok (.getfield 35, 3) := by decide +kernel
theorem dX6_undo_42 : decode cX6_undo 42 = .ok (.sipush 207, 3) := by decide +kernel
theorem dX6_undo_45 : decode cX6_undo 45 = .ok (.imul, 1) := by decide +kernel
theorem dX6_undo_46 : decode cX6_undo 46 = .ok (.iload_n 1, 1) := by decide +kernel
theorem dX6_undo_47 : decode cX6_undo 47 = .ok (.iadd, 1) := by decide +kernel
theorem dX6_undo_48 : decode cX6_undo 48 = .ok (.iaload, 1) := by decide +kernel
theorem dX6_undo_49 : decode cX6_undo 49 = .ok (.iastore, 1) := by decide +kernel
theorem dX6_undo_50 : decode cX6_undo 50 = .ok (.iinc 1 1, 3) := by decide +kernel
theorem dX6_undo_53 : decode cX6_undo 53 = .ok (.goto (-31), 3) := by decide +kernel
theorem dX6_undo_56 : decode cX6_undo 56 = .ok (.aload_n 0, 1) := by decide +kernel
theorem dX6_undo_57 : decode cX6_undo 57 = .ok (.getfield 35, 3) := by decide +kernel
theorem dX6_undo_60 : decode cX6_undo 60 = .ok (.ireturn, 1) := by decide +kernel
theorem dX6_save_0 : decode cX6_save 0 = .ok (.aload_n 0, 1) := by decide +kernel
theorem dX6_save_1 : decode cX6_save 1 = .ok (.iconst 1, 1) := by decide +kernel
theorem dX6_save_2 : decode cX6_save 2 = .ok (.putfield 39, 3) := by decide +kernel
theorem dX6_save_5 : decode cX6_save 5 = .ok (.iconst 0, 1) := by decide +kernel
theorem dX6_save_6 : decode cX6_save 6 = .ok (.istore_n 1, 1) := by decide +kernel
theorem dX6_save_7 : decode cX6_save 7 = .ok (.iload_n 1, 1) := by decide +kernel
theorem dX6_save_8 : decode cX6_save 8 = .ok (.sipush 207, 3) := by decide +kernel
theorem dX6_save_11 : decode cX6_save 11 = .ok (.if_icmp .ge 21, 3) := by decide +kernel
theorem dX6_save_14 : decode cX6_save 14 = .ok (.aload_n 0, 1) := by decide +kernel
theorem dX6_save_15 : decode cX6_save 15 = .ok (.getfield 16, 3) := by decide +kernel
theorem dX6_save_18 : decode cX6_save 18 = .ok (.iload_n 1, 1) := by decide +kernel
theorem dX6_save_19 : decode cX6_save 19 = .ok (.aload_n 0, 1) := by decide +kernel
theorem dX6_save_20 : decode cX6_save 20 = .ok (.getfield 7, 3) := by decide +kernel
theorem dX6_save_23 : decode cX6_save 23 = .ok (.iload_n 1, 1) := by decide +kernel
theorem dX6_save_24 : decode cX6_save 24 = .ok (.iaload, 1) := by decide +kernel
theorem dX6_save_25 : decode cX6_save 25 = .ok (.iastore, 1) := by decide +kernel
theorem dX6_save_26 : decode cX6_save 26 = .ok (.iinc 1 1, 3) := by decide +kernel
theorem dX6_save_29 : decode cX6_save 29 = .ok (.goto (-22), 3) := by decide +kernel
theorem dX6_save_32 : decode cX6_save 32 = .ok (.aload_n 0, 1) := by decide +kernel
theorem dX6_save_33 : decode cX6_save 33 = .ok (.getfield 7, 3) := by decide +kernel
theorem dX6_save_36 : decode cX6_save 36 = .ok (.iconst 0, 1) := by decide +kernel
theorem dX6_save_37 : decode cX6_save 37 = .ok (.iaload, 1) := by decide +kernel
theorem dX6_save_38 : decode cX6_save 38 = .ok (.ireturn, 1) := by decide +kernel
set_option maxRecDepth 20000 in
theorem ggX6_restore_X6_record : GoodIn wsX6_restore wsX6_record := goodIn_r _ [8, 9, 10, 2, 11, 12, 13, 14, 15, 16, 17, 18, 19, 20, 21, 22, 23, 24, 25, 26] (by decide +kernel) (by decide +kernel)
set_option maxRecDepth 20000 in
theorem gX6_restore_X6_record : GoodIn wsX6_restore (wsV RX6 43 RX6 yX6_record wsX6_record) := goodIn_app (goodIn_of _ (by decide +kernel)) ggX6_restore_X6_record
theorem dX6_restore_0 : decode cX6_restore 0 = .ok (.aload_n 0, 1) := by decide +kernel
theorem dX6_restore_1 : decode cX6_restore 1 = .ok (.getfield 39, 3) := by decide +kernel
theorem dX6_restore_4 : decode cX6_restore 4 = .ok (.ifCond .ne 6, 3) := by decide +kernel
theorem dX6_restore_7 : decode cX6_restore 7 = .ok (.bipush (-3), 2) := by decide +kernel
theorem dX6_restore_9 : decode cX6_restore 9 = .ok (.ireturn, 1) := by decide +kernel
theorem dX6_restore_10 : decode cX6_restore 10 = .ok (.aload_n 0, 1) := by decide +kernel
theorem dX6_restore_11 : decode cX6_restore 11 = .ok (.invokevirtual 43, 3) := by decide +kernel
theorem dX6_restore_14 : decode cX6_restore 14 = .ok (.iconst 0, 1) := by decide +kernel
theorem dX6_restore_15 : decode cX6_restore 15 = .ok (.istore_n 1, 1) := by decide +kernel
theorem dX6_restore_16 : decode cX6_restore 16 = .ok (.iload_n 1, 1) := by decide +kernel
theorem dX6_restore_17 : decode cX6_restore 17 = .ok (.sipush 207, 3) := by decide +kernel
theorem dX6_restore_20 : decode cX6_restore 20 = .ok (.if_icmp .ge 21, 3) := by decide +kernel
theorem dX6_restore_23 : decode cX6_restore 23 = .ok (.aload_n 0, 1) := by decide +kernel
theorem dX6_restore_24 : decode cX6_restore 24 = .ok (.getfield 7, 3) := by decide +kernel
theorem dX6_restore_27 : decode cX6_restore 27 = .ok (.iload_n 1, 1) := by decide +kernel
theorem dX6_restore_28 : decode cX6_restore 28 = .ok (.aload_n 0, 1) := by decide +kernel
theorem dX6_restore_29 : decode cX6_restore 29 = .ok (.getfield 16, 3) := by decide +kernel
theorem dX6_restore_32 : decode cX6_restore 32 = .ok (.iload_n 1, 1) := by decide +kernel
theorem dX6_restore_33 : decode cX6_restore 33 = .ok (.iaload, 1) := by decide +kernel
theorem dX6_restore_34 : decode cX6_restore 34 = .ok (.iastore, 1) := by decide +kernel
theorem dX6_restore_35 : decode cX6_restore 35 = .ok (.iinc 1 1, 3) := by decide +kernel
theorem dX6_restore_38 : decode cX6_restore 38 = .ok (.goto (-22), 3) := by decide +kernel
theorem dX6_restore_41 : decode cX6_restore 41 = .ok (.aload_n 0, 1) := by decide +kernel
theorem dX6_restore_42 : decode cX6_restore 42 = .ok (.getfield 7, 3) := by decide +kernel
theorem dX6_restore_45 : decode cX6_restore 45 = .ok (.iconst 0, 1) := by decide +kernel
theorem dX6_restore_46 : decode cX6_restore 46 = .ok (.iaload, 1) := by decide +kernel
theorem dX6_restore_47 : decode cX6_restore 47 = .ok (.ireturn, 1) := by decide +kernel
theorem dX6_layers_0 : decode cX6_layers 0 = .ok (.bipush 64, 2) := by decide +kernel
theorem dX6_layers_2 : decode cX6_layers 2 = .ok (.aload_n 0, 1) := by decide +kernel
theorem dX6_layers_3 : decode cX6_layers 3 = .ok (.getfield 46, 3) := by decide +kernel
theorem dX6_layers_6 : decode cX6_layers 6 = .ok (.aload_n 0, 1) := by decide +kernel
theorem dX6_layers_7 : decode cX6_layers 7 = .ok (.getfield 49, 3) := by decide +kernel
theorem dX6_layers_10 : decode cX6_layers 10 = .ok (.imul, 1) := by decide +kernel
theorem dX6_layers_11 : decode cX6_layers 11 = .ok (.idiv, 1) := by decide +kernel
theorem dX6_layers_12 : decode cX6_layers 12 = .ok (.ireturn, 1) := by decide +kernel
set_option maxRecDepth 20000 in
theorem ggX6_lay_X6_layFold : GoodIn wsX6_lay wsX6_layFold := goodIn_r _ [9, 1, 2, 10, 3, 11, 12, 13, 8, 14, 15, 16, 17, 18, 19, 20, 21, 22, 23, 24, 25, 26, 27, 28, 29, 30, 31, 32, 33, 34, 35, 36] (by decide +kernel) (by decide +kernel)
set_option maxRecDepth 20000 in
theorem gX6_lay_X6_layFold : GoodIn wsX6_lay (wsV RX6 52 RX6 yX6_layFold wsX6_layFold) := goodIn_app (goodIn_of _ (by decide +kernel)) ggX6_lay_X6_layFold
theorem dX6_lay_0 : decode cX6_lay 0 = .ok (.aload_n 0, 1) := by decide +kernel
theorem dX6_lay_1 : decode cX6_lay 1 = .ok (.bipush 8, 2) := by decide +kernel
theorem dX6_lay_3 : decode cX6_lay 3 = .ok (.putfield 46, 3) := by decide +kernel
theorem dX6_lay_6 : decode cX6_lay 6 = .ok (.aload_n 0, 1) := by decide +kernel
theorem dX6_lay_7 : decode cX6_lay 7 = .ok (.bipush 8, 2) := by decide +kernel
theorem dX6_lay_9 : decode cX6_lay 9 = .ok (.putfield 49, 3) := by decide +kernel
theorem dX6_lay_12 : decode cX6_lay 12 = .ok (.iconst 0, 1) := by decide +kernel
theorem dX6_lay_13 : decode cX6_lay 13 = .ok (.istore_n 2, 1) := by decide +kernel
theorem dX6_lay_14 : decode cX6_lay 14 = .ok (.iload_n 2, 1) := by decide +kernel
theorem dX6_lay_15 : decode cX6_lay 15 = .ok (.bipush 64, 2) := by decide +kernel
theorem dX6_lay_17 : decode cX6_lay 17 = .ok (.if_icmp .ge 18, 3) := by decide +kernel
theorem dX6_lay_20 : decode cX6_lay 20 = .ok (.aload_n 0, 1) := by decide +kernel
theorem dX6_lay_21 : decode cX6_lay 21 = .ok (.getfield 23, 3) := by decide +kernel
theorem dX6_lay_24 : decode cX6_lay 24 = .ok (.iload_n 2, 1) := by decide +kernel
theorem dX6_lay_25 : decode cX6_lay 25 = .ok (.iconst 2, 1) := by decide +kernel
theorem dX6_lay_26 : decode cX6_lay 26 = .ok (.iload_n 2, 1) := by decide +kernel
theorem dX6_lay_27 : decode cX6_lay 27 = .ok (.imul, 1) := by decide +kernel
theorem dX6_lay_28 : decode cX6_lay 28 = .ok (.iastore, 1) := by decide +kernel
theorem dX6_lay_29 : decode cX6_lay 29 = .ok (.iinc 2 1, 3) := by decide +kernel
theorem dX6_lay_32 : decode cX6_lay 32 = .ok (.goto (-18), 3) := by decide +kernel
theorem dX6_lay_35 : decode cX6_lay 35 = .ok (.iconst 0, 1) := by decide +kernel
theorem dX6_lay_36 : decode cX6_lay 36 = .ok (.istore_n 2, 1) := by decide +kernel
theorem dX6_lay_37 : decode cX6_lay 37 = .ok (.iload_n 2, 1) := by decide +kernel
theorem dX6_lay_38 : decode cX6_lay 38 = .ok (.iload_n 1, 1) := by decide +kernel
theorem dX6_lay_39 : decode cX6_lay 39 = .ok (.if_icmp .ge 21, 3) := by decide +kernel
theorem dX6_lay_42 : decode cX6_lay 42 = .ok (.aload_n 0, 1) := by decide +kernel
theorem dX6_lay_43 : decode cX6_lay 43 = .ok (.aload_n 0, 1) := by decide +kernel
theorem dX6_lay_44 : decode cX6_lay 44 = .ok (.getfield 7, 3) := by decide +kernel
theorem dX6_lay_47 : decode cX6_lay 47 = .ok (.iconst 1, 1) := by decide +kernel
theorem dX6_lay_48 : decode cX6_lay 48 = .ok (.iload_n 2, 1) := by decide +kernel
theorem dX6_lay_49 : decode cX6_lay 49 = .ok (.iadd, 1) := by decide +kernel
theorem dX6_lay_50 : decode cX6_lay 50 = .ok (.iaload, 1) := by decide +kernel
theorem dX6_lay_51 : decode cX6_lay 51 = .ok (.invokevirtual 52, 3) := by decide +kernel
theorem dX6_lay_54 : decode cX6_lay 54 = .ok (.iinc 2 1, 3) := by decide +kernel
theorem dX6_lay_57 : decode cX6_lay 57 = .ok (.goto (-20), 3) := by decide +kernel
theorem dX6_lay_60 : decode cX6_lay 60 = .ok (.return_, 1) := by decide +kernel
set_option maxRecDepth 20000 in
theorem ggX6_layFold_X6_layers : GoodIn wsX6_layFold wsX6_layers := goodIn_r _ [9, 1, 2, 16, 17, 18, 19, 20, 21, 22, 23, 24, 25, 26, 27, 28, 29, 30, 31] (by decide +kernel) (by decide +kernel)
set_option maxRecDepth 20000 in
theorem gX6_layFold_X6_layers : GoodIn wsX6_layFold (wsV RX6 56 RX6 yX6_layers wsX6_layers) := goodIn_app (goodIn_of _ (by decide +kernel)) ggX6_layFold_X6_layers
set_option maxRecDepth 20000 in
theorem ggX6_layFold_X6_field : GoodIn wsX6_layFold wsX6_field := goodIn_r _ [12] (by decide +kernel) (by decide +kernel)
set_option maxRecDepth 20000 in
theorem gX6_layFold_X6_field : GoodIn wsX6_layFold (va_wsS RX6 60 yX6_field wsX6_field) := goodIn_app (goodIn_of _ (by decide +kernel)) ggX6_layFold_X6_field
set_option maxRecDepth 20000 in
theorem ggX6_layFold_X6_turned : GoodIn wsX6_layFold wsX6_turned := goodIn_r _ [15] (by decide +kernel) (by decide +kernel)
set_option maxRecDepth 20000 in
theorem gX6_layFold_X6_turned : GoodIn wsX6_layFold (va_wsS RX6 64 yX6_turned wsX6_turned) := goodIn_app (goodIn_of _ (by decide +kernel)) ggX6_layFold_X6_turned
theorem dX6_layFold_0 : decode cX6_layFold 0 = .ok (.aload_n 0, 1) := by decide +kernel
theorem dX6_layFold_1 : decode cX6_layFold 1 = .ok (.invokevirtual 56, 3) := by decide +kernel
theorem dX6_layFold_4 : decode cX6_layFold 4 = .ok (.istore_n 2, 1) := by decide +kernel
theorem dX6_layFold_5 : decode cX6_layFold 5 = .ok (.iload_n 1, 1) := by decide +kernel
theorem dX6_layFold_6 : decode cX6_layFold 6 = .ok (.iconst 2, 1) := by decide +kernel
theorem dX6_layFold_7 : decode cX6_layFold 7 = .ok (.if_icmp .ge 12, 3) := by decide +kernel
theorem dX6_layFold_10 : decode cX6_layFold 10 = .ok (.aload_n 0, 1) := by decide +kernel
theorem dX6_layFold_11 : decode cX6_layFold 11 = .ok (.getfield 46, 3) := by decide +kernel
theorem dX6_layFold_14 : decode cX6_layFold 14 = .ok (.iconst 2, 1) := by decide +kernel
theorem dX6_layFold_15 : decode cX6_layFold 15 = .ok (.idiv, 1) := by decide +kernel
theorem dX6_layFold_16 : decode cX6_layFold 16 = .ok (.goto 7, 3) := by decide +kernel
theorem dX6_layFold_19 : decode cX6_layFold 19 = .ok (.aload_n 0, 1) := by decide +kernel
theorem dX6_layFold_20 : decode cX6_layFold 20 = .ok (.getfield 46, 3) := by decide +kernel
theorem dX6_layFold_23 : decode cX6_layFold 23 = .ok (.istore_n 3, 1) := by decide +kernel
theorem dX6_layFold_24 : decode cX6_layFold 24 = .ok (.iload_n 1, 1) := by decide +kernel
theorem dX6_layFold_25 : decode cX6_layFold 25 = .ok (.iconst 2, 1) := by decide +kernel
theorem dX6_layFold_26 : decode cX6_layFold 26 = .ok (.if_icmp .ge 10, 3) := by decide +kernel
theorem dX6_layFold_29 : decode cX6_layFold 29 = .ok (.aload_n 0, 1) := by decide +kernel
theorem dX6_layFold_30 : decode cX6_layFold 30 = .ok (.getfield 49, 3) := by decide +kernel
theorem dX6_layFold_33 : decode cX6_layFold 33 = .ok (.goto 9, 3) := by decide +kernel
theorem dX6_layFold_36 : decode cX6_layFold 36 = .ok (.aload_n 0, 1) := by decide +kernel
theorem dX6_layFold_37 : decode cX6_layFold 37 = .ok (.getfield 49, 3) := by decide +kernel
theorem dX6_layFold_40 : decode cX6_layFold 40 = .ok (.iconst 2, 1) := by decide +kernel
theorem dX6_layFold_41 : decode cX6_layFold 41 = .ok (.idiv, 1) := by decide +kernel
theorem dX6_layFold_42 : decode cX6_layFold 42 = .ok (.istore 4, 2) := by decide +kernel
theorem dX6_layFold_44 : decode cX6_layFold 44 = .ok (.iconst 0, 1) := by decide +kernel
theorem dX6_layFold_45 : decode cX6_layFold 45 = .ok (.istore 5, 2) := by decide +kernel
theorem dX6_layFold_47 : decode cX6_layFold 47 = .ok (.iload 5, 2) := by decide +kernel
theorem dX6_layFold_49 : decode cX6_layFold 49 = .ok (.iload 4, 2) := by decide +kernel
theorem dX6_layFold_51 : decode cX6_layFold 51 = .ok (.if_icmp .ge 218, 3) := by decide +kernel
theorem dX6_layFold_54 : decode cX6_layFold 54 = .ok (.iconst 0, 1) := by decide +kernel
theorem dX6_layFold_55 : decode cX6_layFold 55 = .ok (.istore 6, 2) := by decide +kernel
theorem dX6_layFold_57 : decode cX6_layFold 57 = .ok (.iload 6, 2) := by decide +kernel
theorem dX6_layFold_59 : decode cX6_layFold 59 = .ok (.iload_n 3, 1) := by decide +kernel
theorem dX6_layFold_60 : decode cX6_layFold 60 = .ok (.if_icmp .ge 203, 3) := by decide +kernel
theorem dX6_layFold_63 : decode cX6_layFold 63 = .ok (.iload_n 1, 1) := by decide +kernel
theorem dX6_layFold_64 : decode cX6_layFold 64 = .ok (.ifCond .ne 10, 3) := by decide +kernel
theorem dX6_layFold_67 : decode cX6_layFold 67 = .ok (.iload 6, 2) := by decide +kernel
theorem dX6_layFold_69 : decode cX6_layFold 69 = .ok (.iload_n 3, 1) := by decide +kernel
theorem dX6_layFold_70 : decode cX6_layFold 70 = .ok (.iadd, 1) := by decide +kernel
theorem dX6_layFold_71 : decode cX6_layFold 71 = .ok (.goto 5, 3) := by decide +kernel
theorem dX6_layFold_74 : decode cX6_layFold 74 = .ok (.iload 6, 2) := by decide +kernel
theorem dX6_layFold_76 : decode cX6_layFold 76 = .ok (.iload_n 1, 1) := by decide +kernel
theorem dX6_layFold_77 : decode cX6_layFold 77 = .ok (.iconst 2, 1) := by decide +kernel
theorem dX6_layFold_78 : decode cX6_layFold 78 = .ok (.if_icmp .ne 11, 3) := by decide +kernel
theorem dX6_layFold_81 : decode cX6_layFold 81 = .ok (.iload 5, 2) := by decide +kernel
theorem dX6_layFold_83 : decode cX6_layFold 83 = .ok (.iload 4, 2) := by decide +kernel
theorem dX6_layFold_85 : decode cX6_layFold 85 = .ok (.iadd, 1) := by decide +kernel
theorem dX6_layFold_86 : decode cX6_layFold 86 = .ok (.goto 5, 3) := by decide +kernel
theorem dX6_layFold_89 : decode cX6_layFold 89 = .ok (.iload 5, 2) := by decide +kernel
theorem dX6_layFold_91 : decode cX6_layFold 91 = .ok (.aload_n 0, 1) := by decide +kernel
theorem dX6_layFold_92 : decode cX6_layFold 92 = .ok (.getfield 46, 3) := by decide +kernel
theorem dX6_layFold_95 : decode cX6_layFold 95 = .ok (.invokestatic 60, 3) := by decide +kernel
theorem dX6_layFold_98 : decode cX6_layFold 98 = .ok (.istore 7, 2) := by decide +kernel
theorem dX6_layFold_100 : decode cX6_layFold 100 = .ok (.iload_n 1, 1) := by decide +kernel
theorem dX6_layFold_101 : decode cX6_layFold 101 = .ok (.ifCond .ne 12, 3) := by decide +kernel
theorem dX6_layFold_104 : decode cX6_layFold 104 = .ok (.iload_n 3, 1) := by decide +kernel
theorem dX6_layFold_105 : decode cX6_layFold 105 = .ok (.iconst 1, 1) := by decide +kernel
theorem dX6_layFold_106 : decode cX6_layFold 106 = .ok (.isub, 1) := by decide +kernel
theorem dX6_layFold_107 : decode cX6_layFold 107 = .ok (.iload 6, 2) := by decide +kernel
theorem dX6_layFold_109 : decode cX6_layFold 109 = .ok (.isub, 1) := by decide +kernel
theorem dX6_layFold_110 : decode cX6_layFold 110 = .ok (.goto 22, 3) := by decide +kernel
theorem dX6_layFold_113 : decode cX6_layFold 113 = .ok (.iload_n 1, 1) := by decide +kernel
theorem dX6_layFold_114 : decode cX6_layFold 114 = .ok (.iconst 1, 1) := by decide +kernel
theorem dX6_layFold_115 : decode cX6_layFold 115 = .ok (.if_icmp .ne 15, 3) := by decide +kernel
theorem dX6_layFold_118 : decode cX6_layFold 118 = .ok (.aload_n 0, 1) := by decide +kernel
theorem dX6_layFold_119 : decode cX6_layFold 119 = .ok (.getfield 46, 3) := by decide +kernel
theorem dX6_layFold_122 : decode cX6_layFold 122 = .ok (.iconst 1, 1) := by decide +kernel
theorem dX6_layFold_123 : decode cX6_layFold 123 = .ok (.isub, 1) := by decide +kernel
theorem dX6_layFold_124 : decode cX6_layFold 124 = .ok (.iload 6, 2) := by decide +kernel
theorem dX6_layFold_126 : decode cX6_layFold 126 = .ok (.isub, 1) := by decide +kernel
theorem dX6_layFold_127 : decode cX6_layFold 127 = .ok (.goto 5, 3) := by decide +kernel
theorem dX6_layFold_130 : decode cX6_layFold 130 = .ok (.iload 6, 2) := by decide +kernel
theorem dX6_layFold_132 : decode cX6_layFold 132 = .ok (.iload_n 1, 1) := by decide +kernel
theorem dX6_layFold_133 : decode cX6_layFold 133 = .ok (.iconst 2, 1) := by decide +kernel
theorem dX6_layFold_134 : decode cX6_layFold 134 = .ok (.if_icmp .ne 13, 3) := by decide +kernel
theorem dX6_layFold_137 : decode cX6_layFold 137 = .ok (.iload 4, 2) := by decide +kernel
theorem dX6_layFold_139 : decode cX6_layFold 139 = .ok (.iconst 1, 1) := by decide +kernel
theorem dX6_layFold_140 : decode cX6_layFold 140 = .ok (.isub, 1) := by decide +kernel
theorem dX6_layFold_141 : decode cX6_layFold 141 = .ok (.iload 5, 2) := by decide +kernel
theorem dX6_layFold_143 : decode cX6_layFold 143 = .ok (.isub, 1) := by decide +kernel
theorem dX6_layFold_144 : decode cX6_layFold 144 = .ok (.goto 22, 3) := by decide +kernel
theorem dX6_layFold_147 : decode cX6_layFold 147 = .ok (.iload_n 1, 1) := by decide +kernel
theorem dX6_layFold_148 : decode cX6_layFold 148 = .ok (.iconst 3, 1) := by decide +kernel
theorem dX6_layFold_149 : decode cX6_layFold 149 = .ok (.if_icmp .ne 15, 3) := by decide +kernel
theorem dX6_layFold_152 : decode cX6_layFold 152 = .ok (.aload_n 0, 1) := by decide +kernel
theorem dX6_layFold_153 : decode cX6_layFold 153 = .ok (.getfield 49, 3) := by decide +kernel
theorem dX6_layFold_156 : decode cX6_layFold 156 = .ok (.iconst 1, 1) := by decide +kernel
theorem dX6_layFold_157 : decode cX6_layFold 157 = .ok (.isub, 1) := by decide +kernel
theorem dX6_layFold_158 : decode cX6_layFold 158 = .ok (.iload 5, 2) := by decide +kernel
theorem dX6_layFold_160 : decode cX6_layFold 160 = .ok (.isub, 1) := by decide +kernel
theorem dX6_layFold_161 : decode cX6_layFold 161 = .ok (.goto 5, 3) := by decide +kernel
theorem dX6_layFold_164 : decode cX6_layFold 164 = .ok (.iload 5, 2) := by decide +kernel
theorem dX6_layFold_166 : decode cX6_layFold 166 = .ok (.aload_n 0, 1) := by decide +kernel
theorem dX6_layFold_167 : decode cX6_layFold 167 = .ok (.getfield 46, 3) := by decide +kernel
theorem dX6_layFold_170 : decode cX6_layFold 170 = .ok (.invokestatic 60, 3) := by decide +kernel
theorem dX6_layFold_173 : decode cX6_layFold 173 = .ok (.istore 8, 2) := by decide +kernel
theorem dX6_layFold_175 : decode cX6_layFold 175 = .ok (.iload 6, 2) := by decide +kernel
theorem dX6_layFold_177 : decode cX6_layFold 177 = .ok (.iload 5, 2) := by decide +kernel
theorem dX6_layFold_179 : decode cX6_layFold 179 = .ok (.iload_n 3, 1) := by decide +kernel
theorem dX6_layFold_180 : decode cX6_layFold 180 = .ok (.invokestatic 60, 3) := by decide +kernel
theorem dX6_layFold_183 : decode cX6_layFold 183 = .ok (.iconst 2, 1) := by decide +kernel
theorem dX6_layFold_184 : decode cX6_layFold 184 = .ok (.imul, 1) := by decide +kernel
theorem dX6_layFold_185 : decode cX6_layFold 185 = .ok (.iload_n 2, 1) := by decide +kernel
theorem dX6_layFold_186 : decode cX6_layFold 186 = .ok (.imul, 1) := by decide +kernel
theorem dX6_layFold_187 : decode cX6_layFold 187 = .ok (.istore 9, 2) := by decide +kernel
theorem dX6_layFold_189 : decode cX6_layFold 189 = .ok (.iconst 0, 1) := by decide +kernel
theorem dX6_layFold_190 : decode cX6_layFold 190 = .ok (.istore 10, 2) := by decide +kernel
theorem dX6_layFold_192 : decode cX6_layFold 192 = .ok (.iload 10, 2) := by decide +kernel
theorem dX6_layFold_194 : decode cX6_layFold 194 = .ok (.iload_n 2, 1) := by decide +kernel
theorem dX6_layFold_195 : decode cX6_layFold 195 = .ok (.if_icmp .ge 62, 3) := by decide +kernel
theorem dX6_layFold_198 : decode cX6_layFold 198 = .ok (.aload_n 0, 1) := by decide +kernel
theorem dX6_layFold_199 : decode cX6_layFold 199 = .ok (.getfield 26, 3) := by decide +kernel
theorem dX6_layFold_202 : decode cX6_layFold 202 = .ok (.iload 9, 2) := by decide +kernel
theorem dX6_layFold_204 : decode cX6_layFold 204 = .ok (.iload 10, 2) := by decide +kernel
theorem dX6_layFold_206 : decode cX6_layFold 206 = .ok (.iadd, 1) := by decide +kernel
theorem dX6_layFold_207 : decode cX6_layFold 207 = .ok (.aload_n 0, 1) := by decide +kernel
theorem dX6_layFold_208 : decode cX6_layFold 208 = .ok (.getfield 23, 3) := by decide +kernel
theorem dX6_layFold_211 : decode cX6_layFold 211 = .ok (.iload 8, 2) := by decide +kernel
theorem dX6_layFold_213 : decode cX6_layFold 213 = .ok (.iload_n 2, 1) := by decide +kernel
theorem dX6_layFold_214 : decode cX6_layFold 214 = .ok (.imul, 1) := by decide +kernel
theorem dX6_layFold_215 : decode cX6_layFold 215 = .ok (.iload_n 2, 1) := by decide +kernel
theorem dX6_layFold_216 : decode cX6_layFold 216 = .ok (.iadd, 1) := by decide +kernel
theorem dX6_layFold_217 : decode cX6_layFold 217 = .ok (.iconst 1, 1) := by decide +kernel
theorem dX6_layFold_218 : decode cX6_layFold 218 = .ok (.isub, 1) := by decide +kernel
theorem dX6_layFold_219 : decode cX6_layFold 219 = .ok (.iload 10, 2) := by decide +kernel
theorem dX6_layFold_221 : decode cX6_layFold 221 = .ok (.isub, 1) := by decide +kernel
theorem dX6_layFold_222 : decode cX6_layFold 222 = .ok (.iaload, 1) := by decide +kernel
theorem dX6_layFold_223 : decode cX6_layFold 223 = .ok (.invokestatic 64, 3) := by decide +kernel
theorem dX6_layFold_226 : decode cX6_layFold 226 = .ok (.iastore, 1) := by decide +kernel
theorem dX6_layFold_227 : decode cX6_layFold 227 = .ok (.aload_n 0, 1) := by decide +kernel
theorem dX6_layFold_228 : decode cX6_layFold 228 = .ok (.getfield 26, 3) := by decide +kernel
theorem dX6_layFold_231 : decode cX6_layFold 231 = .ok (.iload 9, 2) := by decide +kernel
theorem dX6_layFold_233 : decode cX6_layFold 233 = .ok (.iload_n 2, 1) := by decide +kernel
theorem dX6_layFold_234 : decode cX6_layFold 234 = .ok (.iadd, 1) := by decide +kernel
theorem dX6_layFold_235 : decode cX6_layFold 235 = .ok (.iload 10, 2) := by decide +kernel
theorem dX6_layFold_237 : decode cX6_layFold 237 = .ok (.iadd, 1) := by decide +kernel
theorem dX6_layFold_238 : decode cX6_layFold 238 = .ok (.aload_n 0, 1) := by decide +kernel
theorem dX6_layFold_239 : decode cX6_layFold 239 = .ok (.getfield 23, 3) := by decide +kernel
theorem dX6_layFold_242 : decode cX6_layFold 242 = .ok (.iload 7, 2) := by decide +kernel
theorem dX6_layFold_244 : decode cX6_layFold 244 = .ok (.iload_n 2, 1) := by decide +kernel
theorem dX6_layFold_245 : decode cX6_layFold 245 = .ok (.imul, 1) := by decide +kernel
theorem dX6_layFold_246 : decode cX6_layFold 246 = .ok (.iload 10, 2) := by decide +kernel
theorem dX6_layFold_248 : decode cX6_layFold 248 = .ok (.iadd, 1) := by decide +kernel
theorem dX6_layFold_249 : decode cX6_layFold 249 = .ok (.iaload, 1) := by decide +kernel
theorem dX6_layFold_250 : decode cX6_layFold 250 = .ok (.iastore, 1) := by decide +kernel
theorem dX6_layFold_251 : decode cX6_layFold 251 = .ok (.iinc 10 1, 3) := by decide +kernel
theorem dX6_layFold_254 : decode cX6_layFold 254 = .ok (.goto (-62), 3) := by decide +kernel
theorem dX6_layFold_257 : decode cX6_layFold 257 = .ok (.iinc 6 1, 3) := by decide +kernel
theorem dX6_layFold_260 : decode cX6_layFold 260 = .ok (.goto (-203), 3) := by decide +kernel
theorem dX6_layFold_263 : decode cX6_layFold 263 = .ok (.iinc 5 1, 3) := by decide +kernel
theorem dX6_layFold_266 : decode cX6_layFold 266 = .ok (.goto (-219), 3) := by decide +kernel
theorem dX6_layFold_269 : decode cX6_layFold 269 = .ok (.iconst 0, 1) := by decide +kernel
theorem dX6_layFold_270 : decode cX6_layFold 270 = .ok (.istore 5, 2) := by decide +kernel
theorem dX6_layFold_272 : decode cX6_layFold 272 = .ok (.iload 5, 2) := by decide +kernel
theorem dX6_layFold_274 : decode cX6_layFold 274 = .ok (.bipush 64, 2) := by decide +kernel
theorem dX6_layFold_276 : decode cX6_layFold 276 = .ok (.if_icmp .ge 23, 3) := by decide +kernel
theorem dX6_layFold_279 : decode cX6_layFold 279 = .ok (.aload_n 0, 1) := by decide +kernel
theorem dX6_layFold_280 : decode cX6_layFold 280 = .ok (.getfield 23, 3) := by decide +kernel
theorem dX6_layFold_283 : decode cX6_layFold 283 = .ok (.iload 5, 2) := by decide +kernel
theorem dX6_layFold_285 : decode cX6_layFold 285 = .ok (.aload_n 0, 1) := by decide +kernel
theorem dX6_layFold_286 : decode cX6_layFold 286 = .ok (.getfield 26, 3) := by decide +kernel
theorem dX6_layFold_289 : decode cX6_layFold 289 = .ok (.iload 5, 2) := by decide +kernel
theorem dX6_layFold_291 : decode cX6_layFold 291 = .ok (.iaload, 1) := by decide +kernel
theorem dX6_layFold_292 : decode cX6_layFold 292 = .ok (.iastore, 1) := by decide +kernel
theorem dX6_layFold_293 : decode cX6_layFold 293 = .ok (.iinc 5 1, 3) := by decide +kernel
theorem dX6_layFold_296 : decode cX6_layFold 296 = .ok (.goto (-24), 3) := by decide +kernel
theorem dX6_layFold_299 : decode cX6_layFold 299 = .ok (.aload_n 0, 1) := by decide +kernel
theorem dX6_layFold_300 : decode cX6_layFold 300 = .ok (.iload_n 3, 1) := by decide +kernel
theorem dX6_layFold_301 : decode cX6_layFold 301 = .ok (.putfield 46, 3) := by decide +kernel
theorem dX6_layFold_304 : decode cX6_layFold 304 = .ok (.aload_n 0, 1) := by decide +kernel
theorem dX6_layFold_305 : decode cX6_layFold 305 = .ok (.iload 4, 2) := by decide +kernel
theorem dX6_layFold_307 : decode cX6_layFold 307 = .ok (.putfield 49, 3) := by decide +kernel
theorem dX6_layFold_310 : decode cX6_layFold 310 = .ok (.return_, 1) := by decide +kernel
theorem dX6_field_0 : decode cX6_field 0 = .ok (.iload_n 1, 1) := by decide +kernel
theorem dX6_field_1 : decode cX6_field 1 = .ok (.iload_n 2, 1) := by decide +kernel
theorem dX6_field_2 : decode cX6_field 2 = .ok (.imul, 1) := by decide +kernel
theorem dX6_field_3 : decode cX6_field 3 = .ok (.iload_n 0, 1) := by decide +kernel
theorem dX6_field_4 : decode cX6_field 4 = .ok (.iadd, 1) := by decide +kernel
theorem dX6_field_5 : decode cX6_field 5 = .ok (.ireturn, 1) := by decide +kernel
theorem dX6_turned_0 : decode cX6_turned 0 = .ok (.iload_n 0, 1) := by decide +kernel
theorem dX6_turned_1 : decode cX6_turned 1 = .ok (.iconst 2, 1) := by decide +kernel
theorem dX6_turned_2 : decode cX6_turned 2 = .ok (.irem, 1) := by decide +kernel
theorem dX6_turned_3 : decode cX6_turned 3 = .ok (.ifCond .ne 9, 3) := by decide +kernel
theorem dX6_turned_6 : decode cX6_turned 6 = .ok (.iload_n 0, 1) := by decide +kernel
theorem dX6_turned_7 : decode cX6_turned 7 = .ok (.iconst 1, 1) := by decide +kernel
theorem dX6_turned_8 : decode cX6_turned 8 = .ok (.iadd, 1) := by decide +kernel
theorem dX6_turned_9 : decode cX6_turned 9 = .ok (.goto 6, 3) := by decide +kernel
theorem dX6_turned_12 : decode cX6_turned 12 = .ok (.iload_n 0, 1) := by decide +kernel
theorem dX6_turned_13 : decode cX6_turned 13 = .ok (.iconst 1, 1) := by decide +kernel
theorem dX6_turned_14 : decode cX6_turned 14 = .ok (.isub, 1) := by decide +kernel
theorem dX6_turned_15 : decode cX6_turned 15 = .ok (.ireturn, 1) := by decide +kernel
set_option maxRecDepth 20000 in
theorem ggX6_layNow_X6_lay : GoodIn wsX6_layNow wsX6_lay := goodIn_r _ [6, 7, 8, 9, 1, 10, 11, 12, 5, 13, 14, 15, 16, 17, 18, 19, 20, 21, 22, 23, 24, 25, 26, 27, 28, 29, 30, 31, 32, 33, 34, 35, 36, 37, 38, 39, 40] (by decide +kernel) (by decide +kernel)
set_option maxRecDepth 20000 in
theorem gX6_layNow_X6_lay : GoodIn wsX6_layNow (wsV RX6 68 RX6 yX6_lay wsX6_lay) := goodIn_app (goodIn_of _ (by decide +kernel)) ggX6_layNow_X6_lay
theorem dX6_layNow_0 : decode cX6_layNow 0 = .ok (.aload_n 0, 1) := by decide +kernel
theorem dX6_layNow_1 : decode cX6_layNow 1 = .ok (.aload_n 0, 1) := by decide +kernel
theorem dX6_layNow_2 : decode cX6_layNow 2 = .ok (.getfield 7, 3) := by decide +kernel
theorem dX6_layNow_5 : decode cX6_layNow 5 = .ok (.iconst 0, 1) := by decide +kernel
theorem dX6_layNow_6 : decode cX6_layNow 6 = .ok (.iaload, 1) := by decide +kernel
theorem dX6_layNow_7 : decode cX6_layNow 7 = .ok (.invokevirtual 68, 3) := by decide +kernel
theorem dX6_layNow_10 : decode cX6_layNow 10 = .ok (.return_, 1) := by decide +kernel
set_option maxRecDepth 20000 in
theorem ggX6_top_X6_layNow : GoodIn wsX6_top wsX6_layNow := goodIn_r _ [7, 8, 9, 10, 11, 6, 12, 1, 2, 13, 14, 15, 16, 17, 18, 19, 20, 21, 22, 23, 24, 25, 26, 27, 28, 32, 33, 34, 35, 36, 37, 38, 39, 40, 41, 42, 43, 44, 45, 46, 47] (by decide +kernel) (by decide +kernel)
set_option maxRecDepth 20000 in
theorem gX6_top_X6_layNow : GoodIn wsX6_top (wsV RX6 71 RX6 yX6_layNow wsX6_layNow) := goodIn_app (goodIn_of _ (by decide +kernel)) ggX6_top_X6_layNow
set_option maxRecDepth 20000 in
theorem ggX6_top_X6_in : GoodIn wsX6_top wsX6_in := goodIn_r _ [31] (by decide +kernel) (by decide +kernel)
set_option maxRecDepth 20000 in
theorem gX6_top_X6_in : GoodIn wsX6_top (va_wsS RX6 74 yX6_in wsX6_in) := goodIn_app (goodIn_of _ (by decide +kernel)) ggX6_top_X6_in
set_option maxRecDepth 20000 in
theorem ggX6_top_X6_field : GoodIn wsX6_top wsX6_field := goodIn_r _ [25] (by decide +kernel) (by decide +kernel)
set_option maxRecDepth 20000 in
theorem gX6_top_X6_field : GoodIn wsX6_top (va_wsS RX6 60 yX6_field wsX6_field) := goodIn_app (goodIn_of _ (by decide +kernel)) ggX6_top_X6_field
set_option maxRecDepth 20000 in
theorem ggX6_top_X6_layers : GoodIn wsX6_top wsX6_layers := goodIn_r _ [22, 1, 2, 32, 33, 34, 35, 36, 37, 38, 39, 40, 41, 42, 43, 44, 45, 46, 47] (by decide +kernel) (by decide +kernel)
set_option maxRecDepth 20000 in
theorem gX6_top_X6_layers : GoodIn wsX6_top (wsV RX6 56 RX6 yX6_layers wsX6_layers) := goodIn_app (goodIn_of _ (by decide +kernel)) ggX6_top_X6_layers
theorem dX6_top_0 : decode cX6_top 0 = .ok (.aload_n 0, 1) := by decide +kernel
theorem dX6_top_1 : decode cX6_top 1 = .ok (.invokevirtual 71, 3) := by decide +kernel
theorem dX6_top_4 : decode cX6_top 4 = .ok (.iload_n 1, 1) := by decide +kernel
theorem dX6_top_5 : decode cX6_top 5 = .ok (.iconst 0, 1) := by decide +kernel
theorem dX6_top_6 : decode cX6_top 6 = .ok (.aload_n 0, 1) := by decide +kernel
theorem dX6_top_7 : decode cX6_top 7 = .ok (.getfield 46, 3) := by decide +kernel
theorem dX6_top_10 : decode cX6_top 10 = .ok (.iconst 1, 1) := by decide +kernel
theorem dX6_top_11 : decode cX6_top 11 = .ok (.isub, 1) := by decide +kernel
theorem dX6_top_12 : decode cX6_top 12 = .ok (.invokestatic 74, 3) := by decide +kernel
theorem dX6_top_15 : decode cX6_top 15 = .ok (.ifCond .eq 34, 3) := by decide +kernel
theorem dX6_top_18 : decode cX6_top 18 = .ok (.iload_n 2, 1) := by decide +kernel
theorem dX6_top_19 : decode cX6_top 19 = .ok (.iconst 0, 1) := by decide +kernel
theorem dX6_top_20 : decode cX6_top 20 = .ok (.aload_n 0, 1) := by decide +kernel
theorem dX6_top_21 : decode cX6_top 21 = .ok (.getfield 49, 3) := by decide +kernel
theorem dX6_top_24 : decode cX6_top 24 = .ok (.iconst 1, 1) := by decide +kernel
theorem dX6_top_25 : decode cX6_top 25 = .ok (.isub, 1) := by decide +kernel
theorem dX6_top_26 : decode cX6_top 26 = .ok (.invokestatic 74, 3) := by decide +kernel
theorem dX6_top_29 : decode cX6_top 29 = .ok (.ifCond .eq 20, 3) := by decide +kernel
theorem dX6_top_32 : decode cX6_top 32 = .ok (.iload_n 1, 1) := by decide +kernel
theorem dX6_top_33 : decode cX6_top 33 = .ok (.iload_n 2, 1) := by decide +kernel
theorem dX6_top_34 : decode cX6_top 34 = .ok (.aload_n 0, 1) := by decide +kernel
theorem dX6_top_35 : decode cX6_top 35 = .ok (.getfield 46, 3) := by decide +kernel
theorem dX6_top_38 : decode cX6_top 38 = .ok (.invokestatic 60, 3) := by decide +kernel
theorem dX6_top_41 : decode cX6_top 41 = .ok (.aload_n 0, 1) := by decide +kernel
theorem dX6_top_42 : decode cX6_top 42 = .ok (.invokevirtual 56, 3) := by decide +kernel
theorem dX6_top_45 : decode cX6_top 45 = .ok (.imul, 1) := by decide +kernel
theorem dX6_top_46 : decode cX6_top 46 = .ok (.goto 5, 3) := by decide +kernel
theorem dX6_top_49 : decode cX6_top 49 = .ok (.bipush (-6), 2) := by decide +kernel
theorem dX6_top_51 : decode cX6_top 51 = .ok (.ireturn, 1) := by decide +kernel
set_option maxRecDepth 20000 in
theorem ggX6_whyNotFold_X6_in : GoodIn wsX6_whyNotFold wsX6_in := goodIn_r _ [6] (by decide +kernel) (by decide +kernel)
set_option maxRecDepth 20000 in
theorem gX6_whyNotFold_X6_in : GoodIn wsX6_whyNotFold (va_wsS RX6 74 yX6_in wsX6_in) := goodIn_app (goodIn_of _ (by decide +kernel)) ggX6_whyNotFold_X6_in
set_option maxRecDepth 20000 in
theorem ggX6_whyNotFold_X6_layNow : GoodIn wsX6_whyNotFold wsX6_layNow := goodIn_r _ [10, 11, 12, 13, 14, 5, 15, 1, 2, 16, 17, 18, 19, 20, 21, 22, 23, 24, 25, 26, 27, 28, 29, 30, 31, 32, 33, 34, 35, 36, 37, 38, 39, 40, 41, 42, 43, 44, 45, 46, 47] (by decide +kernel) (by decide +kernel)
set_option maxRecDepth 20000 in
theorem gX6_whyNotFold_X6_layNow : GoodIn wsX6_whyNotFold (wsV RX6 71 RX6 yX6_layNow wsX6_layNow) := goodIn_app (goodIn_of _ (by decide +kernel)) ggX6_whyNotFold_X6_layNow
theorem dX6_whyNotFold_0 : decode cX6_whyNotFold 0 = .ok (.iload_n 1, 1) := by decide +kernel
theorem dX6_whyNotFold_1 : decode cX6_whyNotFold 1 = .ok (.iconst 0, 1) := by decide +kernel
theorem dX6_whyNotFold_2 : decode cX6_whyNotFold 2 = .ok (.iconst 3, 1) := by decide +kernel
theorem dX6_whyNotFold_3 : decode cX6_whyNotFold 3 = .ok (.invokestatic 74, 3) := by decide +kernel
theorem dX6_whyNotFold_6 : decode cX6_whyNotFold 6 = .ok (.ifCond .ne 6, 3) := by decide +kernel
theorem dX6_whyNotFold_9 : decode cX6_whyNotFold 9 = .ok (.bipush (-2), 2) := by decide +kernel
theorem dX6_whyNotFold_11 : decode cX6_whyNotFold 11 = .ok (.ireturn, 1) := by decide +kernel
theorem dX6_whyNotFold_12 : decode cX6_whyNotFold 12 = .ok (.aload_n 0, 1) := by decide +kernel
theorem dX6_whyNotFold_13 : decode cX6_whyNotFold 13 = .ok (.invokevirtual 71, 3) := by decide +kernel
theorem dX6_whyNotFold_16 : decode cX6_whyNotFold 16 = .ok (.iload_n 1, 1) := by decide +kernel
theorem dX6_whyNotFold_17 : decode cX6_whyNotFold 17 = .ok (.iconst 2, 1) := by decide +kernel
theorem dX6_whyNotFold_18 : decode cX6_whyNotFold 18 = .ok (.if_icmp .ge 10, 3) := by decide +kernel
theorem dX6_whyNotFold_21 : decode cX6_whyNotFold 21 = .ok (.aload_n 0, 1) := by decide +kernel
theorem dX6_whyNotFold_22 : decode cX6_whyNotFold 22 = .ok (.getfield 46, 3) := by decide +kernel
theorem dX6_whyNotFold_25 : decode cX6_whyNotFold 25 = .ok (.goto 7, 3) := by decide +kernel
theorem dX6_whyNotFold_28 : decode cX6_whyNotFold 28 = .ok (.aload_n 0, 1) := by decide +kernel
theorem dX6_whyNotFold_29 : decode cX6_whyNotFold 29 = .ok (.getfield 49, 3) := by decide +kernel
theorem dX6_whyNotFold_32 : decode cX6_whyNotFold 32 = .ok (.iconst 1, 1) := by decide +kernel
theorem dX6_whyNotFold_33 : decode cX6_whyNotFold 33 = .ok (.if_icmp .ne 8, 3) := by decide +kernel
theorem dX6_whyNotFold_36 : decode cX6_whyNotFold 36 = .ok (.bipush (-3), 2) := by decide +kernel
theorem dX6_whyNotFold_38 : decode cX6_whyNotFold 38 = .ok (.goto 4, 3) := by decide +kernel
theorem dX6_whyNotFold_41 : decode cX6_whyNotFold 41 = .ok (.iconst 0, 1) := by decide +kernel
theorem dX6_whyNotFold_42 : decode cX6_whyNotFold 42 = .ok (.ireturn, 1) := by decide +kernel
set_option maxRecDepth 20000 in
theorem ggX6_folds_X6_layNow : GoodIn wsX6_folds wsX6_layNow := goodIn_r _ [6, 1, 7, 8, 9, 5, 10, 11, 12, 13, 14, 15, 16, 17, 18, 19, 20, 21, 22, 23, 24, 25, 26, 27, 28, 29, 30, 31, 32, 33, 34, 35, 36, 37, 38, 39, 40, 41, 42, 43, 44] (by decide +kernel) (by decide +kernel)
set_option maxRecDepth 20000 in
theorem gX6_folds_X6_layNow : GoodIn wsX6_folds (wsV RX6 71 RX6 yX6_layNow wsX6_layNow) := goodIn_app (goodIn_of _ (by decide +kernel)) ggX6_folds_X6_layNow
set_option maxRecDepth 20000 in
theorem ggX6_folds_X6_layers : GoodIn wsX6_folds wsX6_layers := goodIn_r _ [22, 11, 12, 29, 30, 31, 32, 33, 34, 35, 36, 37, 38, 39, 40, 41, 42, 43, 44] (by decide +kernel) (by decide +kernel)
set_option maxRecDepth 20000 in
theorem gX6_folds_X6_layers : GoodIn wsX6_folds (wsV RX6 56 RX6 yX6_layers wsX6_layers) := goodIn_app (goodIn_of _ (by decide +kernel)) ggX6_folds_X6_layers
theorem dX6_folds_0 : decode cX6_folds 0 = .ok (.aload_n 0, 1) := by decide +kernel
theorem dX6_folds_1 : decode cX6_folds 1 = .ok (.getfield 7, 3) := by decide +kernel
theorem dX6_folds_4 : decode cX6_folds 4 = .ok (.iconst 1, 1) := by decide +kernel
theorem dX6_folds_5 : decode cX6_folds 5 = .ok (.aload_n 0, 1) := by decide +kernel
theorem dX6_folds_6 : decode cX6_folds 6 = .ok (.getfield 7, 3) := by decide +kernel
theorem dX6_folds_9 : decode cX6_folds 9 = .ok (.iconst 0, 1) := by decide +kernel
theorem dX6_folds_10 : decode cX6_folds 10 = .ok (.iaload, 1) := by decide +kernel
theorem dX6_folds_11 : decode cX6_folds 11 = .ok (.iadd, 1) := by decide +kernel
theorem dX6_folds_12 : decode cX6_folds 12 = .ok (.iload_n 1, 1) := by decide +kernel
theorem dX6_folds_13 : decode cX6_folds 13 = .ok (.iastore, 1) := by decide +kernel
theorem dX6_folds_14 : decode cX6_folds 14 = .ok (.aload_n 0, 1) := by decide +kernel
theorem dX6_folds_15 : decode cX6_folds 15 = .ok (.getfield 7, 3) := by decide +kernel
theorem dX6_folds_18 : decode cX6_folds 18 = .ok (.iconst 0, 1) := by decide +kernel
theorem dX6_folds_19 : decode cX6_folds 19 = .ok (.dup2, 1) := by decide +kernel
theorem dX6_folds_20 : decode cX6_folds 20 = .ok (.iaload, 1) := by decide +kernel
theorem dX6_folds_21 : decode cX6_folds 21 = .ok (.iconst 1, 1) := by decide +kernel
theorem dX6_folds_22 : decode cX6_folds 22 = .ok (.iadd, 1) := by decide +kernel
theorem dX6_folds_23 : decode cX6_folds 23 = .ok (.iastore, 1) := by decide +kernel
theorem dX6_folds_24 : decode cX6_folds 24 = .ok (.aload_n 0, 1) := by decide +kernel
theorem dX6_folds_25 : decode cX6_folds 25 = .ok (.invokevirtual 71, 3) := by decide +kernel
theorem dX6_folds_28 : decode cX6_folds 28 = .ok (.aload_n 0, 1) := by decide +kernel
theorem dX6_folds_29 : decode cX6_folds 29 = .ok (.invokevirtual 56, 3) := by decide +kernel
theorem dX6_folds_32 : decode cX6_folds 32 = .ok (.ireturn, 1) := by decide +kernel
set_option maxRecDepth 20000 in
theorem ggX6_fold_X6_whyNotFold : GoodIn wsX6_fold wsX6_whyNotFold := goodIn_r _ [5, 6, 7, 8, 9, 4, 10, 11, 12, 13, 14, 15, 16, 17, 18, 19, 20, 21, 22, 23, 24, 25, 26, 27, 28, 29, 30, 31, 32, 33, 34, 35, 46, 47, 48, 49, 50, 51, 52, 53, 54, 55, 56, 57, 58, 59, 60, 61] (by decide +kernel) (by decide +kernel)
set_option maxRecDepth 20000 in
theorem gX6_fold_X6_whyNotFold : GoodIn wsX6_fold (wsV RX6 78 RX6 yX6_whyNotFold wsX6_whyNotFold) := goodIn_app (goodIn_of _ (by decide +kernel)) ggX6_fold_X6_whyNotFold
set_option maxRecDepth 20000 in
theorem ggX6_fold_X6_record : GoodIn wsX6_fold wsX6_record := goodIn_r _ [39, 40, 41, 15, 46, 47, 48, 49, 50, 51, 52, 53, 54, 55, 56, 57, 58, 59, 60, 61] (by decide +kernel) (by decide +kernel)
set_option maxRecDepth 20000 in
theorem gX6_fold_X6_record : GoodIn wsX6_fold (wsV RX6 43 RX6 yX6_record wsX6_record) := goodIn_app (goodIn_of _ (by decide +kernel)) ggX6_fold_X6_record
set_option maxRecDepth 20000 in
theorem ggX6_fold_X6_folds : GoodIn wsX6_fold wsX6_folds := goodIn_r _ [45, 15, 11, 12, 13, 4, 14, 16, 17, 18, 19, 6, 7, 20, 21, 22, 23, 24, 25, 26, 27, 28, 29, 30, 31, 32, 33, 34, 35, 46, 47, 48, 49, 50, 51, 52, 53, 54, 55, 56, 57, 58, 59, 60, 61] (by decide +kernel) (by decide +kernel)
set_option maxRecDepth 20000 in
theorem gX6_fold_X6_folds : GoodIn wsX6_fold (wsV RX6 81 RX6 yX6_folds wsX6_folds) := goodIn_app (goodIn_of _ (by decide +kernel)) ggX6_fold_X6_folds
theorem dX6_fold_0 : decode cX6_fold 0 = .ok (.aload_n 0, 1) := by decide +kernel
theorem dX6_fold_1 : decode cX6_fold 1 = .ok (.iload_n 1, 1) := by decide +kernel
theorem dX6_fold_2 : decode cX6_fold 2 = .ok (.invokevirtual 78, 3) := by decide +kernel
theorem dX6_fold_5 : decode cX6_fold 5 = .ok (.istore_n 2, 1) := by decide +kernel
theorem dX6_fold_6 : decode cX6_fold 6 = .ok (.iload_n 2, 1) := by decide +kernel
theorem dX6_fold_7 : decode cX6_fold 7 = .ok (.ifCond .ge 5, 3) := by decide +kernel
theorem dX6_fold_10 : decode cX6_fold 10 = .ok (.iload_n 2, 1) := by decide +kernel
theorem dX6_fold_11 : decode cX6_fold 11 = .ok (.ireturn, 1) := by decide +kernel
theorem dX6_fold_12 : decode cX6_fold 12 = .ok (.aload_n 0, 1) := by decide +kernel
theorem dX6_fold_13 : decode cX6_fold 13 = .ok (.invokevirtual 43, 3) := by decide +kernel
theorem dX6_fold_16 : decode cX6_fold 16 = .ok (.aload_n 0, 1) := by decide +kernel
theorem dX6_fold_17 : decode cX6_fold 17 = .ok (.iload_n 1, 1) := by decide +kernel
theorem dX6_fold_18 : decode cX6_fold 18 = .ok (.invokevirtual 81, 3) := by decide +kernel
theorem dX6_fold_21 : decode cX6_fold 21 = .ok (.ireturn, 1) := by decide +kernel
theorem dX6_unfolds_0 : decode cX6_unfolds 0 = .ok (.aload_n 0, 1) := by decide +kernel
theorem dX6_unfolds_1 : decode cX6_unfolds 1 = .ok (.getfield 7, 3) := by decide +kernel
theorem dX6_unfolds_4 : decode cX6_unfolds 4 = .ok (.iconst 0, 1) := by decide +kernel
theorem dX6_unfolds_5 : decode cX6_unfolds 5 = .ok (.dup2, 1) := by decide +kernel
theorem dX6_unfolds_6 : decode cX6_unfolds 6 = .ok (.iaload, 1) := by decide +kernel
theorem dX6_unfolds_7 : decode cX6_unfolds 7 = .ok (.iconst 1, 1) := by decide +kernel
theorem dX6_unfolds_8 : decode cX6_unfolds 8 = .ok (.isub, 1) := by decide +kernel
theorem dX6_unfolds_9 : decode cX6_unfolds 9 = .ok (.iastore, 1) := by decide +kernel
theorem dX6_unfolds_10 : decode cX6_unfolds 10 = .ok (.aload_n 0, 1) := by decide +kernel
theorem dX6_unfolds_11 : decode cX6_unfolds 11 = .ok (.getfield 7, 3) := by decide +kernel
theorem dX6_unfolds_14 : decode cX6_unfolds 14 = .ok (.iconst 1, 1) := by decide +kernel
theorem dX6_unfolds_15 : decode cX6_unfolds 15 = .ok (.aload_n 0, 1) := by decide +kernel
theorem dX6_unfolds_16 : decode cX6_unfolds 16 = .ok (.getfield 7, 3) := by decide +kernel
theorem dX6_unfolds_19 : decode cX6_unfolds 19 = .ok (.iconst 0, 1) := by decide +kernel
theorem dX6_unfolds_20 : decode cX6_unfolds 20 = .ok (.iaload, 1) := by decide +kernel
theorem dX6_unfolds_21 : decode cX6_unfolds 21 = .ok (.iadd, 1) := by decide +kernel
theorem dX6_unfolds_22 : decode cX6_unfolds 22 = .ok (.iaload, 1) := by decide +kernel
theorem dX6_unfolds_23 : decode cX6_unfolds 23 = .ok (.istore_n 1, 1) := by decide +kernel
theorem dX6_unfolds_24 : decode cX6_unfolds 24 = .ok (.aload_n 0, 1) := by decide +kernel
theorem dX6_unfolds_25 : decode cX6_unfolds 25 = .ok (.getfield 7, 3) := by decide +kernel
theorem dX6_unfolds_28 : decode cX6_unfolds 28 = .ok (.iconst 1, 1) := by decide +kernel
theorem dX6_unfolds_29 : decode cX6_unfolds 29 = .ok (.aload_n 0, 1) := by decide +kernel
theorem dX6_unfolds_30 : decode cX6_unfolds 30 = .ok (.getfield 7, 3) := by decide +kernel
theorem dX6_unfolds_33 : decode cX6_unfolds 33 = .ok (.iconst 0, 1) := by decide +kernel
theorem dX6_unfolds_34 : decode cX6_unfolds 34 = .ok (.iaload, 1) := by decide +kernel
theorem dX6_unfolds_35 : decode cX6_unfolds 35 = .ok (.iadd, 1) := by decide +kernel
theorem dX6_unfolds_36 : decode cX6_unfolds 36 = .ok (.iconst 0, 1) := by decide +kernel
theorem dX6_unfolds_37 : decode cX6_unfolds 37 = .ok (.iastore, 1) := by decide +kernel
theorem dX6_unfolds_38 : decode cX6_unfolds 38 = .ok (.iload_n 1, 1) := by decide +kernel
theorem dX6_unfolds_39 : decode cX6_unfolds 39 = .ok (.ireturn, 1) := by decide +kernel
set_option maxRecDepth 20000 in
theorem ggX6_unfold_X6_record : GoodIn wsX6_unfold wsX6_record := goodIn_r _ [6, 7, 8, 1, 13, 14, 15, 16, 17, 18, 19, 20, 21, 22, 23, 24, 25, 26, 27, 28] (by decide +kernel) (by decide +kernel)
set_option maxRecDepth 20000 in
theorem gX6_unfold_X6_record : GoodIn wsX6_unfold (wsV RX6 43 RX6 yX6_record wsX6_record) := goodIn_app (goodIn_of _ (by decide +kernel)) ggX6_unfold_X6_record
set_option maxRecDepth 20000 in
theorem ggX6_unfold_X6_unfolds : GoodIn wsX6_unfold wsX6_unfolds := goodIn_r _ [12, 1, 13, 14, 15, 16, 17, 18, 19, 20, 21, 22, 23, 24, 25, 26, 27, 28] (by decide +kernel) (by decide +kernel)
set_option maxRecDepth 20000 in
theorem gX6_unfold_X6_unfolds : GoodIn wsX6_unfold (wsV RX6 84 RX6 yX6_unfolds wsX6_unfolds) := goodIn_app (goodIn_of _ (by decide +kernel)) ggX6_unfold_X6_unfolds
theorem dX6_unfold_0 : decode cX6_unfold 0 = .ok (.aload_n 0, 1) := by decide +kernel
theorem dX6_unfold_1 : decode cX6_unfold 1 = .ok (.getfield 7, 3) := by decide +kernel
theorem dX6_unfold_4 : decode cX6_unfold 4 = .ok (.iconst 0, 1) := by decide +kernel
theorem dX6_unfold_5 : decode cX6_unfold 5 = .ok (.iaload, 1) := by decide +kernel
theorem dX6_unfold_6 : decode cX6_unfold 6 = .ok (.ifCond .ne 6, 3) := by decide +kernel
theorem dX6_unfold_9 : decode cX6_unfold 9 = .ok (.bipush (-3), 2) := by decide +kernel
theorem dX6_unfold_11 : decode cX6_unfold 11 = .ok (.ireturn, 1) := by decide +kernel
theorem dX6_unfold_12 : decode cX6_unfold 12 = .ok (.aload_n 0, 1) := by decide +kernel
theorem dX6_unfold_13 : decode cX6_unfold 13 = .ok (.invokevirtual 43, 3) := by decide +kernel
theorem dX6_unfold_16 : decode cX6_unfold 16 = .ok (.aload_n 0, 1) := by decide +kernel
theorem dX6_unfold_17 : decode cX6_unfold 17 = .ok (.invokevirtual 84, 3) := by decide +kernel
theorem dX6_unfold_20 : decode cX6_unfold 20 = .ok (.ireturn, 1) := by decide +kernel
set_option maxRecDepth 20000 in
theorem ggX6_open_X6_record : GoodIn wsX6_open wsX6_record := goodIn_r _ [6, 7, 8, 1, 13, 14, 15, 16, 17, 18, 19, 20, 21, 22, 23, 24, 25, 26, 27, 28] (by decide +kernel) (by decide +kernel)
set_option maxRecDepth 20000 in
theorem gX6_open_X6_record : GoodIn wsX6_open (wsV RX6 43 RX6 yX6_record wsX6_record) := goodIn_app (goodIn_of _ (by decide +kernel)) ggX6_open_X6_record
set_option maxRecDepth 20000 in
theorem ggX6_open_X6_unfolds : GoodIn wsX6_open wsX6_unfolds := goodIn_r _ [12, 1, 13, 14, 15, 16, 17, 18, 19, 20, 21, 22, 23, 24, 25, 26, 27, 28] (by decide +kernel) (by decide +kernel)
set_option maxRecDepth 20000 in
theorem gX6_open_X6_unfolds : GoodIn wsX6_open (wsV RX6 84 RX6 yX6_unfolds wsX6_unfolds) := goodIn_app (goodIn_of _ (by decide +kernel)) ggX6_open_X6_unfolds
theorem dX6_open_0 : decode cX6_open 0 = .ok (.aload_n 0, 1) := by decide +kernel
theorem dX6_open_1 : decode cX6_open 1 = .ok (.invokevirtual 43, 3) := by decide +kernel
theorem dX6_open_4 : decode cX6_open 4 = .ok (.aload_n 0, 1) := by decide +kernel
theorem dX6_open_5 : decode cX6_open 5 = .ok (.getfield 7, 3) := by decide +kernel
theorem dX6_open_8 : decode cX6_open 8 = .ok (.iconst 0, 1) := by decide +kernel
theorem dX6_open_9 : decode cX6_open 9 = .ok (.iaload, 1) := by decide +kernel
theorem dX6_open_10 : decode cX6_open 10 = .ok (.istore_n 1, 1) := by decide +kernel
theorem dX6_open_11 : decode cX6_open 11 = .ok (.aload_n 0, 1) := by decide +kernel
theorem dX6_open_12 : decode cX6_open 12 = .ok (.getfield 7, 3) := by decide +kernel
theorem dX6_open_15 : decode cX6_open 15 = .ok (.iconst 0, 1) := by decide +kernel
theorem dX6_open_16 : decode cX6_open 16 = .ok (.iaload, 1) := by decide +kernel
theorem dX6_open_17 : decode cX6_open 17 = .ok (.ifCond .le 11, 3) := by decide +kernel
theorem dX6_open_20 : decode cX6_open 20 = .ok (.aload_n 0, 1) := by decide +kernel
theorem dX6_open_21 : decode cX6_open 21 = .ok (.invokevirtual 84, 3) := by decide +kernel
theorem dX6_open_24 : decode cX6_open 24 = .ok (.pop, 1) := by decide +kernel
theorem dX6_open_25 : decode cX6_open 25 = .ok (.goto (-14), 3) := by decide +kernel
theorem dX6_open_28 : decode cX6_open 28 = .ok (.iload_n 1, 1) := by decide +kernel
theorem dX6_open_29 : decode cX6_open 29 = .ok (.ireturn, 1) := by decide +kernel
set_option maxRecDepth 20000 in
theorem ggX6_size_X6_layNow : GoodIn wsX6_size wsX6_layNow := goodIn_r _ [8, 3, 9, 10, 11, 7, 12, 1, 2, 13, 14, 15, 16, 17, 18, 19, 20, 21, 22, 23, 24, 25, 26, 27, 28, 29, 30, 31, 32, 33, 34, 35, 36, 37, 38, 39, 40, 41, 42, 43, 44] (by decide +kernel) (by decide +kernel)
set_option maxRecDepth 20000 in
theorem gX6_size_X6_layNow : GoodIn wsX6_size (wsV RX6 71 RX6 yX6_layNow wsX6_layNow) := goodIn_app (goodIn_of _ (by decide +kernel)) ggX6_size_X6_layNow
set_option maxRecDepth 20000 in
theorem ggX6_size_X6_layers : GoodIn wsX6_size wsX6_layers := goodIn_r _ [22, 1, 2, 29, 30, 31, 32, 33, 34, 35, 36, 37, 38, 39, 40, 41, 42, 43, 44] (by decide +kernel) (by decide +kernel)
set_option maxRecDepth 20000 in
theorem gX6_size_X6_layers : GoodIn wsX6_size (wsV RX6 56 RX6 yX6_layers wsX6_layers) := goodIn_app (goodIn_of _ (by decide +kernel)) ggX6_size_X6_layers
theorem dX6_size_0 : decode cX6_size 0 = .ok (.aload_n 0, 1) := by decide +kernel
theorem dX6_size_1 : decode cX6_size 1 = .ok (.invokevirtual 71, 3) := by decide +kernel
theorem dX6_size_4 : decode cX6_size 4 = .ok (.iload_n 1, 1) := by decide +kernel
theorem dX6_size_5 : decode cX6_size 5 = .ok (.tableswitch 53 0 3 #[31, 36, 41, 46], 31) := by decide +kernel
theorem dX6_size_36 : decode cX6_size 36 = .ok (.aload_n 0, 1) := by decide +kernel
theorem dX6_size_37 : decode cX6_size 37 = .ok (.getfield 46, 3) := by decide +kernel
theorem dX6_size_40 : decode cX6_size 40 = .ok (.ireturn, 1) := by decide +kernel
theorem dX6_size_41 : decode cX6_size 41 = .ok (.aload_n 0, 1) := by decide +kernel
theorem dX6_size_42 : decode cX6_size 42 = .ok (.getfield 49, 3) := by decide +kernel
theorem dX6_size_45 : decode cX6_size 45 = .ok (.ireturn, 1) := by decide +kernel
theorem dX6_size_46 : decode cX6_size 46 = .ok (.aload_n 0, 1) := by decide +kernel
theorem dX6_size_47 : decode cX6_size 47 = .ok (.invokevirtual 56, 3) := by decide +kernel
theorem dX6_size_50 : decode cX6_size 50 = .ok (.ireturn, 1) := by decide +kernel
theorem dX6_size_51 : decode cX6_size 51 = .ok (.aload_n 0, 1) := by decide +kernel
theorem dX6_size_52 : decode cX6_size 52 = .ok (.getfield 7, 3) := by decide +kernel
theorem dX6_size_55 : decode cX6_size 55 = .ok (.iconst 0, 1) := by decide +kernel
theorem dX6_size_56 : decode cX6_size 56 = .ok (.iaload, 1) := by decide +kernel
theorem dX6_size_57 : decode cX6_size 57 = .ok (.ireturn, 1) := by decide +kernel
theorem dX6_size_58 : decode cX6_size 58 = .ok (.bipush (-2), 2) := by decide +kernel
theorem dX6_size_60 : decode cX6_size 60 = .ok (.ireturn, 1) := by decide +kernel
set_option maxRecDepth 20000 in
theorem ggX6_foldAt_X6_in : GoodIn wsX6_foldAt wsX6_in := goodIn_r _ [5] (by decide +kernel) (by decide +kernel)
set_option maxRecDepth 20000 in
theorem gX6_foldAt_X6_in : GoodIn wsX6_foldAt (va_wsS RX6 74 yX6_in wsX6_in) := goodIn_app (goodIn_of _ (by decide +kernel)) ggX6_foldAt_X6_in
theorem dX6_foldAt_0 : decode cX6_foldAt 0 = .ok (.iload_n 1, 1) := by decide +kernel
theorem dX6_foldAt_1 : decode cX6_foldAt 1 = .ok (.iconst 0, 1) := by decide +kernel
theorem dX6_foldAt_2 : decode cX6_foldAt 2 = .ok (.aload_n 0, 1) := by decide +kernel
theorem dX6_foldAt_3 : decode cX6_foldAt 3 = .ok (.getfield 7, 3) := by decide +kernel
theorem dX6_foldAt_6 : decode cX6_foldAt 6 = .ok (.iconst 0, 1) := by decide +kernel
theorem dX6_foldAt_7 : decode cX6_foldAt 7 = .ok (.iaload, 1) := by decide +kernel
theorem dX6_foldAt_8 : decode cX6_foldAt 8 = .ok (.iconst 1, 1) := by decide +kernel
theorem dX6_foldAt_9 : decode cX6_foldAt 9 = .ok (.isub, 1) := by decide +kernel
theorem dX6_foldAt_10 : decode cX6_foldAt 10 = .ok (.invokestatic 74, 3) := by decide +kernel
theorem dX6_foldAt_13 : decode cX6_foldAt 13 = .ok (.ifCond .eq 14, 3) := by decide +kernel
theorem dX6_foldAt_16 : decode cX6_foldAt 16 = .ok (.aload_n 0, 1) := by decide +kernel
theorem dX6_foldAt_17 : decode cX6_foldAt 17 = .ok (.getfield 7, 3) := by decide +kernel
theorem dX6_foldAt_20 : decode cX6_foldAt 20 = .ok (.iconst 1, 1) := by decide +kernel
theorem dX6_foldAt_21 : decode cX6_foldAt 21 = .ok (.iload_n 1, 1) := by decide +kernel
theorem dX6_foldAt_22 : decode cX6_foldAt 22 = .ok (.iadd, 1) := by decide +kernel
theorem dX6_foldAt_23 : decode cX6_foldAt 23 = .ok (.iaload, 1) := by decide +kernel
theorem dX6_foldAt_24 : decode cX6_foldAt 24 = .ok (.goto 4, 3) := by decide +kernel
theorem dX6_foldAt_27 : decode cX6_foldAt 27 = .ok (.iconst (-1), 1) := by decide +kernel
theorem dX6_foldAt_28 : decode cX6_foldAt 28 = .ok (.ireturn, 1) := by decide +kernel
set_option maxRecDepth 20000 in
theorem ggX6_whyNotPunch_X6_top : GoodIn wsX6_whyNotPunch wsX6_top := goodIn_r _ [5, 6, 7, 8, 9, 10, 4, 11, 12, 13, 14, 15, 16, 17, 18, 19, 20, 21, 22, 23, 24, 25, 26, 27, 28, 29, 30, 31, 32, 33, 34, 35, 36, 37, 38, 39, 40, 41, 42, 43, 44, 45, 46, 47, 48, 49, 50, 51] (by decide +kernel) (by decide +kernel)
set_option maxRecDepth 20000 in
theorem gX6_whyNotPunch_X6_top : GoodIn wsX6_whyNotPunch (wsV RX6 87 RX6 yX6_top wsX6_top) := goodIn_app (goodIn_of _ (by decide +kernel)) ggX6_whyNotPunch_X6_top
set_option maxRecDepth 20000 in
theorem ggX6_whyNotPunch_X6_layers : GoodIn wsX6_whyNotPunch wsX6_layers := goodIn_r _ [26, 6, 7, 36, 37, 38, 39, 40, 41, 42, 43, 44, 45, 46, 47, 48, 49, 50, 51] (by decide +kernel) (by decide +kernel)
set_option maxRecDepth 20000 in
theorem gX6_whyNotPunch_X6_layers : GoodIn wsX6_whyNotPunch (wsV RX6 56 RX6 yX6_layers wsX6_layers) := goodIn_app (goodIn_of _ (by decide +kernel)) ggX6_whyNotPunch_X6_layers
set_option maxRecDepth 20000 in
theorem ggX6_whyNotPunch_X6_in : GoodIn wsX6_whyNotPunch wsX6_in := goodIn_r _ [35] (by decide +kernel) (by decide +kernel)
set_option maxRecDepth 20000 in
theorem gX6_whyNotPunch_X6_in : GoodIn wsX6_whyNotPunch (va_wsS RX6 74 yX6_in wsX6_in) := goodIn_app (goodIn_of _ (by decide +kernel)) ggX6_whyNotPunch_X6_in
theorem dX6_whyNotPunch_0 : decode cX6_whyNotPunch 0 = .ok (.aload_n 0, 1) := by decide +kernel
theorem dX6_whyNotPunch_1 : decode cX6_whyNotPunch 1 = .ok (.iload_n 1, 1) := by decide +kernel
theorem dX6_whyNotPunch_2 : decode cX6_whyNotPunch 2 = .ok (.iload_n 2, 1) := by decide +kernel
theorem dX6_whyNotPunch_3 : decode cX6_whyNotPunch 3 = .ok (.invokevirtual 87, 3) := by decide +kernel
theorem dX6_whyNotPunch_6 : decode cX6_whyNotPunch 6 = .ok (.istore 4, 2) := by decide +kernel
theorem dX6_whyNotPunch_8 : decode cX6_whyNotPunch 8 = .ok (.iload 4, 2) := by decide +kernel
theorem dX6_whyNotPunch_10 : decode cX6_whyNotPunch 10 = .ok (.bipush (-6), 2) := by decide +kernel
theorem dX6_whyNotPunch_12 : decode cX6_whyNotPunch 12 = .ok (.if_icmp .ne 7, 3) := by decide +kernel
theorem dX6_whyNotPunch_15 : decode cX6_whyNotPunch 15 = .ok (.iconst (-1), 1) := by decide +kernel
theorem dX6_whyNotPunch_16 : decode cX6_whyNotPunch 16 = .ok (.goto 21, 3) := by decide +kernel
theorem dX6_whyNotPunch_19 : decode cX6_whyNotPunch 19 = .ok (.iload_n 3, 1) := by decide +kernel
theorem dX6_whyNotPunch_20 : decode cX6_whyNotPunch 20 = .ok (.iconst 1, 1) := by decide +kernel
theorem dX6_whyNotPunch_21 : decode cX6_whyNotPunch 21 = .ok (.aload_n 0, 1) := by decide +kernel
theorem dX6_whyNotPunch_22 : decode cX6_whyNotPunch 22 = .ok (.invokevirtual 56, 3) := by decide +kernel
theorem dX6_whyNotPunch_25 : decode cX6_whyNotPunch 25 = .ok (.invokestatic 74, 3) := by decide +kernel
theorem dX6_whyNotPunch_28 : decode cX6_whyNotPunch 28 = .ok (.ifCond .eq 7, 3) := by decide +kernel
theorem dX6_whyNotPunch_31 : decode cX6_whyNotPunch 31 = .ok (.iconst 0, 1) := by decide +kernel
theorem dX6_whyNotPunch_32 : decode cX6_whyNotPunch 32 = .ok (.goto 5, 3) := by decide +kernel
theorem dX6_whyNotPunch_35 : decode cX6_whyNotPunch 35 = .ok (.bipush (-2), 2) := by decide +kernel
theorem dX6_whyNotPunch_37 : decode cX6_whyNotPunch 37 = .ok (.ireturn, 1) := by decide +kernel
set_option maxRecDepth 20000 in
theorem ggX6_makesHoles_X6_top : GoodIn wsX6_makesHoles wsX6_top := goodIn_r _ [7, 8, 9, 10, 11, 12, 6, 13, 2, 14, 15, 16, 17, 1, 18, 19, 20, 21, 22, 23, 24, 25, 26, 27, 28, 29, 30, 31, 32, 33, 34, 35, 36, 37, 38, 39, 40, 41, 42, 43, 44, 45, 46, 47, 48, 49, 50, 51] (by decide +kernel) (by decide +kernel)
set_option maxRecDepth 20000 in
theorem gX6_makesHoles_X6_top : GoodIn wsX6_makesHoles (wsV RX6 87 RX6 yX6_top wsX6_top) := goodIn_app (goodIn_of _ (by decide +kernel)) ggX6_makesHoles_X6_top
theorem dX6_makesHoles_0 : decode cX6_makesHoles 0 = .ok (.aload_n 0, 1) := by decide +kernel
theorem dX6_makesHoles_1 : decode cX6_makesHoles 1 = .ok (.iload_n 1, 1) := by decide +kernel
theorem dX6_makesHoles_2 : decode cX6_makesHoles 2 = .ok (.iload_n 2, 1) := by decide +kernel
theorem dX6_makesHoles_3 : decode cX6_makesHoles 3 = .ok (.invokevirtual 87, 3) := by decide +kernel
theorem dX6_makesHoles_6 : decode cX6_makesHoles 6 = .ok (.istore 4, 2) := by decide +kernel
theorem dX6_makesHoles_8 : decode cX6_makesHoles 8 = .ok (.iconst 0, 1) := by decide +kernel
theorem dX6_makesHoles_9 : decode cX6_makesHoles 9 = .ok (.istore 5, 2) := by decide +kernel
theorem dX6_makesHoles_11 : decode cX6_makesHoles 11 = .ok (.iconst 0, 1) := by decide +kernel
theorem dX6_makesHoles_12 : decode cX6_makesHoles 12 = .ok (.istore 6, 2) := by decide +kernel
theorem dX6_makesHoles_14 : decode cX6_makesHoles 14 = .ok (.iload 6, 2) := by decide +kernel
theorem dX6_makesHoles_16 : decode cX6_makesHoles 16 = .ok (.iload_n 3, 1) := by decide +kernel
theorem dX6_makesHoles_17 : decode cX6_makesHoles 17 = .ok (.if_icmp .ge 57, 3) := by decide +kernel
theorem dX6_makesHoles_20 : decode cX6_makesHoles 20 = .ok (.aload_n 0, 1) := by decide +kernel
theorem dX6_makesHoles_21 : decode cX6_makesHoles 21 = .ok (.getfield 23, 3) := by decide +kernel
theorem dX6_makesHoles_24 : decode cX6_makesHoles 24 = .ok (.iload 4, 2) := by decide +kernel
theorem dX6_makesHoles_26 : decode cX6_makesHoles 26 = .ok (.iload 6, 2) := by decide +kernel
theorem dX6_makesHoles_28 : decode cX6_makesHoles 28 = .ok (.iadd, 1) := by decide +kernel
theorem dX6_makesHoles_29 : decode cX6_makesHoles 29 = .ok (.iaload, 1) := by decide +kernel
theorem dX6_makesHoles_30 : decode cX6_makesHoles 30 = .ok (.iconst 2, 1) := by decide +kernel
theorem dX6_makesHoles_31 : decode cX6_makesHoles 31 = .ok (.idiv, 1) := by decide +kernel
theorem dX6_makesHoles_32 : decode cX6_makesHoles 32 = .ok (.istore 7, 2) := by decide +kernel
theorem dX6_makesHoles_34 : decode cX6_makesHoles 34 = .ok (.iload 5, 2) := by decide +kernel
theorem dX6_makesHoles_36 : decode cX6_makesHoles 36 = .ok (.aload_n 0, 1) := by decide +kernel
theorem dX6_makesHoles_37 : decode cX6_makesHoles 37 = .ok (.getfield 7, 3) := by decide +kernel
theorem dX6_makesHoles_40 : decode cX6_makesHoles 40 = .ok (.bipush 7, 2) := by decide +kernel
theorem dX6_makesHoles_42 : decode cX6_makesHoles 42 = .ok (.iload 7, 2) := by decide +kernel
theorem dX6_makesHoles_44 : decode cX6_makesHoles 44 = .ok (.iadd, 1) := by decide +kernel
theorem dX6_makesHoles_45 : decode cX6_makesHoles 45 = .ok (.iaload, 1) := by decide +kernel
theorem dX6_makesHoles_46 : decode cX6_makesHoles 46 = .ok (.ifCond .ne 7, 3) := by decide +kernel
theorem dX6_makesHoles_49 : decode cX6_makesHoles 49 = .ok (.iconst 1, 1) := by decide +kernel
theorem dX6_makesHoles_50 : decode cX6_makesHoles 50 = .ok (.goto 4, 3) := by decide +kernel
theorem dX6_makesHoles_53 : decode cX6_makesHoles 53 = .ok (.iconst 0, 1) := by decide +kernel
theorem dX6_makesHoles_54 : decode cX6_makesHoles 54 = .ok (.iadd, 1) := by decide +kernel
theorem dX6_makesHoles_55 : decode cX6_makesHoles 55 = .ok (.istore 5, 2) := by decide +kernel
theorem dX6_makesHoles_57 : decode cX6_makesHoles 57 = .ok (.aload_n 0, 1) := by decide +kernel
theorem dX6_makesHoles_58 : decode cX6_makesHoles 58 = .ok (.getfield 7, 3) := by decide +kernel
theorem dX6_makesHoles_61 : decode cX6_makesHoles 61 = .ok (.bipush 7, 2) := by decide +kernel
theorem dX6_makesHoles_63 : decode cX6_makesHoles 63 = .ok (.iload 7, 2) := by decide +kernel
theorem dX6_makesHoles_65 : decode cX6_makesHoles 65 = .ok (.iadd, 1) := by decide +kernel
theorem dX6_makesHoles_66 : decode cX6_makesHoles 66 = .ok (.iconst 1, 1) := by decide +kernel
theorem dX6_makesHoles_67 : decode cX6_makesHoles 67 = .ok (.iastore, 1) := by decide +kernel
theorem dX6_makesHoles_68 : decode cX6_makesHoles 68 = .ok (.iinc 6 1, 3) := by decide +kernel
theorem dX6_makesHoles_71 : decode cX6_makesHoles 71 = .ok (.goto (-57), 3) := by decide +kernel
theorem dX6_makesHoles_74 : decode cX6_makesHoles 74 = .ok (.iload 5, 2) := by decide +kernel
theorem dX6_makesHoles_76 : decode cX6_makesHoles 76 = .ok (.ireturn, 1) := by decide +kernel
set_option maxRecDepth 20000 in
theorem ggX6_punch_X6_whyNotPunch : GoodIn wsX6_punch wsX6_whyNotPunch := goodIn_r _ [5, 6, 7, 8, 4, 9, 10, 11, 12, 13, 14, 15, 16, 17, 18, 19, 20, 21, 22, 23, 24, 25, 26, 27, 28, 29, 30, 31, 32, 33, 34, 35, 36, 37, 38, 39, 50, 51, 52, 53, 54, 55, 56, 57, 58, 59, 60, 61, 62, 63, 64, 65] (by decide +kernel) (by decide +kernel)
set_option maxRecDepth 20000 in
theorem gX6_punch_X6_whyNotPunch : GoodIn wsX6_punch (wsV RX6 91 RX6 yX6_whyNotPunch wsX6_whyNotPunch) := goodIn_app (goodIn_of _ (by decide +kernel)) ggX6_punch_X6_whyNotPunch
set_option maxRecDepth 20000 in
theorem ggX6_punch_X6_record : GoodIn wsX6_punch wsX6_record := goodIn_r _ [43, 44, 45, 16, 50, 51, 52, 53, 54, 55, 56, 57, 58, 59, 60, 61, 62, 63, 64, 65] (by decide +kernel) (by decide +kernel)
set_option maxRecDepth 20000 in
theorem gX6_punch_X6_record : GoodIn wsX6_punch (wsV RX6 43 RX6 yX6_record wsX6_record) := goodIn_app (goodIn_of _ (by decide +kernel)) ggX6_punch_X6_record
set_option maxRecDepth 20000 in
theorem ggX6_punch_X6_makesHoles : GoodIn wsX6_punch wsX6_makesHoles := goodIn_r _ [49, 21, 16, 6, 7, 8, 4, 9, 10, 11, 12, 13, 14, 15, 17, 18, 19, 20, 22, 23, 24, 25, 26, 27, 28, 29, 30, 31, 32, 33, 34, 35, 36, 37, 38, 39, 50, 51, 52, 53, 54, 55, 56, 57, 58, 59, 60, 61, 62, 63, 64, 65] (by decide +kernel) (by decide +kernel)
set_option maxRecDepth 20000 in
theorem gX6_punch_X6_makesHoles : GoodIn wsX6_punch (wsV RX6 94 RX6 yX6_makesHoles wsX6_makesHoles) := goodIn_app (goodIn_of _ (by decide +kernel)) ggX6_punch_X6_makesHoles
theorem dX6_punch_0 : decode cX6_punch 0 = .ok (.aload_n 0, 1) := by decide +kernel
theorem dX6_punch_1 : decode cX6_punch 1 = .ok (.iload_n 1, 1) := by decide +kernel
theorem dX6_punch_2 : decode cX6_punch 2 = .ok (.iload_n 2, 1) := by decide +kernel
theorem dX6_punch_3 : decode cX6_punch 3 = .ok (.iload_n 3, 1) := by decide +kernel
theorem dX6_punch_4 : decode cX6_punch 4 = .ok (.invokevirtual 91, 3) := by decide +kernel
theorem dX6_punch_7 : decode cX6_punch 7 = .ok (.istore 4, 2) := by decide +kernel
theorem dX6_punch_9 : decode cX6_punch 9 = .ok (.iload 4, 2) := by decide +kernel
theorem dX6_punch_11 : decode cX6_punch 11 = .ok (.ifCond .ge 6, 3) := by decide +kernel
theorem dX6_punch_14 : decode cX6_punch 14 = .ok (.iload 4, 2) := by decide +kernel
theorem dX6_punch_16 : decode cX6_punch 16 = .ok (.ireturn, 1) := by decide +kernel
theorem dX6_punch_17 : decode cX6_punch 17 = .ok (.aload_n 0, 1) := by decide +kernel
theorem dX6_punch_18 : decode cX6_punch 18 = .ok (.invokevirtual 43, 3) := by decide +kernel
theorem dX6_punch_21 : decode cX6_punch 21 = .ok (.aload_n 0, 1) := by decide +kernel
theorem dX6_punch_22 : decode cX6_punch 22 = .ok (.iload_n 1, 1) := by decide +kernel
theorem dX6_punch_23 : decode cX6_punch 23 = .ok (.iload_n 2, 1) := by decide +kernel
theorem dX6_punch_24 : decode cX6_punch 24 = .ok (.iload_n 3, 1) := by decide +kernel
theorem dX6_punch_25 : decode cX6_punch 25 = .ok (.invokevirtual 94, 3) := by decide +kernel
theorem dX6_punch_28 : decode cX6_punch 28 = .ok (.ireturn, 1) := by decide +kernel
set_option maxRecDepth 20000 in
theorem ggX6_firstWhole_X6_layers : GoodIn wsX6_firstWhole wsX6_layers := goodIn_r _ [7, 8, 9, 10, 11, 12, 13, 14, 15, 16, 17, 18, 19, 20, 21, 22, 23, 24, 25] (by decide +kernel) (by decide +kernel)
set_option maxRecDepth 20000 in
theorem gX6_firstWhole_X6_layers : GoodIn wsX6_firstWhole (wsV RX6 56 RX6 yX6_layers wsX6_layers) := goodIn_app (goodIn_of _ (by decide +kernel)) ggX6_firstWhole_X6_layers
theorem dX6_firstWhole_0 : decode cX6_firstWhole 0 = .ok (.iconst 0, 1) := by decide +kernel
theorem dX6_firstWhole_1 : decode cX6_firstWhole 1 = .ok (.istore_n 2, 1) := by decide +kernel
theorem dX6_firstWhole_2 : decode cX6_firstWhole 2 = .ok (.iload_n 2, 1) := by decide +kernel
theorem dX6_firstWhole_3 : decode cX6_firstWhole 3 = .ok (.aload_n 0, 1) := by decide +kernel
theorem dX6_firstWhole_4 : decode cX6_firstWhole 4 = .ok (.invokevirtual 56, 3) := by decide +kernel
theorem dX6_firstWhole_7 : decode cX6_firstWhole 7 = .ok (.if_icmp .ge 39, 3) := by decide +kernel
theorem dX6_firstWhole_10 : decode cX6_firstWhole 10 = .ok (.aload_n 0, 1) := by decide +kernel
theorem dX6_firstWhole_11 : decode cX6_firstWhole 11 = .ok (.getfield 7, 3) := by decide +kernel
theorem dX6_firstWhole_14 : decode cX6_firstWhole 14 = .ok (.bipush 7, 2) := by decide +kernel
theorem dX6_firstWhole_16 : decode cX6_firstWhole 16 = .ok (.aload_n 0, 1) := by decide +kernel
theorem dX6_firstWhole_17 : decode cX6_firstWhole 17 = .ok (.getfield 23, 3) := by decide +kernel
theorem dX6_firstWhole_20 : decode cX6_firstWhole 20 = .ok (.iload_n 1, 1) := by decide +kernel
theorem dX6_firstWhole_21 : decode cX6_firstWhole 21 = .ok (.iload_n 2, 1) := by decide +kernel
theorem dX6_firstWhole_22 : decode cX6_firstWhole 22 = .ok (.iadd, 1) := by decide +kernel
theorem dX6_firstWhole_23 : decode cX6_firstWhole 23 = .ok (.iaload, 1) := by decide +kernel
theorem dX6_firstWhole_24 : decode cX6_firstWhole 24 = .ok (.iconst 2, 1) := by decide +kernel
theorem dX6_firstWhole_25 : decode cX6_firstWhole 25 = .ok (.idiv, 1) := by decide +kernel
theorem dX6_firstWhole_26 : decode cX6_firstWhole 26 = .ok (.iadd, 1) := by decide +kernel
theorem dX6_firstWhole_27 : decode cX6_firstWhole 27 = .ok (.iaload, 1) := by decide +kernel
theorem dX6_firstWhole_28 : decode cX6_firstWhole 28 = .ok (.ifCond .ne 12, 3) := by decide +kernel
theorem dX6_firstWhole_31 : decode cX6_firstWhole 31 = .ok (.aload_n 0, 1) := by decide +kernel
theorem dX6_firstWhole_32 : decode cX6_firstWhole 32 = .ok (.getfield 23, 3) := by decide +kernel
theorem dX6_firstWhole_35 : decode cX6_firstWhole 35 = .ok (.iload_n 1, 1) := by decide +kernel
theorem dX6_firstWhole_36 : decode cX6_firstWhole 36 = .ok (.iload_n 2, 1) := by decide +kernel
theorem dX6_firstWhole_37 : decode cX6_firstWhole 37 = .ok (.iadd, 1) := by decide +kernel
theorem dX6_firstWhole_38 : decode cX6_firstWhole 38 = .ok (.iaload, 1) := by decide +kernel
theorem dX6_firstWhole_39 : decode cX6_firstWhole 39 = .ok (.ireturn, 1) := by decide +kernel
theorem dX6_firstWhole_40 : decode cX6_firstWhole 40 = .ok (.iinc 2 1, 3) := by decide +kernel
theorem dX6_firstWhole_43 : decode cX6_firstWhole 43 = .ok (.goto (-41), 3) := by decide +kernel
theorem dX6_firstWhole_46 : decode cX6_firstWhole 46 = .ok (.bipush (-6), 2) := by decide +kernel
theorem dX6_firstWhole_48 : decode cX6_firstWhole 48 = .ok (.ireturn, 1) := by decide +kernel
set_option maxRecDepth 20000 in
theorem ggX6_whyNotInk_X6_top : GoodIn wsX6_whyNotInk wsX6_top := goodIn_r _ [5, 6, 7, 8, 9, 10, 4, 11, 12, 13, 14, 15, 16, 17, 18, 19, 20, 21, 22, 23, 24, 25, 26, 27, 28, 29, 30, 31, 32, 33, 34, 35, 36, 37, 38, 39, 40, 41, 42, 43, 44, 45, 46, 47, 48, 49, 50, 51] (by decide +kernel) (by decide +kernel)
set_option maxRecDepth 20000 in
theorem gX6_whyNotInk_X6_top : GoodIn wsX6_whyNotInk (wsV RX6 87 RX6 yX6_top wsX6_top) := goodIn_app (goodIn_of _ (by decide +kernel)) ggX6_whyNotInk_X6_top
set_option maxRecDepth 20000 in
theorem ggX6_whyNotInk_X6_in : GoodIn wsX6_whyNotInk wsX6_in := goodIn_r _ [35] (by decide +kernel) (by decide +kernel)
set_option maxRecDepth 20000 in
theorem gX6_whyNotInk_X6_in : GoodIn wsX6_whyNotInk (va_wsS RX6 74 yX6_in wsX6_in) := goodIn_app (goodIn_of _ (by decide +kernel)) ggX6_whyNotInk_X6_in
theorem dX6_whyNotInk_0 : decode cX6_whyNotInk 0 = .ok (.aload_n 0, 1) := by decide +kernel
theorem dX6_whyNotInk_1 : decode cX6_whyNotInk 1 = .ok (.iload_n 1, 1) := by decide +kernel
theorem dX6_whyNotInk_2 : decode cX6_whyNotInk 2 = .ok (.iload_n 2, 1) := by decide +kernel
theorem dX6_whyNotInk_3 : decode cX6_whyNotInk 3 = .ok (.invokevirtual 87, 3) := by decide +kernel
theorem dX6_whyNotInk_6 : decode cX6_whyNotInk 6 = .ok (.bipush (-6), 2) := by decide +kernel
theorem dX6_whyNotInk_8 : decode cX6_whyNotInk 8 = .ok (.if_icmp .ne 7, 3) := by decide +kernel
theorem dX6_whyNotInk_11 : decode cX6_whyNotInk 11 = .ok (.iconst (-1), 1) := by decide +kernel
theorem dX6_whyNotInk_12 : decode cX6_whyNotInk 12 = .ok (.goto 18, 3) := by decide +kernel
theorem dX6_whyNotInk_15 : decode cX6_whyNotInk 15 = .ok (.iload_n 3, 1) := by decide +kernel
theorem dX6_whyNotInk_16 : decode cX6_whyNotInk 16 = .ok (.iconst 1, 1) := by decide +kernel
theorem dX6_whyNotInk_17 : decode cX6_whyNotInk 17 = .ok (.iconst 5, 1) := by decide +kernel
theorem dX6_whyNotInk_18 : decode cX6_whyNotInk 18 = .ok (.invokestatic 74, 3) := by decide +kernel
theorem dX6_whyNotInk_21 : decode cX6_whyNotInk 21 = .ok (.ifCond .eq 7, 3) := by decide +kernel
theorem dX6_whyNotInk_24 : decode cX6_whyNotInk 24 = .ok (.iconst 0, 1) := by decide +kernel
theorem dX6_whyNotInk_25 : decode cX6_whyNotInk 25 = .ok (.goto 5, 3) := by decide +kernel
theorem dX6_whyNotInk_28 : decode cX6_whyNotInk 28 = .ok (.bipush (-2), 2) := by decide +kernel
theorem dX6_whyNotInk_30 : decode cX6_whyNotInk 30 = .ok (.ireturn, 1) := by decide +kernel
set_option maxRecDepth 20000 in
theorem ggX6_inks_X6_top : GoodIn wsX6_inks wsX6_top := goodIn_r _ [6, 7, 8, 9, 10, 11, 5, 12, 1, 13, 14, 15, 16, 17, 18, 19, 20, 21, 22, 23, 24, 25, 26, 27, 28, 29, 30, 31, 32, 33, 34, 35, 40, 41, 42, 43, 44, 45, 46, 47, 48, 49, 50, 51, 52, 53, 54, 55] (by decide +kernel) (by decide +kernel)
set_option maxRecDepth 20000 in
theorem gX6_inks_X6_top : GoodIn wsX6_inks (wsV RX6 87 RX6 yX6_top wsX6_top) := goodIn_app (goodIn_of _ (by decide +kernel)) ggX6_inks_X6_top
set_option maxRecDepth 20000 in
theorem ggX6_inks_X6_firstWhole : GoodIn wsX6_inks wsX6_firstWhole := goodIn_r _ [39, 1, 17, 23, 24, 25, 5, 26, 7, 8, 40, 41, 42, 43, 44, 45, 46, 47, 48, 49, 50, 51, 52, 53, 54, 55] (by decide +kernel) (by decide +kernel)
set_option maxRecDepth 20000 in
theorem gX6_inks_X6_firstWhole : GoodIn wsX6_inks (wsV RX6 97 RX6 yX6_firstWhole wsX6_firstWhole) := goodIn_app (goodIn_of _ (by decide +kernel)) ggX6_inks_X6_firstWhole
theorem dX6_inks_0 : decode cX6_inks 0 = .ok (.aload_n 0, 1) := by decide +kernel
theorem dX6_inks_1 : decode cX6_inks 1 = .ok (.aload_n 0, 1) := by decide +kernel
theorem dX6_inks_2 : decode cX6_inks 2 = .ok (.iload_n 1, 1) := by decide +kernel
theorem dX6_inks_3 : decode cX6_inks 3 = .ok (.iload_n 2, 1) := by decide +kernel
theorem dX6_inks_4 : decode cX6_inks 4 = .ok (.invokevirtual 87, 3) := by decide +kernel
theorem dX6_inks_7 : decode cX6_inks 7 = .ok (.invokevirtual 97, 3) := by decide +kernel
theorem dX6_inks_10 : decode cX6_inks 10 = .ok (.istore 4, 2) := by decide +kernel
theorem dX6_inks_12 : decode cX6_inks 12 = .ok (.iload 4, 2) := by decide +kernel
theorem dX6_inks_14 : decode cX6_inks 14 = .ok (.bipush (-6), 2) := by decide +kernel
theorem dX6_inks_16 : decode cX6_inks 16 = .ok (.if_icmp .ne 6, 3) := by decide +kernel
theorem dX6_inks_19 : decode cX6_inks 19 = .ok (.bipush (-6), 2) := by decide +kernel
theorem dX6_inks_21 : decode cX6_inks 21 = .ok (.ireturn, 1) := by decide +kernel
theorem dX6_inks_22 : decode cX6_inks 22 = .ok (.aload_n 0, 1) := by decide +kernel
theorem dX6_inks_23 : decode cX6_inks 23 = .ok (.getfield 7, 3) := by decide +kernel
theorem dX6_inks_26 : decode cX6_inks 26 = .ok (.bipush 71, 2) := by decide +kernel
