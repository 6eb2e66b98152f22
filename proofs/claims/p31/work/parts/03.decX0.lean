theorem dX0_init_0 : decode cX0_init 0 = .ok (.aload_n 0, 1) := by decide +kernel
theorem dX0_init_1 : decode cX0_init 1 = .ok (.invokespecial 3, 3) := by decide +kernel
theorem dX0_init_4 : decode cX0_init 4 = .ok (.aload_n 0, 1) := by decide +kernel
theorem dX0_init_5 : decode cX0_init 5 = .ok (.bipush 6, 2) := by decide +kernel
theorem dX0_init_7 : decode cX0_init 7 = .ok (.newarray .int, 2) := by decide +kernel
theorem dX0_init_9 : decode cX0_init 9 = .ok (.putfield 9, 3) := by decide +kernel
theorem dX0_init_12 : decode cX0_init 12 = .ok (.aload_n 0, 1) := by decide +kernel
theorem dX0_init_13 : decode cX0_init 13 = .ok (.iconst 0, 1) := by decide +kernel
theorem dX0_init_14 : decode cX0_init 14 = .ok (.putfield 15, 3) := by decide +kernel
theorem dX0_init_17 : decode cX0_init 17 = .ok (.aload_n 0, 1) := by decide +kernel
theorem dX0_init_18 : decode cX0_init 18 = .ok (.iconst 0, 1) := by decide +kernel
theorem dX0_init_19 : decode cX0_init 19 = .ok (.putfield 19, 3) := by decide +kernel
theorem dX0_init_22 : decode cX0_init 22 = .ok (.return_, 1) := by decide +kernel
theorem dX0_becomeLike_0 : decode cX0_becomeLike 0 = .ok (.aload_n 1, 1) := by decide +kernel
theorem dX0_becomeLike_1 : decode cX0_becomeLike 1 = .ok (.getfield 9, 3) := by decide +kernel
theorem dX0_becomeLike_4 : decode cX0_becomeLike 4 = .ok (.iconst 0, 1) := by decide +kernel
theorem dX0_becomeLike_5 : decode cX0_becomeLike 5 = .ok (.aload_n 0, 1) := by decide +kernel
theorem dX0_becomeLike_6 : decode cX0_becomeLike 6 = .ok (.getfield 9, 3) := by decide +kernel
theorem dX0_becomeLike_9 : decode cX0_becomeLike 9 = .ok (.iconst 0, 1) := by decide +kernel
theorem dX0_becomeLike_10 : decode cX0_becomeLike 10 = .ok (.aload_n 0, 1) := by decide +kernel
theorem dX0_becomeLike_11 : decode cX0_becomeLike 11 = .ok (.getfield 9, 3) := by decide +kernel
theorem dX0_becomeLike_14 : decode cX0_becomeLike 14 = .ok (.arraylength, 1) := by decide +kernel
theorem dX0_becomeLike_15 : decode cX0_becomeLike 15 = .ok (.invokestatic 22, 3) := by decide +kernel
theorem dX0_becomeLike_18 : decode cX0_becomeLike 18 = .ok (.aload_n 0, 1) := by decide +kernel
theorem dX0_becomeLike_19 : decode cX0_becomeLike 19 = .ok (.aload_n 1, 1) := by decide +kernel
theorem dX0_becomeLike_20 : decode cX0_becomeLike 20 = .ok (.getfield 15, 3) := by decide +kernel
theorem dX0_becomeLike_23 : decode cX0_becomeLike 23 = .ok (.putfield 15, 3) := by decide +kernel
theorem dX0_becomeLike_26 : decode cX0_becomeLike 26 = .ok (.aload_n 0, 1) := by decide +kernel
theorem dX0_becomeLike_27 : decode cX0_becomeLike 27 = .ok (.aload_n 1, 1) := by decide +kernel
theorem dX0_becomeLike_28 : decode cX0_becomeLike 28 = .ok (.getfield 19, 3) := by decide +kernel
theorem dX0_becomeLike_31 : decode cX0_becomeLike 31 = .ok (.putfield 19, 3) := by decide +kernel
theorem dX0_becomeLike_34 : decode cX0_becomeLike 34 = .ok (.return_, 1) := by decide +kernel
theorem dX0_takeAllBack_0 : decode cX0_takeAllBack 0 = .ok (.aload_n 0, 1) := by decide +kernel
theorem dX0_takeAllBack_1 : decode cX0_takeAllBack 1 = .ok (.iconst 0, 1) := by decide +kernel
theorem dX0_takeAllBack_2 : decode cX0_takeAllBack 2 = .ok (.putfield 15, 3) := by decide +kernel
theorem dX0_takeAllBack_5 : decode cX0_takeAllBack 5 = .ok (.aload_n 0, 1) := by decide +kernel
theorem dX0_takeAllBack_6 : decode cX0_takeAllBack 6 = .ok (.iconst 0, 1) := by decide +kernel
theorem dX0_takeAllBack_7 : decode cX0_takeAllBack 7 = .ok (.putfield 19, 3) := by decide +kernel
theorem dX0_takeAllBack_10 : decode cX0_takeAllBack 10 = .ok (.return_, 1) := by decide +kernel
set_option maxRecDepth 20000 in
theorem ggX0_foldAnew_X0_takeAllBack : GoodIn wsX0_foldAnew wsX0_takeAllBack := goodIn_r _ [5, 6, 7, 16, 17, 18] (by decide +kernel) (by decide +kernel)
set_option maxRecDepth 20000 in
theorem gX0_foldAnew_X0_takeAllBack : GoodIn wsX0_foldAnew (wsV RX0 28 RX0 yX0_takeAllBack wsX0_takeAllBack) := goodIn_app (goodIn_of _ (by decide +kernel)) ggX0_foldAnew_X0_takeAllBack
set_option maxRecDepth 20000 in
theorem ggX0_foldAnew_X0_addFold : GoodIn wsX0_foldAnew wsX0_addFold := goodIn_r _ [11, 6, 12, 7, 13, 14, 4, 15, 16, 17, 18] (by decide +kernel) (by decide +kernel)
set_option maxRecDepth 20000 in
theorem gX0_foldAnew_X0_addFold : GoodIn wsX0_foldAnew (wsV RX0 31 RX0 yX0_addFold wsX0_addFold) := goodIn_app (goodIn_of _ (by decide +kernel)) ggX0_foldAnew_X0_addFold
theorem dX0_foldAnew_0 : decode cX0_foldAnew 0 = .ok (.aload_n 0, 1) := by decide +kernel
theorem dX0_foldAnew_1 : decode cX0_foldAnew 1 = .ok (.invokevirtual 28, 3) := by decide +kernel
theorem dX0_foldAnew_4 : decode cX0_foldAnew 4 = .ok (.iconst 0, 1) := by decide +kernel
theorem dX0_foldAnew_5 : decode cX0_foldAnew 5 = .ok (.istore_n 3, 1) := by decide +kernel
theorem dX0_foldAnew_6 : decode cX0_foldAnew 6 = .ok (.iload_n 3, 1) := by decide +kernel
theorem dX0_foldAnew_7 : decode cX0_foldAnew 7 = .ok (.iload_n 1, 1) := by decide +kernel
theorem dX0_foldAnew_8 : decode cX0_foldAnew 8 = .ok (.if_icmp .ge 14, 3) := by decide +kernel
theorem dX0_foldAnew_11 : decode cX0_foldAnew 11 = .ok (.aload_n 0, 1) := by decide +kernel
theorem dX0_foldAnew_12 : decode cX0_foldAnew 12 = .ok (.iconst 1, 1) := by decide +kernel
theorem dX0_foldAnew_13 : decode cX0_foldAnew 13 = .ok (.invokevirtual 31, 3) := by decide +kernel
theorem dX0_foldAnew_16 : decode cX0_foldAnew 16 = .ok (.iinc 3 1, 3) := by decide +kernel
theorem dX0_foldAnew_19 : decode cX0_foldAnew 19 = .ok (.goto (-13), 3) := by decide +kernel
theorem dX0_foldAnew_22 : decode cX0_foldAnew 22 = .ok (.iconst 0, 1) := by decide +kernel
theorem dX0_foldAnew_23 : decode cX0_foldAnew 23 = .ok (.istore_n 3, 1) := by decide +kernel
theorem dX0_foldAnew_24 : decode cX0_foldAnew 24 = .ok (.iload_n 3, 1) := by decide +kernel
theorem dX0_foldAnew_25 : decode cX0_foldAnew 25 = .ok (.iload_n 2, 1) := by decide +kernel
theorem dX0_foldAnew_26 : decode cX0_foldAnew 26 = .ok (.if_icmp .ge 14, 3) := by decide +kernel
theorem dX0_foldAnew_29 : decode cX0_foldAnew 29 = .ok (.aload_n 0, 1) := by decide +kernel
theorem dX0_foldAnew_30 : decode cX0_foldAnew 30 = .ok (.iconst 3, 1) := by decide +kernel
theorem dX0_foldAnew_31 : decode cX0_foldAnew 31 = .ok (.invokevirtual 31, 3) := by decide +kernel
theorem dX0_foldAnew_34 : decode cX0_foldAnew 34 = .ok (.iinc 3 1, 3) := by decide +kernel
theorem dX0_foldAnew_37 : decode cX0_foldAnew 37 = .ok (.goto (-13), 3) := by decide +kernel
theorem dX0_foldAnew_40 : decode cX0_foldAnew 40 = .ok (.return_, 1) := by decide +kernel
set_option maxRecDepth 20000 in
theorem ggX0_addFold_X0_isAcross : GoodIn wsX0_addFold wsX0_isAcross := goodIn_r _ [7] (by decide +kernel) (by decide +kernel)
set_option maxRecDepth 20000 in
theorem gX0_addFold_X0_isAcross : GoodIn wsX0_addFold (va_wsS RX0 35 yX0_isAcross wsX0_isAcross) := goodIn_app (goodIn_of _ (by decide +kernel)) ggX0_addFold_X0_isAcross
theorem dX0_addFold_0 : decode cX0_addFold 0 = .ok (.aload_n 0, 1) := by decide +kernel
theorem dX0_addFold_1 : decode cX0_addFold 1 = .ok (.getfield 15, 3) := by decide +kernel
theorem dX0_addFold_4 : decode cX0_addFold 4 = .ok (.ifCond .lt 56, 3) := by decide +kernel
theorem dX0_addFold_7 : decode cX0_addFold 7 = .ok (.aload_n 0, 1) := by decide +kernel
theorem dX0_addFold_8 : decode cX0_addFold 8 = .ok (.getfield 15, 3) := by decide +kernel
theorem dX0_addFold_11 : decode cX0_addFold 11 = .ok (.aload_n 0, 1) := by decide +kernel
theorem dX0_addFold_12 : decode cX0_addFold 12 = .ok (.getfield 9, 3) := by decide +kernel
theorem dX0_addFold_15 : decode cX0_addFold 15 = .ok (.arraylength, 1) := by decide +kernel
theorem dX0_addFold_16 : decode cX0_addFold 16 = .ok (.if_icmp .ge 44, 3) := by decide +kernel
theorem dX0_addFold_19 : decode cX0_addFold 19 = .ok (.aload_n 0, 1) := by decide +kernel
theorem dX0_addFold_20 : decode cX0_addFold 20 = .ok (.getfield 9, 3) := by decide +kernel
theorem dX0_addFold_23 : decode cX0_addFold 23 = .ok (.aload_n 0, 1) := by decide +kernel
theorem dX0_addFold_24 : decode cX0_addFold 24 = .ok (.getfield 15, 3) := by decide +kernel
theorem dX0_addFold_27 : decode cX0_addFold 27 = .ok (.iload_n 1, 1) := by decide +kernel
theorem dX0_addFold_28 : decode cX0_addFold 28 = .ok (.iastore, 1) := by decide +kernel
theorem dX0_addFold_29 : decode cX0_addFold 29 = .ok (.aload_n 0, 1) := by decide +kernel
theorem dX0_addFold_30 : decode cX0_addFold 30 = .ok (.dup, 1) := by decide +kernel
theorem dX0_addFold_31 : decode cX0_addFold 31 = .ok (.getfield 15, 3) := by decide +kernel
theorem dX0_addFold_34 : decode cX0_addFold 34 = .ok (.iconst 1, 1) := by decide +kernel
theorem dX0_addFold_35 : decode cX0_addFold 35 = .ok (.iadd, 1) := by decide +kernel
theorem dX0_addFold_36 : decode cX0_addFold 36 = .ok (.putfield 15, 3) := by decide +kernel
theorem dX0_addFold_39 : decode cX0_addFold 39 = .ok (.aload_n 0, 1) := by decide +kernel
theorem dX0_addFold_40 : decode cX0_addFold 40 = .ok (.dup, 1) := by decide +kernel
theorem dX0_addFold_41 : decode cX0_addFold 41 = .ok (.getfield 19, 3) := by decide +kernel
theorem dX0_addFold_44 : decode cX0_addFold 44 = .ok (.iload_n 1, 1) := by decide +kernel
theorem dX0_addFold_45 : decode cX0_addFold 45 = .ok (.invokestatic 35, 3) := by decide +kernel
theorem dX0_addFold_48 : decode cX0_addFold 48 = .ok (.ifCond .eq 7, 3) := by decide +kernel
theorem dX0_addFold_51 : decode cX0_addFold 51 = .ok (.iconst 1, 1) := by decide +kernel
theorem dX0_addFold_52 : decode cX0_addFold 52 = .ok (.goto 4, 3) := by decide +kernel
theorem dX0_addFold_55 : decode cX0_addFold 55 = .ok (.iconst 0, 1) := by decide +kernel
theorem dX0_addFold_56 : decode cX0_addFold 56 = .ok (.iadd, 1) := by decide +kernel
theorem dX0_addFold_57 : decode cX0_addFold 57 = .ok (.putfield 19, 3) := by decide +kernel
theorem dX0_addFold_60 : decode cX0_addFold 60 = .ok (.return_, 1) := by decide +kernel
set_option maxRecDepth 20000 in
theorem ggX0_takeLatestBack_X0_kindOf : GoodIn wsX0_takeLatestBack wsX0_kindOf := goodIn_r _ [7, 8, 12, 13, 14] (by decide +kernel) (by decide +kernel)
set_option maxRecDepth 20000 in
theorem gX0_takeLatestBack_X0_kindOf : GoodIn wsX0_takeLatestBack (wsV RX0 39 RX0 yX0_kindOf wsX0_kindOf) := goodIn_app (goodIn_of _ (by decide +kernel)) ggX0_takeLatestBack_X0_kindOf
set_option maxRecDepth 20000 in
theorem ggX0_takeLatestBack_X0_isAcross : GoodIn wsX0_takeLatestBack wsX0_isAcross := goodIn_r _ [11] (by decide +kernel) (by decide +kernel)
set_option maxRecDepth 20000 in
theorem gX0_takeLatestBack_X0_isAcross : GoodIn wsX0_takeLatestBack (va_wsS RX0 35 yX0_isAcross wsX0_isAcross) := goodIn_app (goodIn_of _ (by decide +kernel)) ggX0_takeLatestBack_X0_isAcross
theorem dX0_takeLatestBack_0 : decode cX0_takeLatestBack 0 = .ok (.aload_n 0, 1) := by decide +kernel
theorem dX0_takeLatestBack_1 : decode cX0_takeLatestBack 1 = .ok (.aload_n 0, 1) := by decide +kernel
theorem dX0_takeLatestBack_2 : decode cX0_takeLatestBack 2 = .ok (.getfield 15, 3) := by decide +kernel
theorem dX0_takeLatestBack_5 : decode cX0_takeLatestBack 5 = .ok (.iconst 1, 1) := by decide +kernel
theorem dX0_takeLatestBack_6 : decode cX0_takeLatestBack 6 = .ok (.isub, 1) := by decide +kernel
theorem dX0_takeLatestBack_7 : decode cX0_takeLatestBack 7 = .ok (.invokevirtual 39, 3) := by decide +kernel
theorem dX0_takeLatestBack_10 : decode cX0_takeLatestBack 10 = .ok (.istore_n 1, 1) := by decide +kernel
theorem dX0_takeLatestBack_11 : decode cX0_takeLatestBack 11 = .ok (.aload_n 0, 1) := by decide +kernel
theorem dX0_takeLatestBack_12 : decode cX0_takeLatestBack 12 = .ok (.dup, 1) := by decide +kernel
theorem dX0_takeLatestBack_13 : decode cX0_takeLatestBack 13 = .ok (.getfield 15, 3) := by decide +kernel
theorem dX0_takeLatestBack_16 : decode cX0_takeLatestBack 16 = .ok (.iconst 1, 1) := by decide +kernel
theorem dX0_takeLatestBack_17 : decode cX0_takeLatestBack 17 = .ok (.isub, 1) := by decide +kernel
theorem dX0_takeLatestBack_18 : decode cX0_takeLatestBack 18 = .ok (.putfield 15, 3) := by decide +kernel
theorem dX0_takeLatestBack_21 : decode cX0_takeLatestBack 21 = .ok (.aload_n 0, 1) := by decide +kernel
theorem dX0_takeLatestBack_22 : decode cX0_takeLatestBack 22 = .ok (.dup, 1) := by decide +kernel
theorem dX0_takeLatestBack_23 : decode cX0_takeLatestBack 23 = .ok (.getfield 19, 3) := by decide +kernel
theorem dX0_takeLatestBack_26 : decode cX0_takeLatestBack 26 = .ok (.iload_n 1, 1) := by decide +kernel
theorem dX0_takeLatestBack_27 : decode cX0_takeLatestBack 27 = .ok (.invokestatic 35, 3) := by decide +kernel
theorem dX0_takeLatestBack_30 : decode cX0_takeLatestBack 30 = .ok (.ifCond .eq 7, 3) := by decide +kernel
theorem dX0_takeLatestBack_33 : decode cX0_takeLatestBack 33 = .ok (.iconst 1, 1) := by decide +kernel
theorem dX0_takeLatestBack_34 : decode cX0_takeLatestBack 34 = .ok (.goto 4, 3) := by decide +kernel
theorem dX0_takeLatestBack_37 : decode cX0_takeLatestBack 37 = .ok (.iconst 0, 1) := by decide +kernel
theorem dX0_takeLatestBack_38 : decode cX0_takeLatestBack 38 = .ok (.isub, 1) := by decide +kernel
theorem dX0_takeLatestBack_39 : decode cX0_takeLatestBack 39 = .ok (.putfield 19, 3) := by decide +kernel
theorem dX0_takeLatestBack_42 : decode cX0_takeLatestBack 42 = .ok (.iload_n 1, 1) := by decide +kernel
theorem dX0_takeLatestBack_43 : decode cX0_takeLatestBack 43 = .ok (.ireturn, 1) := by decide +kernel
theorem dX0_hasFold_0 : decode cX0_hasFold 0 = .ok (.iload_n 1, 1) := by decide +kernel
theorem dX0_hasFold_1 : decode cX0_hasFold 1 = .ok (.ifCond .lt 15, 3) := by decide +kernel
theorem dX0_hasFold_4 : decode cX0_hasFold 4 = .ok (.iload_n 1, 1) := by decide +kernel
theorem dX0_hasFold_5 : decode cX0_hasFold 5 = .ok (.aload_n 0, 1) := by decide +kernel
theorem dX0_hasFold_6 : decode cX0_hasFold 6 = .ok (.getfield 15, 3) := by decide +kernel
theorem dX0_hasFold_9 : decode cX0_hasFold 9 = .ok (.if_icmp .ge 7, 3) := by decide +kernel
theorem dX0_hasFold_12 : decode cX0_hasFold 12 = .ok (.iconst 1, 1) := by decide +kernel
theorem dX0_hasFold_13 : decode cX0_hasFold 13 = .ok (.goto 4, 3) := by decide +kernel
theorem dX0_hasFold_16 : decode cX0_hasFold 16 = .ok (.iconst 0, 1) := by decide +kernel
theorem dX0_hasFold_17 : decode cX0_hasFold 17 = .ok (.ireturn, 1) := by decide +kernel
theorem dX0_kindOf_0 : decode cX0_kindOf 0 = .ok (.iload_n 1, 1) := by decide +kernel
theorem dX0_kindOf_1 : decode cX0_kindOf 1 = .ok (.ifCond .lt 21, 3) := by decide +kernel
theorem dX0_kindOf_4 : decode cX0_kindOf 4 = .ok (.iload_n 1, 1) := by decide +kernel
theorem dX0_kindOf_5 : decode cX0_kindOf 5 = .ok (.aload_n 0, 1) := by decide +kernel
theorem dX0_kindOf_6 : decode cX0_kindOf 6 = .ok (.getfield 9, 3) := by decide +kernel
theorem dX0_kindOf_9 : decode cX0_kindOf 9 = .ok (.arraylength, 1) := by decide +kernel
theorem dX0_kindOf_10 : decode cX0_kindOf 10 = .ok (.if_icmp .ge 12, 3) := by decide +kernel
theorem dX0_kindOf_13 : decode cX0_kindOf 13 = .ok (.aload_n 0, 1) := by decide +kernel
theorem dX0_kindOf_14 : decode cX0_kindOf 14 = .ok (.getfield 9, 3) := by decide +kernel
theorem dX0_kindOf_17 : decode cX0_kindOf 17 = .ok (.iload_n 1, 1) := by decide +kernel
theorem dX0_kindOf_18 : decode cX0_kindOf 18 = .ok (.iaload, 1) := by decide +kernel
theorem dX0_kindOf_19 : decode cX0_kindOf 19 = .ok (.goto 4, 3) := by decide +kernel
theorem dX0_kindOf_22 : decode cX0_kindOf 22 = .ok (.iconst 0, 1) := by decide +kernel
theorem dX0_kindOf_23 : decode cX0_kindOf 23 = .ok (.ireturn, 1) := by decide +kernel
theorem dX0_isAcross_0 : decode cX0_isAcross 0 = .ok (.iload_n 0, 1) := by decide +kernel
theorem dX0_isAcross_1 : decode cX0_isAcross 1 = .ok (.iconst 2, 1) := by decide +kernel
theorem dX0_isAcross_2 : decode cX0_isAcross 2 = .ok (.if_icmp .ge 7, 3) := by decide +kernel
theorem dX0_isAcross_5 : decode cX0_isAcross 5 = .ok (.iconst 1, 1) := by decide +kernel
theorem dX0_isAcross_6 : decode cX0_isAcross 6 = .ok (.goto 4, 3) := by decide +kernel
theorem dX0_isAcross_9 : decode cX0_isAcross 9 = .ok (.iconst 0, 1) := by decide +kernel
theorem dX0_isAcross_10 : decode cX0_isAcross 10 = .ok (.ireturn, 1) := by decide +kernel
theorem dX0_movesFirstHalf_0 : decode cX0_movesFirstHalf 0 = .ok (.iload_n 0, 1) := by decide +kernel
theorem dX0_movesFirstHalf_1 : decode cX0_movesFirstHalf 1 = .ok (.iconst 2, 1) := by decide +kernel
theorem dX0_movesFirstHalf_2 : decode cX0_movesFirstHalf 2 = .ok (.irem, 1) := by decide +kernel
theorem dX0_movesFirstHalf_3 : decode cX0_movesFirstHalf 3 = .ok (.ifCond .ne 7, 3) := by decide +kernel
theorem dX0_movesFirstHalf_6 : decode cX0_movesFirstHalf 6 = .ok (.iconst 1, 1) := by decide +kernel
theorem dX0_movesFirstHalf_7 : decode cX0_movesFirstHalf 7 = .ok (.goto 4, 3) := by decide +kernel
theorem dX0_movesFirstHalf_10 : decode cX0_movesFirstHalf 10 = .ok (.iconst 0, 1) := by decide +kernel
theorem dX0_movesFirstHalf_11 : decode cX0_movesFirstHalf 11 = .ok (.ireturn, 1) := by decide +kernel
theorem dX0_columns_0 : decode cX0_columns 0 = .ok (.bipush 8, 2) := by decide +kernel
theorem dX0_columns_2 : decode cX0_columns 2 = .ok (.aload_n 0, 1) := by decide +kernel
theorem dX0_columns_3 : decode cX0_columns 3 = .ok (.getfield 19, 3) := by decide +kernel
theorem dX0_columns_6 : decode cX0_columns 6 = .ok (.ishr, 1) := by decide +kernel
theorem dX0_columns_7 : decode cX0_columns 7 = .ok (.ireturn, 1) := by decide +kernel
theorem dX0_rows_0 : decode cX0_rows 0 = .ok (.bipush 8, 2) := by decide +kernel
theorem dX0_rows_2 : decode cX0_rows 2 = .ok (.aload_n 0, 1) := by decide +kernel
theorem dX0_rows_3 : decode cX0_rows 3 = .ok (.getfield 15, 3) := by decide +kernel
theorem dX0_rows_6 : decode cX0_rows 6 = .ok (.aload_n 0, 1) := by decide +kernel
theorem dX0_rows_7 : decode cX0_rows 7 = .ok (.getfield 19, 3) := by decide +kernel
theorem dX0_rows_10 : decode cX0_rows 10 = .ok (.isub, 1) := by decide +kernel
theorem dX0_rows_11 : decode cX0_rows 11 = .ok (.ishr, 1) := by decide +kernel
theorem dX0_rows_12 : decode cX0_rows 12 = .ok (.ireturn, 1) := by decide +kernel
theorem dX0_layers_0 : decode cX0_layers 0 = .ok (.iconst 1, 1) := by decide +kernel
theorem dX0_layers_1 : decode cX0_layers 1 = .ok (.aload_n 0, 1) := by decide +kernel
theorem dX0_layers_2 : decode cX0_layers 2 = .ok (.getfield 15, 3) := by decide +kernel
theorem dX0_layers_5 : decode cX0_layers 5 = .ok (.ishl, 1) := by decide +kernel
theorem dX0_layers_6 : decode cX0_layers 6 = .ok (.ireturn, 1) := by decide +kernel
set_option maxRecDepth 20000 in
theorem ggX0_hasField_X0_columns : GoodIn wsX0_hasField wsX0_columns := goodIn_r _ [5, 6, 12, 13, 14] (by decide +kernel) (by decide +kernel)
set_option maxRecDepth 20000 in
theorem gX0_hasField_X0_columns : GoodIn wsX0_hasField (wsV RX0 43 RX0 yX0_columns wsX0_columns) := goodIn_app (goodIn_of _ (by decide +kernel)) ggX0_hasField_X0_columns
set_option maxRecDepth 20000 in
theorem ggX0_hasField_X0_rows : GoodIn wsX0_hasField wsX0_rows := goodIn_r _ [10, 11, 6, 12, 13, 14] (by decide +kernel) (by decide +kernel)
set_option maxRecDepth 20000 in
theorem gX0_hasField_X0_rows : GoodIn wsX0_hasField (wsV RX0 47 RX0 yX0_rows wsX0_rows) := goodIn_app (goodIn_of _ (by decide +kernel)) ggX0_hasField_X0_rows
theorem dX0_hasField_0 : decode cX0_hasField 0 = .ok (.iload_n 1, 1) := by decide +kernel
theorem dX0_hasField_1 : decode cX0_hasField 1 = .ok (.ifCond .lt 27, 3) := by decide +kernel
theorem dX0_hasField_4 : decode cX0_hasField 4 = .ok (.iload_n 1, 1) := by decide +kernel
theorem dX0_hasField_5 : decode cX0_hasField 5 = .ok (.aload_n 0, 1) := by decide +kernel
theorem dX0_hasField_6 : decode cX0_hasField 6 = .ok (.invokevirtual 43, 3) := by decide +kernel
theorem dX0_hasField_9 : decode cX0_hasField 9 = .ok (.if_icmp .ge 19, 3) := by decide +kernel
theorem dX0_hasField_12 : decode cX0_hasField 12 = .ok (.iload_n 2, 1) := by decide +kernel
theorem dX0_hasField_13 : decode cX0_hasField 13 = .ok (.ifCond .lt 15, 3) := by decide +kernel
theorem dX0_hasField_16 : decode cX0_hasField 16 = .ok (.iload_n 2, 1) := by decide +kernel
theorem dX0_hasField_17 : decode cX0_hasField 17 = .ok (.aload_n 0, 1) := by decide +kernel
theorem dX0_hasField_18 : decode cX0_hasField 18 = .ok (.invokevirtual 47, 3) := by decide +kernel
theorem dX0_hasField_21 : decode cX0_hasField 21 = .ok (.if_icmp .ge 7, 3) := by decide +kernel
theorem dX0_hasField_24 : decode cX0_hasField 24 = .ok (.iconst 1, 1) := by decide +kernel
theorem dX0_hasField_25 : decode cX0_hasField 25 = .ok (.goto 4, 3) := by decide +kernel
theorem dX0_hasField_28 : decode cX0_hasField 28 = .ok (.iconst 0, 1) := by decide +kernel
theorem dX0_hasField_29 : decode cX0_hasField 29 = .ok (.ireturn, 1) := by decide +kernel
set_option maxRecDepth 20000 in
theorem ggX0_hasLayer_X0_hasField : GoodIn wsX0_hasLayer wsX0_hasField := goodIn_r _ [5, 6, 7, 8, 4, 9, 10, 11, 12, 13, 14, 15, 20, 21, 22] (by decide +kernel) (by decide +kernel)
set_option maxRecDepth 20000 in
theorem gX0_hasLayer_X0_hasField : GoodIn wsX0_hasLayer (wsV RX0 50 RX0 yX0_hasField wsX0_hasField) := goodIn_app (goodIn_of _ (by decide +kernel)) ggX0_hasLayer_X0_hasField
set_option maxRecDepth 20000 in
theorem ggX0_hasLayer_X0_layers : GoodIn wsX0_hasLayer wsX0_layers := goodIn_r _ [19, 15, 20, 21, 22] (by decide +kernel) (by decide +kernel)
set_option maxRecDepth 20000 in
theorem gX0_hasLayer_X0_layers : GoodIn wsX0_hasLayer (wsV RX0 54 RX0 yX0_layers wsX0_layers) := goodIn_app (goodIn_of _ (by decide +kernel)) ggX0_hasLayer_X0_layers
theorem dX0_hasLayer_0 : decode cX0_hasLayer 0 = .ok (.aload_n 0, 1) := by decide +kernel
theorem dX0_hasLayer_1 : decode cX0_hasLayer 1 = .ok (.iload_n 1, 1) := by decide +kernel
theorem dX0_hasLayer_2 : decode cX0_hasLayer 2 = .ok (.iload_n 2, 1) := by decide +kernel
theorem dX0_hasLayer_3 : decode cX0_hasLayer 3 = .ok (.invokevirtual 50, 3) := by decide +kernel
theorem dX0_hasLayer_6 : decode cX0_hasLayer 6 = .ok (.ifCond .eq 19, 3) := by decide +kernel
theorem dX0_hasLayer_9 : decode cX0_hasLayer 9 = .ok (.iload_n 3, 1) := by decide +kernel
theorem dX0_hasLayer_10 : decode cX0_hasLayer 10 = .ok (.ifCond .lt 15, 3) := by decide +kernel
theorem dX0_hasLayer_13 : decode cX0_hasLayer 13 = .ok (.iload_n 3, 1) := by decide +kernel
theorem dX0_hasLayer_14 : decode cX0_hasLayer 14 = .ok (.aload_n 0, 1) := by decide +kernel
theorem dX0_hasLayer_15 : decode cX0_hasLayer 15 = .ok (.invokevirtual 54, 3) := by decide +kernel
theorem dX0_hasLayer_18 : decode cX0_hasLayer 18 = .ok (.if_icmp .ge 7, 3) := by decide +kernel
theorem dX0_hasLayer_21 : decode cX0_hasLayer 21 = .ok (.iconst 1, 1) := by decide +kernel
theorem dX0_hasLayer_22 : decode cX0_hasLayer 22 = .ok (.goto 4, 3) := by decide +kernel
theorem dX0_hasLayer_25 : decode cX0_hasLayer 25 = .ok (.iconst 0, 1) := by decide +kernel
theorem dX0_hasLayer_26 : decode cX0_hasLayer 26 = .ok (.ireturn, 1) := by decide +kernel
set_option maxRecDepth 20000 in
theorem ggX0_upperSide_X0_columns : GoodIn wsX0_upperSide wsX0_columns := goodIn_r _ [6, 7, 30, 31, 32] (by decide +kernel) (by decide +kernel)
set_option maxRecDepth 20000 in
theorem gX0_upperSide_X0_columns : GoodIn wsX0_upperSide (wsV RX0 43 RX0 yX0_columns wsX0_columns) := goodIn_app (goodIn_of _ (by decide +kernel)) ggX0_upperSide_X0_columns
set_option maxRecDepth 20000 in
theorem ggX0_upperSide_X0_rows : GoodIn wsX0_upperSide wsX0_rows := goodIn_r _ [11, 1, 7, 30, 31, 32] (by decide +kernel) (by decide +kernel)
set_option maxRecDepth 20000 in
theorem gX0_upperSide_X0_rows : GoodIn wsX0_upperSide (wsV RX0 47 RX0 yX0_rows wsX0_rows) := goodIn_app (goodIn_of _ (by decide +kernel)) ggX0_upperSide_X0_rows
set_option maxRecDepth 20000 in
theorem ggX0_upperSide_X0_layers : GoodIn wsX0_upperSide wsX0_layers := goodIn_r _ [15, 1, 30, 31, 32] (by decide +kernel) (by decide +kernel)
set_option maxRecDepth 20000 in
theorem gX0_upperSide_X0_layers : GoodIn wsX0_upperSide (wsV RX0 54 RX0 yX0_layers wsX0_layers) := goodIn_app (goodIn_of _ (by decide +kernel)) ggX0_upperSide_X0_layers
set_option maxRecDepth 20000 in
theorem ggX0_upperSide_X0_kindOf : GoodIn wsX0_upperSide wsX0_kindOf := goodIn_r _ [19, 20, 30, 31, 32] (by decide +kernel) (by decide +kernel)
set_option maxRecDepth 20000 in
theorem gX0_upperSide_X0_kindOf : GoodIn wsX0_upperSide (wsV RX0 39 RX0 yX0_kindOf wsX0_kindOf) := goodIn_app (goodIn_of _ (by decide +kernel)) ggX0_upperSide_X0_kindOf
set_option maxRecDepth 20000 in
theorem ggX0_upperSide_X0_movesFirstHalf : GoodIn wsX0_upperSide wsX0_movesFirstHalf := goodIn_r _ [23] (by decide +kernel) (by decide +kernel)
set_option maxRecDepth 20000 in
theorem gX0_upperSide_X0_movesFirstHalf : GoodIn wsX0_upperSide (va_wsS RX0 57 yX0_movesFirstHalf wsX0_movesFirstHalf) := goodIn_app (goodIn_of _ (by decide +kernel)) ggX0_upperSide_X0_movesFirstHalf
set_option maxRecDepth 20000 in
theorem ggX0_upperSide_X0_isAcross : GoodIn wsX0_upperSide wsX0_isAcross := goodIn_r _ [26] (by decide +kernel) (by decide +kernel)
set_option maxRecDepth 20000 in
theorem gX0_upperSide_X0_isAcross : GoodIn wsX0_upperSide (va_wsS RX0 35 yX0_isAcross wsX0_isAcross) := goodIn_app (goodIn_of _ (by decide +kernel)) ggX0_upperSide_X0_isAcross
set_option maxRecDepth 20000 in
theorem ggX0_upperSide_X0_placeAhead : GoodIn wsX0_upperSide wsX0_placeAhead := goodIn_r _ [29] (by decide +kernel) (by decide +kernel)
set_option maxRecDepth 20000 in
theorem gX0_upperSide_X0_placeAhead : GoodIn wsX0_upperSide (va_wsS RX0 60 yX0_placeAhead wsX0_placeAhead) := goodIn_app (goodIn_of _ (by decide +kernel)) ggX0_upperSide_X0_placeAhead
theorem dX0_upperSide_0 : decode cX0_upperSide 0 = .ok (.iload_n 1, 1) := by decide +kernel
theorem dX0_upperSide_1 : decode cX0_upperSide 1 = .ok (.istore 4, 2) := by decide +kernel
theorem dX0_upperSide_3 : decode cX0_upperSide 3 = .ok (.iload_n 2, 1) := by decide +kernel
theorem dX0_upperSide_4 : decode cX0_upperSide 4 = .ok (.istore 5, 2) := by decide +kernel
theorem dX0_upperSide_6 : decode cX0_upperSide 6 = .ok (.iload_n 3, 1) := by decide +kernel
theorem dX0_upperSide_7 : decode cX0_upperSide 7 = .ok (.istore 6, 2) := by decide +kernel
theorem dX0_upperSide_9 : decode cX0_upperSide 9 = .ok (.iconst 0, 1) := by decide +kernel
theorem dX0_upperSide_10 : decode cX0_upperSide 10 = .ok (.istore 7, 2) := by decide +kernel
theorem dX0_upperSide_12 : decode cX0_upperSide 12 = .ok (.aload_n 0, 1) := by decide +kernel
theorem dX0_upperSide_13 : decode cX0_upperSide 13 = .ok (.invokevirtual 43, 3) := by decide +kernel
theorem dX0_upperSide_16 : decode cX0_upperSide 16 = .ok (.istore 8, 2) := by decide +kernel
theorem dX0_upperSide_18 : decode cX0_upperSide 18 = .ok (.aload_n 0, 1) := by decide +kernel
theorem dX0_upperSide_19 : decode cX0_upperSide 19 = .ok (.invokevirtual 47, 3) := by decide +kernel
theorem dX0_upperSide_22 : decode cX0_upperSide 22 = .ok (.istore 9, 2) := by decide +kernel
theorem dX0_upperSide_24 : decode cX0_upperSide 24 = .ok (.aload_n 0, 1) := by decide +kernel
theorem dX0_upperSide_25 : decode cX0_upperSide 25 = .ok (.invokevirtual 54, 3) := by decide +kernel
theorem dX0_upperSide_28 : decode cX0_upperSide 28 = .ok (.istore 10, 2) := by decide +kernel
theorem dX0_upperSide_30 : decode cX0_upperSide 30 = .ok (.aload_n 0, 1) := by decide +kernel
theorem dX0_upperSide_31 : decode cX0_upperSide 31 = .ok (.getfield 15, 3) := by decide +kernel
theorem dX0_upperSide_34 : decode cX0_upperSide 34 = .ok (.iconst 1, 1) := by decide +kernel
theorem dX0_upperSide_35 : decode cX0_upperSide 35 = .ok (.isub, 1) := by decide +kernel
theorem dX0_upperSide_36 : decode cX0_upperSide 36 = .ok (.istore 11, 2) := by decide +kernel
theorem dX0_upperSide_38 : decode cX0_upperSide 38 = .ok (.iload 11, 2) := by decide +kernel
theorem dX0_upperSide_40 : decode cX0_upperSide 40 = .ok (.ifCond .lt 131, 3) := by decide +kernel
theorem dX0_upperSide_43 : decode cX0_upperSide 43 = .ok (.aload_n 0, 1) := by decide +kernel
theorem dX0_upperSide_44 : decode cX0_upperSide 44 = .ok (.iload 11, 2) := by decide +kernel
theorem dX0_upperSide_46 : decode cX0_upperSide 46 = .ok (.invokevirtual 39, 3) := by decide +kernel
theorem dX0_upperSide_49 : decode cX0_upperSide 49 = .ok (.istore 12, 2) := by decide +kernel
theorem dX0_upperSide_51 : decode cX0_upperSide 51 = .ok (.iload 12, 2) := by decide +kernel
theorem dX0_upperSide_53 : decode cX0_upperSide 53 = .ok (.invokestatic 57, 3) := by decide +kernel
theorem dX0_upperSide_56 : decode cX0_upperSide 56 = .ok (.istore 13, 2) := by decide +kernel
theorem dX0_upperSide_58 : decode cX0_upperSide 58 = .ok (.iload 10, 2) := by decide +kernel
theorem dX0_upperSide_60 : decode cX0_upperSide 60 = .ok (.iconst 2, 1) := by decide +kernel
theorem dX0_upperSide_61 : decode cX0_upperSide 61 = .ok (.idiv, 1) := by decide +kernel
theorem dX0_upperSide_62 : decode cX0_upperSide 62 = .ok (.istore 10, 2) := by decide +kernel
theorem dX0_upperSide_64 : decode cX0_upperSide 64 = .ok (.iload 6, 2) := by decide +kernel
theorem dX0_upperSide_66 : decode cX0_upperSide 66 = .ok (.iload 10, 2) := by decide +kernel
theorem dX0_upperSide_68 : decode cX0_upperSide 68 = .ok (.if_icmp .ge 7, 3) := by decide +kernel
theorem dX0_upperSide_71 : decode cX0_upperSide 71 = .ok (.iconst 1, 1) := by decide +kernel
theorem dX0_upperSide_72 : decode cX0_upperSide 72 = .ok (.goto 4, 3) := by decide +kernel
theorem dX0_upperSide_75 : decode cX0_upperSide 75 = .ok (.iconst 0, 1) := by decide +kernel
theorem dX0_upperSide_76 : decode cX0_upperSide 76 = .ok (.istore 14, 2) := by decide +kernel
theorem dX0_upperSide_78 : decode cX0_upperSide 78 = .ok (.iload 12, 2) := by decide +kernel
theorem dX0_upperSide_80 : decode cX0_upperSide 80 = .ok (.invokestatic 35, 3) := by decide +kernel
theorem dX0_upperSide_83 : decode cX0_upperSide 83 = .ok (.ifCond .eq 25, 3) := by decide +kernel
theorem dX0_upperSide_86 : decode cX0_upperSide 86 = .ok (.iload 4, 2) := by decide +kernel
theorem dX0_upperSide_88 : decode cX0_upperSide 88 = .ok (.iload 8, 2) := by decide +kernel
theorem dX0_upperSide_90 : decode cX0_upperSide 90 = .ok (.iload 13, 2) := by decide +kernel
theorem dX0_upperSide_92 : decode cX0_upperSide 92 = .ok (.iload 14, 2) := by decide +kernel
theorem dX0_upperSide_94 : decode cX0_upperSide 94 = .ok (.invokestatic 60, 3) := by decide +kernel
theorem dX0_upperSide_97 : decode cX0_upperSide 97 = .ok (.istore 4, 2) := by decide +kernel
theorem dX0_upperSide_99 : decode cX0_upperSide 99 = .ok (.iconst 2, 1) := by decide +kernel
theorem dX0_upperSide_100 : decode cX0_upperSide 100 = .ok (.iload 8, 2) := by decide +kernel
theorem dX0_upperSide_102 : decode cX0_upperSide 102 = .ok (.imul, 1) := by decide +kernel
theorem dX0_upperSide_103 : decode cX0_upperSide 103 = .ok (.istore 8, 2) := by decide +kernel
theorem dX0_upperSide_105 : decode cX0_upperSide 105 = .ok (.goto 22, 3) := by decide +kernel
theorem dX0_upperSide_108 : decode cX0_upperSide 108 = .ok (.iload 5, 2) := by decide +kernel
theorem dX0_upperSide_110 : decode cX0_upperSide 110 = .ok (.iload 9, 2) := by decide +kernel
theorem dX0_upperSide_112 : decode cX0_upperSide 112 = .ok (.iload 13, 2) := by decide +kernel
theorem dX0_upperSide_114 : decode cX0_upperSide 114 = .ok (.iload 14, 2) := by decide +kernel
theorem dX0_upperSide_116 : decode cX0_upperSide 116 = .ok (.invokestatic 60, 3) := by decide +kernel
theorem dX0_upperSide_119 : decode cX0_upperSide 119 = .ok (.istore 5, 2) := by decide +kernel
theorem dX0_upperSide_121 : decode cX0_upperSide 121 = .ok (.iconst 2, 1) := by decide +kernel
theorem dX0_upperSide_122 : decode cX0_upperSide 122 = .ok (.iload 9, 2) := by decide +kernel
theorem dX0_upperSide_124 : decode cX0_upperSide 124 = .ok (.imul, 1) := by decide +kernel
theorem dX0_upperSide_125 : decode cX0_upperSide 125 = .ok (.istore 9, 2) := by decide +kernel
theorem dX0_upperSide_127 : decode cX0_upperSide 127 = .ok (.iload 14, 2) := by decide +kernel
theorem dX0_upperSide_129 : decode cX0_upperSide 129 = .ok (.ifCond .eq 13, 3) := by decide +kernel
theorem dX0_upperSide_132 : decode cX0_upperSide 132 = .ok (.iload 10, 2) := by decide +kernel
theorem dX0_upperSide_134 : decode cX0_upperSide 134 = .ok (.iconst 1, 1) := by decide +kernel
theorem dX0_upperSide_135 : decode cX0_upperSide 135 = .ok (.isub, 1) := by decide +kernel
theorem dX0_upperSide_136 : decode cX0_upperSide 136 = .ok (.iload 6, 2) := by decide +kernel
theorem dX0_upperSide_138 : decode cX0_upperSide 138 = .ok (.isub, 1) := by decide +kernel
theorem dX0_upperSide_139 : decode cX0_upperSide 139 = .ok (.goto 8, 3) := by decide +kernel
theorem dX0_upperSide_142 : decode cX0_upperSide 142 = .ok (.iload 6, 2) := by decide +kernel
theorem dX0_upperSide_144 : decode cX0_upperSide 144 = .ok (.iload 10, 2) := by decide +kernel
theorem dX0_upperSide_146 : decode cX0_upperSide 146 = .ok (.isub, 1) := by decide +kernel
theorem dX0_upperSide_147 : decode cX0_upperSide 147 = .ok (.istore 6, 2) := by decide +kernel
theorem dX0_upperSide_149 : decode cX0_upperSide 149 = .ok (.iload 14, 2) := by decide +kernel
theorem dX0_upperSide_151 : decode cX0_upperSide 151 = .ok (.ifCond .eq 10, 3) := by decide +kernel
theorem dX0_upperSide_154 : decode cX0_upperSide 154 = .ok (.iconst 1, 1) := by decide +kernel
theorem dX0_upperSide_155 : decode cX0_upperSide 155 = .ok (.iload 7, 2) := by decide +kernel
theorem dX0_upperSide_157 : decode cX0_upperSide 157 = .ok (.isub, 1) := by decide +kernel
theorem dX0_upperSide_158 : decode cX0_upperSide 158 = .ok (.goto 5, 3) := by decide +kernel
theorem dX0_upperSide_161 : decode cX0_upperSide 161 = .ok (.iload 7, 2) := by decide +kernel
theorem dX0_upperSide_163 : decode cX0_upperSide 163 = .ok (.istore 7, 2) := by decide +kernel
theorem dX0_upperSide_165 : decode cX0_upperSide 165 = .ok (.iinc 11 (-1), 3) := by decide +kernel
theorem dX0_upperSide_168 : decode cX0_upperSide 168 = .ok (.goto (-130), 3) := by decide +kernel
theorem dX0_upperSide_171 : decode cX0_upperSide 171 = .ok (.iconst 2, 1) := by decide +kernel
theorem dX0_upperSide_172 : decode cX0_upperSide 172 = .ok (.bipush 8, 2) := by decide +kernel
theorem dX0_upperSide_174 : decode cX0_upperSide 174 = .ok (.iload 5, 2) := by decide +kernel
theorem dX0_upperSide_176 : decode cX0_upperSide 176 = .ok (.imul, 1) := by decide +kernel
theorem dX0_upperSide_177 : decode cX0_upperSide 177 = .ok (.iload 4, 2) := by decide +kernel
theorem dX0_upperSide_179 : decode cX0_upperSide 179 = .ok (.iadd, 1) := by decide +kernel
theorem dX0_upperSide_180 : decode cX0_upperSide 180 = .ok (.imul, 1) := by decide +kernel
theorem dX0_upperSide_181 : decode cX0_upperSide 181 = .ok (.iload 7, 2) := by decide +kernel
theorem dX0_upperSide_183 : decode cX0_upperSide 183 = .ok (.iadd, 1) := by decide +kernel
theorem dX0_upperSide_184 : decode cX0_upperSide 184 = .ok (.ireturn, 1) := by decide +kernel
theorem dX0_placeAhead_0 : decode cX0_placeAhead 0 = .ok (.iload_n 2, 1) := by decide +kernel
theorem dX0_placeAhead_1 : decode cX0_placeAhead 1 = .ok (.ifCond .eq 9, 3) := by decide +kernel
theorem dX0_placeAhead_4 : decode cX0_placeAhead 4 = .ok (.iload_n 1, 1) := by decide +kernel
theorem dX0_placeAhead_5 : decode cX0_placeAhead 5 = .ok (.iload_n 0, 1) := by decide +kernel
theorem dX0_placeAhead_6 : decode cX0_placeAhead 6 = .ok (.iadd, 1) := by decide +kernel
theorem dX0_placeAhead_7 : decode cX0_placeAhead 7 = .ok (.goto 4, 3) := by decide +kernel
theorem dX0_placeAhead_10 : decode cX0_placeAhead 10 = .ok (.iload_n 0, 1) := by decide +kernel
theorem dX0_placeAhead_11 : decode cX0_placeAhead 11 = .ok (.istore 4, 2) := by decide +kernel
theorem dX0_placeAhead_13 : decode cX0_placeAhead 13 = .ok (.iload_n 3, 1) := by decide +kernel
theorem dX0_placeAhead_14 : decode cX0_placeAhead 14 = .ok (.ifCond .eq 14, 3) := by decide +kernel
theorem dX0_placeAhead_17 : decode cX0_placeAhead 17 = .ok (.iconst 2, 1) := by decide +kernel
theorem dX0_placeAhead_18 : decode cX0_placeAhead 18 = .ok (.iload_n 1, 1) := by decide +kernel
theorem dX0_placeAhead_19 : decode cX0_placeAhead 19 = .ok (.imul, 1) := by decide +kernel
theorem dX0_placeAhead_20 : decode cX0_placeAhead 20 = .ok (.iconst 1, 1) := by decide +kernel
theorem dX0_placeAhead_21 : decode cX0_placeAhead 21 = .ok (.isub, 1) := by decide +kernel
theorem dX0_placeAhead_22 : decode cX0_placeAhead 22 = .ok (.iload 4, 2) := by decide +kernel
theorem dX0_placeAhead_24 : decode cX0_placeAhead 24 = .ok (.isub, 1) := by decide +kernel
theorem dX0_placeAhead_25 : decode cX0_placeAhead 25 = .ok (.goto 5, 3) := by decide +kernel
theorem dX0_placeAhead_28 : decode cX0_placeAhead 28 = .ok (.iload 4, 2) := by decide +kernel
theorem dX0_placeAhead_30 : decode cX0_placeAhead 30 = .ok (.ireturn, 1) := by decide +kernel
set_option maxRecDepth 20000 in
theorem ggX0_placeOf_X0_kindOf : GoodIn wsX0_placeOf wsX0_kindOf := goodIn_r _ [6, 7, 17, 18, 19] (by decide +kernel) (by decide +kernel)
set_option maxRecDepth 20000 in
theorem gX0_placeOf_X0_kindOf : GoodIn wsX0_placeOf (wsV RX0 39 RX0 yX0_kindOf wsX0_kindOf) := goodIn_app (goodIn_of _ (by decide +kernel)) ggX0_placeOf_X0_kindOf
set_option maxRecDepth 20000 in
theorem ggX0_placeOf_X0_isAcross : GoodIn wsX0_placeOf wsX0_isAcross := goodIn_r _ [10] (by decide +kernel) (by decide +kernel)
set_option maxRecDepth 20000 in
theorem gX0_placeOf_X0_isAcross : GoodIn wsX0_placeOf (va_wsS RX0 35 yX0_isAcross wsX0_isAcross) := goodIn_app (goodIn_of _ (by decide +kernel)) ggX0_placeOf_X0_isAcross
set_option maxRecDepth 20000 in
theorem ggX0_placeOf_X0_movesFirstHalf : GoodIn wsX0_placeOf wsX0_movesFirstHalf := goodIn_r _ [13] (by decide +kernel) (by decide +kernel)
set_option maxRecDepth 20000 in
theorem gX0_placeOf_X0_movesFirstHalf : GoodIn wsX0_placeOf (va_wsS RX0 57 yX0_movesFirstHalf wsX0_movesFirstHalf) := goodIn_app (goodIn_of _ (by decide +kernel)) ggX0_placeOf_X0_movesFirstHalf
set_option maxRecDepth 20000 in
theorem ggX0_placeOf_X0_placeAfter : GoodIn wsX0_placeOf wsX0_placeAfter := goodIn_r _ [16] (by decide +kernel) (by decide +kernel)
set_option maxRecDepth 20000 in
theorem gX0_placeOf_X0_placeAfter : GoodIn wsX0_placeOf (va_wsS RX0 64 yX0_placeAfter wsX0_placeAfter) := goodIn_app (goodIn_of _ (by decide +kernel)) ggX0_placeOf_X0_placeAfter
theorem dX0_placeOf_0 : decode cX0_placeOf 0 = .ok (.iload_n 1, 1) := by decide +kernel
theorem dX0_placeOf_1 : decode cX0_placeOf 1 = .ok (.bipush 8, 2) := by decide +kernel
theorem dX0_placeOf_3 : decode cX0_placeOf 3 = .ok (.irem, 1) := by decide +kernel
theorem dX0_placeOf_4 : decode cX0_placeOf 4 = .ok (.istore_n 3, 1) := by decide +kernel
theorem dX0_placeOf_5 : decode cX0_placeOf 5 = .ok (.iload_n 1, 1) := by decide +kernel
theorem dX0_placeOf_6 : decode cX0_placeOf 6 = .ok (.bipush 8, 2) := by decide +kernel
theorem dX0_placeOf_8 : decode cX0_placeOf 8 = .ok (.idiv, 1) := by decide +kernel
theorem dX0_placeOf_9 : decode cX0_placeOf 9 = .ok (.istore 4, 2) := by decide +kernel
theorem dX0_placeOf_11 : decode cX0_placeOf 11 = .ok (.iconst 0, 1) := by decide +kernel
theorem dX0_placeOf_12 : decode cX0_placeOf 12 = .ok (.istore 5, 2) := by decide +kernel
theorem dX0_placeOf_14 : decode cX0_placeOf 14 = .ok (.iconst 0, 1) := by decide +kernel
theorem dX0_placeOf_15 : decode cX0_placeOf 15 = .ok (.istore 6, 2) := by decide +kernel
theorem dX0_placeOf_17 : decode cX0_placeOf 17 = .ok (.bipush 8, 2) := by decide +kernel
theorem dX0_placeOf_19 : decode cX0_placeOf 19 = .ok (.istore 7, 2) := by decide +kernel
theorem dX0_placeOf_21 : decode cX0_placeOf 21 = .ok (.bipush 8, 2) := by decide +kernel
theorem dX0_placeOf_23 : decode cX0_placeOf 23 = .ok (.istore 8, 2) := by decide +kernel
theorem dX0_placeOf_25 : decode cX0_placeOf 25 = .ok (.iconst 0, 1) := by decide +kernel
theorem dX0_placeOf_26 : decode cX0_placeOf 26 = .ok (.istore 9, 2) := by decide +kernel
theorem dX0_placeOf_28 : decode cX0_placeOf 28 = .ok (.iload 9, 2) := by decide +kernel
theorem dX0_placeOf_30 : decode cX0_placeOf 30 = .ok (.aload_n 0, 1) := by decide +kernel
theorem dX0_placeOf_31 : decode cX0_placeOf 31 = .ok (.getfield 15, 3) := by decide +kernel
theorem dX0_placeOf_34 : decode cX0_placeOf 34 = .ok (.if_icmp .ge 168, 3) := by decide +kernel
theorem dX0_placeOf_37 : decode cX0_placeOf 37 = .ok (.aload_n 0, 1) := by decide +kernel
theorem dX0_placeOf_38 : decode cX0_placeOf 38 = .ok (.iload 9, 2) := by decide +kernel
theorem dX0_placeOf_40 : decode cX0_placeOf 40 = .ok (.invokevirtual 39, 3) := by decide +kernel
theorem dX0_placeOf_43 : decode cX0_placeOf 43 = .ok (.istore 10, 2) := by decide +kernel
theorem dX0_placeOf_45 : decode cX0_placeOf 45 = .ok (.iload 10, 2) := by decide +kernel
theorem dX0_placeOf_47 : decode cX0_placeOf 47 = .ok (.invokestatic 35, 3) := by decide +kernel
theorem dX0_placeOf_50 : decode cX0_placeOf 50 = .ok (.istore 11, 2) := by decide +kernel
theorem dX0_placeOf_52 : decode cX0_placeOf 52 = .ok (.iload 11, 2) := by decide +kernel
theorem dX0_placeOf_54 : decode cX0_placeOf 54 = .ok (.ifCond .eq 8, 3) := by decide +kernel
theorem dX0_placeOf_57 : decode cX0_placeOf 57 = .ok (.iload 7, 2) := by decide +kernel
theorem dX0_placeOf_59 : decode cX0_placeOf 59 = .ok (.goto 5, 3) := by decide +kernel
theorem dX0_placeOf_62 : decode cX0_placeOf 62 = .ok (.iload 8, 2) := by decide +kernel
theorem dX0_placeOf_64 : decode cX0_placeOf 64 = .ok (.iconst 2, 1) := by decide +kernel
theorem dX0_placeOf_65 : decode cX0_placeOf 65 = .ok (.idiv, 1) := by decide +kernel
theorem dX0_placeOf_66 : decode cX0_placeOf 66 = .ok (.istore 12, 2) := by decide +kernel
theorem dX0_placeOf_68 : decode cX0_placeOf 68 = .ok (.iload 10, 2) := by decide +kernel
theorem dX0_placeOf_70 : decode cX0_placeOf 70 = .ok (.invokestatic 57, 3) := by decide +kernel
theorem dX0_placeOf_73 : decode cX0_placeOf 73 = .ok (.istore 13, 2) := by decide +kernel
theorem dX0_placeOf_75 : decode cX0_placeOf 75 = .ok (.iload 11, 2) := by decide +kernel
theorem dX0_placeOf_77 : decode cX0_placeOf 77 = .ok (.ifCond .eq 7, 3) := by decide +kernel
theorem dX0_placeOf_80 : decode cX0_placeOf 80 = .ok (.iload_n 3, 1) := by decide +kernel
theorem dX0_placeOf_81 : decode cX0_placeOf 81 = .ok (.goto 5, 3) := by decide +kernel
theorem dX0_placeOf_84 : decode cX0_placeOf 84 = .ok (.iload 4, 2) := by decide +kernel
theorem dX0_placeOf_86 : decode cX0_placeOf 86 = .ok (.iload 12, 2) := by decide +kernel
theorem dX0_placeOf_88 : decode cX0_placeOf 88 = .ok (.if_icmp .ge 7, 3) := by decide +kernel
theorem dX0_placeOf_91 : decode cX0_placeOf 91 = .ok (.iconst 1, 1) := by decide +kernel
theorem dX0_placeOf_92 : decode cX0_placeOf 92 = .ok (.goto 4, 3) := by decide +kernel
theorem dX0_placeOf_95 : decode cX0_placeOf 95 = .ok (.iconst 0, 1) := by decide +kernel
theorem dX0_placeOf_96 : decode cX0_placeOf 96 = .ok (.istore 14, 2) := by decide +kernel
theorem dX0_placeOf_98 : decode cX0_placeOf 98 = .ok (.iload 14, 2) := by decide +kernel
theorem dX0_placeOf_100 : decode cX0_placeOf 100 = .ok (.iload 13, 2) := by decide +kernel
theorem dX0_placeOf_102 : decode cX0_placeOf 102 = .ok (.if_icmp .ne 7, 3) := by decide +kernel
theorem dX0_placeOf_105 : decode cX0_placeOf 105 = .ok (.iconst 1, 1) := by decide +kernel
theorem dX0_placeOf_106 : decode cX0_placeOf 106 = .ok (.goto 4, 3) := by decide +kernel
theorem dX0_placeOf_109 : decode cX0_placeOf 109 = .ok (.iconst 0, 1) := by decide +kernel
theorem dX0_placeOf_110 : decode cX0_placeOf 110 = .ok (.istore 15, 2) := by decide +kernel
theorem dX0_placeOf_112 : decode cX0_placeOf 112 = .ok (.iload 11, 2) := by decide +kernel
theorem dX0_placeOf_114 : decode cX0_placeOf 114 = .ok (.ifCond .eq 21, 3) := by decide +kernel
theorem dX0_placeOf_117 : decode cX0_placeOf 117 = .ok (.iload_n 3, 1) := by decide +kernel
theorem dX0_placeOf_118 : decode cX0_placeOf 118 = .ok (.iload 12, 2) := by decide +kernel
theorem dX0_placeOf_120 : decode cX0_placeOf 120 = .ok (.iload 13, 2) := by decide +kernel
theorem dX0_placeOf_122 : decode cX0_placeOf 122 = .ok (.iload 15, 2) := by decide +kernel
theorem dX0_placeOf_124 : decode cX0_placeOf 124 = .ok (.invokestatic 64, 3) := by decide +kernel
theorem dX0_placeOf_127 : decode cX0_placeOf 127 = .ok (.istore_n 3, 1) := by decide +kernel
theorem dX0_placeOf_128 : decode cX0_placeOf 128 = .ok (.iload 12, 2) := by decide +kernel
theorem dX0_placeOf_130 : decode cX0_placeOf 130 = .ok (.istore 7, 2) := by decide +kernel
theorem dX0_placeOf_132 : decode cX0_placeOf 132 = .ok (.goto 20, 3) := by decide +kernel
theorem dX0_placeOf_135 : decode cX0_placeOf 135 = .ok (.iload 4, 2) := by decide +kernel
theorem dX0_placeOf_137 : decode cX0_placeOf 137 = .ok (.iload 12, 2) := by decide +kernel
theorem dX0_placeOf_139 : decode cX0_placeOf 139 = .ok (.iload 13, 2) := by decide +kernel
theorem dX0_placeOf_141 : decode cX0_placeOf 141 = .ok (.iload 15, 2) := by decide +kernel
theorem dX0_placeOf_143 : decode cX0_placeOf 143 = .ok (.invokestatic 64, 3) := by decide +kernel
theorem dX0_placeOf_146 : decode cX0_placeOf 146 = .ok (.istore 4, 2) := by decide +kernel
theorem dX0_placeOf_148 : decode cX0_placeOf 148 = .ok (.iload 12, 2) := by decide +kernel
theorem dX0_placeOf_150 : decode cX0_placeOf 150 = .ok (.istore 8, 2) := by decide +kernel
theorem dX0_placeOf_152 : decode cX0_placeOf 152 = .ok (.iconst 1, 1) := by decide +kernel
theorem dX0_placeOf_153 : decode cX0_placeOf 153 = .ok (.iload 9, 2) := by decide +kernel
theorem dX0_placeOf_155 : decode cX0_placeOf 155 = .ok (.ishl, 1) := by decide +kernel
theorem dX0_placeOf_156 : decode cX0_placeOf 156 = .ok (.istore 16, 2) := by decide +kernel
theorem dX0_placeOf_158 : decode cX0_placeOf 158 = .ok (.iload 15, 2) := by decide +kernel
theorem dX0_placeOf_160 : decode cX0_placeOf 160 = .ok (.ifCond .eq 13, 3) := by decide +kernel
theorem dX0_placeOf_163 : decode cX0_placeOf 163 = .ok (.iload 16, 2) := by decide +kernel
theorem dX0_placeOf_165 : decode cX0_placeOf 165 = .ok (.iconst 1, 1) := by decide +kernel
theorem dX0_placeOf_166 : decode cX0_placeOf 166 = .ok (.isub, 1) := by decide +kernel
theorem dX0_placeOf_167 : decode cX0_placeOf 167 = .ok (.iload 5, 2) := by decide +kernel
theorem dX0_placeOf_169 : decode cX0_placeOf 169 = .ok (.isub, 1) := by decide +kernel
theorem dX0_placeOf_170 : decode cX0_placeOf 170 = .ok (.goto 8, 3) := by decide +kernel
theorem dX0_placeOf_173 : decode cX0_placeOf 173 = .ok (.iload 16, 2) := by decide +kernel
theorem dX0_placeOf_175 : decode cX0_placeOf 175 = .ok (.iload 5, 2) := by decide +kernel
theorem dX0_placeOf_177 : decode cX0_placeOf 177 = .ok (.iadd, 1) := by decide +kernel
theorem dX0_placeOf_178 : decode cX0_placeOf 178 = .ok (.istore 5, 2) := by decide +kernel
theorem dX0_placeOf_180 : decode cX0_placeOf 180 = .ok (.iload 15, 2) := by decide +kernel
theorem dX0_placeOf_182 : decode cX0_placeOf 182 = .ok (.ifCond .eq 10, 3) := by decide +kernel
theorem dX0_placeOf_185 : decode cX0_placeOf 185 = .ok (.iconst 1, 1) := by decide +kernel
theorem dX0_placeOf_186 : decode cX0_placeOf 186 = .ok (.iload 6, 2) := by decide +kernel
theorem dX0_placeOf_188 : decode cX0_placeOf 188 = .ok (.isub, 1) := by decide +kernel
theorem dX0_placeOf_189 : decode cX0_placeOf 189 = .ok (.goto 5, 3) := by decide +kernel
theorem dX0_placeOf_192 : decode cX0_placeOf 192 = .ok (.iload 6, 2) := by decide +kernel
theorem dX0_placeOf_194 : decode cX0_placeOf 194 = .ok (.istore 6, 2) := by decide +kernel
theorem dX0_placeOf_196 : decode cX0_placeOf 196 = .ok (.iinc 9 1, 3) := by decide +kernel
theorem dX0_placeOf_199 : decode cX0_placeOf 199 = .ok (.goto (-171), 3) := by decide +kernel
theorem dX0_placeOf_202 : decode cX0_placeOf 202 = .ok (.iload_n 2, 1) := by decide +kernel
theorem dX0_placeOf_203 : decode cX0_placeOf 203 = .ok (.ifCond .ne 7, 3) := by decide +kernel
theorem dX0_placeOf_206 : decode cX0_placeOf 206 = .ok (.iload_n 3, 1) := by decide +kernel
theorem dX0_placeOf_207 : decode cX0_placeOf 207 = .ok (.goto 25, 3) := by decide +kernel
theorem dX0_placeOf_210 : decode cX0_placeOf 210 = .ok (.iload_n 2, 1) := by decide +kernel
theorem dX0_placeOf_211 : decode cX0_placeOf 211 = .ok (.iconst 1, 1) := by decide +kernel
theorem dX0_placeOf_212 : decode cX0_placeOf 212 = .ok (.if_icmp .ne 8, 3) := by decide +kernel
theorem dX0_placeOf_215 : decode cX0_placeOf 215 = .ok (.iload 4, 2) := by decide +kernel
theorem dX0_placeOf_217 : decode cX0_placeOf 217 = .ok (.goto 15, 3) := by decide +kernel
theorem dX0_placeOf_220 : decode cX0_placeOf 220 = .ok (.iload_n 2, 1) := by decide +kernel
theorem dX0_placeOf_221 : decode cX0_placeOf 221 = .ok (.iconst 2, 1) := by decide +kernel
theorem dX0_placeOf_222 : decode cX0_placeOf 222 = .ok (.if_icmp .ne 8, 3) := by decide +kernel
theorem dX0_placeOf_225 : decode cX0_placeOf 225 = .ok (.iload 5, 2) := by decide +kernel
theorem dX0_placeOf_227 : decode cX0_placeOf 227 = .ok (.goto 5, 3) := by decide +kernel
theorem dX0_placeOf_230 : decode cX0_placeOf 230 = .ok (.iload 6, 2) := by decide +kernel
theorem dX0_placeOf_232 : decode cX0_placeOf 232 = .ok (.ireturn, 1) := by decide +kernel
theorem dX0_placeAfter_0 : decode cX0_placeAfter 0 = .ok (.iload_n 3, 1) := by decide +kernel
theorem dX0_placeAfter_1 : decode cX0_placeAfter 1 = .ok (.ifCond .eq 13, 3) := by decide +kernel
theorem dX0_placeAfter_4 : decode cX0_placeAfter 4 = .ok (.iconst 2, 1) := by decide +kernel
theorem dX0_placeAfter_5 : decode cX0_placeAfter 5 = .ok (.iload_n 1, 1) := by decide +kernel
theorem dX0_placeAfter_6 : decode cX0_placeAfter 6 = .ok (.imul, 1) := by decide +kernel
theorem dX0_placeAfter_7 : decode cX0_placeAfter 7 = .ok (.iconst 1, 1) := by decide +kernel
theorem dX0_placeAfter_8 : decode cX0_placeAfter 8 = .ok (.isub, 1) := by decide +kernel
theorem dX0_placeAfter_9 : decode cX0_placeAfter 9 = .ok (.iload_n 0, 1) := by decide +kernel
theorem dX0_placeAfter_10 : decode cX0_placeAfter 10 = .ok (.isub, 1) := by decide +kernel
theorem dX0_placeAfter_11 : decode cX0_placeAfter 11 = .ok (.goto 4, 3) := by decide +kernel
theorem dX0_placeAfter_14 : decode cX0_placeAfter 14 = .ok (.iload_n 0, 1) := by decide +kernel
theorem dX0_placeAfter_15 : decode cX0_placeAfter 15 = .ok (.istore 4, 2) := by decide +kernel
theorem dX0_placeAfter_17 : decode cX0_placeAfter 17 = .ok (.iload_n 2, 1) := by decide +kernel
theorem dX0_placeAfter_18 : decode cX0_placeAfter 18 = .ok (.ifCond .eq 10, 3) := by decide +kernel
theorem dX0_placeAfter_21 : decode cX0_placeAfter 21 = .ok (.iload 4, 2) := by decide +kernel
theorem dX0_placeAfter_23 : decode cX0_placeAfter 23 = .ok (.iload_n 1, 1) := by decide +kernel
theorem dX0_placeAfter_24 : decode cX0_placeAfter 24 = .ok (.isub, 1) := by decide +kernel
theorem dX0_placeAfter_25 : decode cX0_placeAfter 25 = .ok (.goto 5, 3) := by decide +kernel
theorem dX0_placeAfter_28 : decode cX0_placeAfter 28 = .ok (.iload 4, 2) := by decide +kernel
theorem dX0_placeAfter_30 : decode cX0_placeAfter 30 = .ok (.ireturn, 1) := by decide +kernel
set_option maxRecDepth 20000 in
theorem ggX0_uppermostCells_X0_upperSide : GoodIn wsX0_uppermostCells wsX0_upperSide := goodIn_r _ [5, 6, 7, 8, 9, 4, 10, 11, 12, 13, 14, 15, 16, 17, 18, 19, 20, 21, 22, 23, 24, 25, 26, 27, 28, 29, 30, 31, 32, 33, 37, 38, 39] (by decide +kernel) (by decide +kernel)
set_option maxRecDepth 20000 in
theorem gX0_uppermostCells_X0_upperSide : GoodIn wsX0_uppermostCells (wsV RX0 67 RX0 yX0_upperSide wsX0_upperSide) := goodIn_app (goodIn_of _ (by decide +kernel)) ggX0_uppermostCells_X0_upperSide
set_option maxRecDepth 20000 in
theorem ggX0_uppermostCells_X5_cellOf : GoodIn wsX0_uppermostCells wsX5_cellOf := goodIn_r _ [36] (by decide +kernel) (by decide +kernel)
set_option maxRecDepth 20000 in
theorem gX0_uppermostCells_X5_cellOf_n71 : GoodIn wsX0_uppermostCells (wsX5_cellOf) := ggX0_uppermostCells_X5_cellOf
theorem dX0_uppermostCells_0 : decode cX0_uppermostCells 0 = .ok (.lconst 0, 1) := by decide +kernel
theorem dX0_uppermostCells_1 : decode cX0_uppermostCells 1 = .ok (.lstore 4, 2) := by decide +kernel
theorem dX0_uppermostCells_3 : decode cX0_uppermostCells 3 = .ok (.iconst 0, 1) := by decide +kernel
theorem dX0_uppermostCells_4 : decode cX0_uppermostCells 4 = .ok (.istore 6, 2) := by decide +kernel
theorem dX0_uppermostCells_6 : decode cX0_uppermostCells 6 = .ok (.iload 6, 2) := by decide +kernel
theorem dX0_uppermostCells_8 : decode cX0_uppermostCells 8 = .ok (.iload_n 3, 1) := by decide +kernel
theorem dX0_uppermostCells_9 : decode cX0_uppermostCells 9 = .ok (.if_icmp .ge 27, 3) := by decide +kernel
theorem dX0_uppermostCells_12 : decode cX0_uppermostCells 12 = .ok (.lload 4, 2) := by decide +kernel
theorem dX0_uppermostCells_14 : decode cX0_uppermostCells 14 = .ok (.lconst 1, 1) := by decide +kernel
theorem dX0_uppermostCells_15 : decode cX0_uppermostCells 15 = .ok (.aload_n 0, 1) := by decide +kernel
theorem dX0_uppermostCells_16 : decode cX0_uppermostCells 16 = .ok (.iload_n 1, 1) := by decide +kernel
theorem dX0_uppermostCells_17 : decode cX0_uppermostCells 17 = .ok (.iload_n 2, 1) := by decide +kernel
theorem dX0_uppermostCells_18 : decode cX0_uppermostCells 18 = .ok (.iload 6, 2) := by decide +kernel
theorem dX0_uppermostCells_20 : decode cX0_uppermostCells 20 = .ok (.invokevirtual 67, 3) := by decide +kernel
theorem dX0_uppermostCells_23 : decode cX0_uppermostCells 23 = .ok (.invokestatic 71, 3) := by decide +kernel
theorem dX0_uppermostCells_26 : decode cX0_uppermostCells 26 = .ok (.lshl, 1) := by decide +kernel
theorem dX0_uppermostCells_27 : decode cX0_uppermostCells 27 = .ok (.lor, 1) := by decide +kernel
theorem dX0_uppermostCells_28 : decode cX0_uppermostCells 28 = .ok (.lstore 4, 2) := by decide +kernel
theorem dX0_uppermostCells_30 : decode cX0_uppermostCells 30 = .ok (.iinc 6 1, 3) := by decide +kernel
theorem dX0_uppermostCells_33 : decode cX0_uppermostCells 33 = .ok (.goto (-27), 3) := by decide +kernel
theorem dX0_uppermostCells_36 : decode cX0_uppermostCells 36 = .ok (.lload 4, 2) := by decide +kernel
theorem dX0_uppermostCells_38 : decode cX0_uppermostCells 38 = .ok (.lreturn, 1) := by decide +kernel
set_option maxRecDepth 20000 in
theorem ggX0_punchesFor_X0_columns : GoodIn wsX0_punchesFor wsX0_columns := goodIn_r _ [5, 6, 41, 42, 43] (by decide +kernel) (by decide +kernel)
set_option maxRecDepth 20000 in
theorem gX0_punchesFor_X0_columns : GoodIn wsX0_punchesFor (wsV RX0 43 RX0 yX0_columns wsX0_columns) := goodIn_app (goodIn_of _ (by decide +kernel)) ggX0_punchesFor_X0_columns
set_option maxRecDepth 20000 in
theorem ggX0_punchesFor_X0_rows : GoodIn wsX0_punchesFor wsX0_rows := goodIn_r _ [10, 11, 6, 41, 42, 43] (by decide +kernel) (by decide +kernel)
set_option maxRecDepth 20000 in
theorem gX0_punchesFor_X0_rows : GoodIn wsX0_punchesFor (wsV RX0 47 RX0 yX0_rows wsX0_rows) := goodIn_app (goodIn_of _ (by decide +kernel)) ggX0_punchesFor_X0_rows
set_option maxRecDepth 20000 in
theorem ggX0_punchesFor_X0_layers : GoodIn wsX0_punchesFor wsX0_layers := goodIn_r _ [15, 11, 41, 42, 43] (by decide +kernel) (by decide +kernel)
set_option maxRecDepth 20000 in
theorem gX0_punchesFor_X0_layers : GoodIn wsX0_punchesFor (wsV RX0 54 RX0 yX0_layers wsX0_layers) := goodIn_app (goodIn_of _ (by decide +kernel)) ggX0_punchesFor_X0_layers
set_option maxRecDepth 20000 in
theorem ggX0_punchesFor_X0_uppermostCells : GoodIn wsX0_punchesFor wsX0_uppermostCells := goodIn_r _ [19, 20, 21, 22, 4, 23, 11, 1, 2, 3, 5, 6, 7, 8, 9, 10, 12, 13, 14, 15, 24, 25, 26, 27, 28, 29, 30, 31, 32, 33, 34, 35, 36, 37, 38, 39, 40, 41, 42, 43] (by decide +kernel) (by decide +kernel)
set_option maxRecDepth 20000 in
theorem gX0_punchesFor_X0_uppermostCells : GoodIn wsX0_punchesFor (wsV RX0 74 RX0 yX0_uppermostCells wsX0_uppermostCells) := goodIn_app (goodIn_of _ (by decide +kernel)) ggX0_punchesFor_X0_uppermostCells
theorem dX0_punchesFor_0 : decode cX0_punchesFor 0 = .ok (.aload_n 0, 1) := by decide +kernel
theorem dX0_punchesFor_1 : decode cX0_punchesFor 1 = .ok (.invokevirtual 43, 3) := by decide +kernel
theorem dX0_punchesFor_4 : decode cX0_punchesFor 4 = .ok (.istore_n 3, 1) := by decide +kernel
theorem dX0_punchesFor_5 : decode cX0_punchesFor 5 = .ok (.aload_n 0, 1) := by decide +kernel
theorem dX0_punchesFor_6 : decode cX0_punchesFor 6 = .ok (.invokevirtual 47, 3) := by decide +kernel
theorem dX0_punchesFor_9 : decode cX0_punchesFor 9 = .ok (.istore 4, 2) := by decide +kernel
theorem dX0_punchesFor_11 : decode cX0_punchesFor 11 = .ok (.iconst 0, 1) := by decide +kernel
theorem dX0_punchesFor_12 : decode cX0_punchesFor 12 = .ok (.istore 5, 2) := by decide +kernel
theorem dX0_punchesFor_14 : decode cX0_punchesFor 14 = .ok (.iconst 0, 1) := by decide +kernel
theorem dX0_punchesFor_15 : decode cX0_punchesFor 15 = .ok (.istore 6, 2) := by decide +kernel
theorem dX0_punchesFor_17 : decode cX0_punchesFor 17 = .ok (.iload 6, 2) := by decide +kernel
theorem dX0_punchesFor_19 : decode cX0_punchesFor 19 = .ok (.iload 4, 2) := by decide +kernel
theorem dX0_punchesFor_21 : decode cX0_punchesFor 21 = .ok (.if_icmp .ge 80, 3) := by decide +kernel
theorem dX0_punchesFor_24 : decode cX0_punchesFor 24 = .ok (.iconst 0, 1) := by decide +kernel
theorem dX0_punchesFor_25 : decode cX0_punchesFor 25 = .ok (.istore 7, 2) := by decide +kernel
theorem dX0_punchesFor_27 : decode cX0_punchesFor 27 = .ok (.iload 7, 2) := by decide +kernel
theorem dX0_punchesFor_29 : decode cX0_punchesFor 29 = .ok (.iload_n 3, 1) := by decide +kernel
theorem dX0_punchesFor_30 : decode cX0_punchesFor 30 = .ok (.if_icmp .ge 65, 3) := by decide +kernel
theorem dX0_punchesFor_33 : decode cX0_punchesFor 33 = .ok (.aload_n 0, 1) := by decide +kernel
theorem dX0_punchesFor_34 : decode cX0_punchesFor 34 = .ok (.iload 7, 2) := by decide +kernel
theorem dX0_punchesFor_36 : decode cX0_punchesFor 36 = .ok (.iload 6, 2) := by decide +kernel
theorem dX0_punchesFor_38 : decode cX0_punchesFor 38 = .ok (.aload_n 0, 1) := by decide +kernel
theorem dX0_punchesFor_39 : decode cX0_punchesFor 39 = .ok (.invokevirtual 54, 3) := by decide +kernel
theorem dX0_punchesFor_42 : decode cX0_punchesFor 42 = .ok (.invokevirtual 74, 3) := by decide +kernel
theorem dX0_punchesFor_45 : decode cX0_punchesFor 45 = .ok (.lstore 8, 2) := by decide +kernel
theorem dX0_punchesFor_47 : decode cX0_punchesFor 47 = .ok (.lload 8, 2) := by decide +kernel
theorem dX0_punchesFor_49 : decode cX0_punchesFor 49 = .ok (.lload_n 1, 1) := by decide +kernel
theorem dX0_punchesFor_50 : decode cX0_punchesFor 50 = .ok (.land, 1) := by decide +kernel
theorem dX0_punchesFor_51 : decode cX0_punchesFor 51 = .ok (.lstore 10, 2) := by decide +kernel
theorem dX0_punchesFor_53 : decode cX0_punchesFor 53 = .ok (.lload 10, 2) := by decide +kernel
theorem dX0_punchesFor_55 : decode cX0_punchesFor 55 = .ok (.lconst 0, 1) := by decide +kernel
theorem dX0_punchesFor_56 : decode cX0_punchesFor 56 = .ok (.lcmp, 1) := by decide +kernel
theorem dX0_punchesFor_57 : decode cX0_punchesFor 57 = .ok (.ifCond .eq 14, 3) := by decide +kernel
theorem dX0_punchesFor_60 : decode cX0_punchesFor 60 = .ok (.lload 10, 2) := by decide +kernel
theorem dX0_punchesFor_62 : decode cX0_punchesFor 62 = .ok (.lload 8, 2) := by decide +kernel
theorem dX0_punchesFor_64 : decode cX0_punchesFor 64 = .ok (.lcmp, 1) := by decide +kernel
theorem dX0_punchesFor_65 : decode cX0_punchesFor 65 = .ok (.ifCond .eq 6, 3) := by decide +kernel
theorem dX0_punchesFor_68 : decode cX0_punchesFor 68 = .ok (.bipush (-6), 2) := by decide +kernel
theorem dX0_punchesFor_70 : decode cX0_punchesFor 70 = .ok (.ireturn, 1) := by decide +kernel
theorem dX0_punchesFor_71 : decode cX0_punchesFor 71 = .ok (.iload 5, 2) := by decide +kernel
theorem dX0_punchesFor_73 : decode cX0_punchesFor 73 = .ok (.lload 10, 2) := by decide +kernel
theorem dX0_punchesFor_75 : decode cX0_punchesFor 75 = .ok (.lload 8, 2) := by decide +kernel
theorem dX0_punchesFor_77 : decode cX0_punchesFor 77 = .ok (.lcmp, 1) := by decide +kernel
theorem dX0_punchesFor_78 : decode cX0_punchesFor 78 = .ok (.ifCond .ne 7, 3) := by decide +kernel
theorem dX0_punchesFor_81 : decode cX0_punchesFor 81 = .ok (.iconst 1, 1) := by decide +kernel
theorem dX0_punchesFor_82 : decode cX0_punchesFor 82 = .ok (.goto 4, 3) := by decide +kernel
theorem dX0_punchesFor_85 : decode cX0_punchesFor 85 = .ok (.iconst 0, 1) := by decide +kernel
theorem dX0_punchesFor_86 : decode cX0_punchesFor 86 = .ok (.iadd, 1) := by decide +kernel
theorem dX0_punchesFor_87 : decode cX0_punchesFor 87 = .ok (.istore 5, 2) := by decide +kernel
theorem dX0_punchesFor_89 : decode cX0_punchesFor 89 = .ok (.iinc 7 1, 3) := by decide +kernel
theorem dX0_punchesFor_92 : decode cX0_punchesFor 92 = .ok (.goto (-65), 3) := by decide +kernel
theorem dX0_punchesFor_95 : decode cX0_punchesFor 95 = .ok (.iinc 6 1, 3) := by decide +kernel
theorem dX0_punchesFor_98 : decode cX0_punchesFor 98 = .ok (.goto (-81), 3) := by decide +kernel
theorem dX0_punchesFor_101 : decode cX0_punchesFor 101 = .ok (.iload 5, 2) := by decide +kernel
theorem dX0_punchesFor_103 : decode cX0_punchesFor 103 = .ok (.ireturn, 1) := by decide +kernel
theorem dJ13_bitCount_95d88_0 : decode cJ13_bitCount_95d88 0 = .ok (.lload_n 0, 1) := by decide +kernel
theorem dJ13_bitCount_95d88_1 : decode cJ13_bitCount_95d88 1 = .ok (.lload_n 0, 1) := by decide +kernel
theorem dJ13_bitCount_95d88_2 : decode cJ13_bitCount_95d88 2 = .ok (.iconst 1, 1) := by decide +kernel
theorem dJ13_bitCount_95d88_3 : decode cJ13_bitCount_95d88 3 = .ok (.lushr, 1) := by decide +kernel
theorem dJ13_bitCount_95d88_4 : decode cJ13_bitCount_95d88 4 = .ok (.ldc2_w 314, 3) := by decide +kernel
theorem dJ13_bitCount_95d88_7 : decode cJ13_bitCount_95d88 7 = .ok (.land, 1) := by decide +kernel
theorem dJ13_bitCount_95d88_8 : decode cJ13_bitCount_95d88 8 = .ok (.lsub, 1) := by decide +kernel
theorem dJ13_bitCount_95d88_9 : decode cJ13_bitCount_95d88 9 = .ok (.lstore_n 0, 1) := by decide +kernel
theorem dJ13_bitCount_95d88_10 : decode cJ13_bitCount_95d88 10 = .ok (.lload_n 0, 1) := by decide +kernel
theorem dJ13_bitCount_95d88_11 : decode cJ13_bitCount_95d88 11 = .ok (.ldc2_w 316, 3) := by decide +kernel
theorem dJ13_bitCount_95d88_14 : decode cJ13_bitCount_95d88 14 = .ok (.land, 1) := by decide +kernel
theorem dJ13_bitCount_95d88_15 : decode cJ13_bitCount_95d88 15 = .ok (.lload_n 0, 1) := by decide +kernel
theorem dJ13_bitCount_95d88_16 : decode cJ13_bitCount_95d88 16 = .ok (.iconst 2, 1) := by decide +kernel
theorem dJ13_bitCount_95d88_17 : decode cJ13_bitCount_95d88 17 = .ok (.lushr, 1) := by decide +kernel
theorem dJ13_bitCount_95d88_18 : decode cJ13_bitCount_95d88 18 = .ok (.ldc2_w 316, 3) := by decide +kernel
theorem dJ13_bitCount_95d88_21 : decode cJ13_bitCount_95d88 21 = .ok (.land, 1) := by decide +kernel
theorem dJ13_bitCount_95d88_22 : decode cJ13_bitCount_95d88 22 = .ok (.ladd, 1) := by decide +kernel
theorem dJ13_bitCount_95d88_23 : decode cJ13_bitCount_95d88 23 = .ok (.lstore_n 0, 1) := by decide +kernel
theorem dJ13_bitCount_95d88_24 : decode cJ13_bitCount_95d88 24 = .ok (.lload_n 0, 1) := by decide +kernel
theorem dJ13_bitCount_95d88_25 : decode cJ13_bitCount_95d88 25 = .ok (.lload_n 0, 1) := by decide +kernel
theorem dJ13_bitCount_95d88_26 : decode cJ13_bitCount_95d88 26 = .ok (.iconst 4, 1) := by decide +kernel
theorem dJ13_bitCount_95d88_27 : decode cJ13_bitCount_95d88 27 = .ok (.lushr, 1) := by decide +kernel
theorem dJ13_bitCount_95d88_28 : decode cJ13_bitCount_95d88 28 = .ok (.ladd, 1) := by decide +kernel
theorem dJ13_bitCount_95d88_29 : decode cJ13_bitCount_95d88 29 = .ok (.ldc2_w 318, 3) := by decide +kernel
theorem dJ13_bitCount_95d88_32 : decode cJ13_bitCount_95d88 32 = .ok (.land, 1) := by decide +kernel
theorem dJ13_bitCount_95d88_33 : decode cJ13_bitCount_95d88 33 = .ok (.lstore_n 0, 1) := by decide +kernel
theorem dJ13_bitCount_95d88_34 : decode cJ13_bitCount_95d88 34 = .ok (.lload_n 0, 1) := by decide +kernel
theorem dJ13_bitCount_95d88_35 : decode cJ13_bitCount_95d88 35 = .ok (.lload_n 0, 1) := by decide +kernel
theorem dJ13_bitCount_95d88_36 : decode cJ13_bitCount_95d88 36 = .ok (.bipush 8, 2) := by decide +kernel
theorem dJ13_bitCount_95d88_38 : decode cJ13_bitCount_95d88 38 = .ok (.lushr, 1) := by decide +kernel
theorem dJ13_bitCount_95d88_39 : decode cJ13_bitCount_95d88 39 = .ok (.ladd, 1) := by decide +kernel
theorem dJ13_bitCount_95d88_40 : decode cJ13_bitCount_95d88 40 = .ok (.lstore_n 0, 1) := by decide +kernel
theorem dJ13_bitCount_95d88_41 : decode cJ13_bitCount_95d88 41 = .ok (.lload_n 0, 1) := by decide +kernel
theorem dJ13_bitCount_95d88_42 : decode cJ13_bitCount_95d88 42 = .ok (.lload_n 0, 1) := by decide +kernel
theorem dJ13_bitCount_95d88_43 : decode cJ13_bitCount_95d88 43 = .ok (.bipush 16, 2) := by decide +kernel
theorem dJ13_bitCount_95d88_45 : decode cJ13_bitCount_95d88 45 = .ok (.lushr, 1) := by decide +kernel
theorem dJ13_bitCount_95d88_46 : decode cJ13_bitCount_95d88 46 = .ok (.ladd, 1) := by decide +kernel
theorem dJ13_bitCount_95d88_47 : decode cJ13_bitCount_95d88 47 = .ok (.lstore_n 0, 1) := by decide +kernel
theorem dJ13_bitCount_95d88_48 : decode cJ13_bitCount_95d88 48 = .ok (.lload_n 0, 1) := by decide +kernel
theorem dJ13_bitCount_95d88_49 : decode cJ13_bitCount_95d88 49 = .ok (.lload_n 0, 1) := by decide +kernel
theorem dJ13_bitCount_95d88_50 : decode cJ13_bitCount_95d88 50 = .ok (.bipush 32, 2) := by decide +kernel
theorem dJ13_bitCount_95d88_52 : decode cJ13_bitCount_95d88 52 = .ok (.lushr, 1) := by decide +kernel
theorem dJ13_bitCount_95d88_53 : decode cJ13_bitCount_95d88 53 = .ok (.ladd, 1) := by decide +kernel
theorem dJ13_bitCount_95d88_54 : decode cJ13_bitCount_95d88 54 = .ok (.lstore_n 0, 1) := by decide +kernel
theorem dJ13_bitCount_95d88_55 : decode cJ13_bitCount_95d88 55 = .ok (.lload_n 0, 1) := by decide +kernel
theorem dJ13_bitCount_95d88_56 : decode cJ13_bitCount_95d88 56 = .ok (.l2i, 1) := by decide +kernel
theorem dJ13_bitCount_95d88_57 : decode cJ13_bitCount_95d88 57 = .ok (.bipush 127, 2) := by decide +kernel
theorem dJ13_bitCount_95d88_59 : decode cJ13_bitCount_95d88 59 = .ok (.iand, 1) := by decide +kernel
theorem dJ13_bitCount_95d88_60 : decode cJ13_bitCount_95d88 60 = .ok (.ireturn, 1) := by decide +kernel
theorem dJ9_max_7cf53_0 : decode cJ9_max_7cf53 0 = .ok (.iload_n 0, 1) := by decide +kernel
theorem dJ9_max_7cf53_1 : decode cJ9_max_7cf53 1 = .ok (.iload_n 1, 1) := by decide +kernel
theorem dJ9_max_7cf53_2 : decode cJ9_max_7cf53 2 = .ok (.if_icmp .lt 7, 3) := by decide +kernel
theorem dJ9_max_7cf53_5 : decode cJ9_max_7cf53 5 = .ok (.iload_n 0, 1) := by decide +kernel
theorem dJ9_max_7cf53_6 : decode cJ9_max_7cf53 6 = .ok (.goto 4, 3) := by decide +kernel
theorem dJ9_max_7cf53_9 : decode cJ9_max_7cf53 9 = .ok (.iload_n 1, 1) := by decide +kernel
theorem dJ9_max_7cf53_10 : decode cJ9_max_7cf53 10 = .ok (.ireturn, 1) := by decide +kernel
