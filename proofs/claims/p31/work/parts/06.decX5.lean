set_option maxRecDepth 20000 in
theorem ggX5_init_X3_init : GoodIn wsX5_init wsX3_init := goodIn_r _ [23, 24, 2, 3, 25, 15, 16, 26, 27, 28, 29, 30, 31, 32, 33, 34, 35, 36, 66, 67, 68, 54, 55, 56, 57] (by decide +kernel) (by decide +kernel)
set_option maxRecDepth 20000 in
theorem gX5_init_X3_init_n9 : GoodIn wsX5_init (wsX3_init) := ggX5_init_X3_init
set_option maxRecDepth 20000 in
theorem ggX5_init_X1_init : GoodIn wsX5_init wsX1_init := goodIn_r _ [39, 40, 2, 3, 41, 42, 43, 5, 6, 22, 23, 24, 25, 15, 16, 26, 27, 28, 29, 30, 31, 32, 33, 34, 35, 36, 64, 65, 54, 55, 56, 57, 66, 67, 68] (by decide +kernel) (by decide +kernel)
set_option maxRecDepth 20000 in
theorem gX5_init_X1_init : GoodIn wsX5_init (wsX1_init) := ggX5_init_X1_init
set_option maxRecDepth 20000 in
theorem ggX5_init_X0_init : GoodIn wsX5_init wsX0_init := goodIn_r _ [32, 33, 2, 3, 27, 34, 35, 36, 66, 67, 68] (by decide +kernel) (by decide +kernel)
set_option maxRecDepth 20000 in
theorem gX5_init_X0_init_n32 : GoodIn wsX5_init (wsX0_init) := ggX5_init_X0_init
set_option maxRecDepth 20000 in
theorem ggX5_init_X4_init : GoodIn wsX5_init wsX4_init := goodIn_r _ [45, 46, 2, 3, 27, 47, 48, 49, 50, 51, 52, 53, 69, 70, 71, 72, 73, 74, 75] (by decide +kernel) (by decide +kernel)
set_option maxRecDepth 20000 in
theorem gX5_init_X4_init_n39 : GoodIn wsX5_init (wsX4_init) := ggX5_init_X4_init
theorem dX5_init_0 : decode cX5_init 0 = .ok (.aload_n 0, 1) := by decide +kernel
theorem dX5_init_1 : decode cX5_init 1 = .ok (.invokespecial 1, 3) := by decide +kernel
theorem dX5_init_4 : decode cX5_init 4 = .ok (.aload_n 0, 1) := by decide +kernel
theorem dX5_init_5 : decode cX5_init 5 = .ok (.new 7, 3) := by decide +kernel
theorem dX5_init_8 : decode cX5_init 8 = .ok (.dup, 1) := by decide +kernel
theorem dX5_init_9 : decode cX5_init 9 = .ok (.invokespecial 9, 3) := by decide +kernel
theorem dX5_init_12 : decode cX5_init 12 = .ok (.putfield 10, 3) := by decide +kernel
theorem dX5_init_15 : decode cX5_init 15 = .ok (.aload_n 0, 1) := by decide +kernel
theorem dX5_init_16 : decode cX5_init 16 = .ok (.new 7, 3) := by decide +kernel
theorem dX5_init_19 : decode cX5_init 19 = .ok (.dup, 1) := by decide +kernel
theorem dX5_init_20 : decode cX5_init 20 = .ok (.invokespecial 9, 3) := by decide +kernel
theorem dX5_init_23 : decode cX5_init 23 = .ok (.putfield 16, 3) := by decide +kernel
theorem dX5_init_26 : decode cX5_init 26 = .ok (.aload_n 0, 1) := by decide +kernel
theorem dX5_init_27 : decode cX5_init 27 = .ok (.iconst 0, 1) := by decide +kernel
theorem dX5_init_28 : decode cX5_init 28 = .ok (.putfield 19, 3) := by decide +kernel
theorem dX5_init_31 : decode cX5_init 31 = .ok (.aload_n 0, 1) := by decide +kernel
theorem dX5_init_32 : decode cX5_init 32 = .ok (.new 23, 3) := by decide +kernel
theorem dX5_init_35 : decode cX5_init 35 = .ok (.dup, 1) := by decide +kernel
theorem dX5_init_36 : decode cX5_init 36 = .ok (.invokespecial 25, 3) := by decide +kernel
theorem dX5_init_39 : decode cX5_init 39 = .ok (.putfield 26, 3) := by decide +kernel
theorem dX5_init_42 : decode cX5_init 42 = .ok (.aload_n 0, 1) := by decide +kernel
theorem dX5_init_43 : decode cX5_init 43 = .ok (.new 30, 3) := by decide +kernel
theorem dX5_init_46 : decode cX5_init 46 = .ok (.dup, 1) := by decide +kernel
theorem dX5_init_47 : decode cX5_init 47 = .ok (.invokespecial 32, 3) := by decide +kernel
theorem dX5_init_50 : decode cX5_init 50 = .ok (.putfield 33, 3) := by decide +kernel
theorem dX5_init_53 : decode cX5_init 53 = .ok (.aload_n 0, 1) := by decide +kernel
theorem dX5_init_54 : decode cX5_init 54 = .ok (.new 37, 3) := by decide +kernel
theorem dX5_init_57 : decode cX5_init 57 = .ok (.dup, 1) := by decide +kernel
theorem dX5_init_58 : decode cX5_init 58 = .ok (.invokespecial 39, 3) := by decide +kernel
theorem dX5_init_61 : decode cX5_init 61 = .ok (.putfield 40, 3) := by decide +kernel
theorem dX5_init_64 : decode cX5_init 64 = .ok (.return_, 1) := by decide +kernel
set_option maxRecDepth 20000 in
theorem ggX5_fold_X1_note : GoodIn wsX5_fold wsX1_note := goodIn_r _ [7, 8, 9, 10, 11, 6, 12, 13, 14, 15, 16, 17, 18, 19, 20, 21, 22, 23, 24, 25, 26, 27, 28, 29, 30, 31, 32, 33, 34, 35, 78, 79, 80, 81, 82, 83, 84, 85, 86] (by decide +kernel) (by decide +kernel)
set_option maxRecDepth 20000 in
theorem gX5_fold_X1_note : GoodIn wsX5_fold (wsV RX5 44 RX1 yX1_note wsX1_note) := goodIn_app (goodIn_of _ (by decide +kernel)) ggX5_fold_X1_note
set_option maxRecDepth 20000 in
theorem ggX5_fold_X3_makeFold : GoodIn wsX5_fold wsX3_makeFold := goodIn_r _ [39, 19, 40, 41, 30, 42, 43, 44, 45, 46, 35, 47, 48, 49, 50, 34, 51, 52, 53, 54, 32, 55, 56, 57, 58, 59, 80, 81, 82, 83, 84, 85, 86] (by decide +kernel) (by decide +kernel)
set_option maxRecDepth 20000 in
theorem gX5_fold_X3_makeFold : GoodIn wsX5_fold (wsV RX5 48 RX3 yX3_makeFold wsX3_makeFold) := goodIn_app (goodIn_of _ (by decide +kernel)) ggX5_fold_X3_makeFold
set_option maxRecDepth 20000 in
theorem ggX5_fold_X5_keepUnlessError : GoodIn wsX5_fold wsX5_keepUnlessError := goodIn_r _ [64, 1, 65, 66, 63, 67, 68, 69, 70, 6, 71, 8, 13, 72, 73, 74, 75, 76, 77, 78, 79] (by decide +kernel) (by decide +kernel)
set_option maxRecDepth 20000 in
theorem gX5_fold_X5_keepUnlessError : GoodIn wsX5_fold (wsV RX5 52 RX5 yX5_keepUnlessError wsX5_keepUnlessError) := goodIn_app (goodIn_of _ (by decide +kernel)) ggX5_fold_X5_keepUnlessError
theorem dX5_fold_0 : decode cX5_fold 0 = .ok (.aload_n 0, 1) := by decide +kernel
theorem dX5_fold_1 : decode cX5_fold 1 = .ok (.getfield 26, 3) := by decide +kernel
theorem dX5_fold_4 : decode cX5_fold 4 = .ok (.aload_n 0, 1) := by decide +kernel
theorem dX5_fold_5 : decode cX5_fold 5 = .ok (.getfield 10, 3) := by decide +kernel
theorem dX5_fold_8 : decode cX5_fold 8 = .ok (.invokevirtual 44, 3) := by decide +kernel
theorem dX5_fold_11 : decode cX5_fold 11 = .ok (.aload_n 0, 1) := by decide +kernel
theorem dX5_fold_12 : decode cX5_fold 12 = .ok (.aload_n 0, 1) := by decide +kernel
theorem dX5_fold_13 : decode cX5_fold 13 = .ok (.getfield 10, 3) := by decide +kernel
theorem dX5_fold_16 : decode cX5_fold 16 = .ok (.iload_n 1, 1) := by decide +kernel
theorem dX5_fold_17 : decode cX5_fold 17 = .ok (.invokevirtual 48, 3) := by decide +kernel
theorem dX5_fold_20 : decode cX5_fold 20 = .ok (.invokevirtual 52, 3) := by decide +kernel
theorem dX5_fold_23 : decode cX5_fold 23 = .ok (.ireturn, 1) := by decide +kernel
set_option maxRecDepth 20000 in
theorem ggX5_unfold_X1_note : GoodIn wsX5_unfold wsX1_note := goodIn_r _ [7, 8, 9, 10, 11, 6, 12, 13, 14, 15, 16, 17, 18, 19, 20, 21, 22, 23, 24, 25, 26, 27, 28, 29, 30, 31, 32, 33, 34, 35, 70, 71, 72, 73, 74, 75, 76, 77, 78] (by decide +kernel) (by decide +kernel)
set_option maxRecDepth 20000 in
theorem gX5_unfold_X1_note : GoodIn wsX5_unfold (wsV RX5 44 RX1 yX1_note wsX1_note) := goodIn_app (goodIn_of _ (by decide +kernel)) ggX5_unfold_X1_note
set_option maxRecDepth 20000 in
theorem ggX5_unfold_X3_takeFoldBack : GoodIn wsX5_unfold wsX3_takeFoldBack := goodIn_r _ [39, 19, 40, 41, 42, 43, 30, 44, 34, 35, 45, 46, 47, 48, 32, 49, 50, 51, 72, 73, 74, 75, 76, 77, 78] (by decide +kernel) (by decide +kernel)
set_option maxRecDepth 20000 in
theorem gX5_unfold_X3_takeFoldBack : GoodIn wsX5_unfold (wsV RX5 55 RX3 yX3_takeFoldBack wsX3_takeFoldBack) := goodIn_app (goodIn_of _ (by decide +kernel)) ggX5_unfold_X3_takeFoldBack
set_option maxRecDepth 20000 in
theorem ggX5_unfold_X5_keepUnlessError : GoodIn wsX5_unfold wsX5_keepUnlessError := goodIn_r _ [56, 1, 57, 58, 55, 59, 60, 61, 62, 6, 63, 8, 13, 64, 65, 66, 67, 68, 69, 70, 71] (by decide +kernel) (by decide +kernel)
set_option maxRecDepth 20000 in
theorem gX5_unfold_X5_keepUnlessError : GoodIn wsX5_unfold (wsV RX5 52 RX5 yX5_keepUnlessError wsX5_keepUnlessError) := goodIn_app (goodIn_of _ (by decide +kernel)) ggX5_unfold_X5_keepUnlessError
theorem dX5_unfold_0 : decode cX5_unfold 0 = .ok (.aload_n 0, 1) := by decide +kernel
theorem dX5_unfold_1 : decode cX5_unfold 1 = .ok (.getfield 26, 3) := by decide +kernel
theorem dX5_unfold_4 : decode cX5_unfold 4 = .ok (.aload_n 0, 1) := by decide +kernel
theorem dX5_unfold_5 : decode cX5_unfold 5 = .ok (.getfield 10, 3) := by decide +kernel
theorem dX5_unfold_8 : decode cX5_unfold 8 = .ok (.invokevirtual 44, 3) := by decide +kernel
theorem dX5_unfold_11 : decode cX5_unfold 11 = .ok (.aload_n 0, 1) := by decide +kernel
theorem dX5_unfold_12 : decode cX5_unfold 12 = .ok (.aload_n 0, 1) := by decide +kernel
theorem dX5_unfold_13 : decode cX5_unfold 13 = .ok (.getfield 10, 3) := by decide +kernel
theorem dX5_unfold_16 : decode cX5_unfold 16 = .ok (.invokevirtual 55, 3) := by decide +kernel
theorem dX5_unfold_19 : decode cX5_unfold 19 = .ok (.invokevirtual 52, 3) := by decide +kernel
theorem dX5_unfold_22 : decode cX5_unfold 22 = .ok (.ireturn, 1) := by decide +kernel
set_option maxRecDepth 20000 in
theorem ggX5_open_X1_note : GoodIn wsX5_open wsX1_note := goodIn_r _ [7, 8, 9, 10, 11, 6, 12, 13, 14, 15, 16, 17, 18, 19, 20, 21, 22, 23, 24, 25, 26, 27, 28, 29, 30, 31, 32, 33, 34, 35, 63, 64, 65, 66, 67, 68, 69, 70, 71] (by decide +kernel) (by decide +kernel)
set_option maxRecDepth 20000 in
theorem gX5_open_X1_note : GoodIn wsX5_open (wsV RX5 44 RX1 yX1_note wsX1_note) := goodIn_app (goodIn_of _ (by decide +kernel)) ggX5_open_X1_note
set_option maxRecDepth 20000 in
theorem ggX5_open_X3_takeAllFoldsBack : GoodIn wsX5_open wsX3_takeAllFoldsBack := goodIn_r _ [39, 19, 40, 41, 42, 43, 30, 44, 34, 35, 65, 66, 67, 68, 69, 70, 71] (by decide +kernel) (by decide +kernel)
set_option maxRecDepth 20000 in
theorem gX5_open_X3_takeAllFoldsBack : GoodIn wsX5_open (wsV RX5 59 RX3 yX3_takeAllFoldsBack wsX3_takeAllFoldsBack) := goodIn_app (goodIn_of _ (by decide +kernel)) ggX5_open_X3_takeAllFoldsBack
set_option maxRecDepth 20000 in
theorem ggX5_open_X5_keepUnlessError : GoodIn wsX5_open wsX5_keepUnlessError := goodIn_r _ [49, 1, 50, 51, 48, 52, 53, 54, 55, 6, 56, 8, 13, 57, 58, 59, 60, 61, 62, 63, 64] (by decide +kernel) (by decide +kernel)
set_option maxRecDepth 20000 in
theorem gX5_open_X5_keepUnlessError : GoodIn wsX5_open (wsV RX5 52 RX5 yX5_keepUnlessError wsX5_keepUnlessError) := goodIn_app (goodIn_of _ (by decide +kernel)) ggX5_open_X5_keepUnlessError
theorem dX5_open_0 : decode cX5_open 0 = .ok (.aload_n 0, 1) := by decide +kernel
theorem dX5_open_1 : decode cX5_open 1 = .ok (.getfield 26, 3) := by decide +kernel
theorem dX5_open_4 : decode cX5_open 4 = .ok (.aload_n 0, 1) := by decide +kernel
theorem dX5_open_5 : decode cX5_open 5 = .ok (.getfield 10, 3) := by decide +kernel
theorem dX5_open_8 : decode cX5_open 8 = .ok (.invokevirtual 44, 3) := by decide +kernel
theorem dX5_open_11 : decode cX5_open 11 = .ok (.aload_n 0, 1) := by decide +kernel
theorem dX5_open_12 : decode cX5_open 12 = .ok (.aload_n 0, 1) := by decide +kernel
theorem dX5_open_13 : decode cX5_open 13 = .ok (.getfield 10, 3) := by decide +kernel
theorem dX5_open_16 : decode cX5_open 16 = .ok (.invokevirtual 59, 3) := by decide +kernel
theorem dX5_open_19 : decode cX5_open 19 = .ok (.invokevirtual 52, 3) := by decide +kernel
theorem dX5_open_22 : decode cX5_open 22 = .ok (.ireturn, 1) := by decide +kernel
set_option maxRecDepth 20000 in
theorem ggX5_size_X0_columns : GoodIn wsX5_size wsX0_columns := goodIn_r _ [8, 9, 29, 30, 31] (by decide +kernel) (by decide +kernel)
set_option maxRecDepth 20000 in
theorem gX5_size_X0_columns : GoodIn wsX5_size (wsV RX5 65 RX0 yX0_columns wsX0_columns) := goodIn_app (goodIn_of _ (by decide +kernel)) ggX5_size_X0_columns
set_option maxRecDepth 20000 in
theorem ggX5_size_X0_rows : GoodIn wsX5_size wsX0_rows := goodIn_r _ [13, 14, 9, 29, 30, 31] (by decide +kernel) (by decide +kernel)
set_option maxRecDepth 20000 in
theorem gX5_size_X0_rows : GoodIn wsX5_size (wsV RX5 68 RX0 yX0_rows wsX0_rows) := goodIn_app (goodIn_of _ (by decide +kernel)) ggX5_size_X0_rows
set_option maxRecDepth 20000 in
theorem ggX5_size_X0_layers : GoodIn wsX5_size wsX0_layers := goodIn_r _ [18, 14, 29, 30, 31] (by decide +kernel) (by decide +kernel)
set_option maxRecDepth 20000 in
theorem gX5_size_X0_layers : GoodIn wsX5_size (wsV RX5 71 RX0 yX0_layers wsX0_layers) := goodIn_app (goodIn_of _ (by decide +kernel)) ggX5_size_X0_layers
theorem dX5_size_0 : decode cX5_size 0 = .ok (.iload_n 1, 1) := by decide +kernel
theorem dX5_size_1 : decode cX5_size 1 = .ok (.tableswitch 75 0 3 #[31, 42, 53, 64], 31) := by decide +kernel
theorem dX5_size_32 : decode cX5_size 32 = .ok (.aload_n 0, 1) := by decide +kernel
theorem dX5_size_33 : decode cX5_size 33 = .ok (.getfield 10, 3) := by decide +kernel
theorem dX5_size_36 : decode cX5_size 36 = .ok (.getfield 62, 3) := by decide +kernel
theorem dX5_size_39 : decode cX5_size 39 = .ok (.invokevirtual 65, 3) := by decide +kernel
theorem dX5_size_42 : decode cX5_size 42 = .ok (.ireturn, 1) := by decide +kernel
theorem dX5_size_43 : decode cX5_size 43 = .ok (.aload_n 0, 1) := by decide +kernel
theorem dX5_size_44 : decode cX5_size 44 = .ok (.getfield 10, 3) := by decide +kernel
theorem dX5_size_47 : decode cX5_size 47 = .ok (.getfield 62, 3) := by decide +kernel
theorem dX5_size_50 : decode cX5_size 50 = .ok (.invokevirtual 68, 3) := by decide +kernel
theorem dX5_size_53 : decode cX5_size 53 = .ok (.ireturn, 1) := by decide +kernel
theorem dX5_size_54 : decode cX5_size 54 = .ok (.aload_n 0, 1) := by decide +kernel
theorem dX5_size_55 : decode cX5_size 55 = .ok (.getfield 10, 3) := by decide +kernel
theorem dX5_size_58 : decode cX5_size 58 = .ok (.getfield 62, 3) := by decide +kernel
theorem dX5_size_61 : decode cX5_size 61 = .ok (.invokevirtual 71, 3) := by decide +kernel
theorem dX5_size_64 : decode cX5_size 64 = .ok (.ireturn, 1) := by decide +kernel
theorem dX5_size_65 : decode cX5_size 65 = .ok (.aload_n 0, 1) := by decide +kernel
theorem dX5_size_66 : decode cX5_size 66 = .ok (.getfield 10, 3) := by decide +kernel
theorem dX5_size_69 : decode cX5_size 69 = .ok (.getfield 62, 3) := by decide +kernel
theorem dX5_size_72 : decode cX5_size 72 = .ok (.getfield 74, 3) := by decide +kernel
theorem dX5_size_75 : decode cX5_size 75 = .ok (.ireturn, 1) := by decide +kernel
theorem dX5_size_76 : decode cX5_size 76 = .ok (.bipush (-2), 2) := by decide +kernel
theorem dX5_size_78 : decode cX5_size 78 = .ok (.ireturn, 1) := by decide +kernel
set_option maxRecDepth 20000 in
theorem ggX5_foldAt_X0_hasFold : GoodIn wsX5_foldAt wsX0_hasFold := goodIn_r _ [7, 8, 24, 25, 26] (by decide +kernel) (by decide +kernel)
set_option maxRecDepth 20000 in
theorem gX5_foldAt_X0_hasFold : GoodIn wsX5_foldAt (wsV RX5 78 RX0 yX0_hasFold wsX0_hasFold) := goodIn_app (goodIn_of _ (by decide +kernel)) ggX5_foldAt_X0_hasFold
set_option maxRecDepth 20000 in
theorem ggX5_foldAt_X0_kindOf : GoodIn wsX5_foldAt wsX0_kindOf := goodIn_r _ [12, 13, 24, 25, 26] (by decide +kernel) (by decide +kernel)
set_option maxRecDepth 20000 in
theorem gX5_foldAt_X0_kindOf : GoodIn wsX5_foldAt (wsV RX5 82 RX0 yX0_kindOf wsX0_kindOf) := goodIn_app (goodIn_of _ (by decide +kernel)) ggX5_foldAt_X0_kindOf
theorem dX5_foldAt_0 : decode cX5_foldAt 0 = .ok (.aload_n 0, 1) := by decide +kernel
theorem dX5_foldAt_1 : decode cX5_foldAt 1 = .ok (.getfield 10, 3) := by decide +kernel
theorem dX5_foldAt_4 : decode cX5_foldAt 4 = .ok (.getfield 62, 3) := by decide +kernel
theorem dX5_foldAt_7 : decode cX5_foldAt 7 = .ok (.iload_n 1, 1) := by decide +kernel
theorem dX5_foldAt_8 : decode cX5_foldAt 8 = .ok (.invokevirtual 78, 3) := by decide +kernel
theorem dX5_foldAt_11 : decode cX5_foldAt 11 = .ok (.ifCond .eq 17, 3) := by decide +kernel
theorem dX5_foldAt_14 : decode cX5_foldAt 14 = .ok (.aload_n 0, 1) := by decide +kernel
theorem dX5_foldAt_15 : decode cX5_foldAt 15 = .ok (.getfield 10, 3) := by decide +kernel
theorem dX5_foldAt_18 : decode cX5_foldAt 18 = .ok (.getfield 62, 3) := by decide +kernel
theorem dX5_foldAt_21 : decode cX5_foldAt 21 = .ok (.iload_n 1, 1) := by decide +kernel
theorem dX5_foldAt_22 : decode cX5_foldAt 22 = .ok (.invokevirtual 82, 3) := by decide +kernel
theorem dX5_foldAt_25 : decode cX5_foldAt 25 = .ok (.goto 4, 3) := by decide +kernel
theorem dX5_foldAt_28 : decode cX5_foldAt 28 = .ok (.iconst (-1), 1) := by decide +kernel
theorem dX5_foldAt_29 : decode cX5_foldAt 29 = .ok (.ireturn, 1) := by decide +kernel
set_option maxRecDepth 20000 in
theorem ggX5_punch_X1_note : GoodIn wsX5_punch wsX1_note := goodIn_r _ [7, 8, 9, 10, 11, 6, 12, 13, 14, 15, 16, 17, 18, 19, 20, 21, 22, 23, 24, 25, 26, 27, 28, 29, 30, 31, 32, 33, 34, 35, 105, 106, 107, 108, 109, 110, 111, 112, 113] (by decide +kernel) (by decide +kernel)
set_option maxRecDepth 20000 in
theorem gX5_punch_X1_note : GoodIn wsX5_punch (wsV RX5 44 RX1 yX1_note wsX1_note) := goodIn_app (goodIn_of _ (by decide +kernel)) ggX5_punch_X1_note
set_option maxRecDepth 20000 in
theorem ggX5_punch_X3_makeHoles : GoodIn wsX5_punch wsX3_makeHoles := goodIn_r _ [39, 19, 25, 40, 41, 42, 30, 43, 44, 45, 46, 47, 35, 48, 49, 50, 51, 34, 52, 53, 54, 55, 56, 57, 58, 59, 60, 61, 62, 63, 64, 65, 66, 67, 68, 69, 70, 71, 72, 73, 74, 75, 32, 76, 77, 78, 79, 80, 81, 82, 83, 84, 85, 86, 87, 107, 108, 109, 110, 111, 112, 113] (by decide +kernel) (by decide +kernel)
set_option maxRecDepth 20000 in
theorem gX5_punch_X3_makeHoles : GoodIn wsX5_punch (wsV RX5 85 RX3 yX3_makeHoles wsX3_makeHoles) := goodIn_app (goodIn_of _ (by decide +kernel)) ggX5_punch_X3_makeHoles
set_option maxRecDepth 20000 in
theorem ggX5_punch_X5_keepUnlessError : GoodIn wsX5_punch wsX5_keepUnlessError := goodIn_r _ [91, 1, 92, 93, 86, 94, 95, 96, 97, 6, 98, 8, 13, 99, 100, 101, 102, 103, 104, 105, 106] (by decide +kernel) (by decide +kernel)
set_option maxRecDepth 20000 in
theorem gX5_punch_X5_keepUnlessError : GoodIn wsX5_punch (wsV RX5 52 RX5 yX5_keepUnlessError wsX5_keepUnlessError) := goodIn_app (goodIn_of _ (by decide +kernel)) ggX5_punch_X5_keepUnlessError
theorem dX5_punch_0 : decode cX5_punch 0 = .ok (.aload_n 0, 1) := by decide +kernel
theorem dX5_punch_1 : decode cX5_punch 1 = .ok (.getfield 26, 3) := by decide +kernel
theorem dX5_punch_4 : decode cX5_punch 4 = .ok (.aload_n 0, 1) := by decide +kernel
theorem dX5_punch_5 : decode cX5_punch 5 = .ok (.getfield 10, 3) := by decide +kernel
theorem dX5_punch_8 : decode cX5_punch 8 = .ok (.invokevirtual 44, 3) := by decide +kernel
theorem dX5_punch_11 : decode cX5_punch 11 = .ok (.aload_n 0, 1) := by decide +kernel
theorem dX5_punch_12 : decode cX5_punch 12 = .ok (.aload_n 0, 1) := by decide +kernel
theorem dX5_punch_13 : decode cX5_punch 13 = .ok (.getfield 10, 3) := by decide +kernel
theorem dX5_punch_16 : decode cX5_punch 16 = .ok (.iload_n 1, 1) := by decide +kernel
theorem dX5_punch_17 : decode cX5_punch 17 = .ok (.iload_n 2, 1) := by decide +kernel
theorem dX5_punch_18 : decode cX5_punch 18 = .ok (.iload_n 3, 1) := by decide +kernel
theorem dX5_punch_19 : decode cX5_punch 19 = .ok (.invokevirtual 85, 3) := by decide +kernel
theorem dX5_punch_22 : decode cX5_punch 22 = .ok (.invokevirtual 52, 3) := by decide +kernel
theorem dX5_punch_25 : decode cX5_punch 25 = .ok (.ireturn, 1) := by decide +kernel
set_option maxRecDepth 20000 in
theorem ggX5_ink_X1_note : GoodIn wsX5_ink wsX1_note := goodIn_r _ [7, 8, 9, 10, 11, 6, 12, 13, 14, 15, 16, 17, 18, 19, 20, 21, 22, 23, 24, 25, 26, 27, 28, 29, 30, 31, 32, 33, 34, 35, 104, 105, 106, 107, 108, 109, 110, 111, 112] (by decide +kernel) (by decide +kernel)
set_option maxRecDepth 20000 in
theorem gX5_ink_X1_note : GoodIn wsX5_ink (wsV RX5 44 RX1 yX1_note wsX1_note) := goodIn_app (goodIn_of _ (by decide +kernel)) ggX5_ink_X1_note
set_option maxRecDepth 20000 in
theorem ggX5_ink_X3_dropInk : GoodIn wsX5_ink wsX3_dropInk := goodIn_r _ [39, 19, 40, 41, 42, 30, 43, 44, 45, 46, 47, 35, 48, 49, 50, 51, 34, 52, 53, 54, 17, 55, 25, 56, 57, 58, 59, 60, 61, 62, 63, 64, 65, 66, 67, 68, 32, 69, 70, 71, 72, 73, 74, 75, 76, 77, 78, 79, 80, 81, 82, 83, 84, 85, 86, 20, 106, 107, 108, 109, 110, 111, 112] (by decide +kernel) (by decide +kernel)
set_option maxRecDepth 20000 in
theorem gX5_ink_X3_dropInk : GoodIn wsX5_ink (wsV RX5 89 RX3 yX3_dropInk wsX3_dropInk) := goodIn_app (goodIn_of _ (by decide +kernel)) ggX5_ink_X3_dropInk
set_option maxRecDepth 20000 in
theorem ggX5_ink_X5_keepUnlessError : GoodIn wsX5_ink wsX5_keepUnlessError := goodIn_r _ [90, 1, 91, 92, 79, 93, 94, 95, 96, 6, 97, 8, 13, 98, 99, 100, 101, 102, 103, 104, 105] (by decide +kernel) (by decide +kernel)
set_option maxRecDepth 20000 in
theorem gX5_ink_X5_keepUnlessError : GoodIn wsX5_ink (wsV RX5 52 RX5 yX5_keepUnlessError wsX5_keepUnlessError) := goodIn_app (goodIn_of _ (by decide +kernel)) ggX5_ink_X5_keepUnlessError
theorem dX5_ink_0 : decode cX5_ink 0 = .ok (.aload_n 0, 1) := by decide +kernel
theorem dX5_ink_1 : decode cX5_ink 1 = .ok (.getfield 26, 3) := by decide +kernel
theorem dX5_ink_4 : decode cX5_ink 4 = .ok (.aload_n 0, 1) := by decide +kernel
theorem dX5_ink_5 : decode cX5_ink 5 = .ok (.getfield 10, 3) := by decide +kernel
theorem dX5_ink_8 : decode cX5_ink 8 = .ok (.invokevirtual 44, 3) := by decide +kernel
theorem dX5_ink_11 : decode cX5_ink 11 = .ok (.aload_n 0, 1) := by decide +kernel
theorem dX5_ink_12 : decode cX5_ink 12 = .ok (.aload_n 0, 1) := by decide +kernel
theorem dX5_ink_13 : decode cX5_ink 13 = .ok (.getfield 10, 3) := by decide +kernel
theorem dX5_ink_16 : decode cX5_ink 16 = .ok (.iload_n 1, 1) := by decide +kernel
theorem dX5_ink_17 : decode cX5_ink 17 = .ok (.iload_n 2, 1) := by decide +kernel
theorem dX5_ink_18 : decode cX5_ink 18 = .ok (.iload_n 3, 1) := by decide +kernel
theorem dX5_ink_19 : decode cX5_ink 19 = .ok (.invokevirtual 89, 3) := by decide +kernel
theorem dX5_ink_22 : decode cX5_ink 22 = .ok (.invokevirtual 52, 3) := by decide +kernel
theorem dX5_ink_25 : decode cX5_ink 25 = .ok (.ireturn, 1) := by decide +kernel
set_option maxRecDepth 20000 in
theorem ggX5_mend_X1_note : GoodIn wsX5_mend wsX1_note := goodIn_r _ [7, 8, 9, 10, 11, 6, 12, 13, 14, 15, 16, 17, 18, 19, 20, 21, 22, 23, 24, 25, 26, 27, 28, 29, 30, 31, 32, 33, 34, 35, 100, 101, 102, 103, 104, 105, 106, 107, 108] (by decide +kernel) (by decide +kernel)
set_option maxRecDepth 20000 in
theorem gX5_mend_X1_note : GoodIn wsX5_mend (wsV RX5 44 RX1 yX1_note wsX1_note) := goodIn_app (goodIn_of _ (by decide +kernel)) ggX5_mend_X1_note
set_option maxRecDepth 20000 in
theorem ggX5_mend_X3_mendTop : GoodIn wsX5_mend wsX3_mendTop := goodIn_r _ [39, 19, 25, 40, 41, 42, 43, 30, 44, 45, 46, 47, 48, 35, 49, 50, 51, 52, 34, 53, 54, 55, 56, 57, 58, 59, 60, 61, 62, 63, 64, 32, 65, 66, 67, 68, 69, 70, 71, 72, 73, 74, 75, 76, 77, 78, 79, 80, 81, 17, 82, 20, 102, 103, 104, 105, 106, 107, 108] (by decide +kernel) (by decide +kernel)
set_option maxRecDepth 20000 in
theorem gX5_mend_X3_mendTop : GoodIn wsX5_mend (wsV RX5 92 RX3 yX3_mendTop wsX3_mendTop) := goodIn_app (goodIn_of _ (by decide +kernel)) ggX5_mend_X3_mendTop
set_option maxRecDepth 20000 in
theorem ggX5_mend_X5_keepUnlessError : GoodIn wsX5_mend wsX5_keepUnlessError := goodIn_r _ [86, 1, 87, 88, 75, 89, 90, 91, 92, 6, 93, 8, 13, 94, 95, 96, 97, 98, 99, 100, 101] (by decide +kernel) (by decide +kernel)
set_option maxRecDepth 20000 in
theorem gX5_mend_X5_keepUnlessError : GoodIn wsX5_mend (wsV RX5 52 RX5 yX5_keepUnlessError wsX5_keepUnlessError) := goodIn_app (goodIn_of _ (by decide +kernel)) ggX5_mend_X5_keepUnlessError
theorem dX5_mend_0 : decode cX5_mend 0 = .ok (.aload_n 0, 1) := by decide +kernel
theorem dX5_mend_1 : decode cX5_mend 1 = .ok (.getfield 26, 3) := by decide +kernel
theorem dX5_mend_4 : decode cX5_mend 4 = .ok (.aload_n 0, 1) := by decide +kernel
theorem dX5_mend_5 : decode cX5_mend 5 = .ok (.getfield 10, 3) := by decide +kernel
theorem dX5_mend_8 : decode cX5_mend 8 = .ok (.invokevirtual 44, 3) := by decide +kernel
theorem dX5_mend_11 : decode cX5_mend 11 = .ok (.aload_n 0, 1) := by decide +kernel
theorem dX5_mend_12 : decode cX5_mend 12 = .ok (.aload_n 0, 1) := by decide +kernel
theorem dX5_mend_13 : decode cX5_mend 13 = .ok (.getfield 10, 3) := by decide +kernel
theorem dX5_mend_16 : decode cX5_mend 16 = .ok (.iload_n 1, 1) := by decide +kernel
theorem dX5_mend_17 : decode cX5_mend 17 = .ok (.iload_n 2, 1) := by decide +kernel
theorem dX5_mend_18 : decode cX5_mend 18 = .ok (.invokevirtual 92, 3) := by decide +kernel
theorem dX5_mend_21 : decode cX5_mend 21 = .ok (.invokevirtual 52, 3) := by decide +kernel
theorem dX5_mend_24 : decode cX5_mend 24 = .ok (.ireturn, 1) := by decide +kernel
set_option maxRecDepth 20000 in
theorem ggX5_layer_X0_hasLayer : GoodIn wsX5_layer wsX0_hasLayer := goodIn_r _ [8, 9, 10, 11, 7, 12, 13, 14, 15, 16, 17, 18, 19, 20, 21, 22, 23, 24, 25, 26, 68, 69, 70] (by decide +kernel) (by decide +kernel)
set_option maxRecDepth 20000 in
theorem gX5_layer_X0_hasLayer : GoodIn wsX5_layer (wsV RX5 96 RX0 yX0_hasLayer wsX0_hasLayer) := goodIn_app (goodIn_of _ (by decide +kernel)) ggX5_layer_X0_hasLayer
set_option maxRecDepth 20000 in
theorem ggX5_layer_X0_upperSide : GoodIn wsX5_layer wsX0_upperSide := goodIn_r _ [30, 22, 13, 14, 15, 7, 16, 17, 18, 19, 20, 21, 23, 24, 25, 26, 31, 32, 33, 34, 35, 36, 37, 38, 39, 40, 41, 42, 43, 44, 68, 69, 70] (by decide +kernel) (by decide +kernel)
set_option maxRecDepth 20000 in
theorem gX5_layer_X0_upperSide : GoodIn wsX5_layer (wsV RX5 100 RX0 yX0_upperSide wsX0_upperSide) := goodIn_app (goodIn_of _ (by decide +kernel)) ggX5_layer_X0_upperSide
set_option maxRecDepth 20000 in
theorem ggX5_layer_X5_cellOf : GoodIn wsX5_layer wsX5_cellOf := goodIn_r _ [48] (by decide +kernel) (by decide +kernel)
set_option maxRecDepth 20000 in
theorem gX5_layer_X5_cellOf : GoodIn wsX5_layer (va_wsS RX5 103 yX5_cellOf wsX5_cellOf) := goodIn_app (goodIn_of _ (by decide +kernel)) ggX5_layer_X5_cellOf
set_option maxRecDepth 20000 in
theorem ggX5_layer_X5_hasCell : GoodIn wsX5_layer wsX5_hasCell := goodIn_r _ [51] (by decide +kernel) (by decide +kernel)
set_option maxRecDepth 20000 in
theorem gX5_layer_X5_hasCell : GoodIn wsX5_layer (va_wsS RX5 110 yX5_hasCell wsX5_hasCell) := goodIn_app (goodIn_of _ (by decide +kernel)) ggX5_layer_X5_hasCell
set_option maxRecDepth 20000 in
theorem ggX5_layer_X3_colourOf : GoodIn wsX5_layer wsX3_colourOf := goodIn_r _ [56, 57, 64, 65, 66, 67] (by decide +kernel) (by decide +kernel)
set_option maxRecDepth 20000 in
theorem gX5_layer_X3_colourOf : GoodIn wsX5_layer (wsV RX5 114 RX3 yX3_colourOf wsX3_colourOf) := goodIn_app (goodIn_of _ (by decide +kernel)) ggX5_layer_X3_colourOf
theorem dX5_layer_0 : decode cX5_layer 0 = .ok (.aload_n 0, 1) := by decide +kernel
theorem dX5_layer_1 : decode cX5_layer 1 = .ok (.getfield 10, 3) := by decide +kernel
theorem dX5_layer_4 : decode cX5_layer 4 = .ok (.getfield 62, 3) := by decide +kernel
theorem dX5_layer_7 : decode cX5_layer 7 = .ok (.iload_n 1, 1) := by decide +kernel
theorem dX5_layer_8 : decode cX5_layer 8 = .ok (.iload_n 2, 1) := by decide +kernel
theorem dX5_layer_9 : decode cX5_layer 9 = .ok (.iload_n 3, 1) := by decide +kernel
theorem dX5_layer_10 : decode cX5_layer 10 = .ok (.invokevirtual 96, 3) := by decide +kernel
theorem dX5_layer_13 : decode cX5_layer 13 = .ok (.ifCond .ne 5, 3) := by decide +kernel
theorem dX5_layer_16 : decode cX5_layer 16 = .ok (.iconst (-1), 1) := by decide +kernel
theorem dX5_layer_17 : decode cX5_layer 17 = .ok (.ireturn, 1) := by decide +kernel
theorem dX5_layer_18 : decode cX5_layer 18 = .ok (.aload_n 0, 1) := by decide +kernel
theorem dX5_layer_19 : decode cX5_layer 19 = .ok (.getfield 10, 3) := by decide +kernel
theorem dX5_layer_22 : decode cX5_layer 22 = .ok (.getfield 62, 3) := by decide +kernel
theorem dX5_layer_25 : decode cX5_layer 25 = .ok (.iload_n 1, 1) := by decide +kernel
theorem dX5_layer_26 : decode cX5_layer 26 = .ok (.iload_n 2, 1) := by decide +kernel
theorem dX5_layer_27 : decode cX5_layer 27 = .ok (.iload_n 3, 1) := by decide +kernel
theorem dX5_layer_28 : decode cX5_layer 28 = .ok (.invokevirtual 100, 3) := by decide +kernel
theorem dX5_layer_31 : decode cX5_layer 31 = .ok (.istore 5, 2) := by decide +kernel
theorem dX5_layer_33 : decode cX5_layer 33 = .ok (.iload 4, 2) := by decide +kernel
theorem dX5_layer_35 : decode cX5_layer 35 = .ok (.tableswitch 74 0 3 #[29, 35, 40, 64], 29) := by decide +kernel
theorem dX5_layer_64 : decode cX5_layer 64 = .ok (.iload 5, 2) := by decide +kernel
theorem dX5_layer_66 : decode cX5_layer 66 = .ok (.invokestatic 103, 3) := by decide +kernel
theorem dX5_layer_69 : decode cX5_layer 69 = .ok (.ireturn, 1) := by decide +kernel
theorem dX5_layer_70 : decode cX5_layer 70 = .ok (.iload 5, 2) := by decide +kernel
theorem dX5_layer_72 : decode cX5_layer 72 = .ok (.iconst 1, 1) := by decide +kernel
theorem dX5_layer_73 : decode cX5_layer 73 = .ok (.iand, 1) := by decide +kernel
theorem dX5_layer_74 : decode cX5_layer 74 = .ok (.ireturn, 1) := by decide +kernel
theorem dX5_layer_75 : decode cX5_layer 75 = .ok (.aload_n 0, 1) := by decide +kernel
theorem dX5_layer_76 : decode cX5_layer 76 = .ok (.getfield 10, 3) := by decide +kernel
theorem dX5_layer_79 : decode cX5_layer 79 = .ok (.getfield 106, 3) := by decide +kernel
theorem dX5_layer_82 : decode cX5_layer 82 = .ok (.iload 5, 2) := by decide +kernel
theorem dX5_layer_84 : decode cX5_layer 84 = .ok (.invokestatic 103, 3) := by decide +kernel
theorem dX5_layer_87 : decode cX5_layer 87 = .ok (.invokestatic 110, 3) := by decide +kernel
theorem dX5_layer_90 : decode cX5_layer 90 = .ok (.ifCond .eq 7, 3) := by decide +kernel
theorem dX5_layer_93 : decode cX5_layer 93 = .ok (.iconst 1, 1) := by decide +kernel
theorem dX5_layer_94 : decode cX5_layer 94 = .ok (.goto 4, 3) := by decide +kernel
theorem dX5_layer_97 : decode cX5_layer 97 = .ok (.iconst 0, 1) := by decide +kernel
theorem dX5_layer_98 : decode cX5_layer 98 = .ok (.ireturn, 1) := by decide +kernel
theorem dX5_layer_99 : decode cX5_layer 99 = .ok (.aload_n 0, 1) := by decide +kernel
theorem dX5_layer_100 : decode cX5_layer 100 = .ok (.getfield 10, 3) := by decide +kernel
theorem dX5_layer_103 : decode cX5_layer 103 = .ok (.iload 5, 2) := by decide +kernel
theorem dX5_layer_105 : decode cX5_layer 105 = .ok (.invokevirtual 114, 3) := by decide +kernel
theorem dX5_layer_108 : decode cX5_layer 108 = .ok (.ireturn, 1) := by decide +kernel
theorem dX5_layer_109 : decode cX5_layer 109 = .ok (.bipush (-2), 2) := by decide +kernel
theorem dX5_layer_111 : decode cX5_layer 111 = .ok (.ireturn, 1) := by decide +kernel
set_option maxRecDepth 20000 in
theorem ggX5_seen_X0_hasField : GoodIn wsX5_seen wsX0_hasField := goodIn_r _ [7, 8, 9, 10, 6, 11, 12, 13, 14, 15, 16, 17, 69, 70, 71] (by decide +kernel) (by decide +kernel)
set_option maxRecDepth 20000 in
theorem gX5_seen_X0_hasField : GoodIn wsX5_seen (wsV RX5 117 RX0 yX0_hasField wsX0_hasField) := goodIn_app (goodIn_of _ (by decide +kernel)) ggX5_seen_X0_hasField
set_option maxRecDepth 20000 in
theorem ggX5_seen_X3_uppermostWhole : GoodIn wsX5_seen wsX3_uppermostWhole := goodIn_r _ [22, 23, 24, 25, 26, 27, 6, 28, 17, 29, 30, 31, 32, 8, 9, 10, 11, 12, 13, 14, 15, 16, 33, 34, 35, 36, 37, 38, 39, 40, 41, 42, 43, 44, 45, 46, 47, 48, 49, 50, 51, 52, 65, 66, 67, 68, 69, 70, 71] (by decide +kernel) (by decide +kernel)
set_option maxRecDepth 20000 in
theorem gX5_seen_X3_uppermostWhole : GoodIn wsX5_seen (wsV RX5 121 RX3 yX3_uppermostWhole wsX3_uppermostWhole) := goodIn_app (goodIn_of _ (by decide +kernel)) ggX5_seen_X3_uppermostWhole
set_option maxRecDepth 20000 in
theorem ggX5_seen_X5_cellOf : GoodIn wsX5_seen wsX5_cellOf := goodIn_r _ [50] (by decide +kernel) (by decide +kernel)
set_option maxRecDepth 20000 in
theorem gX5_seen_X5_cellOf : GoodIn wsX5_seen (va_wsS RX5 103 yX5_cellOf wsX5_cellOf) := goodIn_app (goodIn_of _ (by decide +kernel)) ggX5_seen_X5_cellOf
set_option maxRecDepth 20000 in
theorem ggX5_seen_X3_colourOf : GoodIn wsX5_seen wsX3_colourOf := goodIn_r _ [57, 58, 65, 66, 67, 68] (by decide +kernel) (by decide +kernel)
set_option maxRecDepth 20000 in
theorem gX5_seen_X3_colourOf : GoodIn wsX5_seen (wsV RX5 114 RX3 yX3_colourOf wsX3_colourOf) := goodIn_app (goodIn_of _ (by decide +kernel)) ggX5_seen_X3_colourOf
theorem dX5_seen_0 : decode cX5_seen 0 = .ok (.aload_n 0, 1) := by decide +kernel
theorem dX5_seen_1 : decode cX5_seen 1 = .ok (.getfield 10, 3) := by decide +kernel
theorem dX5_seen_4 : decode cX5_seen 4 = .ok (.getfield 62, 3) := by decide +kernel
theorem dX5_seen_7 : decode cX5_seen 7 = .ok (.iload_n 1, 1) := by decide +kernel
theorem dX5_seen_8 : decode cX5_seen 8 = .ok (.iload_n 2, 1) := by decide +kernel
theorem dX5_seen_9 : decode cX5_seen 9 = .ok (.invokevirtual 117, 3) := by decide +kernel
theorem dX5_seen_12 : decode cX5_seen 12 = .ok (.ifCond .ne 5, 3) := by decide +kernel
theorem dX5_seen_15 : decode cX5_seen 15 = .ok (.iconst (-1), 1) := by decide +kernel
theorem dX5_seen_16 : decode cX5_seen 16 = .ok (.ireturn, 1) := by decide +kernel
theorem dX5_seen_17 : decode cX5_seen 17 = .ok (.aload_n 0, 1) := by decide +kernel
theorem dX5_seen_18 : decode cX5_seen 18 = .ok (.getfield 10, 3) := by decide +kernel
theorem dX5_seen_21 : decode cX5_seen 21 = .ok (.iload_n 1, 1) := by decide +kernel
theorem dX5_seen_22 : decode cX5_seen 22 = .ok (.iload_n 2, 1) := by decide +kernel
theorem dX5_seen_23 : decode cX5_seen 23 = .ok (.invokevirtual 121, 3) := by decide +kernel
theorem dX5_seen_26 : decode cX5_seen 26 = .ok (.istore_n 3, 1) := by decide +kernel
theorem dX5_seen_27 : decode cX5_seen 27 = .ok (.iload_n 3, 1) := by decide +kernel
theorem dX5_seen_28 : decode cX5_seen 28 = .ok (.bipush (-6), 2) := by decide +kernel
theorem dX5_seen_30 : decode cX5_seen 30 = .ok (.if_icmp .ne 8, 3) := by decide +kernel
theorem dX5_seen_33 : decode cX5_seen 33 = .ok (.bipush (-6), 2) := by decide +kernel
theorem dX5_seen_35 : decode cX5_seen 35 = .ok (.goto 19, 3) := by decide +kernel
theorem dX5_seen_38 : decode cX5_seen 38 = .ok (.bipush 10, 2) := by decide +kernel
theorem dX5_seen_40 : decode cX5_seen 40 = .ok (.iload_n 3, 1) := by decide +kernel
theorem dX5_seen_41 : decode cX5_seen 41 = .ok (.invokestatic 103, 3) := by decide +kernel
theorem dX5_seen_44 : decode cX5_seen 44 = .ok (.imul, 1) := by decide +kernel
theorem dX5_seen_45 : decode cX5_seen 45 = .ok (.aload_n 0, 1) := by decide +kernel
theorem dX5_seen_46 : decode cX5_seen 46 = .ok (.getfield 10, 3) := by decide +kernel
theorem dX5_seen_49 : decode cX5_seen 49 = .ok (.iload_n 3, 1) := by decide +kernel
theorem dX5_seen_50 : decode cX5_seen 50 = .ok (.invokevirtual 114, 3) := by decide +kernel
theorem dX5_seen_53 : decode cX5_seen 53 = .ok (.iadd, 1) := by decide +kernel
theorem dX5_seen_54 : decode cX5_seen 54 = .ok (.ireturn, 1) := by decide +kernel
set_option maxRecDepth 20000 in
theorem ggX5_where_X5_isCell : GoodIn wsX5_where wsX5_isCell := goodIn_r _ [6] (by decide +kernel) (by decide +kernel)
set_option maxRecDepth 20000 in
theorem gX5_where_X5_isCell : GoodIn wsX5_where (va_wsS RX5 124 yX5_isCell wsX5_isCell) := goodIn_app (goodIn_of _ (by decide +kernel)) ggX5_where_X5_isCell
set_option maxRecDepth 20000 in
theorem ggX5_where_X0_placeOf : GoodIn wsX5_where wsX0_placeOf := goodIn_r _ [11, 12, 13, 14, 15, 10, 16, 17, 18, 19, 20, 21, 22, 23, 24, 25, 26, 37, 38, 39] (by decide +kernel) (by decide +kernel)
set_option maxRecDepth 20000 in
theorem gX5_where_X0_placeOf : GoodIn wsX5_where (wsV RX5 127 RX0 yX0_placeOf wsX0_placeOf) := goodIn_app (goodIn_of _ (by decide +kernel)) ggX5_where_X0_placeOf
theorem dX5_where_0 : decode cX5_where 0 = .ok (.iload_n 1, 1) := by decide +kernel
theorem dX5_where_1 : decode cX5_where 1 = .ok (.invokestatic 124, 3) := by decide +kernel
theorem dX5_where_4 : decode cX5_where 4 = .ok (.ifCond .ne 5, 3) := by decide +kernel
theorem dX5_where_7 : decode cX5_where 7 = .ok (.iconst (-1), 1) := by decide +kernel
theorem dX5_where_8 : decode cX5_where 8 = .ok (.ireturn, 1) := by decide +kernel
theorem dX5_where_9 : decode cX5_where 9 = .ok (.iload_n 2, 1) := by decide +kernel
theorem dX5_where_10 : decode cX5_where 10 = .ok (.ifCond .lt 8, 3) := by decide +kernel
theorem dX5_where_13 : decode cX5_where 13 = .ok (.iload_n 2, 1) := by decide +kernel
theorem dX5_where_14 : decode cX5_where 14 = .ok (.iconst 3, 1) := by decide +kernel
theorem dX5_where_15 : decode cX5_where 15 = .ok (.if_icmp .le 8, 3) := by decide +kernel
theorem dX5_where_18 : decode cX5_where 18 = .ok (.bipush (-2), 2) := by decide +kernel
theorem dX5_where_20 : decode cX5_where 20 = .ok (.goto 15, 3) := by decide +kernel
theorem dX5_where_23 : decode cX5_where 23 = .ok (.aload_n 0, 1) := by decide +kernel
theorem dX5_where_24 : decode cX5_where 24 = .ok (.getfield 10, 3) := by decide +kernel
theorem dX5_where_27 : decode cX5_where 27 = .ok (.getfield 62, 3) := by decide +kernel
theorem dX5_where_30 : decode cX5_where 30 = .ok (.iload_n 1, 1) := by decide +kernel
theorem dX5_where_31 : decode cX5_where 31 = .ok (.iload_n 2, 1) := by decide +kernel
theorem dX5_where_32 : decode cX5_where 32 = .ok (.invokevirtual 127, 3) := by decide +kernel
theorem dX5_where_35 : decode cX5_where 35 = .ok (.ireturn, 1) := by decide +kernel
set_option maxRecDepth 20000 in
theorem ggX5_colour_X5_isCell : GoodIn wsX5_colour wsX5_isCell := goodIn_r _ [5] (by decide +kernel) (by decide +kernel)
set_option maxRecDepth 20000 in
theorem gX5_colour_X5_isCell : GoodIn wsX5_colour (va_wsS RX5 124 yX5_isCell wsX5_isCell) := goodIn_app (goodIn_of _ (by decide +kernel)) ggX5_colour_X5_isCell
set_option maxRecDepth 20000 in
theorem ggX5_colour_X3_colourOf : GoodIn wsX5_colour wsX3_colourOf := goodIn_r _ [10, 11, 18, 19, 20, 21] (by decide +kernel) (by decide +kernel)
set_option maxRecDepth 20000 in
theorem gX5_colour_X3_colourOf : GoodIn wsX5_colour (wsV RX5 114 RX3 yX3_colourOf wsX3_colourOf) := goodIn_app (goodIn_of _ (by decide +kernel)) ggX5_colour_X3_colourOf
theorem dX5_colour_0 : decode cX5_colour 0 = .ok (.iload_n 1, 1) := by decide +kernel
theorem dX5_colour_1 : decode cX5_colour 1 = .ok (.invokestatic 124, 3) := by decide +kernel
theorem dX5_colour_4 : decode cX5_colour 4 = .ok (.ifCond .ne 5, 3) := by decide +kernel
theorem dX5_colour_7 : decode cX5_colour 7 = .ok (.iconst (-1), 1) := by decide +kernel
theorem dX5_colour_8 : decode cX5_colour 8 = .ok (.ireturn, 1) := by decide +kernel
theorem dX5_colour_9 : decode cX5_colour 9 = .ok (.iload_n 2, 1) := by decide +kernel
theorem dX5_colour_10 : decode cX5_colour 10 = .ok (.ifCond .lt 8, 3) := by decide +kernel
theorem dX5_colour_13 : decode cX5_colour 13 = .ok (.iload_n 2, 1) := by decide +kernel
theorem dX5_colour_14 : decode cX5_colour 14 = .ok (.iconst 1, 1) := by decide +kernel
theorem dX5_colour_15 : decode cX5_colour 15 = .ok (.if_icmp .le 8, 3) := by decide +kernel
theorem dX5_colour_18 : decode cX5_colour 18 = .ok (.bipush (-2), 2) := by decide +kernel
theorem dX5_colour_20 : decode cX5_colour 20 = .ok (.goto 15, 3) := by decide +kernel
theorem dX5_colour_23 : decode cX5_colour 23 = .ok (.aload_n 0, 1) := by decide +kernel
theorem dX5_colour_24 : decode cX5_colour 24 = .ok (.getfield 10, 3) := by decide +kernel
theorem dX5_colour_27 : decode cX5_colour 27 = .ok (.iconst 2, 1) := by decide +kernel
theorem dX5_colour_28 : decode cX5_colour 28 = .ok (.iload_n 1, 1) := by decide +kernel
theorem dX5_colour_29 : decode cX5_colour 29 = .ok (.imul, 1) := by decide +kernel
theorem dX5_colour_30 : decode cX5_colour 30 = .ok (.iload_n 2, 1) := by decide +kernel
theorem dX5_colour_31 : decode cX5_colour 31 = .ok (.iadd, 1) := by decide +kernel
theorem dX5_colour_32 : decode cX5_colour 32 = .ok (.invokevirtual 114, 3) := by decide +kernel
theorem dX5_colour_35 : decode cX5_colour 35 = .ok (.ireturn, 1) := by decide +kernel
set_option maxRecDepth 20000 in
theorem ggX5_holes_X5_isRow : GoodIn wsX5_holes wsX5_isRow := goodIn_r _ [6] (by decide +kernel) (by decide +kernel)
set_option maxRecDepth 20000 in
theorem gX5_holes_X5_isRow : GoodIn wsX5_holes (va_wsS RX5 130 yX5_isRow wsX5_isRow) := goodIn_app (goodIn_of _ (by decide +kernel)) ggX5_holes_X5_isRow
set_option maxRecDepth 20000 in
theorem ggX5_holes_X5_maskOfRow : GoodIn wsX5_holes wsX5_maskOfRow := goodIn_r _ [9] (by decide +kernel) (by decide +kernel)
set_option maxRecDepth 20000 in
theorem gX5_holes_X5_maskOfRow : GoodIn wsX5_holes (va_wsS RX5 133 yX5_maskOfRow wsX5_maskOfRow) := goodIn_app (goodIn_of _ (by decide +kernel)) ggX5_holes_X5_maskOfRow
theorem dX5_holes_0 : decode cX5_holes 0 = .ok (.iload_n 1, 1) := by decide +kernel
theorem dX5_holes_1 : decode cX5_holes 1 = .ok (.invokestatic 130, 3) := by decide +kernel
theorem dX5_holes_4 : decode cX5_holes 4 = .ok (.ifCond .eq 17, 3) := by decide +kernel
theorem dX5_holes_7 : decode cX5_holes 7 = .ok (.aload_n 0, 1) := by decide +kernel
theorem dX5_holes_8 : decode cX5_holes 8 = .ok (.getfield 10, 3) := by decide +kernel
theorem dX5_holes_11 : decode cX5_holes 11 = .ok (.getfield 106, 3) := by decide +kernel
theorem dX5_holes_14 : decode cX5_holes 14 = .ok (.iload_n 1, 1) := by decide +kernel
theorem dX5_holes_15 : decode cX5_holes 15 = .ok (.invokestatic 133, 3) := by decide +kernel
theorem dX5_holes_18 : decode cX5_holes 18 = .ok (.goto 4, 3) := by decide +kernel
theorem dX5_holes_21 : decode cX5_holes 21 = .ok (.iconst (-1), 1) := by decide +kernel
theorem dX5_holes_22 : decode cX5_holes 22 = .ok (.ireturn, 1) := by decide +kernel
set_option maxRecDepth 20000 in
theorem ggX5_count_J13_bitCount_95d88 : GoodIn wsX5_count wsJ13_bitCount_95d88 := goodIn_r _ [8, 9, 10, 11] (by decide +kernel) (by decide +kernel)
set_option maxRecDepth 20000 in
theorem gX5_count_J13_bitCount_95d88 : GoodIn wsX5_count (va_wsS RX5 137 yJ13_bitCount_95d88 wsJ13_bitCount_95d88) := goodIn_app (goodIn_of _ (by decide +kernel)) ggX5_count_J13_bitCount_95d88
set_option maxRecDepth 20000 in
theorem ggX5_count_X2_numberIn : GoodIn wsX5_count wsX2_numberIn := goodIn_r _ [15, 16, 17, 18, 14, 19, 20, 21, 22, 23, 24] (by decide +kernel) (by decide +kernel)
set_option maxRecDepth 20000 in
theorem gX5_count_X2_numberIn : GoodIn wsX5_count (va_wsS RX5 145 yX2_numberIn wsX2_numberIn) := goodIn_app (goodIn_of _ (by decide +kernel)) ggX5_count_X2_numberIn
set_option maxRecDepth 20000 in
theorem ggX5_count_X2_largestIn : GoodIn wsX5_count wsX2_largestIn := goodIn_r _ [27, 16, 28, 29, 30, 31, 17, 18, 14, 19, 20, 21, 22, 23, 24, 32, 6, 7, 8, 9, 10, 11] (by decide +kernel) (by decide +kernel)
set_option maxRecDepth 20000 in
theorem gX5_count_X2_largestIn : GoodIn wsX5_count (va_wsS RX5 150 yX2_largestIn wsX2_largestIn) := goodIn_app (goodIn_of _ (by decide +kernel)) ggX5_count_X2_largestIn
set_option maxRecDepth 20000 in
theorem ggX5_count_X3_colouredSides : GoodIn wsX5_count wsX3_colouredSides := goodIn_r _ [37, 38, 45, 46, 47, 48] (by decide +kernel) (by decide +kernel)
set_option maxRecDepth 20000 in
theorem gX5_count_X3_colouredSides : GoodIn wsX5_count (wsV RX5 153 RX3 yX3_colouredSides wsX3_colouredSides) := goodIn_app (goodIn_of _ (by decide +kernel)) ggX5_count_X3_colouredSides
theorem dX5_count_0 : decode cX5_count 0 = .ok (.iload_n 1, 1) := by decide +kernel
theorem dX5_count_1 : decode cX5_count 1 = .ok (.tableswitch 118 0 5 #[39, 50, 65, 80, 88, 99], 39) := by decide +kernel
theorem dX5_count_40 : decode cX5_count 40 = .ok (.aload_n 0, 1) := by decide +kernel
theorem dX5_count_41 : decode cX5_count 41 = .ok (.getfield 10, 3) := by decide +kernel
theorem dX5_count_44 : decode cX5_count 44 = .ok (.getfield 106, 3) := by decide +kernel
theorem dX5_count_47 : decode cX5_count 47 = .ok (.invokestatic 137, 3) := by decide +kernel
theorem dX5_count_50 : decode cX5_count 50 = .ok (.ireturn, 1) := by decide +kernel
theorem dX5_count_51 : decode cX5_count 51 = .ok (.aload_n 0, 1) := by decide +kernel
theorem dX5_count_52 : decode cX5_count 52 = .ok (.getfield 10, 3) := by decide +kernel
theorem dX5_count_55 : decode cX5_count 55 = .ok (.getfield 106, 3) := by decide +kernel
theorem dX5_count_58 : decode cX5_count 58 = .ok (.ldc2_w 143, 3) := by decide +kernel
theorem dX5_count_61 : decode cX5_count 61 = .ok (.lxor, 1) := by decide +kernel
theorem dX5_count_62 : decode cX5_count 62 = .ok (.invokestatic 145, 3) := by decide +kernel
theorem dX5_count_65 : decode cX5_count 65 = .ok (.ireturn, 1) := by decide +kernel
theorem dX5_count_66 : decode cX5_count 66 = .ok (.aload_n 0, 1) := by decide +kernel
theorem dX5_count_67 : decode cX5_count 67 = .ok (.getfield 10, 3) := by decide +kernel
theorem dX5_count_70 : decode cX5_count 70 = .ok (.getfield 106, 3) := by decide +kernel
theorem dX5_count_73 : decode cX5_count 73 = .ok (.ldc2_w 143, 3) := by decide +kernel
theorem dX5_count_76 : decode cX5_count 76 = .ok (.lxor, 1) := by decide +kernel
theorem dX5_count_77 : decode cX5_count 77 = .ok (.invokestatic 150, 3) := by decide +kernel
theorem dX5_count_80 : decode cX5_count 80 = .ok (.ireturn, 1) := by decide +kernel
theorem dX5_count_81 : decode cX5_count 81 = .ok (.aload_n 0, 1) := by decide +kernel
theorem dX5_count_82 : decode cX5_count 82 = .ok (.getfield 10, 3) := by decide +kernel
theorem dX5_count_85 : decode cX5_count 85 = .ok (.invokevirtual 153, 3) := by decide +kernel
theorem dX5_count_88 : decode cX5_count 88 = .ok (.ireturn, 1) := by decide +kernel
theorem dX5_count_89 : decode cX5_count 89 = .ok (.aload_n 0, 1) := by decide +kernel
theorem dX5_count_90 : decode cX5_count 90 = .ok (.getfield 10, 3) := by decide +kernel
theorem dX5_count_93 : decode cX5_count 93 = .ok (.getfield 156, 3) := by decide +kernel
theorem dX5_count_96 : decode cX5_count 96 = .ok (.invokestatic 137, 3) := by decide +kernel
theorem dX5_count_99 : decode cX5_count 99 = .ok (.ireturn, 1) := by decide +kernel
theorem dX5_count_100 : decode cX5_count 100 = .ok (.aload_n 0, 1) := by decide +kernel
theorem dX5_count_101 : decode cX5_count 101 = .ok (.getfield 10, 3) := by decide +kernel
theorem dX5_count_104 : decode cX5_count 104 = .ok (.getfield 106, 3) := by decide +kernel
theorem dX5_count_107 : decode cX5_count 107 = .ok (.aload_n 0, 1) := by decide +kernel
theorem dX5_count_108 : decode cX5_count 108 = .ok (.getfield 10, 3) := by decide +kernel
theorem dX5_count_111 : decode cX5_count 111 = .ok (.getfield 156, 3) := by decide +kernel
theorem dX5_count_114 : decode cX5_count 114 = .ok (.lxor, 1) := by decide +kernel
theorem dX5_count_115 : decode cX5_count 115 = .ok (.invokestatic 137, 3) := by decide +kernel
theorem dX5_count_118 : decode cX5_count 118 = .ok (.ireturn, 1) := by decide +kernel
theorem dX5_count_119 : decode cX5_count 119 = .ok (.bipush (-2), 2) := by decide +kernel
theorem dX5_count_121 : decode cX5_count 121 = .ok (.ireturn, 1) := by decide +kernel
set_option maxRecDepth 20000 in
theorem ggX5_symmetries_X5_symmetriesAt : GoodIn wsX5_symmetries wsX5_symmetriesAt := goodIn_r _ [6, 7, 8, 5, 9] (by decide +kernel) (by decide +kernel)
set_option maxRecDepth 20000 in
theorem gX5_symmetries_X5_symmetriesAt : GoodIn wsX5_symmetries (va_wsS RX5 159 yX5_symmetriesAt wsX5_symmetriesAt) := goodIn_app (goodIn_of _ (by decide +kernel)) ggX5_symmetries_X5_symmetriesAt
theorem dX5_symmetries_0 : decode cX5_symmetries 0 = .ok (.bipush 15, 2) := by decide +kernel
theorem dX5_symmetries_2 : decode cX5_symmetries 2 = .ok (.istore_n 1, 1) := by decide +kernel
theorem dX5_symmetries_3 : decode cX5_symmetries 3 = .ok (.iconst 0, 1) := by decide +kernel
theorem dX5_symmetries_4 : decode cX5_symmetries 4 = .ok (.istore_n 2, 1) := by decide +kernel
theorem dX5_symmetries_5 : decode cX5_symmetries 5 = .ok (.iload_n 2, 1) := by decide +kernel
theorem dX5_symmetries_6 : decode cX5_symmetries 6 = .ok (.bipush 64, 2) := by decide +kernel
theorem dX5_symmetries_8 : decode cX5_symmetries 8 = .ok (.if_icmp .ge 23, 3) := by decide +kernel
theorem dX5_symmetries_11 : decode cX5_symmetries 11 = .ok (.iload_n 1, 1) := by decide +kernel
theorem dX5_symmetries_12 : decode cX5_symmetries 12 = .ok (.aload_n 0, 1) := by decide +kernel
theorem dX5_symmetries_13 : decode cX5_symmetries 13 = .ok (.getfield 10, 3) := by decide +kernel
theorem dX5_symmetries_16 : decode cX5_symmetries 16 = .ok (.getfield 106, 3) := by decide +kernel
theorem dX5_symmetries_19 : decode cX5_symmetries 19 = .ok (.iload_n 2, 1) := by decide +kernel
theorem dX5_symmetries_20 : decode cX5_symmetries 20 = .ok (.invokestatic 159, 3) := by decide +kernel
theorem dX5_symmetries_23 : decode cX5_symmetries 23 = .ok (.iand, 1) := by decide +kernel
theorem dX5_symmetries_24 : decode cX5_symmetries 24 = .ok (.istore_n 1, 1) := by decide +kernel
theorem dX5_symmetries_25 : decode cX5_symmetries 25 = .ok (.iinc 2 1, 3) := by decide +kernel
theorem dX5_symmetries_28 : decode cX5_symmetries 28 = .ok (.goto (-23), 3) := by decide +kernel
theorem dX5_symmetries_31 : decode cX5_symmetries 31 = .ok (.iload_n 1, 1) := by decide +kernel
theorem dX5_symmetries_32 : decode cX5_symmetries 32 = .ok (.ireturn, 1) := by decide +kernel
set_option maxRecDepth 20000 in
theorem ggX5_aim_X1_note : GoodIn wsX5_aim wsX1_note := goodIn_r _ [7, 8, 9, 10, 11, 6, 12, 13, 14, 15, 16, 17, 18, 19, 20, 21, 22, 23, 24, 25, 26, 27, 28, 29, 30, 31, 32, 33, 34, 35, 62, 63, 64, 65, 66, 67, 68, 69, 70] (by decide +kernel) (by decide +kernel)
set_option maxRecDepth 20000 in
theorem gX5_aim_X1_note : GoodIn wsX5_aim (wsV RX5 44 RX1 yX1_note wsX1_note) := goodIn_app (goodIn_of _ (by decide +kernel)) ggX5_aim_X1_note
set_option maxRecDepth 20000 in
theorem ggX5_aim_X3_changeGoal : GoodIn wsX5_aim wsX3_changeGoal := goodIn_r _ [39, 26, 40, 41, 42, 43, 44, 64, 65, 66, 67] (by decide +kernel) (by decide +kernel)
set_option maxRecDepth 20000 in
theorem gX5_aim_X3_changeGoal : GoodIn wsX5_aim (wsV RX5 162 RX3 yX3_changeGoal wsX3_changeGoal) := goodIn_app (goodIn_of _ (by decide +kernel)) ggX5_aim_X3_changeGoal
set_option maxRecDepth 20000 in
theorem ggX5_aim_X5_keepUnlessError : GoodIn wsX5_aim wsX5_keepUnlessError := goodIn_r _ [48, 1, 49, 50, 41, 51, 52, 53, 54, 6, 55, 8, 13, 56, 57, 58, 59, 60, 61, 62, 63] (by decide +kernel) (by decide +kernel)
set_option maxRecDepth 20000 in
theorem gX5_aim_X5_keepUnlessError : GoodIn wsX5_aim (wsV RX5 52 RX5 yX5_keepUnlessError wsX5_keepUnlessError) := goodIn_app (goodIn_of _ (by decide +kernel)) ggX5_aim_X5_keepUnlessError
theorem dX5_aim_0 : decode cX5_aim 0 = .ok (.aload_n 0, 1) := by decide +kernel
theorem dX5_aim_1 : decode cX5_aim 1 = .ok (.getfield 26, 3) := by decide +kernel
theorem dX5_aim_4 : decode cX5_aim 4 = .ok (.aload_n 0, 1) := by decide +kernel
theorem dX5_aim_5 : decode cX5_aim 5 = .ok (.getfield 10, 3) := by decide +kernel
theorem dX5_aim_8 : decode cX5_aim 8 = .ok (.invokevirtual 44, 3) := by decide +kernel
theorem dX5_aim_11 : decode cX5_aim 11 = .ok (.aload_n 0, 1) := by decide +kernel
theorem dX5_aim_12 : decode cX5_aim 12 = .ok (.aload_n 0, 1) := by decide +kernel
theorem dX5_aim_13 : decode cX5_aim 13 = .ok (.getfield 10, 3) := by decide +kernel
theorem dX5_aim_16 : decode cX5_aim 16 = .ok (.iload_n 1, 1) := by decide +kernel
theorem dX5_aim_17 : decode cX5_aim 17 = .ok (.iload_n 2, 1) := by decide +kernel
theorem dX5_aim_18 : decode cX5_aim 18 = .ok (.invokevirtual 162, 3) := by decide +kernel
theorem dX5_aim_21 : decode cX5_aim 21 = .ok (.invokevirtual 52, 3) := by decide +kernel
theorem dX5_aim_24 : decode cX5_aim 24 = .ok (.ireturn, 1) := by decide +kernel
set_option maxRecDepth 20000 in
theorem ggX5_aimHere_X1_note : GoodIn wsX5_aimHere wsX1_note := goodIn_r _ [9, 10, 11, 12, 13, 8, 14, 15, 16, 17, 18, 19, 20, 21, 22, 23, 24, 25, 26, 27, 28, 29, 30, 31, 32, 33, 34, 35, 36, 37, 67, 68, 63, 64, 65, 66, 69, 70, 71] (by decide +kernel) (by decide +kernel)
set_option maxRecDepth 20000 in
theorem gX5_aimHere_X1_note : GoodIn wsX5_aimHere (wsV RX5 44 RX1 yX1_note wsX1_note) := goodIn_app (goodIn_of _ (by decide +kernel)) ggX5_aimHere_X1_note
set_option maxRecDepth 20000 in
theorem ggX5_aimHere_J13_bitCount_95d88 : GoodIn wsX5_aimHere wsJ13_bitCount_95d88 := goodIn_r _ [41, 42, 43, 44] (by decide +kernel) (by decide +kernel)
set_option maxRecDepth 20000 in
theorem gX5_aimHere_J13_bitCount_95d88 : GoodIn wsX5_aimHere (va_wsS RX5 137 yJ13_bitCount_95d88 wsJ13_bitCount_95d88) := goodIn_app (goodIn_of _ (by decide +kernel)) ggX5_aimHere_J13_bitCount_95d88
set_option maxRecDepth 20000 in
theorem ggX5_aimHere_X5_keepUnlessError : GoodIn wsX5_aimHere wsX5_keepUnlessError := goodIn_r _ [49, 1, 50, 51, 48, 52, 53, 54, 55, 8, 56, 10, 15, 57, 58, 59, 60, 61, 62, 67, 68] (by decide +kernel) (by decide +kernel)
set_option maxRecDepth 20000 in
theorem gX5_aimHere_X5_keepUnlessError : GoodIn wsX5_aimHere (wsV RX5 52 RX5 yX5_keepUnlessError wsX5_keepUnlessError) := goodIn_app (goodIn_of _ (by decide +kernel)) ggX5_aimHere_X5_keepUnlessError
theorem dX5_aimHere_0 : decode cX5_aimHere 0 = .ok (.aload_n 0, 1) := by decide +kernel
theorem dX5_aimHere_1 : decode cX5_aimHere 1 = .ok (.getfield 26, 3) := by decide +kernel
theorem dX5_aimHere_4 : decode cX5_aimHere 4 = .ok (.aload_n 0, 1) := by decide +kernel
theorem dX5_aimHere_5 : decode cX5_aimHere 5 = .ok (.getfield 10, 3) := by decide +kernel
theorem dX5_aimHere_8 : decode cX5_aimHere 8 = .ok (.invokevirtual 44, 3) := by decide +kernel
theorem dX5_aimHere_11 : decode cX5_aimHere 11 = .ok (.aload_n 0, 1) := by decide +kernel
theorem dX5_aimHere_12 : decode cX5_aimHere 12 = .ok (.getfield 10, 3) := by decide +kernel
theorem dX5_aimHere_15 : decode cX5_aimHere 15 = .ok (.aload_n 0, 1) := by decide +kernel
theorem dX5_aimHere_16 : decode cX5_aimHere 16 = .ok (.getfield 10, 3) := by decide +kernel
theorem dX5_aimHere_19 : decode cX5_aimHere 19 = .ok (.getfield 106, 3) := by decide +kernel
theorem dX5_aimHere_22 : decode cX5_aimHere 22 = .ok (.putfield 156, 3) := by decide +kernel
theorem dX5_aimHere_25 : decode cX5_aimHere 25 = .ok (.aload_n 0, 1) := by decide +kernel
theorem dX5_aimHere_26 : decode cX5_aimHere 26 = .ok (.aload_n 0, 1) := by decide +kernel
theorem dX5_aimHere_27 : decode cX5_aimHere 27 = .ok (.getfield 10, 3) := by decide +kernel
theorem dX5_aimHere_30 : decode cX5_aimHere 30 = .ok (.getfield 156, 3) := by decide +kernel
theorem dX5_aimHere_33 : decode cX5_aimHere 33 = .ok (.invokestatic 137, 3) := by decide +kernel
theorem dX5_aimHere_36 : decode cX5_aimHere 36 = .ok (.invokevirtual 52, 3) := by decide +kernel
theorem dX5_aimHere_39 : decode cX5_aimHere 39 = .ok (.ireturn, 1) := by decide +kernel
set_option maxRecDepth 20000 in
theorem ggX5_target_X5_isRow : GoodIn wsX5_target wsX5_isRow := goodIn_r _ [6] (by decide +kernel) (by decide +kernel)
set_option maxRecDepth 20000 in
theorem gX5_target_X5_isRow : GoodIn wsX5_target (va_wsS RX5 130 yX5_isRow wsX5_isRow) := goodIn_app (goodIn_of _ (by decide +kernel)) ggX5_target_X5_isRow
set_option maxRecDepth 20000 in
theorem ggX5_target_X5_maskOfRow : GoodIn wsX5_target wsX5_maskOfRow := goodIn_r _ [9] (by decide +kernel) (by decide +kernel)
set_option maxRecDepth 20000 in
theorem gX5_target_X5_maskOfRow : GoodIn wsX5_target (va_wsS RX5 133 yX5_maskOfRow wsX5_maskOfRow) := goodIn_app (goodIn_of _ (by decide +kernel)) ggX5_target_X5_maskOfRow
theorem dX5_target_0 : decode cX5_target 0 = .ok (.iload_n 1, 1) := by decide +kernel
theorem dX5_target_1 : decode cX5_target 1 = .ok (.invokestatic 130, 3) := by decide +kernel
theorem dX5_target_4 : decode cX5_target 4 = .ok (.ifCond .eq 17, 3) := by decide +kernel
theorem dX5_target_7 : decode cX5_target 7 = .ok (.aload_n 0, 1) := by decide +kernel
theorem dX5_target_8 : decode cX5_target 8 = .ok (.getfield 10, 3) := by decide +kernel
theorem dX5_target_11 : decode cX5_target 11 = .ok (.getfield 156, 3) := by decide +kernel
theorem dX5_target_14 : decode cX5_target 14 = .ok (.iload_n 1, 1) := by decide +kernel
theorem dX5_target_15 : decode cX5_target 15 = .ok (.invokestatic 133, 3) := by decide +kernel
theorem dX5_target_18 : decode cX5_target 18 = .ok (.goto 4, 3) := by decide +kernel
theorem dX5_target_21 : decode cX5_target 21 = .ok (.iconst (-1), 1) := by decide +kernel
theorem dX5_target_22 : decode cX5_target 22 = .ok (.ireturn, 1) := by decide +kernel
set_option maxRecDepth 20000 in
theorem ggX5_punches_X0_punchesFor : GoodIn wsX5_punches wsX0_punchesFor := goodIn_r _ [8, 9, 10, 11, 7, 12, 13, 14, 15, 16, 17, 18, 19, 20, 21, 22, 23, 24, 25, 26, 27, 28, 29, 30, 31, 32, 33, 34, 35, 36, 37, 38, 39, 40, 41, 42, 43, 44, 45, 46, 47, 58, 59, 60] (by decide +kernel) (by decide +kernel)
set_option maxRecDepth 20000 in
theorem gX5_punches_X0_punchesFor : GoodIn wsX5_punches (wsV RX5 165 RX0 yX0_punchesFor wsX0_punchesFor) := goodIn_app (goodIn_of _ (by decide +kernel)) ggX5_punches_X0_punchesFor
theorem dX5_punches_0 : decode cX5_punches 0 = .ok (.aload_n 0, 1) := by decide +kernel
theorem dX5_punches_1 : decode cX5_punches 1 = .ok (.getfield 10, 3) := by decide +kernel
theorem dX5_punches_4 : decode cX5_punches 4 = .ok (.getfield 62, 3) := by decide +kernel
theorem dX5_punches_7 : decode cX5_punches 7 = .ok (.aload_n 0, 1) := by decide +kernel
theorem dX5_punches_8 : decode cX5_punches 8 = .ok (.getfield 10, 3) := by decide +kernel
theorem dX5_punches_11 : decode cX5_punches 11 = .ok (.getfield 156, 3) := by decide +kernel
theorem dX5_punches_14 : decode cX5_punches 14 = .ok (.invokevirtual 165, 3) := by decide +kernel
theorem dX5_punches_17 : decode cX5_punches 17 = .ok (.ireturn, 1) := by decide +kernel
set_option maxRecDepth 20000 in
theorem ggX5_bestFolds_X5_punchesOfTrial : GoodIn wsX5_bestFolds wsX5_punchesOfTrial := goodIn_r _ [5, 6, 7, 8, 9, 10, 11, 12, 13, 14, 15, 16, 17, 18, 19, 20, 21, 22, 23, 24, 25, 26, 27, 28, 29, 30, 31, 32, 33, 34, 35, 36, 37, 38, 39, 40, 41, 42, 43, 44, 45, 46, 47, 48, 49, 50, 51, 52, 53, 54, 55, 56, 57, 58, 59, 60, 61, 62, 4, 63, 64, 65, 66, 67, 68, 69, 70, 71, 72, 73, 74, 75, 76] (by decide +kernel) (by decide +kernel)
set_option maxRecDepth 20000 in
theorem gX5_bestFolds_X5_punchesOfTrial : GoodIn wsX5_bestFolds (wsV RX5 168 RX5 yX5_punchesOfTrial wsX5_punchesOfTrial) := goodIn_app (goodIn_of _ (by decide +kernel)) ggX5_bestFolds_X5_punchesOfTrial
theorem dX5_bestFolds_0 : decode cX5_bestFolds 0 = .ok (.iconst 0, 1) := by decide +kernel
theorem dX5_bestFolds_1 : decode cX5_bestFolds 1 = .ok (.istore_n 1, 1) := by decide +kernel
theorem dX5_bestFolds_2 : decode cX5_bestFolds 2 = .ok (.bipush 65, 2) := by decide +kernel
theorem dX5_bestFolds_4 : decode cX5_bestFolds 4 = .ok (.istore_n 2, 1) := by decide +kernel
theorem dX5_bestFolds_5 : decode cX5_bestFolds 5 = .ok (.iconst 0, 1) := by decide +kernel
theorem dX5_bestFolds_6 : decode cX5_bestFolds 6 = .ok (.istore_n 3, 1) := by decide +kernel
theorem dX5_bestFolds_7 : decode cX5_bestFolds 7 = .ok (.iload_n 3, 1) := by decide +kernel
theorem dX5_bestFolds_8 : decode cX5_bestFolds 8 = .ok (.bipush 6, 2) := by decide +kernel
theorem dX5_bestFolds_10 : decode cX5_bestFolds 10 = .ok (.if_icmp .gt 63, 3) := by decide +kernel
theorem dX5_bestFolds_13 : decode cX5_bestFolds 13 = .ok (.iconst 0, 1) := by decide +kernel
theorem dX5_bestFolds_14 : decode cX5_bestFolds 14 = .ok (.istore 4, 2) := by decide +kernel
theorem dX5_bestFolds_16 : decode cX5_bestFolds 16 = .ok (.iload 4, 2) := by decide +kernel
theorem dX5_bestFolds_18 : decode cX5_bestFolds 18 = .ok (.iload_n 3, 1) := by decide +kernel
theorem dX5_bestFolds_19 : decode cX5_bestFolds 19 = .ok (.if_icmp .gt 48, 3) := by decide +kernel
theorem dX5_bestFolds_22 : decode cX5_bestFolds 22 = .ok (.aload_n 0, 1) := by decide +kernel
theorem dX5_bestFolds_23 : decode cX5_bestFolds 23 = .ok (.iload 4, 2) := by decide +kernel
theorem dX5_bestFolds_25 : decode cX5_bestFolds 25 = .ok (.iload_n 3, 1) := by decide +kernel
theorem dX5_bestFolds_26 : decode cX5_bestFolds 26 = .ok (.iload 4, 2) := by decide +kernel
theorem dX5_bestFolds_28 : decode cX5_bestFolds 28 = .ok (.isub, 1) := by decide +kernel
theorem dX5_bestFolds_29 : decode cX5_bestFolds 29 = .ok (.invokevirtual 168, 3) := by decide +kernel
theorem dX5_bestFolds_32 : decode cX5_bestFolds 32 = .ok (.istore 5, 2) := by decide +kernel
theorem dX5_bestFolds_34 : decode cX5_bestFolds 34 = .ok (.iload 5, 2) := by decide +kernel
theorem dX5_bestFolds_36 : decode cX5_bestFolds 36 = .ok (.bipush (-6), 2) := by decide +kernel
theorem dX5_bestFolds_38 : decode cX5_bestFolds 38 = .ok (.if_icmp .eq 23, 3) := by decide +kernel
theorem dX5_bestFolds_41 : decode cX5_bestFolds 41 = .ok (.iload 5, 2) := by decide +kernel
theorem dX5_bestFolds_43 : decode cX5_bestFolds 43 = .ok (.iload_n 2, 1) := by decide +kernel
theorem dX5_bestFolds_44 : decode cX5_bestFolds 44 = .ok (.if_icmp .ge 17, 3) := by decide +kernel
theorem dX5_bestFolds_47 : decode cX5_bestFolds 47 = .ok (.iload 5, 2) := by decide +kernel
theorem dX5_bestFolds_49 : decode cX5_bestFolds 49 = .ok (.istore_n 2, 1) := by decide +kernel
theorem dX5_bestFolds_50 : decode cX5_bestFolds 50 = .ok (.bipush 10, 2) := by decide +kernel
theorem dX5_bestFolds_52 : decode cX5_bestFolds 52 = .ok (.iload 4, 2) := by decide +kernel
theorem dX5_bestFolds_54 : decode cX5_bestFolds 54 = .ok (.imul, 1) := by decide +kernel
theorem dX5_bestFolds_55 : decode cX5_bestFolds 55 = .ok (.iload_n 3, 1) := by decide +kernel
theorem dX5_bestFolds_56 : decode cX5_bestFolds 56 = .ok (.iadd, 1) := by decide +kernel
theorem dX5_bestFolds_57 : decode cX5_bestFolds 57 = .ok (.iload 4, 2) := by decide +kernel
theorem dX5_bestFolds_59 : decode cX5_bestFolds 59 = .ok (.isub, 1) := by decide +kernel
theorem dX5_bestFolds_60 : decode cX5_bestFolds 60 = .ok (.istore_n 1, 1) := by decide +kernel
theorem dX5_bestFolds_61 : decode cX5_bestFolds 61 = .ok (.iinc 4 1, 3) := by decide +kernel
theorem dX5_bestFolds_64 : decode cX5_bestFolds 64 = .ok (.goto (-48), 3) := by decide +kernel
theorem dX5_bestFolds_67 : decode cX5_bestFolds 67 = .ok (.iinc 3 1, 3) := by decide +kernel
theorem dX5_bestFolds_70 : decode cX5_bestFolds 70 = .ok (.goto (-63), 3) := by decide +kernel
theorem dX5_bestFolds_73 : decode cX5_bestFolds 73 = .ok (.iload_n 1, 1) := by decide +kernel
theorem dX5_bestFolds_74 : decode cX5_bestFolds 74 = .ok (.ireturn, 1) := by decide +kernel
set_option maxRecDepth 20000 in
theorem ggX5_ifPunched_X0_hasField : GoodIn wsX5_ifPunched wsX0_hasField := goodIn_r _ [9, 10, 11, 12, 8, 13, 14, 15, 16, 17, 18, 19, 73, 74, 75] (by decide +kernel) (by decide +kernel)
set_option maxRecDepth 20000 in
theorem gX5_ifPunched_X0_hasField : GoodIn wsX5_ifPunched (wsV RX5 117 RX0 yX0_hasField wsX0_hasField) := goodIn_app (goodIn_of _ (by decide +kernel)) ggX5_ifPunched_X0_hasField
set_option maxRecDepth 20000 in
theorem ggX5_ifPunched_X0_layers : GoodIn wsX5_ifPunched wsX0_layers := goodIn_r _ [23, 19, 73, 74, 75] (by decide +kernel) (by decide +kernel)
set_option maxRecDepth 20000 in
theorem gX5_ifPunched_X0_layers : GoodIn wsX5_ifPunched (wsV RX5 71 RX0 yX0_layers wsX0_layers) := goodIn_app (goodIn_of _ (by decide +kernel)) ggX5_ifPunched_X0_layers
set_option maxRecDepth 20000 in
theorem ggX5_ifPunched_X0_uppermostCells : GoodIn wsX5_ifPunched wsX0_uppermostCells := goodIn_r _ [27, 28, 29, 30, 8, 31, 19, 10, 11, 12, 13, 14, 15, 16, 17, 18, 32, 21, 22, 23, 33, 34, 35, 36, 37, 38, 39, 40, 41, 42, 43, 44, 45, 46, 47, 48, 49, 73, 74, 75] (by decide +kernel) (by decide +kernel)
set_option maxRecDepth 20000 in
theorem gX5_ifPunched_X0_uppermostCells : GoodIn wsX5_ifPunched (wsV RX5 171 RX0 yX0_uppermostCells wsX0_uppermostCells) := goodIn_app (goodIn_of _ (by decide +kernel)) ggX5_ifPunched_X0_uppermostCells
set_option maxRecDepth 20000 in
theorem ggX5_ifPunched_X2_numberIn : GoodIn wsX5_ifPunched wsX2_numberIn := goodIn_r _ [53, 54, 55, 56, 52, 57, 58, 59, 60, 61, 62] (by decide +kernel) (by decide +kernel)
set_option maxRecDepth 20000 in
theorem gX5_ifPunched_X2_numberIn : GoodIn wsX5_ifPunched (va_wsS RX5 145 yX2_numberIn wsX2_numberIn) := goodIn_app (goodIn_of _ (by decide +kernel)) ggX5_ifPunched_X2_numberIn
theorem dX5_ifPunched_0 : decode cX5_ifPunched 0 = .ok (.aload_n 0, 1) := by decide +kernel
theorem dX5_ifPunched_1 : decode cX5_ifPunched 1 = .ok (.getfield 10, 3) := by decide +kernel
theorem dX5_ifPunched_4 : decode cX5_ifPunched 4 = .ok (.getfield 62, 3) := by decide +kernel
theorem dX5_ifPunched_7 : decode cX5_ifPunched 7 = .ok (.iload_n 1, 1) := by decide +kernel
theorem dX5_ifPunched_8 : decode cX5_ifPunched 8 = .ok (.iload_n 2, 1) := by decide +kernel
theorem dX5_ifPunched_9 : decode cX5_ifPunched 9 = .ok (.invokevirtual 117, 3) := by decide +kernel
theorem dX5_ifPunched_12 : decode cX5_ifPunched 12 = .ok (.ifCond .ne 5, 3) := by decide +kernel
theorem dX5_ifPunched_15 : decode cX5_ifPunched 15 = .ok (.iconst (-1), 1) := by decide +kernel
theorem dX5_ifPunched_16 : decode cX5_ifPunched 16 = .ok (.ireturn, 1) := by decide +kernel
theorem dX5_ifPunched_17 : decode cX5_ifPunched 17 = .ok (.aload_n 0, 1) := by decide +kernel
theorem dX5_ifPunched_18 : decode cX5_ifPunched 18 = .ok (.getfield 10, 3) := by decide +kernel
theorem dX5_ifPunched_21 : decode cX5_ifPunched 21 = .ok (.getfield 62, 3) := by decide +kernel
theorem dX5_ifPunched_24 : decode cX5_ifPunched 24 = .ok (.iload_n 1, 1) := by decide +kernel
theorem dX5_ifPunched_25 : decode cX5_ifPunched 25 = .ok (.iload_n 2, 1) := by decide +kernel
theorem dX5_ifPunched_26 : decode cX5_ifPunched 26 = .ok (.aload_n 0, 1) := by decide +kernel
theorem dX5_ifPunched_27 : decode cX5_ifPunched 27 = .ok (.getfield 10, 3) := by decide +kernel
theorem dX5_ifPunched_30 : decode cX5_ifPunched 30 = .ok (.getfield 62, 3) := by decide +kernel
theorem dX5_ifPunched_33 : decode cX5_ifPunched 33 = .ok (.invokevirtual 71, 3) := by decide +kernel
theorem dX5_ifPunched_36 : decode cX5_ifPunched 36 = .ok (.invokevirtual 171, 3) := by decide +kernel
theorem dX5_ifPunched_39 : decode cX5_ifPunched 39 = .ok (.lstore_n 3, 1) := by decide +kernel
theorem dX5_ifPunched_40 : decode cX5_ifPunched 40 = .ok (.aload_n 0, 1) := by decide +kernel
theorem dX5_ifPunched_41 : decode cX5_ifPunched 41 = .ok (.getfield 10, 3) := by decide +kernel
theorem dX5_ifPunched_44 : decode cX5_ifPunched 44 = .ok (.getfield 106, 3) := by decide +kernel
theorem dX5_ifPunched_47 : decode cX5_ifPunched 47 = .ok (.lload_n 3, 1) := by decide +kernel
theorem dX5_ifPunched_48 : decode cX5_ifPunched 48 = .ok (.lor, 1) := by decide +kernel
theorem dX5_ifPunched_49 : decode cX5_ifPunched 49 = .ok (.ldc2_w 143, 3) := by decide +kernel
theorem dX5_ifPunched_52 : decode cX5_ifPunched 52 = .ok (.lxor, 1) := by decide +kernel
theorem dX5_ifPunched_53 : decode cX5_ifPunched 53 = .ok (.invokestatic 145, 3) := by decide +kernel
theorem dX5_ifPunched_56 : decode cX5_ifPunched 56 = .ok (.ireturn, 1) := by decide +kernel
set_option maxRecDepth 20000 in
theorem ggX5_keepUnlessError_X5_isError : GoodIn wsX5_keepUnlessError wsX5_isError := goodIn_r _ [5] (by decide +kernel) (by decide +kernel)
set_option maxRecDepth 20000 in
theorem gX5_keepUnlessError_X5_isError : GoodIn wsX5_keepUnlessError (va_wsS RX5 194 yX5_isError wsX5_isError) := goodIn_app (goodIn_of _ (by decide +kernel)) ggX5_keepUnlessError_X5_isError
set_option maxRecDepth 20000 in
theorem ggX5_keepUnlessError_X1_keepNoted : GoodIn wsX5_keepUnlessError wsX1_keepNoted := goodIn_r _ [10, 11, 12, 19, 20] (by decide +kernel) (by decide +kernel)
set_option maxRecDepth 20000 in
theorem gX5_keepUnlessError_X1_keepNoted : GoodIn wsX5_keepUnlessError (wsV RX5 207 RX1 yX1_keepNoted wsX1_keepNoted) := goodIn_app (goodIn_of _ (by decide +kernel)) ggX5_keepUnlessError_X1_keepNoted
theorem dX5_keepUnlessError_0 : decode cX5_keepUnlessError 0 = .ok (.iload_n 1, 1) := by decide +kernel
theorem dX5_keepUnlessError_1 : decode cX5_keepUnlessError 1 = .ok (.invokestatic 194, 3) := by decide +kernel
theorem dX5_keepUnlessError_4 : decode cX5_keepUnlessError 4 = .ok (.ifCond .ne 10, 3) := by decide +kernel
theorem dX5_keepUnlessError_7 : decode cX5_keepUnlessError 7 = .ok (.aload_n 0, 1) := by decide +kernel
theorem dX5_keepUnlessError_8 : decode cX5_keepUnlessError 8 = .ok (.getfield 26, 3) := by decide +kernel
theorem dX5_keepUnlessError_11 : decode cX5_keepUnlessError 11 = .ok (.invokevirtual 207, 3) := by decide +kernel
theorem dX5_keepUnlessError_14 : decode cX5_keepUnlessError 14 = .ok (.iload_n 1, 1) := by decide +kernel
theorem dX5_keepUnlessError_15 : decode cX5_keepUnlessError 15 = .ok (.ireturn, 1) := by decide +kernel
set_option maxRecDepth 20000 in
theorem ggX5_punchesOfTrial_X0_foldAnew : GoodIn wsX5_punchesOfTrial wsX0_foldAnew := goodIn_r _ [8, 9, 10, 11, 7, 12, 13, 14, 15, 16, 17, 18, 19, 20, 21, 22, 70, 71, 72] (by decide +kernel) (by decide +kernel)
set_option maxRecDepth 20000 in
theorem gX5_punchesOfTrial_X0_foldAnew : GoodIn wsX5_punchesOfTrial (wsV RX5 210 RX0 yX0_foldAnew wsX0_foldAnew) := goodIn_app (goodIn_of _ (by decide +kernel)) ggX5_punchesOfTrial_X0_foldAnew
set_option maxRecDepth 20000 in
theorem ggX5_punchesOfTrial_X0_punchesFor : GoodIn wsX5_punchesOfTrial wsX0_punchesFor := goodIn_r _ [26, 27, 28, 29, 7, 30, 14, 31, 32, 33, 34, 13, 35, 36, 37, 38, 39, 40, 41, 42, 43, 44, 45, 46, 47, 48, 49, 50, 19, 51, 52, 53, 20, 21, 22, 54, 55, 56, 57, 58, 59, 70, 71, 72] (by decide +kernel) (by decide +kernel)
set_option maxRecDepth 20000 in
theorem gX5_punchesOfTrial_X0_punchesFor : GoodIn wsX5_punchesOfTrial (wsV RX5 165 RX0 yX0_punchesFor wsX0_punchesFor) := goodIn_app (goodIn_of _ (by decide +kernel)) ggX5_punchesOfTrial_X0_punchesFor
theorem dX5_punchesOfTrial_0 : decode cX5_punchesOfTrial 0 = .ok (.iload_n 1, 1) := by decide +kernel
theorem dX5_punchesOfTrial_1 : decode cX5_punchesOfTrial 1 = .ok (.iconst 3, 1) := by decide +kernel
theorem dX5_punchesOfTrial_2 : decode cX5_punchesOfTrial 2 = .ok (.if_icmp .gt 8, 3) := by decide +kernel
theorem dX5_punchesOfTrial_5 : decode cX5_punchesOfTrial 5 = .ok (.iload_n 2, 1) := by decide +kernel
theorem dX5_punchesOfTrial_6 : decode cX5_punchesOfTrial 6 = .ok (.iconst 3, 1) := by decide +kernel
theorem dX5_punchesOfTrial_7 : decode cX5_punchesOfTrial 7 = .ok (.if_icmp .le 6, 3) := by decide +kernel
theorem dX5_punchesOfTrial_10 : decode cX5_punchesOfTrial 10 = .ok (.bipush (-6), 2) := by decide +kernel
theorem dX5_punchesOfTrial_12 : decode cX5_punchesOfTrial 12 = .ok (.ireturn, 1) := by decide +kernel
theorem dX5_punchesOfTrial_13 : decode cX5_punchesOfTrial 13 = .ok (.aload_n 0, 1) := by decide +kernel
theorem dX5_punchesOfTrial_14 : decode cX5_punchesOfTrial 14 = .ok (.getfield 33, 3) := by decide +kernel
theorem dX5_punchesOfTrial_17 : decode cX5_punchesOfTrial 17 = .ok (.iload_n 1, 1) := by decide +kernel
theorem dX5_punchesOfTrial_18 : decode cX5_punchesOfTrial 18 = .ok (.iload_n 2, 1) := by decide +kernel
theorem dX5_punchesOfTrial_19 : decode cX5_punchesOfTrial 19 = .ok (.invokevirtual 210, 3) := by decide +kernel
theorem dX5_punchesOfTrial_22 : decode cX5_punchesOfTrial 22 = .ok (.aload_n 0, 1) := by decide +kernel
theorem dX5_punchesOfTrial_23 : decode cX5_punchesOfTrial 23 = .ok (.getfield 33, 3) := by decide +kernel
theorem dX5_punchesOfTrial_26 : decode cX5_punchesOfTrial 26 = .ok (.aload_n 0, 1) := by decide +kernel
theorem dX5_punchesOfTrial_27 : decode cX5_punchesOfTrial 27 = .ok (.getfield 10, 3) := by decide +kernel
theorem dX5_punchesOfTrial_30 : decode cX5_punchesOfTrial 30 = .ok (.getfield 156, 3) := by decide +kernel
theorem dX5_punchesOfTrial_33 : decode cX5_punchesOfTrial 33 = .ok (.invokevirtual 165, 3) := by decide +kernel
theorem dX5_punchesOfTrial_36 : decode cX5_punchesOfTrial 36 = .ok (.ireturn, 1) := by decide +kernel
theorem dX5_isError_0 : decode cX5_isError 0 = .ok (.iload_n 0, 1) := by decide +kernel
theorem dX5_isError_1 : decode cX5_isError 1 = .ok (.ifCond .ge 13, 3) := by decide +kernel
theorem dX5_isError_4 : decode cX5_isError 4 = .ok (.iload_n 0, 1) := by decide +kernel
theorem dX5_isError_5 : decode cX5_isError 5 = .ok (.bipush (-6), 2) := by decide +kernel
theorem dX5_isError_7 : decode cX5_isError 7 = .ok (.if_icmp .eq 7, 3) := by decide +kernel
theorem dX5_isError_10 : decode cX5_isError 10 = .ok (.iconst 1, 1) := by decide +kernel
theorem dX5_isError_11 : decode cX5_isError 11 = .ok (.goto 4, 3) := by decide +kernel
theorem dX5_isError_14 : decode cX5_isError 14 = .ok (.iconst 0, 1) := by decide +kernel
theorem dX5_isError_15 : decode cX5_isError 15 = .ok (.ireturn, 1) := by decide +kernel
theorem dX5_isCell_0 : decode cX5_isCell 0 = .ok (.iload_n 0, 1) := by decide +kernel
theorem dX5_isCell_1 : decode cX5_isCell 1 = .ok (.ifCond .lt 13, 3) := by decide +kernel
theorem dX5_isCell_4 : decode cX5_isCell 4 = .ok (.iload_n 0, 1) := by decide +kernel
theorem dX5_isCell_5 : decode cX5_isCell 5 = .ok (.bipush 64, 2) := by decide +kernel
theorem dX5_isCell_7 : decode cX5_isCell 7 = .ok (.if_icmp .ge 7, 3) := by decide +kernel
theorem dX5_isCell_10 : decode cX5_isCell 10 = .ok (.iconst 1, 1) := by decide +kernel
theorem dX5_isCell_11 : decode cX5_isCell 11 = .ok (.goto 4, 3) := by decide +kernel
theorem dX5_isCell_14 : decode cX5_isCell 14 = .ok (.iconst 0, 1) := by decide +kernel
theorem dX5_isCell_15 : decode cX5_isCell 15 = .ok (.ireturn, 1) := by decide +kernel
theorem dX5_isRow_0 : decode cX5_isRow 0 = .ok (.iload_n 0, 1) := by decide +kernel
theorem dX5_isRow_1 : decode cX5_isRow 1 = .ok (.ifCond .lt 13, 3) := by decide +kernel
theorem dX5_isRow_4 : decode cX5_isRow 4 = .ok (.iload_n 0, 1) := by decide +kernel
theorem dX5_isRow_5 : decode cX5_isRow 5 = .ok (.bipush 8, 2) := by decide +kernel
theorem dX5_isRow_7 : decode cX5_isRow 7 = .ok (.if_icmp .ge 7, 3) := by decide +kernel
theorem dX5_isRow_10 : decode cX5_isRow 10 = .ok (.iconst 1, 1) := by decide +kernel
theorem dX5_isRow_11 : decode cX5_isRow 11 = .ok (.goto 4, 3) := by decide +kernel
theorem dX5_isRow_14 : decode cX5_isRow 14 = .ok (.iconst 0, 1) := by decide +kernel
theorem dX5_isRow_15 : decode cX5_isRow 15 = .ok (.ireturn, 1) := by decide +kernel
theorem dX5_cellOf_0 : decode cX5_cellOf 0 = .ok (.iload_n 0, 1) := by decide +kernel
theorem dX5_cellOf_1 : decode cX5_cellOf 1 = .ok (.iconst 1, 1) := by decide +kernel
theorem dX5_cellOf_2 : decode cX5_cellOf 2 = .ok (.ishr, 1) := by decide +kernel
theorem dX5_cellOf_3 : decode cX5_cellOf 3 = .ok (.ireturn, 1) := by decide +kernel
theorem dX5_hasCell_0 : decode cX5_hasCell 0 = .ok (.lload_n 0, 1) := by decide +kernel
theorem dX5_hasCell_1 : decode cX5_hasCell 1 = .ok (.iload_n 2, 1) := by decide +kernel
theorem dX5_hasCell_2 : decode cX5_hasCell 2 = .ok (.lushr, 1) := by decide +kernel
theorem dX5_hasCell_3 : decode cX5_hasCell 3 = .ok (.lconst 1, 1) := by decide +kernel
theorem dX5_hasCell_4 : decode cX5_hasCell 4 = .ok (.land, 1) := by decide +kernel
theorem dX5_hasCell_5 : decode cX5_hasCell 5 = .ok (.lconst 1, 1) := by decide +kernel
theorem dX5_hasCell_6 : decode cX5_hasCell 6 = .ok (.lcmp, 1) := by decide +kernel
theorem dX5_hasCell_7 : decode cX5_hasCell 7 = .ok (.ifCond .ne 7, 3) := by decide +kernel
theorem dX5_hasCell_10 : decode cX5_hasCell 10 = .ok (.iconst 1, 1) := by decide +kernel
theorem dX5_hasCell_11 : decode cX5_hasCell 11 = .ok (.goto 4, 3) := by decide +kernel
theorem dX5_hasCell_14 : decode cX5_hasCell 14 = .ok (.iconst 0, 1) := by decide +kernel
theorem dX5_hasCell_15 : decode cX5_hasCell 15 = .ok (.ireturn, 1) := by decide +kernel
theorem dX5_maskOfRow_0 : decode cX5_maskOfRow 0 = .ok (.lload_n 0, 1) := by decide +kernel
theorem dX5_maskOfRow_1 : decode cX5_maskOfRow 1 = .ok (.bipush 8, 2) := by decide +kernel
theorem dX5_maskOfRow_3 : decode cX5_maskOfRow 3 = .ok (.iload_n 2, 1) := by decide +kernel
theorem dX5_maskOfRow_4 : decode cX5_maskOfRow 4 = .ok (.imul, 1) := by decide +kernel
theorem dX5_maskOfRow_5 : decode cX5_maskOfRow 5 = .ok (.lushr, 1) := by decide +kernel
theorem dX5_maskOfRow_6 : decode cX5_maskOfRow 6 = .ok (.l2i, 1) := by decide +kernel
theorem dX5_maskOfRow_7 : decode cX5_maskOfRow 7 = .ok (.sipush 255, 3) := by decide +kernel
theorem dX5_maskOfRow_10 : decode cX5_maskOfRow 10 = .ok (.iand, 1) := by decide +kernel
theorem dX5_maskOfRow_11 : decode cX5_maskOfRow 11 = .ok (.ireturn, 1) := by decide +kernel
set_option maxRecDepth 20000 in
theorem ggX5_symmetriesAt_X5_hasCell : GoodIn wsX5_symmetriesAt wsX5_hasCell := goodIn_r _ [4] (by decide +kernel) (by decide +kernel)
set_option maxRecDepth 20000 in
theorem gX5_symmetriesAt_X5_hasCell : GoodIn wsX5_symmetriesAt (va_wsS RX5 110 yX5_hasCell wsX5_hasCell) := goodIn_app (goodIn_of _ (by decide +kernel)) ggX5_symmetriesAt_X5_hasCell
theorem dX5_symmetriesAt_0 : decode cX5_symmetriesAt 0 = .ok (.iload_n 2, 1) := by decide +kernel
theorem dX5_symmetriesAt_1 : decode cX5_symmetriesAt 1 = .ok (.bipush 8, 2) := by decide +kernel
theorem dX5_symmetriesAt_3 : decode cX5_symmetriesAt 3 = .ok (.irem, 1) := by decide +kernel
theorem dX5_symmetriesAt_4 : decode cX5_symmetriesAt 4 = .ok (.istore_n 3, 1) := by decide +kernel
theorem dX5_symmetriesAt_5 : decode cX5_symmetriesAt 5 = .ok (.iload_n 2, 1) := by decide +kernel
theorem dX5_symmetriesAt_6 : decode cX5_symmetriesAt 6 = .ok (.bipush 8, 2) := by decide +kernel
theorem dX5_symmetriesAt_8 : decode cX5_symmetriesAt 8 = .ok (.idiv, 1) := by decide +kernel
theorem dX5_symmetriesAt_9 : decode cX5_symmetriesAt 9 = .ok (.istore 4, 2) := by decide +kernel
theorem dX5_symmetriesAt_11 : decode cX5_symmetriesAt 11 = .ok (.bipush 7, 2) := by decide +kernel
theorem dX5_symmetriesAt_13 : decode cX5_symmetriesAt 13 = .ok (.iload_n 3, 1) := by decide +kernel
theorem dX5_symmetriesAt_14 : decode cX5_symmetriesAt 14 = .ok (.isub, 1) := by decide +kernel
theorem dX5_symmetriesAt_15 : decode cX5_symmetriesAt 15 = .ok (.istore 5, 2) := by decide +kernel
theorem dX5_symmetriesAt_17 : decode cX5_symmetriesAt 17 = .ok (.bipush 7, 2) := by decide +kernel
theorem dX5_symmetriesAt_19 : decode cX5_symmetriesAt 19 = .ok (.iload 4, 2) := by decide +kernel
theorem dX5_symmetriesAt_21 : decode cX5_symmetriesAt 21 = .ok (.isub, 1) := by decide +kernel
theorem dX5_symmetriesAt_22 : decode cX5_symmetriesAt 22 = .ok (.istore 6, 2) := by decide +kernel
theorem dX5_symmetriesAt_24 : decode cX5_symmetriesAt 24 = .ok (.lload_n 0, 1) := by decide +kernel
theorem dX5_symmetriesAt_25 : decode cX5_symmetriesAt 25 = .ok (.iload_n 2, 1) := by decide +kernel
theorem dX5_symmetriesAt_26 : decode cX5_symmetriesAt 26 = .ok (.invokestatic 110, 3) := by decide +kernel
theorem dX5_symmetriesAt_29 : decode cX5_symmetriesAt 29 = .ok (.istore 7, 2) := by decide +kernel
theorem dX5_symmetriesAt_31 : decode cX5_symmetriesAt 31 = .ok (.iload 7, 2) := by decide +kernel
theorem dX5_symmetriesAt_33 : decode cX5_symmetriesAt 33 = .ok (.lload_n 0, 1) := by decide +kernel
theorem dX5_symmetriesAt_34 : decode cX5_symmetriesAt 34 = .ok (.bipush 8, 2) := by decide +kernel
theorem dX5_symmetriesAt_36 : decode cX5_symmetriesAt 36 = .ok (.iload 4, 2) := by decide +kernel
theorem dX5_symmetriesAt_38 : decode cX5_symmetriesAt 38 = .ok (.imul, 1) := by decide +kernel
theorem dX5_symmetriesAt_39 : decode cX5_symmetriesAt 39 = .ok (.iload 5, 2) := by decide +kernel
theorem dX5_symmetriesAt_41 : decode cX5_symmetriesAt 41 = .ok (.iadd, 1) := by decide +kernel
theorem dX5_symmetriesAt_42 : decode cX5_symmetriesAt 42 = .ok (.invokestatic 110, 3) := by decide +kernel
theorem dX5_symmetriesAt_45 : decode cX5_symmetriesAt 45 = .ok (.if_icmp .ne 7, 3) := by decide +kernel
theorem dX5_symmetriesAt_48 : decode cX5_symmetriesAt 48 = .ok (.iconst 1, 1) := by decide +kernel
theorem dX5_symmetriesAt_49 : decode cX5_symmetriesAt 49 = .ok (.goto 4, 3) := by decide +kernel
theorem dX5_symmetriesAt_52 : decode cX5_symmetriesAt 52 = .ok (.iconst 0, 1) := by decide +kernel
theorem dX5_symmetriesAt_53 : decode cX5_symmetriesAt 53 = .ok (.istore 8, 2) := by decide +kernel
theorem dX5_symmetriesAt_55 : decode cX5_symmetriesAt 55 = .ok (.iload 8, 2) := by decide +kernel
theorem dX5_symmetriesAt_57 : decode cX5_symmetriesAt 57 = .ok (.iload 7, 2) := by decide +kernel
theorem dX5_symmetriesAt_59 : decode cX5_symmetriesAt 59 = .ok (.lload_n 0, 1) := by decide +kernel
theorem dX5_symmetriesAt_60 : decode cX5_symmetriesAt 60 = .ok (.bipush 8, 2) := by decide +kernel
theorem dX5_symmetriesAt_62 : decode cX5_symmetriesAt 62 = .ok (.iload 6, 2) := by decide +kernel
theorem dX5_symmetriesAt_64 : decode cX5_symmetriesAt 64 = .ok (.imul, 1) := by decide +kernel
theorem dX5_symmetriesAt_65 : decode cX5_symmetriesAt 65 = .ok (.iload_n 3, 1) := by decide +kernel
theorem dX5_symmetriesAt_66 : decode cX5_symmetriesAt 66 = .ok (.iadd, 1) := by decide +kernel
theorem dX5_symmetriesAt_67 : decode cX5_symmetriesAt 67 = .ok (.invokestatic 110, 3) := by decide +kernel
theorem dX5_symmetriesAt_70 : decode cX5_symmetriesAt 70 = .ok (.if_icmp .ne 7, 3) := by decide +kernel
theorem dX5_symmetriesAt_73 : decode cX5_symmetriesAt 73 = .ok (.iconst 2, 1) := by decide +kernel
theorem dX5_symmetriesAt_74 : decode cX5_symmetriesAt 74 = .ok (.goto 4, 3) := by decide +kernel
theorem dX5_symmetriesAt_77 : decode cX5_symmetriesAt 77 = .ok (.iconst 0, 1) := by decide +kernel
theorem dX5_symmetriesAt_78 : decode cX5_symmetriesAt 78 = .ok (.ior, 1) := by decide +kernel
theorem dX5_symmetriesAt_79 : decode cX5_symmetriesAt 79 = .ok (.istore 8, 2) := by decide +kernel
theorem dX5_symmetriesAt_81 : decode cX5_symmetriesAt 81 = .ok (.iload 8, 2) := by decide +kernel
theorem dX5_symmetriesAt_83 : decode cX5_symmetriesAt 83 = .ok (.iload 7, 2) := by decide +kernel
theorem dX5_symmetriesAt_85 : decode cX5_symmetriesAt 85 = .ok (.lload_n 0, 1) := by decide +kernel
theorem dX5_symmetriesAt_86 : decode cX5_symmetriesAt 86 = .ok (.bipush 8, 2) := by decide +kernel
theorem dX5_symmetriesAt_88 : decode cX5_symmetriesAt 88 = .ok (.iload 6, 2) := by decide +kernel
theorem dX5_symmetriesAt_90 : decode cX5_symmetriesAt 90 = .ok (.imul, 1) := by decide +kernel
theorem dX5_symmetriesAt_91 : decode cX5_symmetriesAt 91 = .ok (.iload 5, 2) := by decide +kernel
theorem dX5_symmetriesAt_93 : decode cX5_symmetriesAt 93 = .ok (.iadd, 1) := by decide +kernel
theorem dX5_symmetriesAt_94 : decode cX5_symmetriesAt 94 = .ok (.invokestatic 110, 3) := by decide +kernel
theorem dX5_symmetriesAt_97 : decode cX5_symmetriesAt 97 = .ok (.if_icmp .ne 7, 3) := by decide +kernel
theorem dX5_symmetriesAt_100 : decode cX5_symmetriesAt 100 = .ok (.iconst 4, 1) := by decide +kernel
theorem dX5_symmetriesAt_101 : decode cX5_symmetriesAt 101 = .ok (.goto 4, 3) := by decide +kernel
theorem dX5_symmetriesAt_104 : decode cX5_symmetriesAt 104 = .ok (.iconst 0, 1) := by decide +kernel
theorem dX5_symmetriesAt_105 : decode cX5_symmetriesAt 105 = .ok (.ior, 1) := by decide +kernel
theorem dX5_symmetriesAt_106 : decode cX5_symmetriesAt 106 = .ok (.istore 8, 2) := by decide +kernel
theorem dX5_symmetriesAt_108 : decode cX5_symmetriesAt 108 = .ok (.iload 8, 2) := by decide +kernel
theorem dX5_symmetriesAt_110 : decode cX5_symmetriesAt 110 = .ok (.iload 7, 2) := by decide +kernel
theorem dX5_symmetriesAt_112 : decode cX5_symmetriesAt 112 = .ok (.lload_n 0, 1) := by decide +kernel
theorem dX5_symmetriesAt_113 : decode cX5_symmetriesAt 113 = .ok (.bipush 8, 2) := by decide +kernel
theorem dX5_symmetriesAt_115 : decode cX5_symmetriesAt 115 = .ok (.iload_n 3, 1) := by decide +kernel
theorem dX5_symmetriesAt_116 : decode cX5_symmetriesAt 116 = .ok (.imul, 1) := by decide +kernel
theorem dX5_symmetriesAt_117 : decode cX5_symmetriesAt 117 = .ok (.iload 4, 2) := by decide +kernel
theorem dX5_symmetriesAt_119 : decode cX5_symmetriesAt 119 = .ok (.iadd, 1) := by decide +kernel
theorem dX5_symmetriesAt_120 : decode cX5_symmetriesAt 120 = .ok (.invokestatic 110, 3) := by decide +kernel
theorem dX5_symmetriesAt_123 : decode cX5_symmetriesAt 123 = .ok (.if_icmp .ne 8, 3) := by decide +kernel
theorem dX5_symmetriesAt_126 : decode cX5_symmetriesAt 126 = .ok (.bipush 8, 2) := by decide +kernel
theorem dX5_symmetriesAt_128 : decode cX5_symmetriesAt 128 = .ok (.goto 4, 3) := by decide +kernel
theorem dX5_symmetriesAt_131 : decode cX5_symmetriesAt 131 = .ok (.iconst 0, 1) := by decide +kernel
theorem dX5_symmetriesAt_132 : decode cX5_symmetriesAt 132 = .ok (.ior, 1) := by decide +kernel
theorem dX5_symmetriesAt_133 : decode cX5_symmetriesAt 133 = .ok (.ireturn, 1) := by decide +kernel
