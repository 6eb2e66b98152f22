set_option maxRecDepth 20000 in
theorem ggX1_init_X3_init : GoodIn wsX1_init wsX3_init := goodIn_r _ [10, 11, 2, 3, 12, 13, 14, 15, 16, 17, 18, 19, 20, 21, 22, 23, 24, 25, 32, 33, 34, 28, 29, 30, 31] (by decide +kernel) (by decide +kernel)
set_option maxRecDepth 20000 in
theorem gX1_init_X3_init_n21 : GoodIn wsX1_init (wsX3_init) := ggX1_init_X3_init
theorem dX1_init_0 : decode cX1_init 0 = .ok (.aload_n 0, 1) := by decide +kernel
theorem dX1_init_1 : decode cX1_init 1 = .ok (.invokespecial 3, 3) := by decide +kernel
theorem dX1_init_4 : decode cX1_init 4 = .ok (.aload_n 0, 1) := by decide +kernel
theorem dX1_init_5 : decode cX1_init 5 = .ok (.bipush 6, 2) := by decide +kernel
theorem dX1_init_7 : decode cX1_init 7 = .ok (.anewarray 9, 3) := by decide +kernel
theorem dX1_init_10 : decode cX1_init 10 = .ok (.putfield 11, 3) := by decide +kernel
theorem dX1_init_13 : decode cX1_init 13 = .ok (.aload_n 0, 1) := by decide +kernel
theorem dX1_init_14 : decode cX1_init 14 = .ok (.iconst 0, 1) := by decide +kernel
theorem dX1_init_15 : decode cX1_init 15 = .ok (.putfield 17, 3) := by decide +kernel
theorem dX1_init_18 : decode cX1_init 18 = .ok (.iconst 0, 1) := by decide +kernel
theorem dX1_init_19 : decode cX1_init 19 = .ok (.istore_n 1, 1) := by decide +kernel
theorem dX1_init_20 : decode cX1_init 20 = .ok (.iload_n 1, 1) := by decide +kernel
theorem dX1_init_21 : decode cX1_init 21 = .ok (.aload_n 0, 1) := by decide +kernel
theorem dX1_init_22 : decode cX1_init 22 = .ok (.getfield 11, 3) := by decide +kernel
theorem dX1_init_25 : decode cX1_init 25 = .ok (.arraylength, 1) := by decide +kernel
theorem dX1_init_26 : decode cX1_init 26 = .ok (.if_icmp .ge 22, 3) := by decide +kernel
theorem dX1_init_29 : decode cX1_init 29 = .ok (.aload_n 0, 1) := by decide +kernel
theorem dX1_init_30 : decode cX1_init 30 = .ok (.getfield 11, 3) := by decide +kernel
theorem dX1_init_33 : decode cX1_init 33 = .ok (.iload_n 1, 1) := by decide +kernel
theorem dX1_init_34 : decode cX1_init 34 = .ok (.new 9, 3) := by decide +kernel
theorem dX1_init_37 : decode cX1_init 37 = .ok (.dup, 1) := by decide +kernel
theorem dX1_init_38 : decode cX1_init 38 = .ok (.invokespecial 21, 3) := by decide +kernel
theorem dX1_init_41 : decode cX1_init 41 = .ok (.aastore, 1) := by decide +kernel
theorem dX1_init_42 : decode cX1_init 42 = .ok (.iinc 1 1, 3) := by decide +kernel
theorem dX1_init_45 : decode cX1_init 45 = .ok (.goto (-25), 3) := by decide +kernel
theorem dX1_init_48 : decode cX1_init 48 = .ok (.return_, 1) := by decide +kernel
theorem dX1_sheetAt_0 : decode cX1_sheetAt 0 = .ok (.iload_n 1, 1) := by decide +kernel
theorem dX1_sheetAt_1 : decode cX1_sheetAt 1 = .ok (.ifCond .lt 21, 3) := by decide +kernel
theorem dX1_sheetAt_4 : decode cX1_sheetAt 4 = .ok (.iload_n 1, 1) := by decide +kernel
theorem dX1_sheetAt_5 : decode cX1_sheetAt 5 = .ok (.aload_n 0, 1) := by decide +kernel
theorem dX1_sheetAt_6 : decode cX1_sheetAt 6 = .ok (.getfield 11, 3) := by decide +kernel
theorem dX1_sheetAt_9 : decode cX1_sheetAt 9 = .ok (.arraylength, 1) := by decide +kernel
theorem dX1_sheetAt_10 : decode cX1_sheetAt 10 = .ok (.if_icmp .ge 12, 3) := by decide +kernel
theorem dX1_sheetAt_13 : decode cX1_sheetAt 13 = .ok (.aload_n 0, 1) := by decide +kernel
theorem dX1_sheetAt_14 : decode cX1_sheetAt 14 = .ok (.getfield 11, 3) := by decide +kernel
theorem dX1_sheetAt_17 : decode cX1_sheetAt 17 = .ok (.iload_n 1, 1) := by decide +kernel
theorem dX1_sheetAt_18 : decode cX1_sheetAt 18 = .ok (.aaload, 1) := by decide +kernel
theorem dX1_sheetAt_19 : decode cX1_sheetAt 19 = .ok (.goto 4, 3) := by decide +kernel
theorem dX1_sheetAt_22 : decode cX1_sheetAt 22 = .ok (.aconst_null, 1) := by decide +kernel
theorem dX1_sheetAt_23 : decode cX1_sheetAt 23 = .ok (.areturn, 1) := by decide +kernel
set_option maxRecDepth 20000 in
theorem ggX1_note_X1_sheetAt : GoodIn wsX1_note wsX1_sheetAt := goodIn_r _ [6, 7, 30, 31] (by decide +kernel) (by decide +kernel)
set_option maxRecDepth 20000 in
theorem gX1_note_X1_sheetAt : GoodIn wsX1_note (wsV RX1 22 RX1 yX1_sheetAt wsX1_sheetAt) := goodIn_app (goodIn_of _ (by decide +kernel)) ggX1_note_X1_sheetAt
set_option maxRecDepth 20000 in
theorem ggX1_note_X3_becomeLike : GoodIn wsX1_note wsX3_becomeLike := goodIn_r _ [12, 13, 14, 15, 16, 17, 18, 19, 20, 21, 22, 23, 24, 25, 26, 27, 28, 29, 32, 33, 34, 35, 36, 37, 38] (by decide +kernel) (by decide +kernel)
set_option maxRecDepth 20000 in
theorem gX1_note_X3_becomeLike : GoodIn wsX1_note (wsV RX1 26 RX3 yX3_becomeLike wsX3_becomeLike) := goodIn_app (goodIn_of _ (by decide +kernel)) ggX1_note_X3_becomeLike
theorem dX1_note_0 : decode cX1_note 0 = .ok (.aload_n 0, 1) := by decide +kernel
theorem dX1_note_1 : decode cX1_note 1 = .ok (.aload_n 0, 1) := by decide +kernel
theorem dX1_note_2 : decode cX1_note 2 = .ok (.getfield 17, 3) := by decide +kernel
theorem dX1_note_5 : decode cX1_note 5 = .ok (.invokevirtual 22, 3) := by decide +kernel
theorem dX1_note_8 : decode cX1_note 8 = .ok (.astore_n 2, 1) := by decide +kernel
theorem dX1_note_9 : decode cX1_note 9 = .ok (.aload_n 2, 1) := by decide +kernel
theorem dX1_note_10 : decode cX1_note 10 = .ok (.ifnull 8, 3) := by decide +kernel
theorem dX1_note_13 : decode cX1_note 13 = .ok (.aload_n 2, 1) := by decide +kernel
theorem dX1_note_14 : decode cX1_note 14 = .ok (.aload_n 1, 1) := by decide +kernel
theorem dX1_note_15 : decode cX1_note 15 = .ok (.invokevirtual 26, 3) := by decide +kernel
theorem dX1_note_18 : decode cX1_note 18 = .ok (.return_, 1) := by decide +kernel
theorem dX1_keepNoted_0 : decode cX1_keepNoted 0 = .ok (.aload_n 0, 1) := by decide +kernel
theorem dX1_keepNoted_1 : decode cX1_keepNoted 1 = .ok (.getfield 17, 3) := by decide +kernel
theorem dX1_keepNoted_4 : decode cX1_keepNoted 4 = .ok (.iconst 5, 1) := by decide +kernel
theorem dX1_keepNoted_5 : decode cX1_keepNoted 5 = .ok (.if_icmp .ge 14, 3) := by decide +kernel
theorem dX1_keepNoted_8 : decode cX1_keepNoted 8 = .ok (.aload_n 0, 1) := by decide +kernel
theorem dX1_keepNoted_9 : decode cX1_keepNoted 9 = .ok (.dup, 1) := by decide +kernel
theorem dX1_keepNoted_10 : decode cX1_keepNoted 10 = .ok (.getfield 17, 3) := by decide +kernel
theorem dX1_keepNoted_13 : decode cX1_keepNoted 13 = .ok (.iconst 1, 1) := by decide +kernel
theorem dX1_keepNoted_14 : decode cX1_keepNoted 14 = .ok (.iadd, 1) := by decide +kernel
theorem dX1_keepNoted_15 : decode cX1_keepNoted 15 = .ok (.putfield 17, 3) := by decide +kernel
theorem dX1_keepNoted_18 : decode cX1_keepNoted 18 = .ok (.return_, 1) := by decide +kernel
theorem dX1_keepNoted_19 : decode cX1_keepNoted 19 = .ok (.aload_n 0, 1) := by decide +kernel
theorem dX1_keepNoted_20 : decode cX1_keepNoted 20 = .ok (.getfield 11, 3) := by decide +kernel
theorem dX1_keepNoted_23 : decode cX1_keepNoted 23 = .ok (.iconst 0, 1) := by decide +kernel
theorem dX1_keepNoted_24 : decode cX1_keepNoted 24 = .ok (.aaload, 1) := by decide +kernel
theorem dX1_keepNoted_25 : decode cX1_keepNoted 25 = .ok (.astore_n 1, 1) := by decide +kernel
theorem dX1_keepNoted_26 : decode cX1_keepNoted 26 = .ok (.iconst 1, 1) := by decide +kernel
theorem dX1_keepNoted_27 : decode cX1_keepNoted 27 = .ok (.istore_n 2, 1) := by decide +kernel
theorem dX1_keepNoted_28 : decode cX1_keepNoted 28 = .ok (.iload_n 2, 1) := by decide +kernel
theorem dX1_keepNoted_29 : decode cX1_keepNoted 29 = .ok (.aload_n 0, 1) := by decide +kernel
theorem dX1_keepNoted_30 : decode cX1_keepNoted 30 = .ok (.getfield 11, 3) := by decide +kernel
theorem dX1_keepNoted_33 : decode cX1_keepNoted 33 = .ok (.arraylength, 1) := by decide +kernel
theorem dX1_keepNoted_34 : decode cX1_keepNoted 34 = .ok (.if_icmp .ge 23, 3) := by decide +kernel
theorem dX1_keepNoted_37 : decode cX1_keepNoted 37 = .ok (.aload_n 0, 1) := by decide +kernel
theorem dX1_keepNoted_38 : decode cX1_keepNoted 38 = .ok (.getfield 11, 3) := by decide +kernel
theorem dX1_keepNoted_41 : decode cX1_keepNoted 41 = .ok (.iload_n 2, 1) := by decide +kernel
theorem dX1_keepNoted_42 : decode cX1_keepNoted 42 = .ok (.iconst 1, 1) := by decide +kernel
theorem dX1_keepNoted_43 : decode cX1_keepNoted 43 = .ok (.isub, 1) := by decide +kernel
theorem dX1_keepNoted_44 : decode cX1_keepNoted 44 = .ok (.aload_n 0, 1) := by decide +kernel
theorem dX1_keepNoted_45 : decode cX1_keepNoted 45 = .ok (.getfield 11, 3) := by decide +kernel
theorem dX1_keepNoted_48 : decode cX1_keepNoted 48 = .ok (.iload_n 2, 1) := by decide +kernel
theorem dX1_keepNoted_49 : decode cX1_keepNoted 49 = .ok (.aaload, 1) := by decide +kernel
theorem dX1_keepNoted_50 : decode cX1_keepNoted 50 = .ok (.aastore, 1) := by decide +kernel
theorem dX1_keepNoted_51 : decode cX1_keepNoted 51 = .ok (.iinc 2 1, 3) := by decide +kernel
theorem dX1_keepNoted_54 : decode cX1_keepNoted 54 = .ok (.goto (-26), 3) := by decide +kernel
theorem dX1_keepNoted_57 : decode cX1_keepNoted 57 = .ok (.aload_n 0, 1) := by decide +kernel
theorem dX1_keepNoted_58 : decode cX1_keepNoted 58 = .ok (.getfield 11, 3) := by decide +kernel
theorem dX1_keepNoted_61 : decode cX1_keepNoted 61 = .ok (.aload_n 0, 1) := by decide +kernel
theorem dX1_keepNoted_62 : decode cX1_keepNoted 62 = .ok (.getfield 11, 3) := by decide +kernel
theorem dX1_keepNoted_65 : decode cX1_keepNoted 65 = .ok (.arraylength, 1) := by decide +kernel
theorem dX1_keepNoted_66 : decode cX1_keepNoted 66 = .ok (.iconst 1, 1) := by decide +kernel
theorem dX1_keepNoted_67 : decode cX1_keepNoted 67 = .ok (.isub, 1) := by decide +kernel
theorem dX1_keepNoted_68 : decode cX1_keepNoted 68 = .ok (.aload_n 1, 1) := by decide +kernel
theorem dX1_keepNoted_69 : decode cX1_keepNoted 69 = .ok (.aastore, 1) := by decide +kernel
theorem dX1_keepNoted_70 : decode cX1_keepNoted 70 = .ok (.return_, 1) := by decide +kernel
set_option maxRecDepth 20000 in
theorem ggX2_numberIn_X2_firstOf : GoodIn wsX2_numberIn wsX2_firstOf := goodIn_r _ [5, 6, 7, 4, 8, 9, 10] (by decide +kernel) (by decide +kernel)
set_option maxRecDepth 20000 in
theorem gX2_numberIn_X2_firstOf : GoodIn wsX2_numberIn (va_wsS RX2 9 yX2_firstOf wsX2_firstOf) := goodIn_app (goodIn_of _ (by decide +kernel)) ggX2_numberIn_X2_firstOf
theorem dX2_numberIn_0 : decode cX2_numberIn 0 = .ok (.lload_n 0, 1) := by decide +kernel
theorem dX2_numberIn_1 : decode cX2_numberIn 1 = .ok (.lstore_n 2, 1) := by decide +kernel
theorem dX2_numberIn_2 : decode cX2_numberIn 2 = .ok (.iconst 0, 1) := by decide +kernel
theorem dX2_numberIn_3 : decode cX2_numberIn 3 = .ok (.istore 4, 2) := by decide +kernel
theorem dX2_numberIn_5 : decode cX2_numberIn 5 = .ok (.iconst 0, 1) := by decide +kernel
theorem dX2_numberIn_6 : decode cX2_numberIn 6 = .ok (.istore 5, 2) := by decide +kernel
theorem dX2_numberIn_8 : decode cX2_numberIn 8 = .ok (.iload 5, 2) := by decide +kernel
theorem dX2_numberIn_10 : decode cX2_numberIn 10 = .ok (.bipush 64, 2) := by decide +kernel
theorem dX2_numberIn_12 : decode cX2_numberIn 12 = .ok (.if_icmp .ge 29, 3) := by decide +kernel
theorem dX2_numberIn_15 : decode cX2_numberIn 15 = .ok (.lload_n 2, 1) := by decide +kernel
theorem dX2_numberIn_16 : decode cX2_numberIn 16 = .ok (.lconst 0, 1) := by decide +kernel
theorem dX2_numberIn_17 : decode cX2_numberIn 17 = .ok (.lcmp, 1) := by decide +kernel
theorem dX2_numberIn_18 : decode cX2_numberIn 18 = .ok (.ifCond .eq 23, 3) := by decide +kernel
theorem dX2_numberIn_21 : decode cX2_numberIn 21 = .ok (.lload_n 2, 1) := by decide +kernel
theorem dX2_numberIn_22 : decode cX2_numberIn 22 = .ok (.lload_n 2, 1) := by decide +kernel
theorem dX2_numberIn_23 : decode cX2_numberIn 23 = .ok (.invokestatic 9, 3) := by decide +kernel
theorem dX2_numberIn_26 : decode cX2_numberIn 26 = .ok (.ldc2_w 15, 3) := by decide +kernel
theorem dX2_numberIn_29 : decode cX2_numberIn 29 = .ok (.lxor, 1) := by decide +kernel
theorem dX2_numberIn_30 : decode cX2_numberIn 30 = .ok (.land, 1) := by decide +kernel
theorem dX2_numberIn_31 : decode cX2_numberIn 31 = .ok (.lstore_n 2, 1) := by decide +kernel
theorem dX2_numberIn_32 : decode cX2_numberIn 32 = .ok (.iinc 4 1, 3) := by decide +kernel
theorem dX2_numberIn_35 : decode cX2_numberIn 35 = .ok (.iinc 5 1, 3) := by decide +kernel
theorem dX2_numberIn_38 : decode cX2_numberIn 38 = .ok (.goto (-30), 3) := by decide +kernel
theorem dX2_numberIn_41 : decode cX2_numberIn 41 = .ok (.iload 4, 2) := by decide +kernel
theorem dX2_numberIn_43 : decode cX2_numberIn 43 = .ok (.ireturn, 1) := by decide +kernel
set_option maxRecDepth 20000 in
theorem ggX2_largestIn_X2_firstOf : GoodIn wsX2_largestIn wsX2_firstOf := goodIn_r _ [9, 10, 11, 8, 12, 13, 14] (by decide +kernel) (by decide +kernel)
set_option maxRecDepth 20000 in
theorem gX2_largestIn_X2_firstOf : GoodIn wsX2_largestIn (va_wsS RX2 9 yX2_firstOf wsX2_firstOf) := goodIn_app (goodIn_of _ (by decide +kernel)) ggX2_largestIn_X2_firstOf
set_option maxRecDepth 20000 in
theorem ggX2_largestIn_J13_bitCount_95d88 : GoodIn wsX2_largestIn wsJ13_bitCount_95d88 := goodIn_r _ [18, 19, 20, 21] (by decide +kernel) (by decide +kernel)
set_option maxRecDepth 20000 in
theorem gX2_largestIn_J13_bitCount_95d88 : GoodIn wsX2_largestIn (va_wsS RX2 17 yJ13_bitCount_95d88 wsJ13_bitCount_95d88) := goodIn_app (goodIn_of _ (by decide +kernel)) ggX2_largestIn_J13_bitCount_95d88
theorem dX2_largestIn_0 : decode cX2_largestIn 0 = .ok (.lload_n 0, 1) := by decide +kernel
theorem dX2_largestIn_1 : decode cX2_largestIn 1 = .ok (.lstore_n 2, 1) := by decide +kernel
theorem dX2_largestIn_2 : decode cX2_largestIn 2 = .ok (.iconst 0, 1) := by decide +kernel
theorem dX2_largestIn_3 : decode cX2_largestIn 3 = .ok (.istore 4, 2) := by decide +kernel
theorem dX2_largestIn_5 : decode cX2_largestIn 5 = .ok (.iconst 0, 1) := by decide +kernel
theorem dX2_largestIn_6 : decode cX2_largestIn 6 = .ok (.istore 5, 2) := by decide +kernel
theorem dX2_largestIn_8 : decode cX2_largestIn 8 = .ok (.iload 5, 2) := by decide +kernel
theorem dX2_largestIn_10 : decode cX2_largestIn 10 = .ok (.bipush 64, 2) := by decide +kernel
theorem dX2_largestIn_12 : decode cX2_largestIn 12 = .ok (.if_icmp .ge 42, 3) := by decide +kernel
theorem dX2_largestIn_15 : decode cX2_largestIn 15 = .ok (.lload_n 2, 1) := by decide +kernel
theorem dX2_largestIn_16 : decode cX2_largestIn 16 = .ok (.lconst 0, 1) := by decide +kernel
theorem dX2_largestIn_17 : decode cX2_largestIn 17 = .ok (.lcmp, 1) := by decide +kernel
theorem dX2_largestIn_18 : decode cX2_largestIn 18 = .ok (.ifCond .eq 36, 3) := by decide +kernel
theorem dX2_largestIn_21 : decode cX2_largestIn 21 = .ok (.lload_n 2, 1) := by decide +kernel
theorem dX2_largestIn_22 : decode cX2_largestIn 22 = .ok (.invokestatic 9, 3) := by decide +kernel
theorem dX2_largestIn_25 : decode cX2_largestIn 25 = .ok (.lstore 6, 2) := by decide +kernel
theorem dX2_largestIn_27 : decode cX2_largestIn 27 = .ok (.lload_n 2, 1) := by decide +kernel
theorem dX2_largestIn_28 : decode cX2_largestIn 28 = .ok (.lload 6, 2) := by decide +kernel
theorem dX2_largestIn_30 : decode cX2_largestIn 30 = .ok (.ldc2_w 15, 3) := by decide +kernel
theorem dX2_largestIn_33 : decode cX2_largestIn 33 = .ok (.lxor, 1) := by decide +kernel
theorem dX2_largestIn_34 : decode cX2_largestIn 34 = .ok (.land, 1) := by decide +kernel
theorem dX2_largestIn_35 : decode cX2_largestIn 35 = .ok (.lstore_n 2, 1) := by decide +kernel
theorem dX2_largestIn_36 : decode cX2_largestIn 36 = .ok (.iload 4, 2) := by decide +kernel
theorem dX2_largestIn_38 : decode cX2_largestIn 38 = .ok (.lload 6, 2) := by decide +kernel
theorem dX2_largestIn_40 : decode cX2_largestIn 40 = .ok (.invokestatic 17, 3) := by decide +kernel
theorem dX2_largestIn_43 : decode cX2_largestIn 43 = .ok (.invokestatic 23, 3) := by decide +kernel
theorem dX2_largestIn_46 : decode cX2_largestIn 46 = .ok (.istore 4, 2) := by decide +kernel
theorem dX2_largestIn_48 : decode cX2_largestIn 48 = .ok (.iinc 5 1, 3) := by decide +kernel
theorem dX2_largestIn_51 : decode cX2_largestIn 51 = .ok (.goto (-43), 3) := by decide +kernel
theorem dX2_largestIn_54 : decode cX2_largestIn 54 = .ok (.iload 4, 2) := by decide +kernel
theorem dX2_largestIn_56 : decode cX2_largestIn 56 = .ok (.ireturn, 1) := by decide +kernel
set_option maxRecDepth 20000 in
theorem ggX2_firstOf_X2_besideOf : GoodIn wsX2_firstOf wsX2_besideOf := goodIn_r _ [4, 5, 6] (by decide +kernel) (by decide +kernel)
set_option maxRecDepth 20000 in
theorem gX2_firstOf_X2_besideOf : GoodIn wsX2_firstOf (va_wsS RX2 29 yX2_besideOf wsX2_besideOf) := goodIn_app (goodIn_of _ (by decide +kernel)) ggX2_firstOf_X2_besideOf
theorem dX2_firstOf_0 : decode cX2_firstOf 0 = .ok (.lload_n 0, 1) := by decide +kernel
theorem dX2_firstOf_1 : decode cX2_firstOf 1 = .ok (.lload_n 0, 1) := by decide +kernel
theorem dX2_firstOf_2 : decode cX2_firstOf 2 = .ok (.lneg, 1) := by decide +kernel
theorem dX2_firstOf_3 : decode cX2_firstOf 3 = .ok (.land, 1) := by decide +kernel
theorem dX2_firstOf_4 : decode cX2_firstOf 4 = .ok (.lstore_n 2, 1) := by decide +kernel
theorem dX2_firstOf_5 : decode cX2_firstOf 5 = .ok (.lload_n 2, 1) := by decide +kernel
theorem dX2_firstOf_6 : decode cX2_firstOf 6 = .ok (.lload_n 2, 1) := by decide +kernel
theorem dX2_firstOf_7 : decode cX2_firstOf 7 = .ok (.invokestatic 29, 3) := by decide +kernel
theorem dX2_firstOf_10 : decode cX2_firstOf 10 = .ok (.lload_n 0, 1) := by decide +kernel
theorem dX2_firstOf_11 : decode cX2_firstOf 11 = .ok (.land, 1) := by decide +kernel
theorem dX2_firstOf_12 : decode cX2_firstOf 12 = .ok (.lor, 1) := by decide +kernel
theorem dX2_firstOf_13 : decode cX2_firstOf 13 = .ok (.lstore 4, 2) := by decide +kernel
theorem dX2_firstOf_15 : decode cX2_firstOf 15 = .ok (.iconst 0, 1) := by decide +kernel
theorem dX2_firstOf_16 : decode cX2_firstOf 16 = .ok (.istore 6, 2) := by decide +kernel
theorem dX2_firstOf_18 : decode cX2_firstOf 18 = .ok (.iload 6, 2) := by decide +kernel
theorem dX2_firstOf_20 : decode cX2_firstOf 20 = .ok (.bipush 64, 2) := by decide +kernel
theorem dX2_firstOf_22 : decode cX2_firstOf 22 = .ok (.if_icmp .ge 29, 3) := by decide +kernel
theorem dX2_firstOf_25 : decode cX2_firstOf 25 = .ok (.lload 4, 2) := by decide +kernel
theorem dX2_firstOf_27 : decode cX2_firstOf 27 = .ok (.lload_n 2, 1) := by decide +kernel
theorem dX2_firstOf_28 : decode cX2_firstOf 28 = .ok (.lcmp, 1) := by decide +kernel
theorem dX2_firstOf_29 : decode cX2_firstOf 29 = .ok (.ifCond .eq 22, 3) := by decide +kernel
theorem dX2_firstOf_32 : decode cX2_firstOf 32 = .ok (.lload 4, 2) := by decide +kernel
theorem dX2_firstOf_34 : decode cX2_firstOf 34 = .ok (.lstore_n 2, 1) := by decide +kernel
theorem dX2_firstOf_35 : decode cX2_firstOf 35 = .ok (.lload_n 2, 1) := by decide +kernel
theorem dX2_firstOf_36 : decode cX2_firstOf 36 = .ok (.lload_n 2, 1) := by decide +kernel
theorem dX2_firstOf_37 : decode cX2_firstOf 37 = .ok (.invokestatic 29, 3) := by decide +kernel
theorem dX2_firstOf_40 : decode cX2_firstOf 40 = .ok (.lload_n 0, 1) := by decide +kernel
theorem dX2_firstOf_41 : decode cX2_firstOf 41 = .ok (.land, 1) := by decide +kernel
theorem dX2_firstOf_42 : decode cX2_firstOf 42 = .ok (.lor, 1) := by decide +kernel
theorem dX2_firstOf_43 : decode cX2_firstOf 43 = .ok (.lstore 4, 2) := by decide +kernel
theorem dX2_firstOf_45 : decode cX2_firstOf 45 = .ok (.iinc 6 1, 3) := by decide +kernel
theorem dX2_firstOf_48 : decode cX2_firstOf 48 = .ok (.goto (-30), 3) := by decide +kernel
theorem dX2_firstOf_51 : decode cX2_firstOf 51 = .ok (.lload 4, 2) := by decide +kernel
theorem dX2_firstOf_53 : decode cX2_firstOf 53 = .ok (.lreturn, 1) := by decide +kernel
theorem dX2_besideOf_0 : decode cX2_besideOf 0 = .ok (.lload_n 0, 1) := by decide +kernel
theorem dX2_besideOf_1 : decode cX2_besideOf 1 = .ok (.ldc2_w 32, 3) := by decide +kernel
theorem dX2_besideOf_4 : decode cX2_besideOf 4 = .ok (.land, 1) := by decide +kernel
theorem dX2_besideOf_5 : decode cX2_besideOf 5 = .ok (.iconst 1, 1) := by decide +kernel
theorem dX2_besideOf_6 : decode cX2_besideOf 6 = .ok (.lshl, 1) := by decide +kernel
theorem dX2_besideOf_7 : decode cX2_besideOf 7 = .ok (.lload_n 0, 1) := by decide +kernel
theorem dX2_besideOf_8 : decode cX2_besideOf 8 = .ok (.ldc2_w 34, 3) := by decide +kernel
theorem dX2_besideOf_11 : decode cX2_besideOf 11 = .ok (.land, 1) := by decide +kernel
theorem dX2_besideOf_12 : decode cX2_besideOf 12 = .ok (.iconst 1, 1) := by decide +kernel
theorem dX2_besideOf_13 : decode cX2_besideOf 13 = .ok (.lushr, 1) := by decide +kernel
theorem dX2_besideOf_14 : decode cX2_besideOf 14 = .ok (.lor, 1) := by decide +kernel
theorem dX2_besideOf_15 : decode cX2_besideOf 15 = .ok (.lstore_n 2, 1) := by decide +kernel
theorem dX2_besideOf_16 : decode cX2_besideOf 16 = .ok (.lload_n 2, 1) := by decide +kernel
theorem dX2_besideOf_17 : decode cX2_besideOf 17 = .ok (.lload_n 0, 1) := by decide +kernel
theorem dX2_besideOf_18 : decode cX2_besideOf 18 = .ok (.bipush 8, 2) := by decide +kernel
theorem dX2_besideOf_20 : decode cX2_besideOf 20 = .ok (.lshl, 1) := by decide +kernel
theorem dX2_besideOf_21 : decode cX2_besideOf 21 = .ok (.lor, 1) := by decide +kernel
theorem dX2_besideOf_22 : decode cX2_besideOf 22 = .ok (.lload_n 0, 1) := by decide +kernel
theorem dX2_besideOf_23 : decode cX2_besideOf 23 = .ok (.bipush 8, 2) := by decide +kernel
theorem dX2_besideOf_25 : decode cX2_besideOf 25 = .ok (.lushr, 1) := by decide +kernel
theorem dX2_besideOf_26 : decode cX2_besideOf 26 = .ok (.lor, 1) := by decide +kernel
theorem dX2_besideOf_27 : decode cX2_besideOf 27 = .ok (.lreturn, 1) := by decide +kernel
set_option maxRecDepth 20000 in
theorem ggX3_init_X0_init : GoodIn wsX3_init wsX0_init := goodIn_r _ [13, 14, 2, 3, 8, 15, 16, 17, 18, 19, 20] (by decide +kernel) (by decide +kernel)
set_option maxRecDepth 20000 in
theorem gX3_init_X0_init_n11 : GoodIn wsX3_init (wsX0_init) := ggX3_init_X0_init
theorem dX3_init_0 : decode cX3_init 0 = .ok (.aload_n 0, 1) := by decide +kernel
theorem dX3_init_1 : decode cX3_init 1 = .ok (.invokespecial 3, 3) := by decide +kernel
theorem dX3_init_4 : decode cX3_init 4 = .ok (.aload_n 0, 1) := by decide +kernel
theorem dX3_init_5 : decode cX3_init 5 = .ok (.new 9, 3) := by decide +kernel
theorem dX3_init_8 : decode cX3_init 8 = .ok (.dup, 1) := by decide +kernel
theorem dX3_init_9 : decode cX3_init 9 = .ok (.invokespecial 11, 3) := by decide +kernel
theorem dX3_init_12 : decode cX3_init 12 = .ok (.putfield 12, 3) := by decide +kernel
theorem dX3_init_15 : decode cX3_init 15 = .ok (.aload_n 0, 1) := by decide +kernel
theorem dX3_init_16 : decode cX3_init 16 = .ok (.sipush 128, 3) := by decide +kernel
theorem dX3_init_19 : decode cX3_init 19 = .ok (.newarray .int, 2) := by decide +kernel
theorem dX3_init_21 : decode cX3_init 21 = .ok (.putfield 18, 3) := by decide +kernel
theorem dX3_init_24 : decode cX3_init 24 = .ok (.aload_n 0, 1) := by decide +kernel
theorem dX3_init_25 : decode cX3_init 25 = .ok (.lconst 0, 1) := by decide +kernel
theorem dX3_init_26 : decode cX3_init 26 = .ok (.putfield 22, 3) := by decide +kernel
theorem dX3_init_29 : decode cX3_init 29 = .ok (.aload_n 0, 1) := by decide +kernel
theorem dX3_init_30 : decode cX3_init 30 = .ok (.lconst 0, 1) := by decide +kernel
theorem dX3_init_31 : decode cX3_init 31 = .ok (.putfield 26, 3) := by decide +kernel
theorem dX3_init_34 : decode cX3_init 34 = .ok (.return_, 1) := by decide +kernel
set_option maxRecDepth 20000 in
theorem ggX3_becomeLike_X0_becomeLike : GoodIn wsX3_becomeLike wsX0_becomeLike := goodIn_r _ [13, 14, 15, 4, 5, 6, 16, 17, 22, 23, 24] (by decide +kernel) (by decide +kernel)
set_option maxRecDepth 20000 in
theorem gX3_becomeLike_X0_becomeLike : GoodIn wsX3_becomeLike (wsV RX3 29 RX0 yX0_becomeLike wsX0_becomeLike) := goodIn_app (goodIn_of _ (by decide +kernel)) ggX3_becomeLike_X0_becomeLike
theorem dX3_becomeLike_0 : decode cX3_becomeLike 0 = .ok (.aload_n 0, 1) := by decide +kernel
theorem dX3_becomeLike_1 : decode cX3_becomeLike 1 = .ok (.getfield 12, 3) := by decide +kernel
theorem dX3_becomeLike_4 : decode cX3_becomeLike 4 = .ok (.aload_n 1, 1) := by decide +kernel
theorem dX3_becomeLike_5 : decode cX3_becomeLike 5 = .ok (.getfield 12, 3) := by decide +kernel
theorem dX3_becomeLike_8 : decode cX3_becomeLike 8 = .ok (.invokevirtual 29, 3) := by decide +kernel
theorem dX3_becomeLike_11 : decode cX3_becomeLike 11 = .ok (.aload_n 1, 1) := by decide +kernel
theorem dX3_becomeLike_12 : decode cX3_becomeLike 12 = .ok (.getfield 18, 3) := by decide +kernel
theorem dX3_becomeLike_15 : decode cX3_becomeLike 15 = .ok (.iconst 0, 1) := by decide +kernel
theorem dX3_becomeLike_16 : decode cX3_becomeLike 16 = .ok (.aload_n 0, 1) := by decide +kernel
theorem dX3_becomeLike_17 : decode cX3_becomeLike 17 = .ok (.getfield 18, 3) := by decide +kernel
theorem dX3_becomeLike_20 : decode cX3_becomeLike 20 = .ok (.iconst 0, 1) := by decide +kernel
theorem dX3_becomeLike_21 : decode cX3_becomeLike 21 = .ok (.aload_n 0, 1) := by decide +kernel
theorem dX3_becomeLike_22 : decode cX3_becomeLike 22 = .ok (.getfield 18, 3) := by decide +kernel
theorem dX3_becomeLike_25 : decode cX3_becomeLike 25 = .ok (.arraylength, 1) := by decide +kernel
theorem dX3_becomeLike_26 : decode cX3_becomeLike 26 = .ok (.invokestatic 33, 3) := by decide +kernel
theorem dX3_becomeLike_29 : decode cX3_becomeLike 29 = .ok (.aload_n 0, 1) := by decide +kernel
theorem dX3_becomeLike_30 : decode cX3_becomeLike 30 = .ok (.aload_n 1, 1) := by decide +kernel
theorem dX3_becomeLike_31 : decode cX3_becomeLike 31 = .ok (.getfield 22, 3) := by decide +kernel
theorem dX3_becomeLike_34 : decode cX3_becomeLike 34 = .ok (.putfield 22, 3) := by decide +kernel
theorem dX3_becomeLike_37 : decode cX3_becomeLike 37 = .ok (.aload_n 0, 1) := by decide +kernel
theorem dX3_becomeLike_38 : decode cX3_becomeLike 38 = .ok (.aload_n 1, 1) := by decide +kernel
theorem dX3_becomeLike_39 : decode cX3_becomeLike 39 = .ok (.getfield 26, 3) := by decide +kernel
theorem dX3_becomeLike_42 : decode cX3_becomeLike 42 = .ok (.putfield 26, 3) := by decide +kernel
theorem dX3_becomeLike_45 : decode cX3_becomeLike 45 = .ok (.return_, 1) := by decide +kernel
set_option maxRecDepth 20000 in
theorem ggX3_makeFold_X0_isAcross : GoodIn wsX3_makeFold wsX0_isAcross := goodIn_r _ [5] (by decide +kernel) (by decide +kernel)
set_option maxRecDepth 20000 in
theorem gX3_makeFold_X0_isAcross : GoodIn wsX3_makeFold (va_wsS RX3 39 yX0_isAcross wsX0_isAcross) := goodIn_app (goodIn_of _ (by decide +kernel)) ggX3_makeFold_X0_isAcross
set_option maxRecDepth 20000 in
theorem ggX3_makeFold_X0_columns : GoodIn wsX3_makeFold wsX0_columns := goodIn_r _ [9, 10, 30, 31, 32] (by decide +kernel) (by decide +kernel)
set_option maxRecDepth 20000 in
theorem gX3_makeFold_X0_columns : GoodIn wsX3_makeFold (wsV RX3 43 RX0 yX0_columns wsX0_columns) := goodIn_app (goodIn_of _ (by decide +kernel)) ggX3_makeFold_X0_columns
set_option maxRecDepth 20000 in
theorem ggX3_makeFold_X0_rows : GoodIn wsX3_makeFold wsX0_rows := goodIn_r _ [14, 15, 10, 30, 31, 32] (by decide +kernel) (by decide +kernel)
set_option maxRecDepth 20000 in
theorem gX3_makeFold_X0_rows : GoodIn wsX3_makeFold (wsV RX3 47 RX0 yX0_rows wsX0_rows) := goodIn_app (goodIn_of _ (by decide +kernel)) ggX3_makeFold_X0_rows
set_option maxRecDepth 20000 in
theorem ggX3_makeFold_X0_addFold : GoodIn wsX3_makeFold wsX0_addFold := goodIn_r _ [19, 15, 20, 10, 21, 3, 4, 5, 30, 31, 32] (by decide +kernel) (by decide +kernel)
set_option maxRecDepth 20000 in
theorem gX3_makeFold_X0_addFold : GoodIn wsX3_makeFold (wsV RX3 50 RX0 yX0_addFold wsX0_addFold) := goodIn_app (goodIn_of _ (by decide +kernel)) ggX3_makeFold_X0_addFold
set_option maxRecDepth 20000 in
theorem ggX3_makeFold_X0_layers : GoodIn wsX3_makeFold wsX0_layers := goodIn_r _ [25, 15, 30, 31, 32] (by decide +kernel) (by decide +kernel)
set_option maxRecDepth 20000 in
theorem gX3_makeFold_X0_layers : GoodIn wsX3_makeFold (wsV RX3 54 RX0 yX0_layers wsX0_layers) := goodIn_app (goodIn_of _ (by decide +kernel)) ggX3_makeFold_X0_layers
theorem dX3_makeFold_0 : decode cX3_makeFold 0 = .ok (.iload_n 1, 1) := by decide +kernel
theorem dX3_makeFold_1 : decode cX3_makeFold 1 = .ok (.ifCond .lt 8, 3) := by decide +kernel
theorem dX3_makeFold_4 : decode cX3_makeFold 4 = .ok (.iload_n 1, 1) := by decide +kernel
theorem dX3_makeFold_5 : decode cX3_makeFold 5 = .ok (.iconst 4, 1) := by decide +kernel
theorem dX3_makeFold_6 : decode cX3_makeFold 6 = .ok (.if_icmp .lt 6, 3) := by decide +kernel
theorem dX3_makeFold_9 : decode cX3_makeFold 9 = .ok (.bipush (-2), 2) := by decide +kernel
theorem dX3_makeFold_11 : decode cX3_makeFold 11 = .ok (.ireturn, 1) := by decide +kernel
theorem dX3_makeFold_12 : decode cX3_makeFold 12 = .ok (.iload_n 1, 1) := by decide +kernel
theorem dX3_makeFold_13 : decode cX3_makeFold 13 = .ok (.invokestatic 39, 3) := by decide +kernel
theorem dX3_makeFold_16 : decode cX3_makeFold 16 = .ok (.ifCond .eq 13, 3) := by decide +kernel
theorem dX3_makeFold_19 : decode cX3_makeFold 19 = .ok (.aload_n 0, 1) := by decide +kernel
theorem dX3_makeFold_20 : decode cX3_makeFold 20 = .ok (.getfield 12, 3) := by decide +kernel
theorem dX3_makeFold_23 : decode cX3_makeFold 23 = .ok (.invokevirtual 43, 3) := by decide +kernel
theorem dX3_makeFold_26 : decode cX3_makeFold 26 = .ok (.goto 10, 3) := by decide +kernel
theorem dX3_makeFold_29 : decode cX3_makeFold 29 = .ok (.aload_n 0, 1) := by decide +kernel
theorem dX3_makeFold_30 : decode cX3_makeFold 30 = .ok (.getfield 12, 3) := by decide +kernel
theorem dX3_makeFold_33 : decode cX3_makeFold 33 = .ok (.invokevirtual 47, 3) := by decide +kernel
theorem dX3_makeFold_36 : decode cX3_makeFold 36 = .ok (.istore_n 2, 1) := by decide +kernel
theorem dX3_makeFold_37 : decode cX3_makeFold 37 = .ok (.iload_n 2, 1) := by decide +kernel
theorem dX3_makeFold_38 : decode cX3_makeFold 38 = .ok (.iconst 2, 1) := by decide +kernel
theorem dX3_makeFold_39 : decode cX3_makeFold 39 = .ok (.if_icmp .ge 6, 3) := by decide +kernel
theorem dX3_makeFold_42 : decode cX3_makeFold 42 = .ok (.bipush (-3), 2) := by decide +kernel
theorem dX3_makeFold_44 : decode cX3_makeFold 44 = .ok (.ireturn, 1) := by decide +kernel
theorem dX3_makeFold_45 : decode cX3_makeFold 45 = .ok (.aload_n 0, 1) := by decide +kernel
theorem dX3_makeFold_46 : decode cX3_makeFold 46 = .ok (.getfield 12, 3) := by decide +kernel
theorem dX3_makeFold_49 : decode cX3_makeFold 49 = .ok (.iload_n 1, 1) := by decide +kernel
theorem dX3_makeFold_50 : decode cX3_makeFold 50 = .ok (.invokevirtual 50, 3) := by decide +kernel
theorem dX3_makeFold_53 : decode cX3_makeFold 53 = .ok (.aload_n 0, 1) := by decide +kernel
theorem dX3_makeFold_54 : decode cX3_makeFold 54 = .ok (.getfield 12, 3) := by decide +kernel
theorem dX3_makeFold_57 : decode cX3_makeFold 57 = .ok (.invokevirtual 54, 3) := by decide +kernel
theorem dX3_makeFold_60 : decode cX3_makeFold 60 = .ok (.ireturn, 1) := by decide +kernel
set_option maxRecDepth 20000 in
theorem ggX3_takeFoldBack_X0_takeLatestBack : GoodIn wsX3_takeFoldBack wsX0_takeLatestBack := goodIn_r _ [7, 8, 9, 10, 11, 12, 6, 13, 14, 15, 16, 17, 22, 23, 24] (by decide +kernel) (by decide +kernel)
set_option maxRecDepth 20000 in
theorem gX3_takeFoldBack_X0_takeLatestBack : GoodIn wsX3_takeFoldBack (wsV RX3 61 RX0 yX0_takeLatestBack wsX0_takeLatestBack) := goodIn_app (goodIn_of _ (by decide +kernel)) ggX3_takeFoldBack_X0_takeLatestBack
theorem dX3_takeFoldBack_0 : decode cX3_takeFoldBack 0 = .ok (.aload_n 0, 1) := by decide +kernel
theorem dX3_takeFoldBack_1 : decode cX3_takeFoldBack 1 = .ok (.getfield 12, 3) := by decide +kernel
theorem dX3_takeFoldBack_4 : decode cX3_takeFoldBack 4 = .ok (.getfield 57, 3) := by decide +kernel
theorem dX3_takeFoldBack_7 : decode cX3_takeFoldBack 7 = .ok (.ifCond .le 13, 3) := by decide +kernel
theorem dX3_takeFoldBack_10 : decode cX3_takeFoldBack 10 = .ok (.aload_n 0, 1) := by decide +kernel
theorem dX3_takeFoldBack_11 : decode cX3_takeFoldBack 11 = .ok (.getfield 12, 3) := by decide +kernel
theorem dX3_takeFoldBack_14 : decode cX3_takeFoldBack 14 = .ok (.invokevirtual 61, 3) := by decide +kernel
theorem dX3_takeFoldBack_17 : decode cX3_takeFoldBack 17 = .ok (.goto 5, 3) := by decide +kernel
theorem dX3_takeFoldBack_20 : decode cX3_takeFoldBack 20 = .ok (.bipush (-3), 2) := by decide +kernel
theorem dX3_takeFoldBack_22 : decode cX3_takeFoldBack 22 = .ok (.ireturn, 1) := by decide +kernel
set_option maxRecDepth 20000 in
theorem ggX3_takeAllFoldsBack_X0_takeAllBack : GoodIn wsX3_takeAllFoldsBack wsX0_takeAllBack := goodIn_r _ [7, 8, 9, 14, 15, 16] (by decide +kernel) (by decide +kernel)
set_option maxRecDepth 20000 in
theorem gX3_takeAllFoldsBack_X0_takeAllBack : GoodIn wsX3_takeAllFoldsBack (wsV RX3 64 RX0 yX0_takeAllBack wsX0_takeAllBack) := goodIn_app (goodIn_of _ (by decide +kernel)) ggX3_takeAllFoldsBack_X0_takeAllBack
theorem dX3_takeAllFoldsBack_0 : decode cX3_takeAllFoldsBack 0 = .ok (.aload_n 0, 1) := by decide +kernel
theorem dX3_takeAllFoldsBack_1 : decode cX3_takeAllFoldsBack 1 = .ok (.getfield 12, 3) := by decide +kernel
theorem dX3_takeAllFoldsBack_4 : decode cX3_takeAllFoldsBack 4 = .ok (.getfield 57, 3) := by decide +kernel
theorem dX3_takeAllFoldsBack_7 : decode cX3_takeAllFoldsBack 7 = .ok (.istore_n 1, 1) := by decide +kernel
theorem dX3_takeAllFoldsBack_8 : decode cX3_takeAllFoldsBack 8 = .ok (.aload_n 0, 1) := by decide +kernel
theorem dX3_takeAllFoldsBack_9 : decode cX3_takeAllFoldsBack 9 = .ok (.getfield 12, 3) := by decide +kernel
theorem dX3_takeAllFoldsBack_12 : decode cX3_takeAllFoldsBack 12 = .ok (.invokevirtual 64, 3) := by decide +kernel
theorem dX3_takeAllFoldsBack_15 : decode cX3_takeAllFoldsBack 15 = .ok (.iload_n 1, 1) := by decide +kernel
theorem dX3_takeAllFoldsBack_16 : decode cX3_takeAllFoldsBack 16 = .ok (.ireturn, 1) := by decide +kernel
set_option maxRecDepth 20000 in
theorem ggX3_makeHoles_X0_hasField : GoodIn wsX3_makeHoles wsX0_hasField := goodIn_r _ [7, 8, 9, 10, 6, 11, 12, 13, 14, 15, 16, 17, 59, 60, 61] (by decide +kernel) (by decide +kernel)
set_option maxRecDepth 20000 in
theorem gX3_makeHoles_X0_hasField : GoodIn wsX3_makeHoles (wsV RX3 67 RX0 yX0_hasField wsX0_hasField) := goodIn_app (goodIn_of _ (by decide +kernel)) ggX3_makeHoles_X0_hasField
set_option maxRecDepth 20000 in
theorem ggX3_makeHoles_X0_layers : GoodIn wsX3_makeHoles wsX0_layers := goodIn_r _ [21, 17, 59, 60, 61] (by decide +kernel) (by decide +kernel)
set_option maxRecDepth 20000 in
theorem gX3_makeHoles_X0_layers : GoodIn wsX3_makeHoles (wsV RX3 54 RX0 yX0_layers wsX0_layers) := goodIn_app (goodIn_of _ (by decide +kernel)) ggX3_makeHoles_X0_layers
set_option maxRecDepth 20000 in
theorem ggX3_makeHoles_J13_bitCount_95d88 : GoodIn wsX3_makeHoles wsJ13_bitCount_95d88 := goodIn_r _ [25, 26, 27, 28] (by decide +kernel) (by decide +kernel)
set_option maxRecDepth 20000 in
theorem gX3_makeHoles_J13_bitCount_95d88 : GoodIn wsX3_makeHoles (va_wsS RX3 71 yJ13_bitCount_95d88 wsJ13_bitCount_95d88) := goodIn_app (goodIn_of _ (by decide +kernel)) ggX3_makeHoles_J13_bitCount_95d88
set_option maxRecDepth 20000 in
theorem ggX3_makeHoles_X0_uppermostCells : GoodIn wsX3_makeHoles wsX0_uppermostCells := goodIn_r _ [32, 33, 34, 35, 6, 36, 17, 8, 9, 10, 11, 12, 13, 14, 15, 16, 37, 19, 20, 21, 38, 39, 40, 41, 42, 43, 44, 45, 46, 47, 48, 49, 50, 51, 52, 53, 54, 59, 60, 61] (by decide +kernel) (by decide +kernel)
set_option maxRecDepth 20000 in
theorem gX3_makeHoles_X0_uppermostCells : GoodIn wsX3_makeHoles (wsV RX3 77 RX0 yX0_uppermostCells wsX0_uppermostCells) := goodIn_app (goodIn_of _ (by decide +kernel)) ggX3_makeHoles_X0_uppermostCells
theorem dX3_makeHoles_0 : decode cX3_makeHoles 0 = .ok (.aload_n 0, 1) := by decide +kernel
theorem dX3_makeHoles_1 : decode cX3_makeHoles 1 = .ok (.getfield 12, 3) := by decide +kernel
theorem dX3_makeHoles_4 : decode cX3_makeHoles 4 = .ok (.iload_n 1, 1) := by decide +kernel
theorem dX3_makeHoles_5 : decode cX3_makeHoles 5 = .ok (.iload_n 2, 1) := by decide +kernel
theorem dX3_makeHoles_6 : decode cX3_makeHoles 6 = .ok (.invokevirtual 67, 3) := by decide +kernel
theorem dX3_makeHoles_9 : decode cX3_makeHoles 9 = .ok (.ifCond .ne 5, 3) := by decide +kernel
theorem dX3_makeHoles_12 : decode cX3_makeHoles 12 = .ok (.iconst (-1), 1) := by decide +kernel
theorem dX3_makeHoles_13 : decode cX3_makeHoles 13 = .ok (.ireturn, 1) := by decide +kernel
theorem dX3_makeHoles_14 : decode cX3_makeHoles 14 = .ok (.iload_n 3, 1) := by decide +kernel
theorem dX3_makeHoles_15 : decode cX3_makeHoles 15 = .ok (.iconst 1, 1) := by decide +kernel
theorem dX3_makeHoles_16 : decode cX3_makeHoles 16 = .ok (.if_icmp .lt 14, 3) := by decide +kernel
theorem dX3_makeHoles_19 : decode cX3_makeHoles 19 = .ok (.iload_n 3, 1) := by decide +kernel
theorem dX3_makeHoles_20 : decode cX3_makeHoles 20 = .ok (.aload_n 0, 1) := by decide +kernel
theorem dX3_makeHoles_21 : decode cX3_makeHoles 21 = .ok (.getfield 12, 3) := by decide +kernel
theorem dX3_makeHoles_24 : decode cX3_makeHoles 24 = .ok (.invokevirtual 54, 3) := by decide +kernel
theorem dX3_makeHoles_27 : decode cX3_makeHoles 27 = .ok (.if_icmp .le 6, 3) := by decide +kernel
theorem dX3_makeHoles_30 : decode cX3_makeHoles 30 = .ok (.bipush (-2), 2) := by decide +kernel
theorem dX3_makeHoles_32 : decode cX3_makeHoles 32 = .ok (.ireturn, 1) := by decide +kernel
theorem dX3_makeHoles_33 : decode cX3_makeHoles 33 = .ok (.aload_n 0, 1) := by decide +kernel
theorem dX3_makeHoles_34 : decode cX3_makeHoles 34 = .ok (.getfield 22, 3) := by decide +kernel
theorem dX3_makeHoles_37 : decode cX3_makeHoles 37 = .ok (.invokestatic 71, 3) := by decide +kernel
theorem dX3_makeHoles_40 : decode cX3_makeHoles 40 = .ok (.istore 4, 2) := by decide +kernel
theorem dX3_makeHoles_42 : decode cX3_makeHoles 42 = .ok (.aload_n 0, 1) := by decide +kernel
theorem dX3_makeHoles_43 : decode cX3_makeHoles 43 = .ok (.dup, 1) := by decide +kernel
theorem dX3_makeHoles_44 : decode cX3_makeHoles 44 = .ok (.getfield 22, 3) := by decide +kernel
theorem dX3_makeHoles_47 : decode cX3_makeHoles 47 = .ok (.aload_n 0, 1) := by decide +kernel
theorem dX3_makeHoles_48 : decode cX3_makeHoles 48 = .ok (.getfield 12, 3) := by decide +kernel
theorem dX3_makeHoles_51 : decode cX3_makeHoles 51 = .ok (.iload_n 1, 1) := by decide +kernel
theorem dX3_makeHoles_52 : decode cX3_makeHoles 52 = .ok (.iload_n 2, 1) := by decide +kernel
theorem dX3_makeHoles_53 : decode cX3_makeHoles 53 = .ok (.iload_n 3, 1) := by decide +kernel
theorem dX3_makeHoles_54 : decode cX3_makeHoles 54 = .ok (.invokevirtual 77, 3) := by decide +kernel
theorem dX3_makeHoles_57 : decode cX3_makeHoles 57 = .ok (.lor, 1) := by decide +kernel
theorem dX3_makeHoles_58 : decode cX3_makeHoles 58 = .ok (.putfield 22, 3) := by decide +kernel
theorem dX3_makeHoles_61 : decode cX3_makeHoles 61 = .ok (.aload_n 0, 1) := by decide +kernel
theorem dX3_makeHoles_62 : decode cX3_makeHoles 62 = .ok (.getfield 22, 3) := by decide +kernel
theorem dX3_makeHoles_65 : decode cX3_makeHoles 65 = .ok (.invokestatic 71, 3) := by decide +kernel
theorem dX3_makeHoles_68 : decode cX3_makeHoles 68 = .ok (.iload 4, 2) := by decide +kernel
theorem dX3_makeHoles_70 : decode cX3_makeHoles 70 = .ok (.isub, 1) := by decide +kernel
theorem dX3_makeHoles_71 : decode cX3_makeHoles 71 = .ok (.ireturn, 1) := by decide +kernel
set_option maxRecDepth 20000 in
theorem ggX3_dropInk_X0_hasField : GoodIn wsX3_dropInk wsX0_hasField := goodIn_r _ [6, 7, 8, 9, 5, 10, 11, 12, 13, 14, 15, 16, 60, 61, 62] (by decide +kernel) (by decide +kernel)
set_option maxRecDepth 20000 in
theorem gX3_dropInk_X0_hasField : GoodIn wsX3_dropInk (wsV RX3 67 RX0 yX0_hasField wsX0_hasField) := goodIn_app (goodIn_of _ (by decide +kernel)) ggX3_dropInk_X0_hasField
set_option maxRecDepth 20000 in
theorem ggX3_dropInk_X3_uppermostWhole : GoodIn wsX3_dropInk wsX3_uppermostWhole := goodIn_r _ [21, 1, 22, 23, 24, 25, 5, 26, 16, 27, 28, 29, 30, 7, 8, 9, 10, 11, 12, 13, 14, 15, 31, 32, 33, 34, 35, 36, 37, 38, 39, 40, 41, 42, 43, 44, 45, 46, 47, 48, 49, 50, 56, 57, 58, 59, 60, 61, 62] (by decide +kernel) (by decide +kernel)
set_option maxRecDepth 20000 in
theorem gX3_dropInk_X3_uppermostWhole : GoodIn wsX3_dropInk (wsV RX3 81 RX3 yX3_uppermostWhole wsX3_uppermostWhole) := goodIn_app (goodIn_of _ (by decide +kernel)) ggX3_dropInk_X3_uppermostWhole
set_option maxRecDepth 20000 in
theorem ggX3_dropInk_X3_setColour : GoodIn wsX3_dropInk wsX3_setColour := goodIn_r _ [54, 55, 56, 57, 58, 59] (by decide +kernel) (by decide +kernel)
set_option maxRecDepth 20000 in
theorem gX3_dropInk_X3_setColour : GoodIn wsX3_dropInk (wsV RX3 85 RX3 yX3_setColour wsX3_setColour) := goodIn_app (goodIn_of _ (by decide +kernel)) ggX3_dropInk_X3_setColour
set_option maxRecDepth 20000 in
theorem ggX3_dropInk_X5_cellOf : GoodIn wsX3_dropInk wsX5_cellOf := goodIn_r _ [48] (by decide +kernel) (by decide +kernel)
set_option maxRecDepth 20000 in
theorem gX3_dropInk_X5_cellOf_n89 : GoodIn wsX3_dropInk (wsX5_cellOf) := ggX3_dropInk_X5_cellOf
theorem dX3_dropInk_0 : decode cX3_dropInk 0 = .ok (.aload_n 0, 1) := by decide +kernel
theorem dX3_dropInk_1 : decode cX3_dropInk 1 = .ok (.getfield 12, 3) := by decide +kernel
theorem dX3_dropInk_4 : decode cX3_dropInk 4 = .ok (.iload_n 1, 1) := by decide +kernel
theorem dX3_dropInk_5 : decode cX3_dropInk 5 = .ok (.iload_n 2, 1) := by decide +kernel
theorem dX3_dropInk_6 : decode cX3_dropInk 6 = .ok (.invokevirtual 67, 3) := by decide +kernel
theorem dX3_dropInk_9 : decode cX3_dropInk 9 = .ok (.ifCond .ne 5, 3) := by decide +kernel
theorem dX3_dropInk_12 : decode cX3_dropInk 12 = .ok (.iconst (-1), 1) := by decide +kernel
theorem dX3_dropInk_13 : decode cX3_dropInk 13 = .ok (.ireturn, 1) := by decide +kernel
theorem dX3_dropInk_14 : decode cX3_dropInk 14 = .ok (.iload_n 3, 1) := by decide +kernel
theorem dX3_dropInk_15 : decode cX3_dropInk 15 = .ok (.iconst 1, 1) := by decide +kernel
theorem dX3_dropInk_16 : decode cX3_dropInk 16 = .ok (.if_icmp .lt 8, 3) := by decide +kernel
theorem dX3_dropInk_19 : decode cX3_dropInk 19 = .ok (.iload_n 3, 1) := by decide +kernel
theorem dX3_dropInk_20 : decode cX3_dropInk 20 = .ok (.iconst 5, 1) := by decide +kernel
theorem dX3_dropInk_21 : decode cX3_dropInk 21 = .ok (.if_icmp .le 6, 3) := by decide +kernel
theorem dX3_dropInk_24 : decode cX3_dropInk 24 = .ok (.bipush (-2), 2) := by decide +kernel
theorem dX3_dropInk_26 : decode cX3_dropInk 26 = .ok (.ireturn, 1) := by decide +kernel
theorem dX3_dropInk_27 : decode cX3_dropInk 27 = .ok (.aload_n 0, 1) := by decide +kernel
theorem dX3_dropInk_28 : decode cX3_dropInk 28 = .ok (.iload_n 1, 1) := by decide +kernel
theorem dX3_dropInk_29 : decode cX3_dropInk 29 = .ok (.iload_n 2, 1) := by decide +kernel
theorem dX3_dropInk_30 : decode cX3_dropInk 30 = .ok (.invokevirtual 81, 3) := by decide +kernel
theorem dX3_dropInk_33 : decode cX3_dropInk 33 = .ok (.istore 4, 2) := by decide +kernel
theorem dX3_dropInk_35 : decode cX3_dropInk 35 = .ok (.iload 4, 2) := by decide +kernel
theorem dX3_dropInk_37 : decode cX3_dropInk 37 = .ok (.bipush (-6), 2) := by decide +kernel
theorem dX3_dropInk_39 : decode cX3_dropInk 39 = .ok (.if_icmp .ne 6, 3) := by decide +kernel
theorem dX3_dropInk_42 : decode cX3_dropInk 42 = .ok (.bipush (-6), 2) := by decide +kernel
theorem dX3_dropInk_44 : decode cX3_dropInk 44 = .ok (.ireturn, 1) := by decide +kernel
theorem dX3_dropInk_45 : decode cX3_dropInk 45 = .ok (.aload_n 0, 1) := by decide +kernel
theorem dX3_dropInk_46 : decode cX3_dropInk 46 = .ok (.iload 4, 2) := by decide +kernel
theorem dX3_dropInk_48 : decode cX3_dropInk 48 = .ok (.iload_n 3, 1) := by decide +kernel
theorem dX3_dropInk_49 : decode cX3_dropInk 49 = .ok (.invokevirtual 85, 3) := by decide +kernel
theorem dX3_dropInk_52 : decode cX3_dropInk 52 = .ok (.iload 4, 2) := by decide +kernel
theorem dX3_dropInk_54 : decode cX3_dropInk 54 = .ok (.invokestatic 89, 3) := by decide +kernel
theorem dX3_dropInk_57 : decode cX3_dropInk 57 = .ok (.ireturn, 1) := by decide +kernel
set_option maxRecDepth 20000 in
theorem ggX3_mendTop_X0_hasField : GoodIn wsX3_mendTop wsX0_hasField := goodIn_r _ [8, 9, 10, 11, 7, 12, 13, 14, 15, 16, 17, 18, 56, 57, 58] (by decide +kernel) (by decide +kernel)
set_option maxRecDepth 20000 in
theorem gX3_mendTop_X0_hasField : GoodIn wsX3_mendTop (wsV RX3 67 RX0 yX0_hasField wsX0_hasField) := goodIn_app (goodIn_of _ (by decide +kernel)) ggX3_mendTop_X0_hasField
set_option maxRecDepth 20000 in
theorem ggX3_mendTop_X0_upperSide : GoodIn wsX3_mendTop wsX0_upperSide := goodIn_r _ [22, 18, 9, 10, 11, 7, 12, 13, 14, 15, 16, 17, 23, 24, 25, 26, 27, 28, 29, 30, 31, 32, 33, 34, 35, 36, 37, 38, 39, 40, 56, 57, 58] (by decide +kernel) (by decide +kernel)
set_option maxRecDepth 20000 in
theorem gX3_mendTop_X0_upperSide : GoodIn wsX3_mendTop (wsV RX3 93 RX0 yX0_upperSide wsX0_upperSide) := goodIn_app (goodIn_of _ (by decide +kernel)) ggX3_mendTop_X0_upperSide
set_option maxRecDepth 20000 in
theorem ggX3_mendTop_X5_cellOf : GoodIn wsX3_mendTop wsX5_cellOf := goodIn_r _ [43] (by decide +kernel) (by decide +kernel)
set_option maxRecDepth 20000 in
theorem gX3_mendTop_X5_cellOf_n89 : GoodIn wsX3_mendTop (wsX5_cellOf) := ggX3_mendTop_X5_cellOf
set_option maxRecDepth 20000 in
theorem ggX3_mendTop_X5_hasCell : GoodIn wsX3_mendTop wsX5_hasCell := goodIn_r _ [45] (by decide +kernel) (by decide +kernel)
set_option maxRecDepth 20000 in
theorem gX3_mendTop_X5_hasCell_n97 : GoodIn wsX3_mendTop (wsX5_hasCell) := ggX3_mendTop_X5_hasCell
set_option maxRecDepth 20000 in
theorem ggX3_mendTop_X3_setColour : GoodIn wsX3_mendTop wsX3_setColour := goodIn_r _ [50, 51, 52, 53, 54, 55] (by decide +kernel) (by decide +kernel)
set_option maxRecDepth 20000 in
theorem gX3_mendTop_X3_setColour : GoodIn wsX3_mendTop (wsV RX3 85 RX3 yX3_setColour wsX3_setColour) := goodIn_app (goodIn_of _ (by decide +kernel)) ggX3_mendTop_X3_setColour
theorem dX3_mendTop_0 : decode cX3_mendTop 0 = .ok (.aload_n 0, 1) := by decide +kernel
theorem dX3_mendTop_1 : decode cX3_mendTop 1 = .ok (.getfield 12, 3) := by decide +kernel
theorem dX3_mendTop_4 : decode cX3_mendTop 4 = .ok (.iload_n 1, 1) := by decide +kernel
theorem dX3_mendTop_5 : decode cX3_mendTop 5 = .ok (.iload_n 2, 1) := by decide +kernel
theorem dX3_mendTop_6 : decode cX3_mendTop 6 = .ok (.invokevirtual 67, 3) := by decide +kernel
theorem dX3_mendTop_9 : decode cX3_mendTop 9 = .ok (.ifCond .ne 5, 3) := by decide +kernel
theorem dX3_mendTop_12 : decode cX3_mendTop 12 = .ok (.iconst (-1), 1) := by decide +kernel
theorem dX3_mendTop_13 : decode cX3_mendTop 13 = .ok (.ireturn, 1) := by decide +kernel
theorem dX3_mendTop_14 : decode cX3_mendTop 14 = .ok (.aload_n 0, 1) := by decide +kernel
theorem dX3_mendTop_15 : decode cX3_mendTop 15 = .ok (.getfield 12, 3) := by decide +kernel
theorem dX3_mendTop_18 : decode cX3_mendTop 18 = .ok (.iload_n 1, 1) := by decide +kernel
theorem dX3_mendTop_19 : decode cX3_mendTop 19 = .ok (.iload_n 2, 1) := by decide +kernel
theorem dX3_mendTop_20 : decode cX3_mendTop 20 = .ok (.iconst 0, 1) := by decide +kernel
theorem dX3_mendTop_21 : decode cX3_mendTop 21 = .ok (.invokevirtual 93, 3) := by decide +kernel
theorem dX3_mendTop_24 : decode cX3_mendTop 24 = .ok (.invokestatic 89, 3) := by decide +kernel
theorem dX3_mendTop_27 : decode cX3_mendTop 27 = .ok (.istore_n 3, 1) := by decide +kernel
theorem dX3_mendTop_28 : decode cX3_mendTop 28 = .ok (.aload_n 0, 1) := by decide +kernel
theorem dX3_mendTop_29 : decode cX3_mendTop 29 = .ok (.getfield 22, 3) := by decide +kernel
theorem dX3_mendTop_32 : decode cX3_mendTop 32 = .ok (.iload_n 3, 1) := by decide +kernel
theorem dX3_mendTop_33 : decode cX3_mendTop 33 = .ok (.invokestatic 97, 3) := by decide +kernel
theorem dX3_mendTop_36 : decode cX3_mendTop 36 = .ok (.ifCond .ne 6, 3) := by decide +kernel
theorem dX3_mendTop_39 : decode cX3_mendTop 39 = .ok (.bipush (-3), 2) := by decide +kernel
theorem dX3_mendTop_41 : decode cX3_mendTop 41 = .ok (.ireturn, 1) := by decide +kernel
theorem dX3_mendTop_42 : decode cX3_mendTop 42 = .ok (.aload_n 0, 1) := by decide +kernel
theorem dX3_mendTop_43 : decode cX3_mendTop 43 = .ok (.dup, 1) := by decide +kernel
theorem dX3_mendTop_44 : decode cX3_mendTop 44 = .ok (.getfield 22, 3) := by decide +kernel
theorem dX3_mendTop_47 : decode cX3_mendTop 47 = .ok (.lconst 1, 1) := by decide +kernel
theorem dX3_mendTop_48 : decode cX3_mendTop 48 = .ok (.iload_n 3, 1) := by decide +kernel
theorem dX3_mendTop_49 : decode cX3_mendTop 49 = .ok (.lshl, 1) := by decide +kernel
theorem dX3_mendTop_50 : decode cX3_mendTop 50 = .ok (.ldc2_w 101, 3) := by decide +kernel
theorem dX3_mendTop_53 : decode cX3_mendTop 53 = .ok (.lxor, 1) := by decide +kernel
theorem dX3_mendTop_54 : decode cX3_mendTop 54 = .ok (.land, 1) := by decide +kernel
theorem dX3_mendTop_55 : decode cX3_mendTop 55 = .ok (.putfield 22, 3) := by decide +kernel
theorem dX3_mendTop_58 : decode cX3_mendTop 58 = .ok (.aload_n 0, 1) := by decide +kernel
theorem dX3_mendTop_59 : decode cX3_mendTop 59 = .ok (.iconst 2, 1) := by decide +kernel
theorem dX3_mendTop_60 : decode cX3_mendTop 60 = .ok (.iload_n 3, 1) := by decide +kernel
theorem dX3_mendTop_61 : decode cX3_mendTop 61 = .ok (.imul, 1) := by decide +kernel
theorem dX3_mendTop_62 : decode cX3_mendTop 62 = .ok (.iconst 0, 1) := by decide +kernel
theorem dX3_mendTop_63 : decode cX3_mendTop 63 = .ok (.invokevirtual 85, 3) := by decide +kernel
theorem dX3_mendTop_66 : decode cX3_mendTop 66 = .ok (.aload_n 0, 1) := by decide +kernel
theorem dX3_mendTop_67 : decode cX3_mendTop 67 = .ok (.iconst 2, 1) := by decide +kernel
theorem dX3_mendTop_68 : decode cX3_mendTop 68 = .ok (.iload_n 3, 1) := by decide +kernel
theorem dX3_mendTop_69 : decode cX3_mendTop 69 = .ok (.imul, 1) := by decide +kernel
theorem dX3_mendTop_70 : decode cX3_mendTop 70 = .ok (.iconst 1, 1) := by decide +kernel
theorem dX3_mendTop_71 : decode cX3_mendTop 71 = .ok (.iadd, 1) := by decide +kernel
theorem dX3_mendTop_72 : decode cX3_mendTop 72 = .ok (.iconst 0, 1) := by decide +kernel
theorem dX3_mendTop_73 : decode cX3_mendTop 73 = .ok (.invokevirtual 85, 3) := by decide +kernel
theorem dX3_mendTop_76 : decode cX3_mendTop 76 = .ok (.iload_n 3, 1) := by decide +kernel
theorem dX3_mendTop_77 : decode cX3_mendTop 77 = .ok (.ireturn, 1) := by decide +kernel
set_option maxRecDepth 20000 in
theorem ggX3_changeGoal_X5_isRow : GoodIn wsX3_changeGoal wsX5_isRow := goodIn_r _ [4] (by decide +kernel) (by decide +kernel)
set_option maxRecDepth 20000 in
theorem gX3_changeGoal_X5_isRow_n103 : GoodIn wsX3_changeGoal (wsX5_isRow) := ggX3_changeGoal_X5_isRow
set_option maxRecDepth 20000 in
theorem ggX3_changeGoal_X5_maskOfRow : GoodIn wsX3_changeGoal wsX5_maskOfRow := goodIn_r _ [6] (by decide +kernel) (by decide +kernel)
set_option maxRecDepth 20000 in
theorem gX3_changeGoal_X5_maskOfRow_n106 : GoodIn wsX3_changeGoal (wsX5_maskOfRow) := ggX3_changeGoal_X5_maskOfRow
theorem dX3_changeGoal_0 : decode cX3_changeGoal 0 = .ok (.iload_n 1, 1) := by decide +kernel
theorem dX3_changeGoal_1 : decode cX3_changeGoal 1 = .ok (.invokestatic 103, 3) := by decide +kernel
theorem dX3_changeGoal_4 : decode cX3_changeGoal 4 = .ok (.ifCond .ne 5, 3) := by decide +kernel
theorem dX3_changeGoal_7 : decode cX3_changeGoal 7 = .ok (.iconst (-1), 1) := by decide +kernel
theorem dX3_changeGoal_8 : decode cX3_changeGoal 8 = .ok (.ireturn, 1) := by decide +kernel
theorem dX3_changeGoal_9 : decode cX3_changeGoal 9 = .ok (.iload_n 2, 1) := by decide +kernel
theorem dX3_changeGoal_10 : decode cX3_changeGoal 10 = .ok (.ifCond .lt 10, 3) := by decide +kernel
theorem dX3_changeGoal_13 : decode cX3_changeGoal 13 = .ok (.iload_n 2, 1) := by decide +kernel
theorem dX3_changeGoal_14 : decode cX3_changeGoal 14 = .ok (.sipush 255, 3) := by decide +kernel
theorem dX3_changeGoal_17 : decode cX3_changeGoal 17 = .ok (.if_icmp .le 6, 3) := by decide +kernel
theorem dX3_changeGoal_20 : decode cX3_changeGoal 20 = .ok (.bipush (-2), 2) := by decide +kernel
theorem dX3_changeGoal_22 : decode cX3_changeGoal 22 = .ok (.ireturn, 1) := by decide +kernel
theorem dX3_changeGoal_23 : decode cX3_changeGoal 23 = .ok (.aload_n 0, 1) := by decide +kernel
theorem dX3_changeGoal_24 : decode cX3_changeGoal 24 = .ok (.getfield 26, 3) := by decide +kernel
theorem dX3_changeGoal_27 : decode cX3_changeGoal 27 = .ok (.iload_n 1, 1) := by decide +kernel
theorem dX3_changeGoal_28 : decode cX3_changeGoal 28 = .ok (.invokestatic 106, 3) := by decide +kernel
theorem dX3_changeGoal_31 : decode cX3_changeGoal 31 = .ok (.istore_n 3, 1) := by decide +kernel
theorem dX3_changeGoal_32 : decode cX3_changeGoal 32 = .ok (.aload_n 0, 1) := by decide +kernel
theorem dX3_changeGoal_33 : decode cX3_changeGoal 33 = .ok (.dup, 1) := by decide +kernel
theorem dX3_changeGoal_34 : decode cX3_changeGoal 34 = .ok (.getfield 26, 3) := by decide +kernel
theorem dX3_changeGoal_37 : decode cX3_changeGoal 37 = .ok (.iload_n 3, 1) := by decide +kernel
theorem dX3_changeGoal_38 : decode cX3_changeGoal 38 = .ok (.iload_n 2, 1) := by decide +kernel
theorem dX3_changeGoal_39 : decode cX3_changeGoal 39 = .ok (.ixor, 1) := by decide +kernel
theorem dX3_changeGoal_40 : decode cX3_changeGoal 40 = .ok (.i2l, 1) := by decide +kernel
theorem dX3_changeGoal_41 : decode cX3_changeGoal 41 = .ok (.bipush 8, 2) := by decide +kernel
theorem dX3_changeGoal_43 : decode cX3_changeGoal 43 = .ok (.iload_n 1, 1) := by decide +kernel
theorem dX3_changeGoal_44 : decode cX3_changeGoal 44 = .ok (.imul, 1) := by decide +kernel
theorem dX3_changeGoal_45 : decode cX3_changeGoal 45 = .ok (.lshl, 1) := by decide +kernel
theorem dX3_changeGoal_46 : decode cX3_changeGoal 46 = .ok (.lxor, 1) := by decide +kernel
theorem dX3_changeGoal_47 : decode cX3_changeGoal 47 = .ok (.putfield 26, 3) := by decide +kernel
theorem dX3_changeGoal_50 : decode cX3_changeGoal 50 = .ok (.iload_n 3, 1) := by decide +kernel
theorem dX3_changeGoal_51 : decode cX3_changeGoal 51 = .ok (.ireturn, 1) := by decide +kernel
set_option maxRecDepth 20000 in
theorem ggX3_uppermostWhole_X0_layers : GoodIn wsX3_uppermostWhole wsX0_layers := goodIn_r _ [7, 8, 46, 47, 48] (by decide +kernel) (by decide +kernel)
set_option maxRecDepth 20000 in
theorem gX3_uppermostWhole_X0_layers : GoodIn wsX3_uppermostWhole (wsV RX3 54 RX0 yX0_layers wsX0_layers) := goodIn_app (goodIn_of _ (by decide +kernel)) ggX3_uppermostWhole_X0_layers
set_option maxRecDepth 20000 in
theorem ggX3_uppermostWhole_X0_upperSide : GoodIn wsX3_uppermostWhole wsX0_upperSide := goodIn_r _ [12, 8, 13, 14, 15, 6, 16, 17, 18, 19, 20, 21, 22, 4, 5, 7, 23, 24, 25, 26, 27, 28, 29, 30, 31, 32, 33, 34, 35, 36, 46, 47, 48] (by decide +kernel) (by decide +kernel)
set_option maxRecDepth 20000 in
theorem gX3_uppermostWhole_X0_upperSide : GoodIn wsX3_uppermostWhole (wsV RX3 93 RX0 yX0_upperSide wsX0_upperSide) := goodIn_app (goodIn_of _ (by decide +kernel)) ggX3_uppermostWhole_X0_upperSide
set_option maxRecDepth 20000 in
theorem ggX3_uppermostWhole_X5_cellOf : GoodIn wsX3_uppermostWhole wsX5_cellOf := goodIn_r _ [39] (by decide +kernel) (by decide +kernel)
set_option maxRecDepth 20000 in
theorem gX3_uppermostWhole_X5_cellOf_n89 : GoodIn wsX3_uppermostWhole (wsX5_cellOf) := ggX3_uppermostWhole_X5_cellOf
set_option maxRecDepth 20000 in
theorem ggX3_uppermostWhole_X5_hasCell : GoodIn wsX3_uppermostWhole wsX5_hasCell := goodIn_r _ [41] (by decide +kernel) (by decide +kernel)
set_option maxRecDepth 20000 in
theorem gX3_uppermostWhole_X5_hasCell_n97 : GoodIn wsX3_uppermostWhole (wsX5_hasCell) := ggX3_uppermostWhole_X5_hasCell
theorem dX3_uppermostWhole_0 : decode cX3_uppermostWhole 0 = .ok (.aload_n 0, 1) := by decide +kernel
theorem dX3_uppermostWhole_1 : decode cX3_uppermostWhole 1 = .ok (.getfield 12, 3) := by decide +kernel
theorem dX3_uppermostWhole_4 : decode cX3_uppermostWhole 4 = .ok (.invokevirtual 54, 3) := by decide +kernel
theorem dX3_uppermostWhole_7 : decode cX3_uppermostWhole 7 = .ok (.istore_n 3, 1) := by decide +kernel
theorem dX3_uppermostWhole_8 : decode cX3_uppermostWhole 8 = .ok (.iconst 0, 1) := by decide +kernel
theorem dX3_uppermostWhole_9 : decode cX3_uppermostWhole 9 = .ok (.istore 4, 2) := by decide +kernel
theorem dX3_uppermostWhole_11 : decode cX3_uppermostWhole 11 = .ok (.iload 4, 2) := by decide +kernel
theorem dX3_uppermostWhole_13 : decode cX3_uppermostWhole 13 = .ok (.iload_n 3, 1) := by decide +kernel
theorem dX3_uppermostWhole_14 : decode cX3_uppermostWhole 14 = .ok (.if_icmp .ge 40, 3) := by decide +kernel
theorem dX3_uppermostWhole_17 : decode cX3_uppermostWhole 17 = .ok (.aload_n 0, 1) := by decide +kernel
theorem dX3_uppermostWhole_18 : decode cX3_uppermostWhole 18 = .ok (.getfield 12, 3) := by decide +kernel
theorem dX3_uppermostWhole_21 : decode cX3_uppermostWhole 21 = .ok (.iload_n 1, 1) := by decide +kernel
theorem dX3_uppermostWhole_22 : decode cX3_uppermostWhole 22 = .ok (.iload_n 2, 1) := by decide +kernel
theorem dX3_uppermostWhole_23 : decode cX3_uppermostWhole 23 = .ok (.iload 4, 2) := by decide +kernel
theorem dX3_uppermostWhole_25 : decode cX3_uppermostWhole 25 = .ok (.invokevirtual 93, 3) := by decide +kernel
theorem dX3_uppermostWhole_28 : decode cX3_uppermostWhole 28 = .ok (.istore 5, 2) := by decide +kernel
theorem dX3_uppermostWhole_30 : decode cX3_uppermostWhole 30 = .ok (.aload_n 0, 1) := by decide +kernel
theorem dX3_uppermostWhole_31 : decode cX3_uppermostWhole 31 = .ok (.getfield 22, 3) := by decide +kernel
theorem dX3_uppermostWhole_34 : decode cX3_uppermostWhole 34 = .ok (.iload 5, 2) := by decide +kernel
theorem dX3_uppermostWhole_36 : decode cX3_uppermostWhole 36 = .ok (.invokestatic 89, 3) := by decide +kernel
theorem dX3_uppermostWhole_39 : decode cX3_uppermostWhole 39 = .ok (.invokestatic 97, 3) := by decide +kernel
theorem dX3_uppermostWhole_42 : decode cX3_uppermostWhole 42 = .ok (.ifCond .ne 6, 3) := by decide +kernel
theorem dX3_uppermostWhole_45 : decode cX3_uppermostWhole 45 = .ok (.iload 5, 2) := by decide +kernel
theorem dX3_uppermostWhole_47 : decode cX3_uppermostWhole 47 = .ok (.ireturn, 1) := by decide +kernel
theorem dX3_uppermostWhole_48 : decode cX3_uppermostWhole 48 = .ok (.iinc 4 1, 3) := by decide +kernel
theorem dX3_uppermostWhole_51 : decode cX3_uppermostWhole 51 = .ok (.goto (-40), 3) := by decide +kernel
theorem dX3_uppermostWhole_54 : decode cX3_uppermostWhole 54 = .ok (.bipush (-6), 2) := by decide +kernel
theorem dX3_uppermostWhole_56 : decode cX3_uppermostWhole 56 = .ok (.ireturn, 1) := by decide +kernel
theorem dX3_colourOf_0 : decode cX3_colourOf 0 = .ok (.iload_n 1, 1) := by decide +kernel
theorem dX3_colourOf_1 : decode cX3_colourOf 1 = .ok (.ifCond .lt 21, 3) := by decide +kernel
theorem dX3_colourOf_4 : decode cX3_colourOf 4 = .ok (.iload_n 1, 1) := by decide +kernel
theorem dX3_colourOf_5 : decode cX3_colourOf 5 = .ok (.aload_n 0, 1) := by decide +kernel
theorem dX3_colourOf_6 : decode cX3_colourOf 6 = .ok (.getfield 18, 3) := by decide +kernel
theorem dX3_colourOf_9 : decode cX3_colourOf 9 = .ok (.arraylength, 1) := by decide +kernel
theorem dX3_colourOf_10 : decode cX3_colourOf 10 = .ok (.if_icmp .ge 12, 3) := by decide +kernel
theorem dX3_colourOf_13 : decode cX3_colourOf 13 = .ok (.aload_n 0, 1) := by decide +kernel
theorem dX3_colourOf_14 : decode cX3_colourOf 14 = .ok (.getfield 18, 3) := by decide +kernel
theorem dX3_colourOf_17 : decode cX3_colourOf 17 = .ok (.iload_n 1, 1) := by decide +kernel
theorem dX3_colourOf_18 : decode cX3_colourOf 18 = .ok (.iaload, 1) := by decide +kernel
theorem dX3_colourOf_19 : decode cX3_colourOf 19 = .ok (.goto 4, 3) := by decide +kernel
theorem dX3_colourOf_22 : decode cX3_colourOf 22 = .ok (.iconst 0, 1) := by decide +kernel
theorem dX3_colourOf_23 : decode cX3_colourOf 23 = .ok (.ireturn, 1) := by decide +kernel
theorem dX3_setColour_0 : decode cX3_setColour 0 = .ok (.iload_n 1, 1) := by decide +kernel
theorem dX3_setColour_1 : decode cX3_setColour 1 = .ok (.ifCond .lt 19, 3) := by decide +kernel
theorem dX3_setColour_4 : decode cX3_setColour 4 = .ok (.iload_n 1, 1) := by decide +kernel
theorem dX3_setColour_5 : decode cX3_setColour 5 = .ok (.aload_n 0, 1) := by decide +kernel
theorem dX3_setColour_6 : decode cX3_setColour 6 = .ok (.getfield 18, 3) := by decide +kernel
theorem dX3_setColour_9 : decode cX3_setColour 9 = .ok (.arraylength, 1) := by decide +kernel
theorem dX3_setColour_10 : decode cX3_setColour 10 = .ok (.if_icmp .ge 10, 3) := by decide +kernel
theorem dX3_setColour_13 : decode cX3_setColour 13 = .ok (.aload_n 0, 1) := by decide +kernel
theorem dX3_setColour_14 : decode cX3_setColour 14 = .ok (.getfield 18, 3) := by decide +kernel
theorem dX3_setColour_17 : decode cX3_setColour 17 = .ok (.iload_n 1, 1) := by decide +kernel
theorem dX3_setColour_18 : decode cX3_setColour 18 = .ok (.iload_n 2, 1) := by decide +kernel
theorem dX3_setColour_19 : decode cX3_setColour 19 = .ok (.iastore, 1) := by decide +kernel
theorem dX3_setColour_20 : decode cX3_setColour 20 = .ok (.return_, 1) := by decide +kernel
theorem dX3_colouredSides_0 : decode cX3_colouredSides 0 = .ok (.iconst 0, 1) := by decide +kernel
theorem dX3_colouredSides_1 : decode cX3_colouredSides 1 = .ok (.istore_n 1, 1) := by decide +kernel
theorem dX3_colouredSides_2 : decode cX3_colouredSides 2 = .ok (.iconst 0, 1) := by decide +kernel
theorem dX3_colouredSides_3 : decode cX3_colouredSides 3 = .ok (.istore_n 2, 1) := by decide +kernel
theorem dX3_colouredSides_4 : decode cX3_colouredSides 4 = .ok (.iload_n 2, 1) := by decide +kernel
theorem dX3_colouredSides_5 : decode cX3_colouredSides 5 = .ok (.aload_n 0, 1) := by decide +kernel
theorem dX3_colouredSides_6 : decode cX3_colouredSides 6 = .ok (.getfield 18, 3) := by decide +kernel
theorem dX3_colouredSides_9 : decode cX3_colouredSides 9 = .ok (.arraylength, 1) := by decide +kernel
theorem dX3_colouredSides_10 : decode cX3_colouredSides 10 = .ok (.if_icmp .ge 26, 3) := by decide +kernel
theorem dX3_colouredSides_13 : decode cX3_colouredSides 13 = .ok (.iload_n 1, 1) := by decide +kernel
theorem dX3_colouredSides_14 : decode cX3_colouredSides 14 = .ok (.aload_n 0, 1) := by decide +kernel
theorem dX3_colouredSides_15 : decode cX3_colouredSides 15 = .ok (.getfield 18, 3) := by decide +kernel
theorem dX3_colouredSides_18 : decode cX3_colouredSides 18 = .ok (.iload_n 2, 1) := by decide +kernel
theorem dX3_colouredSides_19 : decode cX3_colouredSides 19 = .ok (.iaload, 1) := by decide +kernel
theorem dX3_colouredSides_20 : decode cX3_colouredSides 20 = .ok (.ifCond .eq 7, 3) := by decide +kernel
theorem dX3_colouredSides_23 : decode cX3_colouredSides 23 = .ok (.iconst 1, 1) := by decide +kernel
theorem dX3_colouredSides_24 : decode cX3_colouredSides 24 = .ok (.goto 4, 3) := by decide +kernel
theorem dX3_colouredSides_27 : decode cX3_colouredSides 27 = .ok (.iconst 0, 1) := by decide +kernel
theorem dX3_colouredSides_28 : decode cX3_colouredSides 28 = .ok (.iadd, 1) := by decide +kernel
theorem dX3_colouredSides_29 : decode cX3_colouredSides 29 = .ok (.istore_n 1, 1) := by decide +kernel
theorem dX3_colouredSides_30 : decode cX3_colouredSides 30 = .ok (.iinc 2 1, 3) := by decide +kernel
theorem dX3_colouredSides_33 : decode cX3_colouredSides 33 = .ok (.goto (-29), 3) := by decide +kernel
theorem dX3_colouredSides_36 : decode cX3_colouredSides 36 = .ok (.iload_n 1, 1) := by decide +kernel
theorem dX3_colouredSides_37 : decode cX3_colouredSides 37 = .ok (.ireturn, 1) := by decide +kernel
