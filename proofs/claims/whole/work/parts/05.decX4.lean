theorem dX4_init_0 : decode cX4_init 0 = .ok (.aload_n 0, 1) := by decide +kernel
theorem dX4_init_1 : decode cX4_init 1 = .ok (.invokespecial 3, 3) := by decide +kernel
theorem dX4_init_4 : decode cX4_init 4 = .ok (.aload_n 0, 1) := by decide +kernel
theorem dX4_init_5 : decode cX4_init 5 = .ok (.bipush 60, 2) := by decide +kernel
theorem dX4_init_7 : decode cX4_init 7 = .ok (.newarray .int, 2) := by decide +kernel
theorem dX4_init_9 : decode cX4_init 9 = .ok (.putfield 9, 3) := by decide +kernel
theorem dX4_init_12 : decode cX4_init 12 = .ok (.aload_n 0, 1) := by decide +kernel
theorem dX4_init_13 : decode cX4_init 13 = .ok (.iconst 0, 1) := by decide +kernel
theorem dX4_init_14 : decode cX4_init 14 = .ok (.putfield 15, 3) := by decide +kernel
theorem dX4_init_17 : decode cX4_init 17 = .ok (.aload_n 0, 1) := by decide +kernel
theorem dX4_init_18 : decode cX4_init 18 = .ok (.iconst 0, 1) := by decide +kernel
theorem dX4_init_19 : decode cX4_init 19 = .ok (.putfield 19, 3) := by decide +kernel
theorem dX4_init_22 : decode cX4_init 22 = .ok (.aload_n 0, 1) := by decide +kernel
theorem dX4_init_23 : decode cX4_init 23 = .ok (.iconst (-1), 1) := by decide +kernel
theorem dX4_init_24 : decode cX4_init 24 = .ok (.putfield 22, 3) := by decide +kernel
theorem dX4_init_27 : decode cX4_init 27 = .ok (.aload_n 0, 1) := by decide +kernel
theorem dX4_init_28 : decode cX4_init 28 = .ok (.iconst 0, 1) := by decide +kernel
theorem dX4_init_29 : decode cX4_init 29 = .ok (.putfield 25, 3) := by decide +kernel
theorem dX4_init_32 : decode cX4_init 32 = .ok (.aload_n 0, 1) := by decide +kernel
theorem dX4_init_33 : decode cX4_init 33 = .ok (.iconst 0, 1) := by decide +kernel
theorem dX4_init_34 : decode cX4_init 34 = .ok (.putfield 28, 3) := by decide +kernel
theorem dX4_init_37 : decode cX4_init 37 = .ok (.aload_n 0, 1) := by decide +kernel
theorem dX4_init_38 : decode cX4_init 38 = .ok (.iconst 0, 1) := by decide +kernel
theorem dX4_init_39 : decode cX4_init 39 = .ok (.putfield 31, 3) := by decide +kernel
theorem dX4_init_42 : decode cX4_init 42 = .ok (.return_, 1) := by decide +kernel
theorem dX4_addCharacter_0 : decode cX4_addCharacter 0 = .ok (.aload_n 0, 1) := by decide +kernel
theorem dX4_addCharacter_1 : decode cX4_addCharacter 1 = .ok (.getfield 15, 3) := by decide +kernel
theorem dX4_addCharacter_4 : decode cX4_addCharacter 4 = .ok (.ifCond .lt 15, 3) := by decide +kernel
theorem dX4_addCharacter_7 : decode cX4_addCharacter 7 = .ok (.aload_n 0, 1) := by decide +kernel
theorem dX4_addCharacter_8 : decode cX4_addCharacter 8 = .ok (.getfield 15, 3) := by decide +kernel
theorem dX4_addCharacter_11 : decode cX4_addCharacter 11 = .ok (.aload_n 0, 1) := by decide +kernel
theorem dX4_addCharacter_12 : decode cX4_addCharacter 12 = .ok (.getfield 9, 3) := by decide +kernel
theorem dX4_addCharacter_15 : decode cX4_addCharacter 15 = .ok (.arraylength, 1) := by decide +kernel
theorem dX4_addCharacter_16 : decode cX4_addCharacter 16 = .ok (.if_icmp .lt 5, 3) := by decide +kernel
theorem dX4_addCharacter_19 : decode cX4_addCharacter 19 = .ok (.iconst 0, 1) := by decide +kernel
theorem dX4_addCharacter_20 : decode cX4_addCharacter 20 = .ok (.ireturn, 1) := by decide +kernel
theorem dX4_addCharacter_21 : decode cX4_addCharacter 21 = .ok (.aload_n 0, 1) := by decide +kernel
theorem dX4_addCharacter_22 : decode cX4_addCharacter 22 = .ok (.getfield 9, 3) := by decide +kernel
theorem dX4_addCharacter_25 : decode cX4_addCharacter 25 = .ok (.aload_n 0, 1) := by decide +kernel
theorem dX4_addCharacter_26 : decode cX4_addCharacter 26 = .ok (.getfield 15, 3) := by decide +kernel
theorem dX4_addCharacter_29 : decode cX4_addCharacter 29 = .ok (.iload_n 1, 1) := by decide +kernel
theorem dX4_addCharacter_30 : decode cX4_addCharacter 30 = .ok (.iastore, 1) := by decide +kernel
theorem dX4_addCharacter_31 : decode cX4_addCharacter 31 = .ok (.aload_n 0, 1) := by decide +kernel
theorem dX4_addCharacter_32 : decode cX4_addCharacter 32 = .ok (.dup, 1) := by decide +kernel
theorem dX4_addCharacter_33 : decode cX4_addCharacter 33 = .ok (.getfield 15, 3) := by decide +kernel
theorem dX4_addCharacter_36 : decode cX4_addCharacter 36 = .ok (.iconst 1, 1) := by decide +kernel
theorem dX4_addCharacter_37 : decode cX4_addCharacter 37 = .ok (.iadd, 1) := by decide +kernel
theorem dX4_addCharacter_38 : decode cX4_addCharacter 38 = .ok (.putfield 15, 3) := by decide +kernel
theorem dX4_addCharacter_41 : decode cX4_addCharacter 41 = .ok (.iconst 1, 1) := by decide +kernel
theorem dX4_addCharacter_42 : decode cX4_addCharacter 42 = .ok (.ireturn, 1) := by decide +kernel
theorem dX4_currentCharacter_0 : decode cX4_currentCharacter 0 = .ok (.aload_n 0, 1) := by decide +kernel
theorem dX4_currentCharacter_1 : decode cX4_currentCharacter 1 = .ok (.getfield 19, 3) := by decide +kernel
theorem dX4_currentCharacter_4 : decode cX4_currentCharacter 4 = .ok (.ifCond .lt 30, 3) := by decide +kernel
theorem dX4_currentCharacter_7 : decode cX4_currentCharacter 7 = .ok (.aload_n 0, 1) := by decide +kernel
theorem dX4_currentCharacter_8 : decode cX4_currentCharacter 8 = .ok (.getfield 19, 3) := by decide +kernel
theorem dX4_currentCharacter_11 : decode cX4_currentCharacter 11 = .ok (.aload_n 0, 1) := by decide +kernel
theorem dX4_currentCharacter_12 : decode cX4_currentCharacter 12 = .ok (.getfield 15, 3) := by decide +kernel
theorem dX4_currentCharacter_15 : decode cX4_currentCharacter 15 = .ok (.if_icmp .ge 19, 3) := by decide +kernel
theorem dX4_currentCharacter_18 : decode cX4_currentCharacter 18 = .ok (.aload_n 0, 1) := by decide +kernel
theorem dX4_currentCharacter_19 : decode cX4_currentCharacter 19 = .ok (.getfield 19, 3) := by decide +kernel
theorem dX4_currentCharacter_22 : decode cX4_currentCharacter 22 = .ok (.aload_n 0, 1) := by decide +kernel
theorem dX4_currentCharacter_23 : decode cX4_currentCharacter 23 = .ok (.getfield 9, 3) := by decide +kernel
theorem dX4_currentCharacter_26 : decode cX4_currentCharacter 26 = .ok (.arraylength, 1) := by decide +kernel
theorem dX4_currentCharacter_27 : decode cX4_currentCharacter 27 = .ok (.if_icmp .ge 7, 3) := by decide +kernel
theorem dX4_currentCharacter_30 : decode cX4_currentCharacter 30 = .ok (.iconst 1, 1) := by decide +kernel
theorem dX4_currentCharacter_31 : decode cX4_currentCharacter 31 = .ok (.goto 4, 3) := by decide +kernel
theorem dX4_currentCharacter_34 : decode cX4_currentCharacter 34 = .ok (.iconst 0, 1) := by decide +kernel
theorem dX4_currentCharacter_35 : decode cX4_currentCharacter 35 = .ok (.istore_n 1, 1) := by decide +kernel
theorem dX4_currentCharacter_36 : decode cX4_currentCharacter 36 = .ok (.iload_n 1, 1) := by decide +kernel
theorem dX4_currentCharacter_37 : decode cX4_currentCharacter 37 = .ok (.ifCond .eq 15, 3) := by decide +kernel
theorem dX4_currentCharacter_40 : decode cX4_currentCharacter 40 = .ok (.aload_n 0, 1) := by decide +kernel
theorem dX4_currentCharacter_41 : decode cX4_currentCharacter 41 = .ok (.getfield 9, 3) := by decide +kernel
theorem dX4_currentCharacter_44 : decode cX4_currentCharacter 44 = .ok (.aload_n 0, 1) := by decide +kernel
theorem dX4_currentCharacter_45 : decode cX4_currentCharacter 45 = .ok (.getfield 19, 3) := by decide +kernel
theorem dX4_currentCharacter_48 : decode cX4_currentCharacter 48 = .ok (.iaload, 1) := by decide +kernel
theorem dX4_currentCharacter_49 : decode cX4_currentCharacter 49 = .ok (.goto 4, 3) := by decide +kernel
theorem dX4_currentCharacter_52 : decode cX4_currentCharacter 52 = .ok (.iconst (-1), 1) := by decide +kernel
theorem dX4_currentCharacter_53 : decode cX4_currentCharacter 53 = .ok (.ireturn, 1) := by decide +kernel
set_option maxRecDepth 20000 in
theorem ggX4_firstError_X4_readWork : GoodIn wsX4_firstError wsX4_readWork := goodIn_r _ [7, 8, 1, 9, 10, 11, 6, 12, 2, 13, 14, 15, 16, 17, 18, 19, 20, 21, 22, 23, 24, 25, 26, 27, 28, 29, 30, 31, 32, 33, 34, 35, 36, 37, 38, 39, 40, 41, 42, 43] (by decide +kernel) (by decide +kernel)
set_option maxRecDepth 20000 in
theorem gX4_firstError_X4_readWork : GoodIn wsX4_firstError (wsV RX4 34 RX4 yX4_readWork wsX4_readWork) := goodIn_app (goodIn_of _ (by decide +kernel)) ggX4_firstError_X4_readWork
theorem dX4_firstError_0 : decode cX4_firstError 0 = .ok (.aload_n 0, 1) := by decide +kernel
theorem dX4_firstError_1 : decode cX4_firstError 1 = .ok (.iconst 0, 1) := by decide +kernel
theorem dX4_firstError_2 : decode cX4_firstError 2 = .ok (.putfield 19, 3) := by decide +kernel
theorem dX4_firstError_5 : decode cX4_firstError 5 = .ok (.aload_n 0, 1) := by decide +kernel
theorem dX4_firstError_6 : decode cX4_firstError 6 = .ok (.invokevirtual 34, 3) := by decide +kernel
theorem dX4_firstError_9 : decode cX4_firstError 9 = .ok (.istore_n 1, 1) := by decide +kernel
theorem dX4_firstError_10 : decode cX4_firstError 10 = .ok (.iconst 1, 1) := by decide +kernel
theorem dX4_firstError_11 : decode cX4_firstError 11 = .ok (.istore_n 2, 1) := by decide +kernel
theorem dX4_firstError_12 : decode cX4_firstError 12 = .ok (.iload_n 2, 1) := by decide +kernel
theorem dX4_firstError_13 : decode cX4_firstError 13 = .ok (.bipush 60, 2) := by decide +kernel
theorem dX4_firstError_15 : decode cX4_firstError 15 = .ok (.if_icmp .ge 29, 3) := by decide +kernel
theorem dX4_firstError_18 : decode cX4_firstError 18 = .ok (.iload_n 1, 1) := by decide +kernel
theorem dX4_firstError_19 : decode cX4_firstError 19 = .ok (.ifCond .eq 25, 3) := by decide +kernel
theorem dX4_firstError_22 : decode cX4_firstError 22 = .ok (.aload_n 0, 1) := by decide +kernel
theorem dX4_firstError_23 : decode cX4_firstError 23 = .ok (.getfield 19, 3) := by decide +kernel
theorem dX4_firstError_26 : decode cX4_firstError 26 = .ok (.aload_n 0, 1) := by decide +kernel
theorem dX4_firstError_27 : decode cX4_firstError 27 = .ok (.getfield 15, 3) := by decide +kernel
theorem dX4_firstError_30 : decode cX4_firstError 30 = .ok (.if_icmp .ge 14, 3) := by decide +kernel
theorem dX4_firstError_33 : decode cX4_firstError 33 = .ok (.aload_n 0, 1) := by decide +kernel
theorem dX4_firstError_34 : decode cX4_firstError 34 = .ok (.invokevirtual 34, 3) := by decide +kernel
theorem dX4_firstError_37 : decode cX4_firstError 37 = .ok (.istore_n 1, 1) := by decide +kernel
theorem dX4_firstError_38 : decode cX4_firstError 38 = .ok (.iinc 2 1, 3) := by decide +kernel
theorem dX4_firstError_41 : decode cX4_firstError 41 = .ok (.goto (-29), 3) := by decide +kernel
theorem dX4_firstError_44 : decode cX4_firstError 44 = .ok (.iload_n 1, 1) := by decide +kernel
theorem dX4_firstError_45 : decode cX4_firstError 45 = .ok (.ifCond .eq 8, 3) := by decide +kernel
theorem dX4_firstError_48 : decode cX4_firstError 48 = .ok (.bipush (-6), 2) := by decide +kernel
theorem dX4_firstError_50 : decode cX4_firstError 50 = .ok (.goto 7, 3) := by decide +kernel
theorem dX4_firstError_53 : decode cX4_firstError 53 = .ok (.aload_n 0, 1) := by decide +kernel
theorem dX4_firstError_54 : decode cX4_firstError 54 = .ok (.getfield 19, 3) := by decide +kernel
theorem dX4_firstError_57 : decode cX4_firstError 57 = .ok (.ireturn, 1) := by decide +kernel
set_option maxRecDepth 20000 in
theorem ggX4_readWork_X4_currentCharacter : GoodIn wsX4_readWork wsX4_currentCharacter := goodIn_r _ [7, 2, 8, 9, 33, 34, 35, 36, 37, 38, 39] (by decide +kernel) (by decide +kernel)
set_option maxRecDepth 20000 in
theorem gX4_readWork_X4_currentCharacter : GoodIn wsX4_readWork (wsV RX4 38 RX4 yX4_currentCharacter wsX4_currentCharacter) := goodIn_app (goodIn_of _ (by decide +kernel)) ggX4_readWork_X4_currentCharacter
set_option maxRecDepth 20000 in
theorem ggX4_readWork_X4_readField : GoodIn wsX4_readWork wsX4_readField := goodIn_r _ [13, 14, 15, 16, 17, 18, 6, 19, 2, 3, 4, 5, 7, 8, 9, 33, 34, 35, 36, 37, 38, 39] (by decide +kernel) (by decide +kernel)
set_option maxRecDepth 20000 in
theorem gX4_readWork_X4_readField : GoodIn wsX4_readWork (wsV RX4 42 RX4 yX4_readField wsX4_readField) := goodIn_app (goodIn_of _ (by decide +kernel)) ggX4_readWork_X4_readField
set_option maxRecDepth 20000 in
theorem ggX4_readWork_X4_readDepth : GoodIn wsX4_readWork wsX4_readDepth := goodIn_r _ [23, 24, 2, 25, 26, 27, 28, 3, 4, 5, 6, 7, 8, 9, 16, 17, 18, 19, 33, 34, 35, 36, 37, 38, 39] (by decide +kernel) (by decide +kernel)
set_option maxRecDepth 20000 in
theorem gX4_readWork_X4_readDepth : GoodIn wsX4_readWork (wsV RX4 45 RX4 yX4_readDepth wsX4_readDepth) := goodIn_app (goodIn_of _ (by decide +kernel)) ggX4_readWork_X4_readDepth
set_option maxRecDepth 20000 in
theorem ggX4_readWork_X4_readColour : GoodIn wsX4_readWork wsX4_readColour := goodIn_r _ [32, 24, 16, 17, 18, 6, 19, 2, 3, 4, 5, 7, 8, 9, 33, 34, 35, 36, 37, 38, 39] (by decide +kernel) (by decide +kernel)
set_option maxRecDepth 20000 in
theorem gX4_readWork_X4_readColour : GoodIn wsX4_readWork (wsV RX4 48 RX4 yX4_readColour wsX4_readColour) := goodIn_app (goodIn_of _ (by decide +kernel)) ggX4_readWork_X4_readColour
theorem dX4_readWork_0 : decode cX4_readWork 0 = .ok (.aload_n 0, 1) := by decide +kernel
theorem dX4_readWork_1 : decode cX4_readWork 1 = .ok (.aload_n 0, 1) := by decide +kernel
theorem dX4_readWork_2 : decode cX4_readWork 2 = .ok (.invokevirtual 38, 3) := by decide +kernel
theorem dX4_readWork_5 : decode cX4_readWork 5 = .ok (.putfield 22, 3) := by decide +kernel
theorem dX4_readWork_8 : decode cX4_readWork 8 = .ok (.aload_n 0, 1) := by decide +kernel
theorem dX4_readWork_9 : decode cX4_readWork 9 = .ok (.getfield 22, 3) := by decide +kernel
theorem dX4_readWork_12 : decode cX4_readWork 12 = .ok (.tableswitch 168 66 85 #[96, 168, 168, 168, 168, 168, 168, 138, 168, 168, 96, 168, 168, 168, 108, 168, 96, 168, 96, 96], 96) := by decide +kernel
theorem dX4_readWork_108 : decode cX4_readWork 108 = .ok (.aload_n 0, 1) := by decide +kernel
theorem dX4_readWork_109 : decode cX4_readWork 109 = .ok (.dup, 1) := by decide +kernel
theorem dX4_readWork_110 : decode cX4_readWork 110 = .ok (.getfield 19, 3) := by decide +kernel
theorem dX4_readWork_113 : decode cX4_readWork 113 = .ok (.iconst 1, 1) := by decide +kernel
theorem dX4_readWork_114 : decode cX4_readWork 114 = .ok (.iadd, 1) := by decide +kernel
theorem dX4_readWork_115 : decode cX4_readWork 115 = .ok (.putfield 19, 3) := by decide +kernel
theorem dX4_readWork_118 : decode cX4_readWork 118 = .ok (.iconst 1, 1) := by decide +kernel
theorem dX4_readWork_119 : decode cX4_readWork 119 = .ok (.ireturn, 1) := by decide +kernel
theorem dX4_readWork_120 : decode cX4_readWork 120 = .ok (.aload_n 0, 1) := by decide +kernel
theorem dX4_readWork_121 : decode cX4_readWork 121 = .ok (.dup, 1) := by decide +kernel
theorem dX4_readWork_122 : decode cX4_readWork 122 = .ok (.getfield 19, 3) := by decide +kernel
theorem dX4_readWork_125 : decode cX4_readWork 125 = .ok (.iconst 1, 1) := by decide +kernel
theorem dX4_readWork_126 : decode cX4_readWork 126 = .ok (.iadd, 1) := by decide +kernel
theorem dX4_readWork_127 : decode cX4_readWork 127 = .ok (.putfield 19, 3) := by decide +kernel
theorem dX4_readWork_130 : decode cX4_readWork 130 = .ok (.aload_n 0, 1) := by decide +kernel
theorem dX4_readWork_131 : decode cX4_readWork 131 = .ok (.invokevirtual 42, 3) := by decide +kernel
theorem dX4_readWork_134 : decode cX4_readWork 134 = .ok (.ifCond .eq 14, 3) := by decide +kernel
theorem dX4_readWork_137 : decode cX4_readWork 137 = .ok (.aload_n 0, 1) := by decide +kernel
theorem dX4_readWork_138 : decode cX4_readWork 138 = .ok (.invokevirtual 45, 3) := by decide +kernel
theorem dX4_readWork_141 : decode cX4_readWork 141 = .ok (.ifCond .eq 7, 3) := by decide +kernel
theorem dX4_readWork_144 : decode cX4_readWork 144 = .ok (.iconst 1, 1) := by decide +kernel
theorem dX4_readWork_145 : decode cX4_readWork 145 = .ok (.goto 4, 3) := by decide +kernel
theorem dX4_readWork_148 : decode cX4_readWork 148 = .ok (.iconst 0, 1) := by decide +kernel
theorem dX4_readWork_149 : decode cX4_readWork 149 = .ok (.ireturn, 1) := by decide +kernel
theorem dX4_readWork_150 : decode cX4_readWork 150 = .ok (.aload_n 0, 1) := by decide +kernel
theorem dX4_readWork_151 : decode cX4_readWork 151 = .ok (.dup, 1) := by decide +kernel
theorem dX4_readWork_152 : decode cX4_readWork 152 = .ok (.getfield 19, 3) := by decide +kernel
theorem dX4_readWork_155 : decode cX4_readWork 155 = .ok (.iconst 1, 1) := by decide +kernel
theorem dX4_readWork_156 : decode cX4_readWork 156 = .ok (.iadd, 1) := by decide +kernel
theorem dX4_readWork_157 : decode cX4_readWork 157 = .ok (.putfield 19, 3) := by decide +kernel
theorem dX4_readWork_160 : decode cX4_readWork 160 = .ok (.aload_n 0, 1) := by decide +kernel
theorem dX4_readWork_161 : decode cX4_readWork 161 = .ok (.invokevirtual 42, 3) := by decide +kernel
theorem dX4_readWork_164 : decode cX4_readWork 164 = .ok (.ifCond .eq 14, 3) := by decide +kernel
theorem dX4_readWork_167 : decode cX4_readWork 167 = .ok (.aload_n 0, 1) := by decide +kernel
theorem dX4_readWork_168 : decode cX4_readWork 168 = .ok (.invokevirtual 48, 3) := by decide +kernel
theorem dX4_readWork_171 : decode cX4_readWork 171 = .ok (.ifCond .eq 7, 3) := by decide +kernel
theorem dX4_readWork_174 : decode cX4_readWork 174 = .ok (.iconst 1, 1) := by decide +kernel
theorem dX4_readWork_175 : decode cX4_readWork 175 = .ok (.goto 4, 3) := by decide +kernel
theorem dX4_readWork_178 : decode cX4_readWork 178 = .ok (.iconst 0, 1) := by decide +kernel
theorem dX4_readWork_179 : decode cX4_readWork 179 = .ok (.ireturn, 1) := by decide +kernel
theorem dX4_readWork_180 : decode cX4_readWork 180 = .ok (.iconst 0, 1) := by decide +kernel
theorem dX4_readWork_181 : decode cX4_readWork 181 = .ok (.ireturn, 1) := by decide +kernel
set_option maxRecDepth 20000 in
theorem ggX4_readField_X4_readDigit : GoodIn wsX4_readField wsX4_readDigit := goodIn_r _ [7, 8, 9, 10, 11, 6, 12, 13, 14, 15, 16, 17, 18, 19, 20, 21] (by decide +kernel) (by decide +kernel)
set_option maxRecDepth 20000 in
theorem gX4_readField_X4_readDigit : GoodIn wsX4_readField (wsV RX4 51 RX4 yX4_readDigit wsX4_readDigit) := goodIn_app (goodIn_of _ (by decide +kernel)) ggX4_readField_X4_readDigit
theorem dX4_readField_0 : decode cX4_readField 0 = .ok (.aload_n 0, 1) := by decide +kernel
theorem dX4_readField_1 : decode cX4_readField 1 = .ok (.aload_n 0, 1) := by decide +kernel
theorem dX4_readField_2 : decode cX4_readField 2 = .ok (.iconst 0, 1) := by decide +kernel
theorem dX4_readField_3 : decode cX4_readField 3 = .ok (.bipush 7, 2) := by decide +kernel
theorem dX4_readField_5 : decode cX4_readField 5 = .ok (.invokevirtual 51, 3) := by decide +kernel
theorem dX4_readField_8 : decode cX4_readField 8 = .ok (.putfield 25, 3) := by decide +kernel
theorem dX4_readField_11 : decode cX4_readField 11 = .ok (.aload_n 0, 1) := by decide +kernel
theorem dX4_readField_12 : decode cX4_readField 12 = .ok (.getfield 25, 3) := by decide +kernel
theorem dX4_readField_15 : decode cX4_readField 15 = .ok (.iconst (-1), 1) := by decide +kernel
theorem dX4_readField_16 : decode cX4_readField 16 = .ok (.if_icmp .ne 5, 3) := by decide +kernel
theorem dX4_readField_19 : decode cX4_readField 19 = .ok (.iconst 0, 1) := by decide +kernel
theorem dX4_readField_20 : decode cX4_readField 20 = .ok (.ireturn, 1) := by decide +kernel
theorem dX4_readField_21 : decode cX4_readField 21 = .ok (.aload_n 0, 1) := by decide +kernel
theorem dX4_readField_22 : decode cX4_readField 22 = .ok (.aload_n 0, 1) := by decide +kernel
theorem dX4_readField_23 : decode cX4_readField 23 = .ok (.iconst 0, 1) := by decide +kernel
theorem dX4_readField_24 : decode cX4_readField 24 = .ok (.bipush 7, 2) := by decide +kernel
theorem dX4_readField_26 : decode cX4_readField 26 = .ok (.invokevirtual 51, 3) := by decide +kernel
theorem dX4_readField_29 : decode cX4_readField 29 = .ok (.putfield 28, 3) := by decide +kernel
theorem dX4_readField_32 : decode cX4_readField 32 = .ok (.aload_n 0, 1) := by decide +kernel
theorem dX4_readField_33 : decode cX4_readField 33 = .ok (.getfield 28, 3) := by decide +kernel
theorem dX4_readField_36 : decode cX4_readField 36 = .ok (.iconst (-1), 1) := by decide +kernel
theorem dX4_readField_37 : decode cX4_readField 37 = .ok (.if_icmp .eq 7, 3) := by decide +kernel
theorem dX4_readField_40 : decode cX4_readField 40 = .ok (.iconst 1, 1) := by decide +kernel
theorem dX4_readField_41 : decode cX4_readField 41 = .ok (.goto 4, 3) := by decide +kernel
theorem dX4_readField_44 : decode cX4_readField 44 = .ok (.iconst 0, 1) := by decide +kernel
theorem dX4_readField_45 : decode cX4_readField 45 = .ok (.ireturn, 1) := by decide +kernel
set_option maxRecDepth 20000 in
theorem ggX4_readColour_X4_readDigit : GoodIn wsX4_readColour wsX4_readDigit := goodIn_r _ [6, 7, 8, 9, 10, 5, 11, 12, 13, 14, 15, 16, 17, 18, 19, 20] (by decide +kernel) (by decide +kernel)
set_option maxRecDepth 20000 in
theorem gX4_readColour_X4_readDigit : GoodIn wsX4_readColour (wsV RX4 51 RX4 yX4_readDigit wsX4_readDigit) := goodIn_app (goodIn_of _ (by decide +kernel)) ggX4_readColour_X4_readDigit
theorem dX4_readColour_0 : decode cX4_readColour 0 = .ok (.aload_n 0, 1) := by decide +kernel
theorem dX4_readColour_1 : decode cX4_readColour 1 = .ok (.aload_n 0, 1) := by decide +kernel
theorem dX4_readColour_2 : decode cX4_readColour 2 = .ok (.iconst 1, 1) := by decide +kernel
theorem dX4_readColour_3 : decode cX4_readColour 3 = .ok (.iconst 5, 1) := by decide +kernel
theorem dX4_readColour_4 : decode cX4_readColour 4 = .ok (.invokevirtual 51, 3) := by decide +kernel
theorem dX4_readColour_7 : decode cX4_readColour 7 = .ok (.putfield 31, 3) := by decide +kernel
theorem dX4_readColour_10 : decode cX4_readColour 10 = .ok (.aload_n 0, 1) := by decide +kernel
theorem dX4_readColour_11 : decode cX4_readColour 11 = .ok (.getfield 31, 3) := by decide +kernel
theorem dX4_readColour_14 : decode cX4_readColour 14 = .ok (.iconst (-1), 1) := by decide +kernel
theorem dX4_readColour_15 : decode cX4_readColour 15 = .ok (.if_icmp .eq 7, 3) := by decide +kernel
theorem dX4_readColour_18 : decode cX4_readColour 18 = .ok (.iconst 1, 1) := by decide +kernel
theorem dX4_readColour_19 : decode cX4_readColour 19 = .ok (.goto 4, 3) := by decide +kernel
theorem dX4_readColour_22 : decode cX4_readColour 22 = .ok (.iconst 0, 1) := by decide +kernel
theorem dX4_readColour_23 : decode cX4_readColour 23 = .ok (.ireturn, 1) := by decide +kernel
set_option maxRecDepth 20000 in
theorem ggX4_readDepth_X4_currentCharacter : GoodIn wsX4_readDepth wsX4_currentCharacter := goodIn_r _ [11, 2, 12, 13, 18, 19, 20, 21, 22, 23, 24] (by decide +kernel) (by decide +kernel)
set_option maxRecDepth 20000 in
theorem gX4_readDepth_X4_currentCharacter : GoodIn wsX4_readDepth (wsV RX4 38 RX4 yX4_currentCharacter wsX4_currentCharacter) := goodIn_app (goodIn_of _ (by decide +kernel)) ggX4_readDepth_X4_currentCharacter
set_option maxRecDepth 20000 in
theorem ggX4_readDepth_X4_readDigit : GoodIn wsX4_readDepth wsX4_readDigit := goodIn_r _ [17, 2, 7, 8, 9, 10, 11, 12, 13, 18, 19, 20, 21, 22, 23, 24] (by decide +kernel) (by decide +kernel)
set_option maxRecDepth 20000 in
theorem gX4_readDepth_X4_readDigit : GoodIn wsX4_readDepth (wsV RX4 51 RX4 yX4_readDigit wsX4_readDigit) := goodIn_app (goodIn_of _ (by decide +kernel)) ggX4_readDepth_X4_readDigit
theorem dX4_readDepth_0 : decode cX4_readDepth 0 = .ok (.aload_n 0, 1) := by decide +kernel
theorem dX4_readDepth_1 : decode cX4_readDepth 1 = .ok (.iconst 0, 1) := by decide +kernel
theorem dX4_readDepth_2 : decode cX4_readDepth 2 = .ok (.putfield 31, 3) := by decide +kernel
theorem dX4_readDepth_5 : decode cX4_readDepth 5 = .ok (.aload_n 0, 1) := by decide +kernel
theorem dX4_readDepth_6 : decode cX4_readDepth 6 = .ok (.invokevirtual 38, 3) := by decide +kernel
theorem dX4_readDepth_9 : decode cX4_readDepth 9 = .ok (.bipush 58, 2) := by decide +kernel
theorem dX4_readDepth_11 : decode cX4_readDepth 11 = .ok (.if_icmp .eq 5, 3) := by decide +kernel
theorem dX4_readDepth_14 : decode cX4_readDepth 14 = .ok (.iconst 1, 1) := by decide +kernel
theorem dX4_readDepth_15 : decode cX4_readDepth 15 = .ok (.ireturn, 1) := by decide +kernel
theorem dX4_readDepth_16 : decode cX4_readDepth 16 = .ok (.aload_n 0, 1) := by decide +kernel
theorem dX4_readDepth_17 : decode cX4_readDepth 17 = .ok (.dup, 1) := by decide +kernel
theorem dX4_readDepth_18 : decode cX4_readDepth 18 = .ok (.getfield 19, 3) := by decide +kernel
theorem dX4_readDepth_21 : decode cX4_readDepth 21 = .ok (.iconst 1, 1) := by decide +kernel
theorem dX4_readDepth_22 : decode cX4_readDepth 22 = .ok (.iadd, 1) := by decide +kernel
theorem dX4_readDepth_23 : decode cX4_readDepth 23 = .ok (.putfield 19, 3) := by decide +kernel
theorem dX4_readDepth_26 : decode cX4_readDepth 26 = .ok (.aload_n 0, 1) := by decide +kernel
theorem dX4_readDepth_27 : decode cX4_readDepth 27 = .ok (.aload_n 0, 1) := by decide +kernel
theorem dX4_readDepth_28 : decode cX4_readDepth 28 = .ok (.iconst 1, 1) := by decide +kernel
theorem dX4_readDepth_29 : decode cX4_readDepth 29 = .ok (.bipush 9, 2) := by decide +kernel
theorem dX4_readDepth_31 : decode cX4_readDepth 31 = .ok (.invokevirtual 51, 3) := by decide +kernel
theorem dX4_readDepth_34 : decode cX4_readDepth 34 = .ok (.putfield 31, 3) := by decide +kernel
theorem dX4_readDepth_37 : decode cX4_readDepth 37 = .ok (.aload_n 0, 1) := by decide +kernel
theorem dX4_readDepth_38 : decode cX4_readDepth 38 = .ok (.getfield 31, 3) := by decide +kernel
theorem dX4_readDepth_41 : decode cX4_readDepth 41 = .ok (.iconst (-1), 1) := by decide +kernel
theorem dX4_readDepth_42 : decode cX4_readDepth 42 = .ok (.if_icmp .ne 5, 3) := by decide +kernel
theorem dX4_readDepth_45 : decode cX4_readDepth 45 = .ok (.iconst 0, 1) := by decide +kernel
theorem dX4_readDepth_46 : decode cX4_readDepth 46 = .ok (.ireturn, 1) := by decide +kernel
theorem dX4_readDepth_47 : decode cX4_readDepth 47 = .ok (.aload_n 0, 1) := by decide +kernel
theorem dX4_readDepth_48 : decode cX4_readDepth 48 = .ok (.iconst 0, 1) := by decide +kernel
theorem dX4_readDepth_49 : decode cX4_readDepth 49 = .ok (.bipush 9, 2) := by decide +kernel
theorem dX4_readDepth_51 : decode cX4_readDepth 51 = .ok (.bipush 64, 2) := by decide +kernel
theorem dX4_readDepth_53 : decode cX4_readDepth 53 = .ok (.bipush 10, 2) := by decide +kernel
theorem dX4_readDepth_55 : decode cX4_readDepth 55 = .ok (.aload_n 0, 1) := by decide +kernel
theorem dX4_readDepth_56 : decode cX4_readDepth 56 = .ok (.getfield 31, 3) := by decide +kernel
theorem dX4_readDepth_59 : decode cX4_readDepth 59 = .ok (.imul, 1) := by decide +kernel
theorem dX4_readDepth_60 : decode cX4_readDepth 60 = .ok (.isub, 1) := by decide +kernel
theorem dX4_readDepth_61 : decode cX4_readDepth 61 = .ok (.invokestatic 55, 3) := by decide +kernel
theorem dX4_readDepth_64 : decode cX4_readDepth 64 = .ok (.invokevirtual 51, 3) := by decide +kernel
theorem dX4_readDepth_67 : decode cX4_readDepth 67 = .ok (.istore_n 1, 1) := by decide +kernel
theorem dX4_readDepth_68 : decode cX4_readDepth 68 = .ok (.aload_n 0, 1) := by decide +kernel
theorem dX4_readDepth_69 : decode cX4_readDepth 69 = .ok (.iload_n 1, 1) := by decide +kernel
theorem dX4_readDepth_70 : decode cX4_readDepth 70 = .ok (.iconst (-1), 1) := by decide +kernel
theorem dX4_readDepth_71 : decode cX4_readDepth 71 = .ok (.if_icmp .ne 10, 3) := by decide +kernel
theorem dX4_readDepth_74 : decode cX4_readDepth 74 = .ok (.aload_n 0, 1) := by decide +kernel
theorem dX4_readDepth_75 : decode cX4_readDepth 75 = .ok (.getfield 31, 3) := by decide +kernel
theorem dX4_readDepth_78 : decode cX4_readDepth 78 = .ok (.goto 12, 3) := by decide +kernel
theorem dX4_readDepth_81 : decode cX4_readDepth 81 = .ok (.bipush 10, 2) := by decide +kernel
theorem dX4_readDepth_83 : decode cX4_readDepth 83 = .ok (.aload_n 0, 1) := by decide +kernel
theorem dX4_readDepth_84 : decode cX4_readDepth 84 = .ok (.getfield 31, 3) := by decide +kernel
theorem dX4_readDepth_87 : decode cX4_readDepth 87 = .ok (.imul, 1) := by decide +kernel
theorem dX4_readDepth_88 : decode cX4_readDepth 88 = .ok (.iload_n 1, 1) := by decide +kernel
theorem dX4_readDepth_89 : decode cX4_readDepth 89 = .ok (.iadd, 1) := by decide +kernel
theorem dX4_readDepth_90 : decode cX4_readDepth 90 = .ok (.putfield 31, 3) := by decide +kernel
theorem dX4_readDepth_93 : decode cX4_readDepth 93 = .ok (.iconst 1, 1) := by decide +kernel
theorem dX4_readDepth_94 : decode cX4_readDepth 94 = .ok (.ireturn, 1) := by decide +kernel
set_option maxRecDepth 20000 in
theorem ggX4_readDigit_X4_currentCharacter : GoodIn wsX4_readDigit wsX4_currentCharacter := goodIn_r _ [6, 1, 7, 8, 9, 10, 11, 12, 13, 14, 15] (by decide +kernel) (by decide +kernel)
set_option maxRecDepth 20000 in
theorem gX4_readDigit_X4_currentCharacter : GoodIn wsX4_readDigit (wsV RX4 38 RX4 yX4_currentCharacter wsX4_currentCharacter) := goodIn_app (goodIn_of _ (by decide +kernel)) ggX4_readDigit_X4_currentCharacter
theorem dX4_readDigit_0 : decode cX4_readDigit 0 = .ok (.aload_n 0, 1) := by decide +kernel
theorem dX4_readDigit_1 : decode cX4_readDigit 1 = .ok (.invokevirtual 38, 3) := by decide +kernel
theorem dX4_readDigit_4 : decode cX4_readDigit 4 = .ok (.bipush 48, 2) := by decide +kernel
theorem dX4_readDigit_6 : decode cX4_readDigit 6 = .ok (.isub, 1) := by decide +kernel
theorem dX4_readDigit_7 : decode cX4_readDigit 7 = .ok (.istore_n 3, 1) := by decide +kernel
theorem dX4_readDigit_8 : decode cX4_readDigit 8 = .ok (.iload_n 3, 1) := by decide +kernel
theorem dX4_readDigit_9 : decode cX4_readDigit 9 = .ok (.iload_n 1, 1) := by decide +kernel
theorem dX4_readDigit_10 : decode cX4_readDigit 10 = .ok (.if_icmp .lt 8, 3) := by decide +kernel
theorem dX4_readDigit_13 : decode cX4_readDigit 13 = .ok (.iload_n 3, 1) := by decide +kernel
theorem dX4_readDigit_14 : decode cX4_readDigit 14 = .ok (.iload_n 2, 1) := by decide +kernel
theorem dX4_readDigit_15 : decode cX4_readDigit 15 = .ok (.if_icmp .le 5, 3) := by decide +kernel
theorem dX4_readDigit_18 : decode cX4_readDigit 18 = .ok (.iconst (-1), 1) := by decide +kernel
theorem dX4_readDigit_19 : decode cX4_readDigit 19 = .ok (.ireturn, 1) := by decide +kernel
theorem dX4_readDigit_20 : decode cX4_readDigit 20 = .ok (.aload_n 0, 1) := by decide +kernel
theorem dX4_readDigit_21 : decode cX4_readDigit 21 = .ok (.dup, 1) := by decide +kernel
theorem dX4_readDigit_22 : decode cX4_readDigit 22 = .ok (.getfield 19, 3) := by decide +kernel
theorem dX4_readDigit_25 : decode cX4_readDigit 25 = .ok (.iconst 1, 1) := by decide +kernel
theorem dX4_readDigit_26 : decode cX4_readDigit 26 = .ok (.iadd, 1) := by decide +kernel
theorem dX4_readDigit_27 : decode cX4_readDigit 27 = .ok (.putfield 19, 3) := by decide +kernel
theorem dX4_readDigit_30 : decode cX4_readDigit 30 = .ok (.iload_n 3, 1) := by decide +kernel
theorem dX4_readDigit_31 : decode cX4_readDigit 31 = .ok (.ireturn, 1) := by decide +kernel
