theorem dX0_init_0 : decode cX0_init 0 = .ok (.aload_n 0, 1) := by decide +kernel
theorem dX0_init_1 : decode cX0_init 1 = .ok (.invokespecial 3, 3) := by decide +kernel
theorem dX0_init_4 : decode cX0_init 4 = .ok (.aload_n 0, 1) := by decide +kernel
theorem dX0_init_5 : decode cX0_init 5 = .ok (.sipush 1572, 3) := by decide +kernel
theorem dX0_init_8 : decode cX0_init 8 = .ok (.newarray .int, 2) := by decide +kernel
theorem dX0_init_10 : decode cX0_init 10 = .ok (.putfield 9, 3) := by decide +kernel
theorem dX0_init_13 : decode cX0_init 13 = .ok (.aload_n 0, 1) := by decide +kernel
theorem dX0_init_14 : decode cX0_init 14 = .ok (.iconst 0, 1) := by decide +kernel
theorem dX0_init_15 : decode cX0_init 15 = .ok (.putfield 15, 3) := by decide +kernel
theorem dX0_init_18 : decode cX0_init 18 = .ok (.return_, 1) := by decide +kernel
theorem dX0_states_0 : decode cX0_states 0 = .ok (.aload_n 0, 1) := by decide +kernel
theorem dX0_states_1 : decode cX0_states 1 = .ok (.getfield 15, 3) := by decide +kernel
theorem dX0_states_4 : decode cX0_states 4 = .ok (.ireturn, 1) := by decide +kernel
set_option maxRecDepth 20000 in
theorem ggX0_record_X4_copyCells : GoodIn wsX0_record wsX4_copyCells := goodIn_r _ [5, 6, 7, 8, 9] (by decide +kernel) (by decide +kernel)
set_option maxRecDepth 20000 in
theorem gX0_record_X4_copyCells_n19 : GoodIn wsX0_record (wsX4_copyCells) := ggX0_record_X4_copyCells
set_option maxRecDepth 20000 in
theorem ggX0_record_X2_copyTo : GoodIn wsX0_record wsX2_copyTo := goodIn_r _ [14, 15, 3, 4, 5, 6, 7, 8, 9, 18] (by decide +kernel) (by decide +kernel)
set_option maxRecDepth 20000 in
theorem gX0_record_X2_copyTo : GoodIn wsX0_record (wsV RX0 23 RX2 yX2_copyTo wsX2_copyTo) := goodIn_app (goodIn_of _ (by decide +kernel)) ggX0_record_X2_copyTo
theorem dX0_record_0 : decode cX0_record 0 = .ok (.aload_n 0, 1) := by decide +kernel
theorem dX0_record_1 : decode cX0_record 1 = .ok (.getfield 15, 3) := by decide +kernel
theorem dX0_record_4 : decode cX0_record 4 = .ok (.iconst 4, 1) := by decide +kernel
theorem dX0_record_5 : decode cX0_record 5 = .ok (.if_icmp .lt 26, 3) := by decide +kernel
theorem dX0_record_8 : decode cX0_record 8 = .ok (.aload_n 0, 1) := by decide +kernel
theorem dX0_record_9 : decode cX0_record 9 = .ok (.getfield 9, 3) := by decide +kernel
theorem dX0_record_12 : decode cX0_record 12 = .ok (.sipush 393, 3) := by decide +kernel
theorem dX0_record_15 : decode cX0_record 15 = .ok (.aload_n 0, 1) := by decide +kernel
theorem dX0_record_16 : decode cX0_record 16 = .ok (.getfield 9, 3) := by decide +kernel
theorem dX0_record_19 : decode cX0_record 19 = .ok (.iconst 0, 1) := by decide +kernel
theorem dX0_record_20 : decode cX0_record 20 = .ok (.sipush 1179, 3) := by decide +kernel
theorem dX0_record_23 : decode cX0_record 23 = .ok (.invokestatic 19, 3) := by decide +kernel
theorem dX0_record_26 : decode cX0_record 26 = .ok (.aload_n 0, 1) := by decide +kernel
theorem dX0_record_27 : decode cX0_record 27 = .ok (.iconst 3, 1) := by decide +kernel
theorem dX0_record_28 : decode cX0_record 28 = .ok (.putfield 15, 3) := by decide +kernel
theorem dX0_record_31 : decode cX0_record 31 = .ok (.aload_n 1, 1) := by decide +kernel
theorem dX0_record_32 : decode cX0_record 32 = .ok (.aload_n 0, 1) := by decide +kernel
theorem dX0_record_33 : decode cX0_record 33 = .ok (.getfield 9, 3) := by decide +kernel
theorem dX0_record_36 : decode cX0_record 36 = .ok (.aload_n 0, 1) := by decide +kernel
theorem dX0_record_37 : decode cX0_record 37 = .ok (.getfield 15, 3) := by decide +kernel
theorem dX0_record_40 : decode cX0_record 40 = .ok (.sipush 393, 3) := by decide +kernel
theorem dX0_record_43 : decode cX0_record 43 = .ok (.imul, 1) := by decide +kernel
theorem dX0_record_44 : decode cX0_record 44 = .ok (.invokevirtual 23, 3) := by decide +kernel
theorem dX0_record_47 : decode cX0_record 47 = .ok (.aload_n 0, 1) := by decide +kernel
theorem dX0_record_48 : decode cX0_record 48 = .ok (.dup, 1) := by decide +kernel
theorem dX0_record_49 : decode cX0_record 49 = .ok (.getfield 15, 3) := by decide +kernel
theorem dX0_record_52 : decode cX0_record 52 = .ok (.iconst 1, 1) := by decide +kernel
theorem dX0_record_53 : decode cX0_record 53 = .ok (.iadd, 1) := by decide +kernel
theorem dX0_record_54 : decode cX0_record 54 = .ok (.putfield 15, 3) := by decide +kernel
theorem dX0_record_57 : decode cX0_record 57 = .ok (.return_, 1) := by decide +kernel
set_option maxRecDepth 20000 in
theorem ggX0_giveBack_X2_copyFrom : GoodIn wsX0_giveBack wsX2_copyFrom := goodIn_r _ [7, 8, 9, 10, 11, 12, 13, 14, 15, 18] (by decide +kernel) (by decide +kernel)
set_option maxRecDepth 20000 in
theorem gX0_giveBack_X2_copyFrom : GoodIn wsX0_giveBack (wsV RX0 29 RX2 yX2_copyFrom wsX2_copyFrom) := goodIn_app (goodIn_of _ (by decide +kernel)) ggX0_giveBack_X2_copyFrom
theorem dX0_giveBack_0 : decode cX0_giveBack 0 = .ok (.aload_n 0, 1) := by decide +kernel
theorem dX0_giveBack_1 : decode cX0_giveBack 1 = .ok (.getfield 15, 3) := by decide +kernel
theorem dX0_giveBack_4 : decode cX0_giveBack 4 = .ok (.ifCond .le 29, 3) := by decide +kernel
theorem dX0_giveBack_7 : decode cX0_giveBack 7 = .ok (.aload_n 0, 1) := by decide +kernel
theorem dX0_giveBack_8 : decode cX0_giveBack 8 = .ok (.dup, 1) := by decide +kernel
theorem dX0_giveBack_9 : decode cX0_giveBack 9 = .ok (.getfield 15, 3) := by decide +kernel
theorem dX0_giveBack_12 : decode cX0_giveBack 12 = .ok (.iconst 1, 1) := by decide +kernel
theorem dX0_giveBack_13 : decode cX0_giveBack 13 = .ok (.isub, 1) := by decide +kernel
theorem dX0_giveBack_14 : decode cX0_giveBack 14 = .ok (.putfield 15, 3) := by decide +kernel
theorem dX0_giveBack_17 : decode cX0_giveBack 17 = .ok (.aload_n 1, 1) := by decide +kernel
theorem dX0_giveBack_18 : decode cX0_giveBack 18 = .ok (.aload_n 0, 1) := by decide +kernel
theorem dX0_giveBack_19 : decode cX0_giveBack 19 = .ok (.getfield 9, 3) := by decide +kernel
theorem dX0_giveBack_22 : decode cX0_giveBack 22 = .ok (.aload_n 0, 1) := by decide +kernel
theorem dX0_giveBack_23 : decode cX0_giveBack 23 = .ok (.getfield 15, 3) := by decide +kernel
theorem dX0_giveBack_26 : decode cX0_giveBack 26 = .ok (.sipush 393, 3) := by decide +kernel
theorem dX0_giveBack_29 : decode cX0_giveBack 29 = .ok (.imul, 1) := by decide +kernel
theorem dX0_giveBack_30 : decode cX0_giveBack 30 = .ok (.invokevirtual 29, 3) := by decide +kernel
theorem dX0_giveBack_33 : decode cX0_giveBack 33 = .ok (.return_, 1) := by decide +kernel
theorem dX1_init_0 : decode cX1_init 0 = .ok (.aload_n 0, 1) := by decide +kernel
theorem dX1_init_1 : decode cX1_init 1 = .ok (.invokespecial 3, 3) := by decide +kernel
theorem dX1_init_4 : decode cX1_init 4 = .ok (.aload_n 0, 1) := by decide +kernel
theorem dX1_init_5 : decode cX1_init 5 = .ok (.iconst 4, 1) := by decide +kernel
theorem dX1_init_6 : decode cX1_init 6 = .ok (.newarray .int, 2) := by decide +kernel
theorem dX1_init_8 : decode cX1_init 8 = .ok (.putfield 9, 3) := by decide +kernel
theorem dX1_init_11 : decode cX1_init 11 = .ok (.aload_n 0, 1) := by decide +kernel
theorem dX1_init_12 : decode cX1_init 12 = .ok (.iconst 4, 1) := by decide +kernel
theorem dX1_init_13 : decode cX1_init 13 = .ok (.newarray .int, 2) := by decide +kernel
theorem dX1_init_15 : decode cX1_init 15 = .ok (.putfield 15, 3) := by decide +kernel
theorem dX1_init_18 : decode cX1_init 18 = .ok (.aload_n 0, 1) := by decide +kernel
theorem dX1_init_19 : decode cX1_init 19 = .ok (.iconst 4, 1) := by decide +kernel
theorem dX1_init_20 : decode cX1_init 20 = .ok (.newarray .int, 2) := by decide +kernel
theorem dX1_init_22 : decode cX1_init 22 = .ok (.putfield 18, 3) := by decide +kernel
theorem dX1_init_25 : decode cX1_init 25 = .ok (.aload_n 0, 1) := by decide +kernel
theorem dX1_init_26 : decode cX1_init 26 = .ok (.bipush 64, 2) := by decide +kernel
theorem dX1_init_28 : decode cX1_init 28 = .ok (.newarray .int, 2) := by decide +kernel
theorem dX1_init_30 : decode cX1_init 30 = .ok (.putfield 21, 3) := by decide +kernel
theorem dX1_init_33 : decode cX1_init 33 = .ok (.aload_n 0, 1) := by decide +kernel
theorem dX1_init_34 : decode cX1_init 34 = .ok (.bipush 64, 2) := by decide +kernel
theorem dX1_init_36 : decode cX1_init 36 = .ok (.newarray .int, 2) := by decide +kernel
theorem dX1_init_38 : decode cX1_init 38 = .ok (.putfield 24, 3) := by decide +kernel
theorem dX1_init_41 : decode cX1_init 41 = .ok (.aload_n 0, 1) := by decide +kernel
theorem dX1_init_42 : decode cX1_init 42 = .ok (.bipush 64, 2) := by decide +kernel
theorem dX1_init_44 : decode cX1_init 44 = .ok (.newarray .int, 2) := by decide +kernel
theorem dX1_init_46 : decode cX1_init 46 = .ok (.putfield 27, 3) := by decide +kernel
theorem dX1_init_49 : decode cX1_init 49 = .ok (.aload_n 0, 1) := by decide +kernel
theorem dX1_init_50 : decode cX1_init 50 = .ok (.sipush 2560, 3) := by decide +kernel
theorem dX1_init_53 : decode cX1_init 53 = .ok (.newarray .int, 2) := by decide +kernel
theorem dX1_init_55 : decode cX1_init 55 = .ok (.putfield 30, 3) := by decide +kernel
theorem dX1_init_58 : decode cX1_init 58 = .ok (.aload_n 0, 1) := by decide +kernel
theorem dX1_init_59 : decode cX1_init 59 = .ok (.sipush 2560, 3) := by decide +kernel
theorem dX1_init_62 : decode cX1_init 62 = .ok (.newarray .int, 2) := by decide +kernel
theorem dX1_init_64 : decode cX1_init 64 = .ok (.putfield 33, 3) := by decide +kernel
theorem dX1_init_67 : decode cX1_init 67 = .ok (.aload_n 0, 1) := by decide +kernel
theorem dX1_init_68 : decode cX1_init 68 = .ok (.iconst 4, 1) := by decide +kernel
theorem dX1_init_69 : decode cX1_init 69 = .ok (.newarray .int, 2) := by decide +kernel
theorem dX1_init_71 : decode cX1_init 71 = .ok (.putfield 36, 3) := by decide +kernel
theorem dX1_init_74 : decode cX1_init 74 = .ok (.return_, 1) := by decide +kernel
set_option maxRecDepth 20000 in
theorem ggX1_layOut_X2_settingOf : GoodIn wsX1_layOut wsX2_settingOf := goodIn_r _ [13, 14, 98] (by decide +kernel) (by decide +kernel)
set_option maxRecDepth 20000 in
theorem gX1_layOut_X2_settingOf : GoodIn wsX1_layOut (wsV RX1 39 RX2 yX2_settingOf wsX2_settingOf) := goodIn_app (goodIn_of _ (by decide +kernel)) ggX1_layOut_X2_settingOf
set_option maxRecDepth 20000 in
theorem ggX1_layOut_X2_blocksOf : GoodIn wsX1_layOut wsX2_blocksOf := goodIn_r _ [18, 14, 19, 20, 21, 98] (by decide +kernel) (by decide +kernel)
set_option maxRecDepth 20000 in
theorem gX1_layOut_X2_blocksOf : GoodIn wsX1_layOut (wsV RX1 62 RX2 yX2_blocksOf wsX2_blocksOf) := goodIn_app (goodIn_of _ (by decide +kernel)) ggX1_layOut_X2_blocksOf
set_option maxRecDepth 20000 in
theorem ggX1_layOut_X1_layBlock : GoodIn wsX1_layOut wsX1_layBlock := goodIn_r _ [26, 27, 5, 28, 7, 29, 30, 31, 25, 32, 19, 20, 21, 33, 34, 35, 12, 36, 14, 37, 38, 39, 40, 41, 42, 43, 44, 45, 46, 1, 47, 48, 49, 50, 2, 51, 52, 53, 54, 4, 55, 56, 57, 58, 59, 60, 61, 62, 63, 64, 65, 66, 67, 68, 6, 69, 70, 71, 72, 73, 74, 75, 76, 77, 78, 79, 3, 80, 81, 82, 83, 84, 85, 86, 87, 88, 89, 90, 91, 92, 93, 94, 95, 96, 97, 98] (by decide +kernel) (by decide +kernel)
set_option maxRecDepth 20000 in
theorem gX1_layOut_X1_layBlock : GoodIn wsX1_layOut (wsV RX1 65 RX1 yX1_layBlock wsX1_layBlock) := goodIn_app (goodIn_of _ (by decide +kernel)) ggX1_layOut_X1_layBlock
theorem dX1_layOut_0 : decode cX1_layOut 0 = .ok (.aload_n 0, 1) := by decide +kernel
theorem dX1_layOut_1 : decode cX1_layOut 1 = .ok (.aload_n 1, 1) := by decide +kernel
theorem dX1_layOut_2 : decode cX1_layOut 2 = .ok (.iconst 0, 1) := by decide +kernel
theorem dX1_layOut_3 : decode cX1_layOut 3 = .ok (.invokevirtual 39, 3) := by decide +kernel
theorem dX1_layOut_6 : decode cX1_layOut 6 = .ok (.putfield 45, 3) := by decide +kernel
theorem dX1_layOut_9 : decode cX1_layOut 9 = .ok (.aload_n 0, 1) := by decide +kernel
theorem dX1_layOut_10 : decode cX1_layOut 10 = .ok (.aload_n 1, 1) := by decide +kernel
theorem dX1_layOut_11 : decode cX1_layOut 11 = .ok (.iconst 1, 1) := by decide +kernel
theorem dX1_layOut_12 : decode cX1_layOut 12 = .ok (.invokevirtual 39, 3) := by decide +kernel
theorem dX1_layOut_15 : decode cX1_layOut 15 = .ok (.putfield 49, 3) := by decide +kernel
theorem dX1_layOut_18 : decode cX1_layOut 18 = .ok (.aload_n 0, 1) := by decide +kernel
theorem dX1_layOut_19 : decode cX1_layOut 19 = .ok (.aload_n 1, 1) := by decide +kernel
theorem dX1_layOut_20 : decode cX1_layOut 20 = .ok (.iconst 3, 1) := by decide +kernel
theorem dX1_layOut_21 : decode cX1_layOut 21 = .ok (.invokevirtual 39, 3) := by decide +kernel
theorem dX1_layOut_24 : decode cX1_layOut 24 = .ok (.iconst 1, 1) := by decide +kernel
theorem dX1_layOut_25 : decode cX1_layOut 25 = .ok (.if_icmp .ne 7, 3) := by decide +kernel
theorem dX1_layOut_28 : decode cX1_layOut 28 = .ok (.iconst 1, 1) := by decide +kernel
theorem dX1_layOut_29 : decode cX1_layOut 29 = .ok (.goto 4, 3) := by decide +kernel
theorem dX1_layOut_32 : decode cX1_layOut 32 = .ok (.iconst 0, 1) := by decide +kernel
theorem dX1_layOut_33 : decode cX1_layOut 33 = .ok (.putfield 52, 3) := by decide +kernel
theorem dX1_layOut_36 : decode cX1_layOut 36 = .ok (.aload_n 0, 1) := by decide +kernel
theorem dX1_layOut_37 : decode cX1_layOut 37 = .ok (.iload_n 2, 1) := by decide +kernel
theorem dX1_layOut_38 : decode cX1_layOut 38 = .ok (.putfield 56, 3) := by decide +kernel
theorem dX1_layOut_41 : decode cX1_layOut 41 = .ok (.iconst 0, 1) := by decide +kernel
theorem dX1_layOut_42 : decode cX1_layOut 42 = .ok (.istore_n 3, 1) := by decide +kernel
theorem dX1_layOut_43 : decode cX1_layOut 43 = .ok (.iload_n 3, 1) := by decide +kernel
theorem dX1_layOut_44 : decode cX1_layOut 44 = .ok (.iconst 4, 1) := by decide +kernel
theorem dX1_layOut_45 : decode cX1_layOut 45 = .ok (.if_icmp .ge 66, 3) := by decide +kernel
theorem dX1_layOut_48 : decode cX1_layOut 48 = .ok (.aload_n 0, 1) := by decide +kernel
theorem dX1_layOut_49 : decode cX1_layOut 49 = .ok (.iconst 0, 1) := by decide +kernel
theorem dX1_layOut_50 : decode cX1_layOut 50 = .ok (.putfield 59, 3) := by decide +kernel
theorem dX1_layOut_53 : decode cX1_layOut 53 = .ok (.aload_n 0, 1) := by decide +kernel
theorem dX1_layOut_54 : decode cX1_layOut 54 = .ok (.getfield 9, 3) := by decide +kernel
theorem dX1_layOut_57 : decode cX1_layOut 57 = .ok (.iload_n 3, 1) := by decide +kernel
theorem dX1_layOut_58 : decode cX1_layOut 58 = .ok (.iconst 0, 1) := by decide +kernel
theorem dX1_layOut_59 : decode cX1_layOut 59 = .ok (.iastore, 1) := by decide +kernel
theorem dX1_layOut_60 : decode cX1_layOut 60 = .ok (.aload_n 0, 1) := by decide +kernel
theorem dX1_layOut_61 : decode cX1_layOut 61 = .ok (.getfield 18, 3) := by decide +kernel
theorem dX1_layOut_64 : decode cX1_layOut 64 = .ok (.iload_n 3, 1) := by decide +kernel
theorem dX1_layOut_65 : decode cX1_layOut 65 = .ok (.bipush (-5), 2) := by decide +kernel
theorem dX1_layOut_67 : decode cX1_layOut 67 = .ok (.iastore, 1) := by decide +kernel
theorem dX1_layOut_68 : decode cX1_layOut 68 = .ok (.iconst 0, 1) := by decide +kernel
theorem dX1_layOut_69 : decode cX1_layOut 69 = .ok (.istore 4, 2) := by decide +kernel
theorem dX1_layOut_71 : decode cX1_layOut 71 = .ok (.iload 4, 2) := by decide +kernel
theorem dX1_layOut_73 : decode cX1_layOut 73 = .ok (.aload_n 1, 1) := by decide +kernel
theorem dX1_layOut_74 : decode cX1_layOut 74 = .ok (.iload_n 3, 1) := by decide +kernel
theorem dX1_layOut_75 : decode cX1_layOut 75 = .ok (.invokevirtual 62, 3) := by decide +kernel
theorem dX1_layOut_78 : decode cX1_layOut 78 = .ok (.if_icmp .ge 17, 3) := by decide +kernel
theorem dX1_layOut_81 : decode cX1_layOut 81 = .ok (.aload_n 0, 1) := by decide +kernel
theorem dX1_layOut_82 : decode cX1_layOut 82 = .ok (.aload_n 1, 1) := by decide +kernel
theorem dX1_layOut_83 : decode cX1_layOut 83 = .ok (.iload_n 3, 1) := by decide +kernel
theorem dX1_layOut_84 : decode cX1_layOut 84 = .ok (.iload 4, 2) := by decide +kernel
theorem dX1_layOut_86 : decode cX1_layOut 86 = .ok (.invokevirtual 65, 3) := by decide +kernel
theorem dX1_layOut_89 : decode cX1_layOut 89 = .ok (.iinc 4 1, 3) := by decide +kernel
theorem dX1_layOut_92 : decode cX1_layOut 92 = .ok (.goto (-21), 3) := by decide +kernel
theorem dX1_layOut_95 : decode cX1_layOut 95 = .ok (.aload_n 0, 1) := by decide +kernel
theorem dX1_layOut_96 : decode cX1_layOut 96 = .ok (.getfield 15, 3) := by decide +kernel
theorem dX1_layOut_99 : decode cX1_layOut 99 = .ok (.iload_n 3, 1) := by decide +kernel
theorem dX1_layOut_100 : decode cX1_layOut 100 = .ok (.aload_n 0, 1) := by decide +kernel
theorem dX1_layOut_101 : decode cX1_layOut 101 = .ok (.getfield 59, 3) := by decide +kernel
theorem dX1_layOut_104 : decode cX1_layOut 104 = .ok (.iastore, 1) := by decide +kernel
theorem dX1_layOut_105 : decode cX1_layOut 105 = .ok (.iinc 3 1, 3) := by decide +kernel
theorem dX1_layOut_108 : decode cX1_layOut 108 = .ok (.goto (-65), 3) := by decide +kernel
theorem dX1_layOut_111 : decode cX1_layOut 111 = .ok (.return_, 1) := by decide +kernel
set_option maxRecDepth 20000 in
theorem ggX1_layBlock_X1_isBlockPlace : GoodIn wsX1_layBlock wsX1_isBlockPlace := goodIn_r _ [9, 10, 11, 12] (by decide +kernel) (by decide +kernel)
set_option maxRecDepth 20000 in
theorem gX1_layBlock_X1_isBlockPlace : GoodIn wsX1_layBlock (va_wsS RX1 69 yX1_isBlockPlace wsX1_isBlockPlace) := goodIn_app (goodIn_of _ (by decide +kernel)) ggX1_layBlock_X1_isBlockPlace
set_option maxRecDepth 20000 in
theorem ggX1_layBlock_X2_fieldOf : GoodIn wsX1_layBlock wsX2_fieldOf := goodIn_r _ [17, 18, 19, 20, 16, 21, 10, 11, 12, 22, 23, 24, 85] (by decide +kernel) (by decide +kernel)
set_option maxRecDepth 20000 in
theorem gX1_layBlock_X2_fieldOf : GoodIn wsX1_layBlock (wsV RX1 73 RX2 yX2_fieldOf wsX2_fieldOf) := goodIn_app (goodIn_of _ (by decide +kernel)) ggX1_layBlock_X2_fieldOf
set_option maxRecDepth 20000 in
theorem ggX1_layBlock_X1_layLines : GoodIn wsX1_layBlock wsX1_layLines := goodIn_r _ [28, 2, 29, 13, 14, 15, 16, 17, 18, 19, 20, 21, 10, 11, 12, 22, 23, 24, 30, 31, 32, 8, 33, 34, 35, 36, 37, 38, 39, 40, 41, 42, 43, 44, 45, 46, 47, 4, 48, 49, 50, 51, 52, 53, 54, 55, 56, 57, 58, 59, 60, 61, 71, 72, 73, 74, 75, 76, 77, 78, 79, 80, 81, 82, 83, 84, 85] (by decide +kernel) (by decide +kernel)
set_option maxRecDepth 20000 in
theorem gX1_layBlock_X1_layLines : GoodIn wsX1_layBlock (wsV RX1 77 RX1 yX1_layLines wsX1_layLines) := goodIn_app (goodIn_of _ (by decide +kernel)) ggX1_layBlock_X1_layLines
set_option maxRecDepth 20000 in
theorem ggX1_layBlock_X1_layPicture : GoodIn wsX1_layBlock wsX1_layPicture := goodIn_r _ [65, 2, 29, 66, 13, 14, 15, 16, 17, 18, 19, 20, 21, 10, 11, 12, 22, 23, 24, 44, 45, 46, 8, 47, 4, 30, 31, 32, 33, 34, 35, 36, 37, 38, 39, 40, 41, 42, 43, 71, 72, 73, 74, 75, 76, 77, 78, 79, 80, 81, 82, 83, 84, 85] (by decide +kernel) (by decide +kernel)
set_option maxRecDepth 20000 in
theorem gX1_layBlock_X1_layPicture : GoodIn wsX1_layBlock (wsV RX1 81 RX1 yX1_layPicture wsX1_layPicture) := goodIn_app (goodIn_of _ (by decide +kernel)) ggX1_layBlock_X1_layPicture
set_option maxRecDepth 20000 in
theorem ggX1_layBlock_X1_laySpace : GoodIn wsX1_layBlock wsX1_laySpace := goodIn_r _ [70, 2, 13, 14, 15, 16, 17, 18, 19, 20, 21, 10, 11, 12, 22, 23, 24, 71, 72, 73, 74, 75, 76, 77, 78, 79, 80, 81, 82, 83, 84, 85] (by decide +kernel) (by decide +kernel)
set_option maxRecDepth 20000 in
theorem gX1_layBlock_X1_laySpace : GoodIn wsX1_layBlock (wsV RX1 84 RX1 yX1_laySpace wsX1_laySpace) := goodIn_app (goodIn_of _ (by decide +kernel)) ggX1_layBlock_X1_laySpace
theorem dX1_layBlock_0 : decode cX1_layBlock 0 = .ok (.iload_n 2, 1) := by decide +kernel
theorem dX1_layBlock_1 : decode cX1_layBlock 1 = .ok (.iload_n 3, 1) := by decide +kernel
theorem dX1_layBlock_2 : decode cX1_layBlock 2 = .ok (.invokestatic 69, 3) := by decide +kernel
theorem dX1_layBlock_5 : decode cX1_layBlock 5 = .ok (.ifCond .ne 4, 3) := by decide +kernel
theorem dX1_layBlock_8 : decode cX1_layBlock 8 = .ok (.return_, 1) := by decide +kernel
theorem dX1_layBlock_9 : decode cX1_layBlock 9 = .ok (.iload_n 2, 1) := by decide +kernel
theorem dX1_layBlock_10 : decode cX1_layBlock 10 = .ok (.bipush 16, 2) := by decide +kernel
theorem dX1_layBlock_12 : decode cX1_layBlock 12 = .ok (.imul, 1) := by decide +kernel
theorem dX1_layBlock_13 : decode cX1_layBlock 13 = .ok (.iload_n 3, 1) := by decide +kernel
theorem dX1_layBlock_14 : decode cX1_layBlock 14 = .ok (.iadd, 1) := by decide +kernel
theorem dX1_layBlock_15 : decode cX1_layBlock 15 = .ok (.istore 4, 2) := by decide +kernel
theorem dX1_layBlock_17 : decode cX1_layBlock 17 = .ok (.aload_n 0, 1) := by decide +kernel
theorem dX1_layBlock_18 : decode cX1_layBlock 18 = .ok (.getfield 21, 3) := by decide +kernel
theorem dX1_layBlock_21 : decode cX1_layBlock 21 = .ok (.iload 4, 2) := by decide +kernel
theorem dX1_layBlock_23 : decode cX1_layBlock 23 = .ok (.aload_n 0, 1) := by decide +kernel
theorem dX1_layBlock_24 : decode cX1_layBlock 24 = .ok (.getfield 59, 3) := by decide +kernel
theorem dX1_layBlock_27 : decode cX1_layBlock 27 = .ok (.iastore, 1) := by decide +kernel
theorem dX1_layBlock_28 : decode cX1_layBlock 28 = .ok (.aload_n 0, 1) := by decide +kernel
theorem dX1_layBlock_29 : decode cX1_layBlock 29 = .ok (.getfield 27, 3) := by decide +kernel
theorem dX1_layBlock_32 : decode cX1_layBlock 32 = .ok (.iload 4, 2) := by decide +kernel
theorem dX1_layBlock_34 : decode cX1_layBlock 34 = .ok (.iconst 0, 1) := by decide +kernel
theorem dX1_layBlock_35 : decode cX1_layBlock 35 = .ok (.iastore, 1) := by decide +kernel
theorem dX1_layBlock_36 : decode cX1_layBlock 36 = .ok (.aload_n 0, 1) := by decide +kernel
theorem dX1_layBlock_37 : decode cX1_layBlock 37 = .ok (.getfield 18, 3) := by decide +kernel
theorem dX1_layBlock_40 : decode cX1_layBlock 40 = .ok (.iload_n 2, 1) := by decide +kernel
theorem dX1_layBlock_41 : decode cX1_layBlock 41 = .ok (.iaload, 1) := by decide +kernel
theorem dX1_layBlock_42 : decode cX1_layBlock 42 = .ok (.bipush (-5), 2) := by decide +kernel
theorem dX1_layBlock_44 : decode cX1_layBlock 44 = .ok (.if_icmp .ne 84, 3) := by decide +kernel
theorem dX1_layBlock_47 : decode cX1_layBlock 47 = .ok (.aload_n 1, 1) := by decide +kernel
theorem dX1_layBlock_48 : decode cX1_layBlock 48 = .ok (.iload_n 2, 1) := by decide +kernel
theorem dX1_layBlock_49 : decode cX1_layBlock 49 = .ok (.iload_n 3, 1) := by decide +kernel
theorem dX1_layBlock_50 : decode cX1_layBlock 50 = .ok (.iconst 0, 1) := by decide +kernel
theorem dX1_layBlock_51 : decode cX1_layBlock 51 = .ok (.invokevirtual 73, 3) := by decide +kernel
theorem dX1_layBlock_54 : decode cX1_layBlock 54 = .ok (.lookupswitch 60 #[(0, 26), (1, 43)], 26) := by decide +kernel
theorem dX1_layBlock_80 : decode cX1_layBlock 80 = .ok (.aload_n 0, 1) := by decide +kernel
theorem dX1_layBlock_81 : decode cX1_layBlock 81 = .ok (.getfield 27, 3) := by decide +kernel
theorem dX1_layBlock_84 : decode cX1_layBlock 84 = .ok (.iload 4, 2) := by decide +kernel
theorem dX1_layBlock_86 : decode cX1_layBlock 86 = .ok (.aload_n 0, 1) := by decide +kernel
theorem dX1_layBlock_87 : decode cX1_layBlock 87 = .ok (.aload_n 1, 1) := by decide +kernel
theorem dX1_layBlock_88 : decode cX1_layBlock 88 = .ok (.iload_n 2, 1) := by decide +kernel
theorem dX1_layBlock_89 : decode cX1_layBlock 89 = .ok (.iload_n 3, 1) := by decide +kernel
theorem dX1_layBlock_90 : decode cX1_layBlock 90 = .ok (.invokevirtual 77, 3) := by decide +kernel
theorem dX1_layBlock_93 : decode cX1_layBlock 93 = .ok (.iastore, 1) := by decide +kernel
theorem dX1_layBlock_94 : decode cX1_layBlock 94 = .ok (.goto 34, 3) := by decide +kernel
theorem dX1_layBlock_97 : decode cX1_layBlock 97 = .ok (.aload_n 0, 1) := by decide +kernel
theorem dX1_layBlock_98 : decode cX1_layBlock 98 = .ok (.getfield 27, 3) := by decide +kernel
theorem dX1_layBlock_101 : decode cX1_layBlock 101 = .ok (.iload 4, 2) := by decide +kernel
theorem dX1_layBlock_103 : decode cX1_layBlock 103 = .ok (.aload_n 0, 1) := by decide +kernel
theorem dX1_layBlock_104 : decode cX1_layBlock 104 = .ok (.aload_n 1, 1) := by decide +kernel
theorem dX1_layBlock_105 : decode cX1_layBlock 105 = .ok (.iload_n 2, 1) := by decide +kernel
theorem dX1_layBlock_106 : decode cX1_layBlock 106 = .ok (.iload_n 3, 1) := by decide +kernel
theorem dX1_layBlock_107 : decode cX1_layBlock 107 = .ok (.invokevirtual 81, 3) := by decide +kernel
theorem dX1_layBlock_110 : decode cX1_layBlock 110 = .ok (.iastore, 1) := by decide +kernel
theorem dX1_layBlock_111 : decode cX1_layBlock 111 = .ok (.goto 17, 3) := by decide +kernel
theorem dX1_layBlock_114 : decode cX1_layBlock 114 = .ok (.aload_n 0, 1) := by decide +kernel
theorem dX1_layBlock_115 : decode cX1_layBlock 115 = .ok (.getfield 27, 3) := by decide +kernel
theorem dX1_layBlock_118 : decode cX1_layBlock 118 = .ok (.iload 4, 2) := by decide +kernel
theorem dX1_layBlock_120 : decode cX1_layBlock 120 = .ok (.aload_n 0, 1) := by decide +kernel
theorem dX1_layBlock_121 : decode cX1_layBlock 121 = .ok (.aload_n 1, 1) := by decide +kernel
theorem dX1_layBlock_122 : decode cX1_layBlock 122 = .ok (.iload_n 2, 1) := by decide +kernel
theorem dX1_layBlock_123 : decode cX1_layBlock 123 = .ok (.iload_n 3, 1) := by decide +kernel
theorem dX1_layBlock_124 : decode cX1_layBlock 124 = .ok (.invokevirtual 84, 3) := by decide +kernel
theorem dX1_layBlock_127 : decode cX1_layBlock 127 = .ok (.iastore, 1) := by decide +kernel
theorem dX1_layBlock_128 : decode cX1_layBlock 128 = .ok (.aload_n 0, 1) := by decide +kernel
theorem dX1_layBlock_129 : decode cX1_layBlock 129 = .ok (.getfield 24, 3) := by decide +kernel
theorem dX1_layBlock_132 : decode cX1_layBlock 132 = .ok (.iload 4, 2) := by decide +kernel
theorem dX1_layBlock_134 : decode cX1_layBlock 134 = .ok (.aload_n 0, 1) := by decide +kernel
theorem dX1_layBlock_135 : decode cX1_layBlock 135 = .ok (.getfield 59, 3) := by decide +kernel
theorem dX1_layBlock_138 : decode cX1_layBlock 138 = .ok (.iastore, 1) := by decide +kernel
theorem dX1_layBlock_139 : decode cX1_layBlock 139 = .ok (.return_, 1) := by decide +kernel
set_option maxRecDepth 20000 in
theorem ggX1_layLines_X2_fieldOf : GoodIn wsX1_layLines wsX2_fieldOf := goodIn_r _ [7, 8, 9, 10, 6, 11, 12, 13, 14, 15, 16, 17, 66] (by decide +kernel) (by decide +kernel)
set_option maxRecDepth 20000 in
theorem gX1_layLines_X2_fieldOf : GoodIn wsX1_layLines (wsV RX1 73 RX2 yX2_fieldOf wsX2_fieldOf) := goodIn_app (goodIn_of _ (by decide +kernel)) ggX1_layLines_X2_fieldOf
set_option maxRecDepth 20000 in
theorem ggX1_layLines_X1_nextOnGrid : GoodIn wsX1_layLines wsX1_nextOnGrid := goodIn_r _ [22, 23, 24, 25, 26, 21, 27, 28, 29, 30, 31, 32, 52, 53, 54, 55, 56, 57, 58, 59, 60, 61, 62, 63, 64, 65] (by decide +kernel) (by decide +kernel)
set_option maxRecDepth 20000 in
theorem gX1_layLines_X1_nextOnGrid : GoodIn wsX1_layLines (wsV RX1 87 RX1 yX1_nextOnGrid wsX1_nextOnGrid) := goodIn_app (goodIn_of _ (by decide +kernel)) ggX1_layLines_X1_nextOnGrid
set_option maxRecDepth 20000 in
theorem ggX1_layLines_X1_markOverflow : GoodIn wsX1_layLines wsX1_markOverflow := goodIn_r _ [36, 37, 12, 13, 14, 52, 53, 54, 55, 56, 57, 58, 59, 60, 61, 62, 63, 64, 65] (by decide +kernel) (by decide +kernel)
set_option maxRecDepth 20000 in
theorem gX1_layLines_X1_markOverflow : GoodIn wsX1_layLines (wsV RX1 90 RX1 yX1_markOverflow wsX1_markOverflow) := goodIn_app (goodIn_of _ (by decide +kernel)) ggX1_layLines_X1_markOverflow
set_option maxRecDepth 20000 in
theorem ggX1_layLines_X1_addLine : GoodIn wsX1_layLines wsX1_addLine := goodIn_r _ [41, 42, 43, 44, 45, 46, 47, 21, 48, 12, 13, 14, 49, 50, 51, 52, 53, 54, 55, 56, 57, 58, 59, 60, 61, 62, 63, 64, 65] (by decide +kernel) (by decide +kernel)
set_option maxRecDepth 20000 in
theorem gX1_layLines_X1_addLine : GoodIn wsX1_layLines (wsV RX1 94 RX1 yX1_addLine wsX1_addLine) := goodIn_app (goodIn_of _ (by decide +kernel)) ggX1_layLines_X1_addLine
theorem dX1_layLines_0 : decode cX1_layLines 0 = .ok (.aload_n 1, 1) := by decide +kernel
theorem dX1_layLines_1 : decode cX1_layLines 1 = .ok (.iload_n 2, 1) := by decide +kernel
theorem dX1_layLines_2 : decode cX1_layLines 2 = .ok (.iload_n 3, 1) := by decide +kernel
theorem dX1_layLines_3 : decode cX1_layLines 3 = .ok (.iconst 1, 1) := by decide +kernel
theorem dX1_layLines_4 : decode cX1_layLines 4 = .ok (.invokevirtual 73, 3) := by decide +kernel
theorem dX1_layLines_7 : decode cX1_layLines 7 = .ok (.istore 4, 2) := by decide +kernel
theorem dX1_layLines_9 : decode cX1_layLines 9 = .ok (.aload_n 1, 1) := by decide +kernel
theorem dX1_layLines_10 : decode cX1_layLines 10 = .ok (.iload_n 2, 1) := by decide +kernel
theorem dX1_layLines_11 : decode cX1_layLines 11 = .ok (.iload_n 3, 1) := by decide +kernel
theorem dX1_layLines_12 : decode cX1_layLines 12 = .ok (.iconst 2, 1) := by decide +kernel
theorem dX1_layLines_13 : decode cX1_layLines 13 = .ok (.invokevirtual 73, 3) := by decide +kernel
theorem dX1_layLines_16 : decode cX1_layLines 16 = .ok (.istore 5, 2) := by decide +kernel
theorem dX1_layLines_18 : decode cX1_layLines 18 = .ok (.aload_n 1, 1) := by decide +kernel
theorem dX1_layLines_19 : decode cX1_layLines 19 = .ok (.iload_n 2, 1) := by decide +kernel
theorem dX1_layLines_20 : decode cX1_layLines 20 = .ok (.iload_n 3, 1) := by decide +kernel
theorem dX1_layLines_21 : decode cX1_layLines 21 = .ok (.iconst 3, 1) := by decide +kernel
theorem dX1_layLines_22 : decode cX1_layLines 22 = .ok (.invokevirtual 73, 3) := by decide +kernel
theorem dX1_layLines_25 : decode cX1_layLines 25 = .ok (.istore 6, 2) := by decide +kernel
theorem dX1_layLines_27 : decode cX1_layLines 27 = .ok (.aload_n 1, 1) := by decide +kernel
theorem dX1_layLines_28 : decode cX1_layLines 28 = .ok (.iload_n 2, 1) := by decide +kernel
theorem dX1_layLines_29 : decode cX1_layLines 29 = .ok (.iload_n 3, 1) := by decide +kernel
theorem dX1_layLines_30 : decode cX1_layLines 30 = .ok (.iconst 4, 1) := by decide +kernel
theorem dX1_layLines_31 : decode cX1_layLines 31 = .ok (.invokevirtual 73, 3) := by decide +kernel
theorem dX1_layLines_34 : decode cX1_layLines 34 = .ok (.iconst 1, 1) := by decide +kernel
theorem dX1_layLines_35 : decode cX1_layLines 35 = .ok (.if_icmp .ne 7, 3) := by decide +kernel
theorem dX1_layLines_38 : decode cX1_layLines 38 = .ok (.iconst 1, 1) := by decide +kernel
theorem dX1_layLines_39 : decode cX1_layLines 39 = .ok (.goto 4, 3) := by decide +kernel
theorem dX1_layLines_42 : decode cX1_layLines 42 = .ok (.iconst 0, 1) := by decide +kernel
theorem dX1_layLines_43 : decode cX1_layLines 43 = .ok (.istore 7, 2) := by decide +kernel
theorem dX1_layLines_45 : decode cX1_layLines 45 = .ok (.iconst 3, 1) := by decide +kernel
theorem dX1_layLines_46 : decode cX1_layLines 46 = .ok (.iload 5, 2) := by decide +kernel
theorem dX1_layLines_48 : decode cX1_layLines 48 = .ok (.imul, 1) := by decide +kernel
theorem dX1_layLines_49 : decode cX1_layLines 49 = .ok (.bipush 10, 2) := by decide +kernel
theorem dX1_layLines_51 : decode cX1_layLines 51 = .ok (.idiv, 1) := by decide +kernel
theorem dX1_layLines_52 : decode cX1_layLines 52 = .ok (.istore 8, 2) := by decide +kernel
theorem dX1_layLines_54 : decode cX1_layLines 54 = .ok (.aload_n 0, 1) := by decide +kernel
theorem dX1_layLines_55 : decode cX1_layLines 55 = .ok (.getfield 59, 3) := by decide +kernel
theorem dX1_layLines_58 : decode cX1_layLines 58 = .ok (.bipush 7, 2) := by decide +kernel
theorem dX1_layLines_60 : decode cX1_layLines 60 = .ok (.iload 5, 2) := by decide +kernel
theorem dX1_layLines_62 : decode cX1_layLines 62 = .ok (.imul, 1) := by decide +kernel
theorem dX1_layLines_63 : decode cX1_layLines 63 = .ok (.bipush 10, 2) := by decide +kernel
theorem dX1_layLines_65 : decode cX1_layLines 65 = .ok (.idiv, 1) := by decide +kernel
theorem dX1_layLines_66 : decode cX1_layLines 66 = .ok (.iadd, 1) := by decide +kernel
theorem dX1_layLines_67 : decode cX1_layLines 67 = .ok (.istore 9, 2) := by decide +kernel
theorem dX1_layLines_69 : decode cX1_layLines 69 = .ok (.iconst 0, 1) := by decide +kernel
theorem dX1_layLines_70 : decode cX1_layLines 70 = .ok (.istore 10, 2) := by decide +kernel
theorem dX1_layLines_72 : decode cX1_layLines 72 = .ok (.iload 10, 2) := by decide +kernel
theorem dX1_layLines_74 : decode cX1_layLines 74 = .ok (.iload 4, 2) := by decide +kernel
theorem dX1_layLines_76 : decode cX1_layLines 76 = .ok (.if_icmp .ge 72, 3) := by decide +kernel
theorem dX1_layLines_79 : decode cX1_layLines 79 = .ok (.iload 10, 2) := by decide +kernel
theorem dX1_layLines_81 : decode cX1_layLines 81 = .ok (.ifCond .le 10, 3) := by decide +kernel
theorem dX1_layLines_84 : decode cX1_layLines 84 = .ok (.iload 9, 2) := by decide +kernel
theorem dX1_layLines_86 : decode cX1_layLines 86 = .ok (.iload 6, 2) := by decide +kernel
theorem dX1_layLines_88 : decode cX1_layLines 88 = .ok (.iadd, 1) := by decide +kernel
theorem dX1_layLines_89 : decode cX1_layLines 89 = .ok (.istore 9, 2) := by decide +kernel
theorem dX1_layLines_91 : decode cX1_layLines 91 = .ok (.iload 7, 2) := by decide +kernel
theorem dX1_layLines_93 : decode cX1_layLines 93 = .ok (.ifCond .eq 11, 3) := by decide +kernel
theorem dX1_layLines_96 : decode cX1_layLines 96 = .ok (.aload_n 0, 1) := by decide +kernel
theorem dX1_layLines_97 : decode cX1_layLines 97 = .ok (.iload 9, 2) := by decide +kernel
theorem dX1_layLines_99 : decode cX1_layLines 99 = .ok (.invokevirtual 87, 3) := by decide +kernel
theorem dX1_layLines_102 : decode cX1_layLines 102 = .ok (.istore 9, 2) := by decide +kernel
theorem dX1_layLines_104 : decode cX1_layLines 104 = .ok (.iload 9, 2) := by decide +kernel
theorem dX1_layLines_106 : decode cX1_layLines 106 = .ok (.iload 8, 2) := by decide +kernel
theorem dX1_layLines_108 : decode cX1_layLines 108 = .ok (.iadd, 1) := by decide +kernel
theorem dX1_layLines_109 : decode cX1_layLines 109 = .ok (.aload_n 0, 1) := by decide +kernel
theorem dX1_layLines_110 : decode cX1_layLines 110 = .ok (.getfield 45, 3) := by decide +kernel
theorem dX1_layLines_113 : decode cX1_layLines 113 = .ok (.if_icmp .le 12, 3) := by decide +kernel
theorem dX1_layLines_116 : decode cX1_layLines 116 = .ok (.aload_n 0, 1) := by decide +kernel
theorem dX1_layLines_117 : decode cX1_layLines 117 = .ok (.iload_n 2, 1) := by decide +kernel
theorem dX1_layLines_118 : decode cX1_layLines 118 = .ok (.iload_n 3, 1) := by decide +kernel
theorem dX1_layLines_119 : decode cX1_layLines 119 = .ok (.invokevirtual 90, 3) := by decide +kernel
theorem dX1_layLines_122 : decode cX1_layLines 122 = .ok (.iload 10, 2) := by decide +kernel
theorem dX1_layLines_124 : decode cX1_layLines 124 = .ok (.ireturn, 1) := by decide +kernel
theorem dX1_layLines_125 : decode cX1_layLines 125 = .ok (.aload_n 0, 1) := by decide +kernel
theorem dX1_layLines_126 : decode cX1_layLines 126 = .ok (.iload_n 2, 1) := by decide +kernel
theorem dX1_layLines_127 : decode cX1_layLines 127 = .ok (.iload_n 3, 1) := by decide +kernel
theorem dX1_layLines_128 : decode cX1_layLines 128 = .ok (.iload 9, 2) := by decide +kernel
theorem dX1_layLines_130 : decode cX1_layLines 130 = .ok (.invokevirtual 94, 3) := by decide +kernel
theorem dX1_layLines_133 : decode cX1_layLines 133 = .ok (.aload_n 0, 1) := by decide +kernel
theorem dX1_layLines_134 : decode cX1_layLines 134 = .ok (.iload 9, 2) := by decide +kernel
theorem dX1_layLines_136 : decode cX1_layLines 136 = .ok (.iload 8, 2) := by decide +kernel
theorem dX1_layLines_138 : decode cX1_layLines 138 = .ok (.iadd, 1) := by decide +kernel
theorem dX1_layLines_139 : decode cX1_layLines 139 = .ok (.putfield 59, 3) := by decide +kernel
theorem dX1_layLines_142 : decode cX1_layLines 142 = .ok (.iinc 10 1, 3) := by decide +kernel
theorem dX1_layLines_145 : decode cX1_layLines 145 = .ok (.goto (-73), 3) := by decide +kernel
theorem dX1_layLines_148 : decode cX1_layLines 148 = .ok (.iload 4, 2) := by decide +kernel
theorem dX1_layLines_150 : decode cX1_layLines 150 = .ok (.ireturn, 1) := by decide +kernel
set_option maxRecDepth 20000 in
theorem ggX1_layPicture_X2_fieldOf : GoodIn wsX1_layPicture wsX2_fieldOf := goodIn_r _ [8, 9, 10, 11, 7, 12, 13, 14, 15, 16, 17, 18, 53] (by decide +kernel) (by decide +kernel)
set_option maxRecDepth 20000 in
theorem gX1_layPicture_X2_fieldOf : GoodIn wsX1_layPicture (wsV RX1 73 RX2 yX2_fieldOf wsX2_fieldOf) := goodIn_app (goodIn_of _ (by decide +kernel)) ggX1_layPicture_X2_fieldOf
set_option maxRecDepth 20000 in
theorem ggX1_layPicture_X1_markOverflow : GoodIn wsX1_layPicture wsX1_markOverflow := goodIn_r _ [23, 24, 13, 14, 15, 39, 40, 41, 42, 43, 44, 45, 46, 47, 48, 49, 50, 51, 52] (by decide +kernel) (by decide +kernel)
set_option maxRecDepth 20000 in
theorem gX1_layPicture_X1_markOverflow : GoodIn wsX1_layPicture (wsV RX1 90 RX1 yX1_markOverflow wsX1_markOverflow) := goodIn_app (goodIn_of _ (by decide +kernel)) ggX1_layPicture_X1_markOverflow
set_option maxRecDepth 20000 in
theorem ggX1_layPicture_X1_nextOnGrid : GoodIn wsX1_layPicture wsX1_nextOnGrid := goodIn_r _ [28, 29, 30, 31, 32, 22, 33, 34, 35, 36, 37, 38, 39, 40, 41, 42, 43, 44, 45, 46, 47, 48, 49, 50, 51, 52] (by decide +kernel) (by decide +kernel)
set_option maxRecDepth 20000 in
theorem gX1_layPicture_X1_nextOnGrid : GoodIn wsX1_layPicture (wsV RX1 87 RX1 yX1_nextOnGrid wsX1_nextOnGrid) := goodIn_app (goodIn_of _ (by decide +kernel)) ggX1_layPicture_X1_nextOnGrid
theorem dX1_layPicture_0 : decode cX1_layPicture 0 = .ok (.aload_n 0, 1) := by decide +kernel
theorem dX1_layPicture_1 : decode cX1_layPicture 1 = .ok (.getfield 59, 3) := by decide +kernel
theorem dX1_layPicture_4 : decode cX1_layPicture 4 = .ok (.aload_n 1, 1) := by decide +kernel
theorem dX1_layPicture_5 : decode cX1_layPicture 5 = .ok (.iload_n 2, 1) := by decide +kernel
theorem dX1_layPicture_6 : decode cX1_layPicture 6 = .ok (.iload_n 3, 1) := by decide +kernel
theorem dX1_layPicture_7 : decode cX1_layPicture 7 = .ok (.iconst 5, 1) := by decide +kernel
theorem dX1_layPicture_8 : decode cX1_layPicture 8 = .ok (.invokevirtual 73, 3) := by decide +kernel
theorem dX1_layPicture_11 : decode cX1_layPicture 11 = .ok (.iadd, 1) := by decide +kernel
theorem dX1_layPicture_12 : decode cX1_layPicture 12 = .ok (.istore 4, 2) := by decide +kernel
theorem dX1_layPicture_14 : decode cX1_layPicture 14 = .ok (.iload 4, 2) := by decide +kernel
theorem dX1_layPicture_16 : decode cX1_layPicture 16 = .ok (.aload_n 0, 1) := by decide +kernel
theorem dX1_layPicture_17 : decode cX1_layPicture 17 = .ok (.getfield 45, 3) := by decide +kernel
theorem dX1_layPicture_20 : decode cX1_layPicture 20 = .ok (.if_icmp .le 11, 3) := by decide +kernel
theorem dX1_layPicture_23 : decode cX1_layPicture 23 = .ok (.aload_n 0, 1) := by decide +kernel
theorem dX1_layPicture_24 : decode cX1_layPicture 24 = .ok (.iload_n 2, 1) := by decide +kernel
theorem dX1_layPicture_25 : decode cX1_layPicture 25 = .ok (.iload_n 3, 1) := by decide +kernel
theorem dX1_layPicture_26 : decode cX1_layPicture 26 = .ok (.invokevirtual 90, 3) := by decide +kernel
theorem dX1_layPicture_29 : decode cX1_layPicture 29 = .ok (.iconst 0, 1) := by decide +kernel
theorem dX1_layPicture_30 : decode cX1_layPicture 30 = .ok (.ireturn, 1) := by decide +kernel
theorem dX1_layPicture_31 : decode cX1_layPicture 31 = .ok (.aload_n 0, 1) := by decide +kernel
theorem dX1_layPicture_32 : decode cX1_layPicture 32 = .ok (.aload_n 0, 1) := by decide +kernel
theorem dX1_layPicture_33 : decode cX1_layPicture 33 = .ok (.getfield 52, 3) := by decide +kernel
theorem dX1_layPicture_36 : decode cX1_layPicture 36 = .ok (.ifCond .eq 12, 3) := by decide +kernel
theorem dX1_layPicture_39 : decode cX1_layPicture 39 = .ok (.aload_n 0, 1) := by decide +kernel
theorem dX1_layPicture_40 : decode cX1_layPicture 40 = .ok (.iload 4, 2) := by decide +kernel
theorem dX1_layPicture_42 : decode cX1_layPicture 42 = .ok (.invokevirtual 87, 3) := by decide +kernel
theorem dX1_layPicture_45 : decode cX1_layPicture 45 = .ok (.goto 5, 3) := by decide +kernel
theorem dX1_layPicture_48 : decode cX1_layPicture 48 = .ok (.iload 4, 2) := by decide +kernel
theorem dX1_layPicture_50 : decode cX1_layPicture 50 = .ok (.putfield 59, 3) := by decide +kernel
theorem dX1_layPicture_53 : decode cX1_layPicture 53 = .ok (.iconst 1, 1) := by decide +kernel
theorem dX1_layPicture_54 : decode cX1_layPicture 54 = .ok (.ireturn, 1) := by decide +kernel
set_option maxRecDepth 20000 in
theorem ggX1_laySpace_X2_fieldOf : GoodIn wsX1_laySpace wsX2_fieldOf := goodIn_r _ [6, 7, 8, 9, 5, 10, 11, 12, 13, 14, 15, 16, 31] (by decide +kernel) (by decide +kernel)
set_option maxRecDepth 20000 in
theorem gX1_laySpace_X2_fieldOf : GoodIn wsX1_laySpace (wsV RX1 73 RX2 yX2_fieldOf wsX2_fieldOf) := goodIn_app (goodIn_of _ (by decide +kernel)) ggX1_laySpace_X2_fieldOf
theorem dX1_laySpace_0 : decode cX1_laySpace 0 = .ok (.aload_n 0, 1) := by decide +kernel
theorem dX1_laySpace_1 : decode cX1_laySpace 1 = .ok (.getfield 59, 3) := by decide +kernel
theorem dX1_laySpace_4 : decode cX1_laySpace 4 = .ok (.ifCond .eq 19, 3) := by decide +kernel
theorem dX1_laySpace_7 : decode cX1_laySpace 7 = .ok (.aload_n 0, 1) := by decide +kernel
theorem dX1_laySpace_8 : decode cX1_laySpace 8 = .ok (.dup, 1) := by decide +kernel
theorem dX1_laySpace_9 : decode cX1_laySpace 9 = .ok (.getfield 59, 3) := by decide +kernel
theorem dX1_laySpace_12 : decode cX1_laySpace 12 = .ok (.aload_n 1, 1) := by decide +kernel
theorem dX1_laySpace_13 : decode cX1_laySpace 13 = .ok (.iload_n 2, 1) := by decide +kernel
theorem dX1_laySpace_14 : decode cX1_laySpace 14 = .ok (.iload_n 3, 1) := by decide +kernel
theorem dX1_laySpace_15 : decode cX1_laySpace 15 = .ok (.iconst 5, 1) := by decide +kernel
theorem dX1_laySpace_16 : decode cX1_laySpace 16 = .ok (.invokevirtual 73, 3) := by decide +kernel
theorem dX1_laySpace_19 : decode cX1_laySpace 19 = .ok (.iadd, 1) := by decide +kernel
theorem dX1_laySpace_20 : decode cX1_laySpace 20 = .ok (.putfield 59, 3) := by decide +kernel
theorem dX1_laySpace_23 : decode cX1_laySpace 23 = .ok (.iconst 1, 1) := by decide +kernel
theorem dX1_laySpace_24 : decode cX1_laySpace 24 = .ok (.ireturn, 1) := by decide +kernel
set_option maxRecDepth 20000 in
theorem ggX1_markOverflow_X4_isColumn : GoodIn wsX1_markOverflow wsX4_isColumn := goodIn_r _ [4] (by decide +kernel) (by decide +kernel)
set_option maxRecDepth 20000 in
theorem gX1_markOverflow_X4_isColumn_n98 : GoodIn wsX1_markOverflow (wsX4_isColumn) := ggX1_markOverflow_X4_isColumn
theorem dX1_markOverflow_0 : decode cX1_markOverflow 0 = .ok (.iload_n 1, 1) := by decide +kernel
theorem dX1_markOverflow_1 : decode cX1_markOverflow 1 = .ok (.invokestatic 98, 3) := by decide +kernel
theorem dX1_markOverflow_4 : decode cX1_markOverflow 4 = .ok (.ifCond .eq 10, 3) := by decide +kernel
theorem dX1_markOverflow_7 : decode cX1_markOverflow 7 = .ok (.aload_n 0, 1) := by decide +kernel
theorem dX1_markOverflow_8 : decode cX1_markOverflow 8 = .ok (.getfield 18, 3) := by decide +kernel
theorem dX1_markOverflow_11 : decode cX1_markOverflow 11 = .ok (.iload_n 1, 1) := by decide +kernel
theorem dX1_markOverflow_12 : decode cX1_markOverflow 12 = .ok (.iload_n 2, 1) := by decide +kernel
theorem dX1_markOverflow_13 : decode cX1_markOverflow 13 = .ok (.iastore, 1) := by decide +kernel
theorem dX1_markOverflow_14 : decode cX1_markOverflow 14 = .ok (.return_, 1) := by decide +kernel
set_option maxRecDepth 20000 in
theorem ggX1_addLine_X1_linesOf : GoodIn wsX1_addLine wsX1_linesOf := goodIn_r _ [8, 3, 9, 10, 11, 15, 16, 17, 18, 19, 20, 21, 22, 23, 24, 25, 26, 27, 28] (by decide +kernel) (by decide +kernel)
set_option maxRecDepth 20000 in
theorem gX1_addLine_X1_linesOf : GoodIn wsX1_addLine (wsV RX1 102 RX1 yX1_linesOf wsX1_linesOf) := goodIn_app (goodIn_of _ (by decide +kernel)) ggX1_addLine_X1_linesOf
set_option maxRecDepth 20000 in
theorem ggX1_addLine_X1_isLinePlace : GoodIn wsX1_addLine wsX1_isLinePlace := goodIn_r _ [14, 9, 10, 11] (by decide +kernel) (by decide +kernel)
set_option maxRecDepth 20000 in
theorem gX1_addLine_X1_isLinePlace : GoodIn wsX1_addLine (va_wsS RX1 105 yX1_isLinePlace wsX1_isLinePlace) := goodIn_app (goodIn_of _ (by decide +kernel)) ggX1_addLine_X1_isLinePlace
theorem dX1_addLine_0 : decode cX1_addLine 0 = .ok (.aload_n 0, 1) := by decide +kernel
theorem dX1_addLine_1 : decode cX1_addLine 1 = .ok (.iload_n 1, 1) := by decide +kernel
theorem dX1_addLine_2 : decode cX1_addLine 2 = .ok (.invokevirtual 102, 3) := by decide +kernel
theorem dX1_addLine_5 : decode cX1_addLine 5 = .ok (.istore 4, 2) := by decide +kernel
theorem dX1_addLine_7 : decode cX1_addLine 7 = .ok (.iload_n 1, 1) := by decide +kernel
theorem dX1_addLine_8 : decode cX1_addLine 8 = .ok (.iload 4, 2) := by decide +kernel
theorem dX1_addLine_10 : decode cX1_addLine 10 = .ok (.invokestatic 105, 3) := by decide +kernel
theorem dX1_addLine_13 : decode cX1_addLine 13 = .ok (.ifCond .eq 41, 3) := by decide +kernel
theorem dX1_addLine_16 : decode cX1_addLine 16 = .ok (.aload_n 0, 1) := by decide +kernel
theorem dX1_addLine_17 : decode cX1_addLine 17 = .ok (.getfield 30, 3) := by decide +kernel
theorem dX1_addLine_20 : decode cX1_addLine 20 = .ok (.iload_n 1, 1) := by decide +kernel
theorem dX1_addLine_21 : decode cX1_addLine 21 = .ok (.sipush 640, 3) := by decide +kernel
theorem dX1_addLine_24 : decode cX1_addLine 24 = .ok (.imul, 1) := by decide +kernel
theorem dX1_addLine_25 : decode cX1_addLine 25 = .ok (.iload 4, 2) := by decide +kernel
theorem dX1_addLine_27 : decode cX1_addLine 27 = .ok (.iadd, 1) := by decide +kernel
theorem dX1_addLine_28 : decode cX1_addLine 28 = .ok (.iload_n 3, 1) := by decide +kernel
theorem dX1_addLine_29 : decode cX1_addLine 29 = .ok (.iastore, 1) := by decide +kernel
theorem dX1_addLine_30 : decode cX1_addLine 30 = .ok (.aload_n 0, 1) := by decide +kernel
theorem dX1_addLine_31 : decode cX1_addLine 31 = .ok (.getfield 33, 3) := by decide +kernel
theorem dX1_addLine_34 : decode cX1_addLine 34 = .ok (.iload_n 1, 1) := by decide +kernel
theorem dX1_addLine_35 : decode cX1_addLine 35 = .ok (.sipush 640, 3) := by decide +kernel
theorem dX1_addLine_38 : decode cX1_addLine 38 = .ok (.imul, 1) := by decide +kernel
theorem dX1_addLine_39 : decode cX1_addLine 39 = .ok (.iload 4, 2) := by decide +kernel
theorem dX1_addLine_41 : decode cX1_addLine 41 = .ok (.iadd, 1) := by decide +kernel
theorem dX1_addLine_42 : decode cX1_addLine 42 = .ok (.iload_n 2, 1) := by decide +kernel
theorem dX1_addLine_43 : decode cX1_addLine 43 = .ok (.iastore, 1) := by decide +kernel
theorem dX1_addLine_44 : decode cX1_addLine 44 = .ok (.aload_n 0, 1) := by decide +kernel
theorem dX1_addLine_45 : decode cX1_addLine 45 = .ok (.getfield 9, 3) := by decide +kernel
theorem dX1_addLine_48 : decode cX1_addLine 48 = .ok (.iload_n 1, 1) := by decide +kernel
theorem dX1_addLine_49 : decode cX1_addLine 49 = .ok (.iload 4, 2) := by decide +kernel
theorem dX1_addLine_51 : decode cX1_addLine 51 = .ok (.iconst 1, 1) := by decide +kernel
theorem dX1_addLine_52 : decode cX1_addLine 52 = .ok (.iadd, 1) := by decide +kernel
theorem dX1_addLine_53 : decode cX1_addLine 53 = .ok (.iastore, 1) := by decide +kernel
theorem dX1_addLine_54 : decode cX1_addLine 54 = .ok (.return_, 1) := by decide +kernel
set_option maxRecDepth 20000 in
theorem ggX1_nextOnGrid_X1_positiveStep : GoodIn wsX1_nextOnGrid wsX1_positiveStep := goodIn_r _ [6, 7, 12, 13, 14, 15, 16, 17, 18, 19, 20, 21, 22, 23, 24, 25] (by decide +kernel) (by decide +kernel)
set_option maxRecDepth 20000 in
theorem gX1_nextOnGrid_X1_positiveStep : GoodIn wsX1_nextOnGrid (wsV RX1 108 RX1 yX1_positiveStep wsX1_positiveStep) := goodIn_app (goodIn_of _ (by decide +kernel)) ggX1_nextOnGrid_X1_positiveStep
set_option maxRecDepth 20000 in
theorem ggX1_nextOnGrid_J9_floorMod_7cf53 : GoodIn wsX1_nextOnGrid wsJ9_floorMod_7cf53 := goodIn_r _ [11] (by decide +kernel) (by decide +kernel)
set_option maxRecDepth 20000 in
theorem gX1_nextOnGrid_J9_floorMod_7cf53 : GoodIn wsX1_nextOnGrid (va_wsS RX1 112 yJ9_floorMod_7cf53 wsJ9_floorMod_7cf53) := goodIn_app (goodIn_of _ (by decide +kernel)) ggX1_nextOnGrid_J9_floorMod_7cf53
theorem dX1_nextOnGrid_0 : decode cX1_nextOnGrid 0 = .ok (.iload_n 1, 1) := by decide +kernel
theorem dX1_nextOnGrid_1 : decode cX1_nextOnGrid 1 = .ok (.aload_n 0, 1) := by decide +kernel
theorem dX1_nextOnGrid_2 : decode cX1_nextOnGrid 2 = .ok (.getfield 49, 3) := by decide +kernel
theorem dX1_nextOnGrid_5 : decode cX1_nextOnGrid 5 = .ok (.if_icmp .gt 8, 3) := by decide +kernel
theorem dX1_nextOnGrid_8 : decode cX1_nextOnGrid 8 = .ok (.aload_n 0, 1) := by decide +kernel
theorem dX1_nextOnGrid_9 : decode cX1_nextOnGrid 9 = .ok (.getfield 49, 3) := by decide +kernel
theorem dX1_nextOnGrid_12 : decode cX1_nextOnGrid 12 = .ok (.ireturn, 1) := by decide +kernel
theorem dX1_nextOnGrid_13 : decode cX1_nextOnGrid 13 = .ok (.iload_n 1, 1) := by decide +kernel
theorem dX1_nextOnGrid_14 : decode cX1_nextOnGrid 14 = .ok (.aload_n 0, 1) := by decide +kernel
theorem dX1_nextOnGrid_15 : decode cX1_nextOnGrid 15 = .ok (.getfield 49, 3) := by decide +kernel
theorem dX1_nextOnGrid_18 : decode cX1_nextOnGrid 18 = .ok (.iload_n 1, 1) := by decide +kernel
theorem dX1_nextOnGrid_19 : decode cX1_nextOnGrid 19 = .ok (.isub, 1) := by decide +kernel
theorem dX1_nextOnGrid_20 : decode cX1_nextOnGrid 20 = .ok (.aload_n 0, 1) := by decide +kernel
theorem dX1_nextOnGrid_21 : decode cX1_nextOnGrid 21 = .ok (.invokevirtual 108, 3) := by decide +kernel
theorem dX1_nextOnGrid_24 : decode cX1_nextOnGrid 24 = .ok (.invokestatic 112, 3) := by decide +kernel
theorem dX1_nextOnGrid_27 : decode cX1_nextOnGrid 27 = .ok (.iadd, 1) := by decide +kernel
theorem dX1_nextOnGrid_28 : decode cX1_nextOnGrid 28 = .ok (.ireturn, 1) := by decide +kernel
set_option maxRecDepth 20000 in
theorem ggX1_driftAt_X1_positiveStep : GoodIn wsX1_driftAt wsX1_positiveStep := goodIn_r _ [6, 7, 12, 13, 14, 15, 16, 17, 18, 19, 20, 21, 22, 23, 24, 25] (by decide +kernel) (by decide +kernel)
set_option maxRecDepth 20000 in
theorem gX1_driftAt_X1_positiveStep : GoodIn wsX1_driftAt (wsV RX1 108 RX1 yX1_positiveStep wsX1_positiveStep) := goodIn_app (goodIn_of _ (by decide +kernel)) ggX1_driftAt_X1_positiveStep
set_option maxRecDepth 20000 in
theorem ggX1_driftAt_J9_floorMod_7cf53 : GoodIn wsX1_driftAt wsJ9_floorMod_7cf53 := goodIn_r _ [11] (by decide +kernel) (by decide +kernel)
set_option maxRecDepth 20000 in
theorem gX1_driftAt_J9_floorMod_7cf53 : GoodIn wsX1_driftAt (va_wsS RX1 112 yJ9_floorMod_7cf53 wsJ9_floorMod_7cf53) := goodIn_app (goodIn_of _ (by decide +kernel)) ggX1_driftAt_J9_floorMod_7cf53
theorem dX1_driftAt_0 : decode cX1_driftAt 0 = .ok (.iload_n 1, 1) := by decide +kernel
theorem dX1_driftAt_1 : decode cX1_driftAt 1 = .ok (.aload_n 0, 1) := by decide +kernel
theorem dX1_driftAt_2 : decode cX1_driftAt 2 = .ok (.getfield 49, 3) := by decide +kernel
theorem dX1_driftAt_5 : decode cX1_driftAt 5 = .ok (.isub, 1) := by decide +kernel
theorem dX1_driftAt_6 : decode cX1_driftAt 6 = .ok (.aload_n 0, 1) := by decide +kernel
theorem dX1_driftAt_7 : decode cX1_driftAt 7 = .ok (.invokevirtual 108, 3) := by decide +kernel
theorem dX1_driftAt_10 : decode cX1_driftAt 10 = .ok (.invokestatic 112, 3) := by decide +kernel
theorem dX1_driftAt_13 : decode cX1_driftAt 13 = .ok (.ireturn, 1) := by decide +kernel
set_option maxRecDepth 20000 in
theorem ggX1_isOnGrid_X1_driftAt : GoodIn wsX1_isOnGrid wsX1_driftAt := goodIn_r _ [6, 1, 7, 8, 9, 5, 10, 11, 12, 13, 14, 15, 16, 17, 18, 19, 20, 21, 22, 23, 24, 25, 26, 27, 28, 29] (by decide +kernel) (by decide +kernel)
set_option maxRecDepth 20000 in
theorem gX1_isOnGrid_X1_driftAt : GoodIn wsX1_isOnGrid (wsV RX1 118 RX1 yX1_driftAt wsX1_driftAt) := goodIn_app (goodIn_of _ (by decide +kernel)) ggX1_isOnGrid_X1_driftAt
theorem dX1_isOnGrid_0 : decode cX1_isOnGrid 0 = .ok (.iload_n 1, 1) := by decide +kernel
theorem dX1_isOnGrid_1 : decode cX1_isOnGrid 1 = .ok (.aload_n 0, 1) := by decide +kernel
theorem dX1_isOnGrid_2 : decode cX1_isOnGrid 2 = .ok (.getfield 49, 3) := by decide +kernel
theorem dX1_isOnGrid_5 : decode cX1_isOnGrid 5 = .ok (.if_icmp .lt 15, 3) := by decide +kernel
theorem dX1_isOnGrid_8 : decode cX1_isOnGrid 8 = .ok (.aload_n 0, 1) := by decide +kernel
theorem dX1_isOnGrid_9 : decode cX1_isOnGrid 9 = .ok (.iload_n 1, 1) := by decide +kernel
theorem dX1_isOnGrid_10 : decode cX1_isOnGrid 10 = .ok (.invokevirtual 118, 3) := by decide +kernel
theorem dX1_isOnGrid_13 : decode cX1_isOnGrid 13 = .ok (.ifCond .ne 7, 3) := by decide +kernel
theorem dX1_isOnGrid_16 : decode cX1_isOnGrid 16 = .ok (.iconst 1, 1) := by decide +kernel
theorem dX1_isOnGrid_17 : decode cX1_isOnGrid 17 = .ok (.goto 4, 3) := by decide +kernel
theorem dX1_isOnGrid_20 : decode cX1_isOnGrid 20 = .ok (.iconst 0, 1) := by decide +kernel
theorem dX1_isOnGrid_21 : decode cX1_isOnGrid 21 = .ok (.ireturn, 1) := by decide +kernel
set_option maxRecDepth 20000 in
theorem ggX1_baselinesOnPage_X1_positiveStep : GoodIn wsX1_baselinesOnPage wsX1_positiveStep := goodIn_r _ [7, 8, 9, 10, 11, 12, 13, 14, 15, 16, 17, 18, 19, 20, 21, 22] (by decide +kernel) (by decide +kernel)
set_option maxRecDepth 20000 in
theorem gX1_baselinesOnPage_X1_positiveStep : GoodIn wsX1_baselinesOnPage (wsV RX1 108 RX1 yX1_positiveStep wsX1_positiveStep) := goodIn_app (goodIn_of _ (by decide +kernel)) ggX1_baselinesOnPage_X1_positiveStep
theorem dX1_baselinesOnPage_0 : decode cX1_baselinesOnPage 0 = .ok (.aload_n 0, 1) := by decide +kernel
theorem dX1_baselinesOnPage_1 : decode cX1_baselinesOnPage 1 = .ok (.getfield 49, 3) := by decide +kernel
theorem dX1_baselinesOnPage_4 : decode cX1_baselinesOnPage 4 = .ok (.aload_n 0, 1) := by decide +kernel
theorem dX1_baselinesOnPage_5 : decode cX1_baselinesOnPage 5 = .ok (.getfield 45, 3) := by decide +kernel
theorem dX1_baselinesOnPage_8 : decode cX1_baselinesOnPage 8 = .ok (.if_icmp .le 7, 3) := by decide +kernel
theorem dX1_baselinesOnPage_11 : decode cX1_baselinesOnPage 11 = .ok (.iconst 0, 1) := by decide +kernel
theorem dX1_baselinesOnPage_12 : decode cX1_baselinesOnPage 12 = .ok (.goto 19, 3) := by decide +kernel
theorem dX1_baselinesOnPage_15 : decode cX1_baselinesOnPage 15 = .ok (.aload_n 0, 1) := by decide +kernel
theorem dX1_baselinesOnPage_16 : decode cX1_baselinesOnPage 16 = .ok (.getfield 45, 3) := by decide +kernel
theorem dX1_baselinesOnPage_19 : decode cX1_baselinesOnPage 19 = .ok (.aload_n 0, 1) := by decide +kernel
theorem dX1_baselinesOnPage_20 : decode cX1_baselinesOnPage 20 = .ok (.getfield 49, 3) := by decide +kernel
theorem dX1_baselinesOnPage_23 : decode cX1_baselinesOnPage 23 = .ok (.isub, 1) := by decide +kernel
theorem dX1_baselinesOnPage_24 : decode cX1_baselinesOnPage 24 = .ok (.aload_n 0, 1) := by decide +kernel
theorem dX1_baselinesOnPage_25 : decode cX1_baselinesOnPage 25 = .ok (.invokevirtual 108, 3) := by decide +kernel
theorem dX1_baselinesOnPage_28 : decode cX1_baselinesOnPage 28 = .ok (.idiv, 1) := by decide +kernel
theorem dX1_baselinesOnPage_29 : decode cX1_baselinesOnPage 29 = .ok (.iconst 1, 1) := by decide +kernel
theorem dX1_baselinesOnPage_30 : decode cX1_baselinesOnPage 30 = .ok (.iadd, 1) := by decide +kernel
theorem dX1_baselinesOnPage_31 : decode cX1_baselinesOnPage 31 = .ok (.ireturn, 1) := by decide +kernel
theorem dX1_positiveStep_0 : decode cX1_positiveStep 0 = .ok (.aload_n 0, 1) := by decide +kernel
theorem dX1_positiveStep_1 : decode cX1_positiveStep 1 = .ok (.getfield 56, 3) := by decide +kernel
theorem dX1_positiveStep_4 : decode cX1_positiveStep 4 = .ok (.ifCond .le 10, 3) := by decide +kernel
theorem dX1_positiveStep_7 : decode cX1_positiveStep 7 = .ok (.aload_n 0, 1) := by decide +kernel
theorem dX1_positiveStep_8 : decode cX1_positiveStep 8 = .ok (.getfield 56, 3) := by decide +kernel
theorem dX1_positiveStep_11 : decode cX1_positiveStep 11 = .ok (.goto 4, 3) := by decide +kernel
theorem dX1_positiveStep_14 : decode cX1_positiveStep 14 = .ok (.iconst 1, 1) := by decide +kernel
theorem dX1_positiveStep_15 : decode cX1_positiveStep 15 = .ok (.ireturn, 1) := by decide +kernel
set_option maxRecDepth 20000 in
theorem ggX1_cursorAhead_X1_isBlockPlace : GoodIn wsX1_cursorAhead wsX1_isBlockPlace := goodIn_r _ [5, 6, 7, 8] (by decide +kernel) (by decide +kernel)
set_option maxRecDepth 20000 in
theorem gX1_cursorAhead_X1_isBlockPlace : GoodIn wsX1_cursorAhead (va_wsS RX1 69 yX1_isBlockPlace wsX1_isBlockPlace) := goodIn_app (goodIn_of _ (by decide +kernel)) ggX1_cursorAhead_X1_isBlockPlace
theorem dX1_cursorAhead_0 : decode cX1_cursorAhead 0 = .ok (.iload_n 1, 1) := by decide +kernel
theorem dX1_cursorAhead_1 : decode cX1_cursorAhead 1 = .ok (.iload_n 2, 1) := by decide +kernel
theorem dX1_cursorAhead_2 : decode cX1_cursorAhead 2 = .ok (.invokestatic 69, 3) := by decide +kernel
theorem dX1_cursorAhead_5 : decode cX1_cursorAhead 5 = .ok (.ifCond .eq 17, 3) := by decide +kernel
theorem dX1_cursorAhead_8 : decode cX1_cursorAhead 8 = .ok (.aload_n 0, 1) := by decide +kernel
theorem dX1_cursorAhead_9 : decode cX1_cursorAhead 9 = .ok (.getfield 21, 3) := by decide +kernel
theorem dX1_cursorAhead_12 : decode cX1_cursorAhead 12 = .ok (.iload_n 1, 1) := by decide +kernel
theorem dX1_cursorAhead_13 : decode cX1_cursorAhead 13 = .ok (.bipush 16, 2) := by decide +kernel
theorem dX1_cursorAhead_15 : decode cX1_cursorAhead 15 = .ok (.imul, 1) := by decide +kernel
theorem dX1_cursorAhead_16 : decode cX1_cursorAhead 16 = .ok (.iload_n 2, 1) := by decide +kernel
theorem dX1_cursorAhead_17 : decode cX1_cursorAhead 17 = .ok (.iadd, 1) := by decide +kernel
theorem dX1_cursorAhead_18 : decode cX1_cursorAhead 18 = .ok (.iaload, 1) := by decide +kernel
theorem dX1_cursorAhead_19 : decode cX1_cursorAhead 19 = .ok (.goto 5, 3) := by decide +kernel
theorem dX1_cursorAhead_22 : decode cX1_cursorAhead 22 = .ok (.bipush (-5), 2) := by decide +kernel
theorem dX1_cursorAhead_24 : decode cX1_cursorAhead 24 = .ok (.ireturn, 1) := by decide +kernel
set_option maxRecDepth 20000 in
theorem ggX1_cursorBehind_X1_isBlockPlace : GoodIn wsX1_cursorBehind wsX1_isBlockPlace := goodIn_r _ [5, 6, 7, 8] (by decide +kernel) (by decide +kernel)
set_option maxRecDepth 20000 in
theorem gX1_cursorBehind_X1_isBlockPlace : GoodIn wsX1_cursorBehind (va_wsS RX1 69 yX1_isBlockPlace wsX1_isBlockPlace) := goodIn_app (goodIn_of _ (by decide +kernel)) ggX1_cursorBehind_X1_isBlockPlace
theorem dX1_cursorBehind_0 : decode cX1_cursorBehind 0 = .ok (.iload_n 1, 1) := by decide +kernel
theorem dX1_cursorBehind_1 : decode cX1_cursorBehind 1 = .ok (.iload_n 2, 1) := by decide +kernel
theorem dX1_cursorBehind_2 : decode cX1_cursorBehind 2 = .ok (.invokestatic 69, 3) := by decide +kernel
theorem dX1_cursorBehind_5 : decode cX1_cursorBehind 5 = .ok (.ifCond .eq 17, 3) := by decide +kernel
theorem dX1_cursorBehind_8 : decode cX1_cursorBehind 8 = .ok (.aload_n 0, 1) := by decide +kernel
theorem dX1_cursorBehind_9 : decode cX1_cursorBehind 9 = .ok (.getfield 24, 3) := by decide +kernel
theorem dX1_cursorBehind_12 : decode cX1_cursorBehind 12 = .ok (.iload_n 1, 1) := by decide +kernel
theorem dX1_cursorBehind_13 : decode cX1_cursorBehind 13 = .ok (.bipush 16, 2) := by decide +kernel
theorem dX1_cursorBehind_15 : decode cX1_cursorBehind 15 = .ok (.imul, 1) := by decide +kernel
theorem dX1_cursorBehind_16 : decode cX1_cursorBehind 16 = .ok (.iload_n 2, 1) := by decide +kernel
theorem dX1_cursorBehind_17 : decode cX1_cursorBehind 17 = .ok (.iadd, 1) := by decide +kernel
theorem dX1_cursorBehind_18 : decode cX1_cursorBehind 18 = .ok (.iaload, 1) := by decide +kernel
theorem dX1_cursorBehind_19 : decode cX1_cursorBehind 19 = .ok (.goto 5, 3) := by decide +kernel
theorem dX1_cursorBehind_22 : decode cX1_cursorBehind 22 = .ok (.bipush (-5), 2) := by decide +kernel
theorem dX1_cursorBehind_24 : decode cX1_cursorBehind 24 = .ok (.ireturn, 1) := by decide +kernel
set_option maxRecDepth 20000 in
theorem ggX1_setPartsOf_X1_isBlockPlace : GoodIn wsX1_setPartsOf wsX1_isBlockPlace := goodIn_r _ [5, 6, 7, 8] (by decide +kernel) (by decide +kernel)
set_option maxRecDepth 20000 in
theorem gX1_setPartsOf_X1_isBlockPlace : GoodIn wsX1_setPartsOf (va_wsS RX1 69 yX1_isBlockPlace wsX1_isBlockPlace) := goodIn_app (goodIn_of _ (by decide +kernel)) ggX1_setPartsOf_X1_isBlockPlace
theorem dX1_setPartsOf_0 : decode cX1_setPartsOf 0 = .ok (.iload_n 1, 1) := by decide +kernel
theorem dX1_setPartsOf_1 : decode cX1_setPartsOf 1 = .ok (.iload_n 2, 1) := by decide +kernel
theorem dX1_setPartsOf_2 : decode cX1_setPartsOf 2 = .ok (.invokestatic 69, 3) := by decide +kernel
theorem dX1_setPartsOf_5 : decode cX1_setPartsOf 5 = .ok (.ifCond .eq 17, 3) := by decide +kernel
theorem dX1_setPartsOf_8 : decode cX1_setPartsOf 8 = .ok (.aload_n 0, 1) := by decide +kernel
theorem dX1_setPartsOf_9 : decode cX1_setPartsOf 9 = .ok (.getfield 27, 3) := by decide +kernel
theorem dX1_setPartsOf_12 : decode cX1_setPartsOf 12 = .ok (.iload_n 1, 1) := by decide +kernel
theorem dX1_setPartsOf_13 : decode cX1_setPartsOf 13 = .ok (.bipush 16, 2) := by decide +kernel
theorem dX1_setPartsOf_15 : decode cX1_setPartsOf 15 = .ok (.imul, 1) := by decide +kernel
theorem dX1_setPartsOf_16 : decode cX1_setPartsOf 16 = .ok (.iload_n 2, 1) := by decide +kernel
theorem dX1_setPartsOf_17 : decode cX1_setPartsOf 17 = .ok (.iadd, 1) := by decide +kernel
theorem dX1_setPartsOf_18 : decode cX1_setPartsOf 18 = .ok (.iaload, 1) := by decide +kernel
theorem dX1_setPartsOf_19 : decode cX1_setPartsOf 19 = .ok (.goto 4, 3) := by decide +kernel
theorem dX1_setPartsOf_22 : decode cX1_setPartsOf 22 = .ok (.iconst 0, 1) := by decide +kernel
theorem dX1_setPartsOf_23 : decode cX1_setPartsOf 23 = .ok (.ireturn, 1) := by decide +kernel
set_option maxRecDepth 20000 in
theorem ggX1_linesOf_X4_isColumn : GoodIn wsX1_linesOf wsX4_isColumn := goodIn_r _ [4] (by decide +kernel) (by decide +kernel)
set_option maxRecDepth 20000 in
theorem gX1_linesOf_X4_isColumn_n98 : GoodIn wsX1_linesOf (wsX4_isColumn) := ggX1_linesOf_X4_isColumn
theorem dX1_linesOf_0 : decode cX1_linesOf 0 = .ok (.iload_n 1, 1) := by decide +kernel
theorem dX1_linesOf_1 : decode cX1_linesOf 1 = .ok (.invokestatic 98, 3) := by decide +kernel
theorem dX1_linesOf_4 : decode cX1_linesOf 4 = .ok (.ifCond .eq 12, 3) := by decide +kernel
theorem dX1_linesOf_7 : decode cX1_linesOf 7 = .ok (.aload_n 0, 1) := by decide +kernel
theorem dX1_linesOf_8 : decode cX1_linesOf 8 = .ok (.getfield 9, 3) := by decide +kernel
theorem dX1_linesOf_11 : decode cX1_linesOf 11 = .ok (.iload_n 1, 1) := by decide +kernel
theorem dX1_linesOf_12 : decode cX1_linesOf 12 = .ok (.iaload, 1) := by decide +kernel
theorem dX1_linesOf_13 : decode cX1_linesOf 13 = .ok (.goto 4, 3) := by decide +kernel
theorem dX1_linesOf_16 : decode cX1_linesOf 16 = .ok (.iconst 0, 1) := by decide +kernel
theorem dX1_linesOf_17 : decode cX1_linesOf 17 = .ok (.ireturn, 1) := by decide +kernel
set_option maxRecDepth 20000 in
theorem ggX1_endOf_X4_isColumn : GoodIn wsX1_endOf wsX4_isColumn := goodIn_r _ [4] (by decide +kernel) (by decide +kernel)
set_option maxRecDepth 20000 in
theorem gX1_endOf_X4_isColumn_n98 : GoodIn wsX1_endOf (wsX4_isColumn) := ggX1_endOf_X4_isColumn
theorem dX1_endOf_0 : decode cX1_endOf 0 = .ok (.iload_n 1, 1) := by decide +kernel
theorem dX1_endOf_1 : decode cX1_endOf 1 = .ok (.invokestatic 98, 3) := by decide +kernel
theorem dX1_endOf_4 : decode cX1_endOf 4 = .ok (.ifCond .eq 12, 3) := by decide +kernel
theorem dX1_endOf_7 : decode cX1_endOf 7 = .ok (.aload_n 0, 1) := by decide +kernel
theorem dX1_endOf_8 : decode cX1_endOf 8 = .ok (.getfield 15, 3) := by decide +kernel
theorem dX1_endOf_11 : decode cX1_endOf 11 = .ok (.iload_n 1, 1) := by decide +kernel
theorem dX1_endOf_12 : decode cX1_endOf 12 = .ok (.iaload, 1) := by decide +kernel
theorem dX1_endOf_13 : decode cX1_endOf 13 = .ok (.goto 4, 3) := by decide +kernel
theorem dX1_endOf_16 : decode cX1_endOf 16 = .ok (.iconst 0, 1) := by decide +kernel
theorem dX1_endOf_17 : decode cX1_endOf 17 = .ok (.ireturn, 1) := by decide +kernel
set_option maxRecDepth 20000 in
theorem ggX1_overflowingBlockOf_X4_isColumn : GoodIn wsX1_overflowingBlockOf wsX4_isColumn := goodIn_r _ [4] (by decide +kernel) (by decide +kernel)
set_option maxRecDepth 20000 in
theorem gX1_overflowingBlockOf_X4_isColumn_n98 : GoodIn wsX1_overflowingBlockOf (wsX4_isColumn) := ggX1_overflowingBlockOf_X4_isColumn
theorem dX1_overflowingBlockOf_0 : decode cX1_overflowingBlockOf 0 = .ok (.iload_n 1, 1) := by decide +kernel
theorem dX1_overflowingBlockOf_1 : decode cX1_overflowingBlockOf 1 = .ok (.invokestatic 98, 3) := by decide +kernel
theorem dX1_overflowingBlockOf_4 : decode cX1_overflowingBlockOf 4 = .ok (.ifCond .eq 12, 3) := by decide +kernel
theorem dX1_overflowingBlockOf_7 : decode cX1_overflowingBlockOf 7 = .ok (.aload_n 0, 1) := by decide +kernel
theorem dX1_overflowingBlockOf_8 : decode cX1_overflowingBlockOf 8 = .ok (.getfield 18, 3) := by decide +kernel
theorem dX1_overflowingBlockOf_11 : decode cX1_overflowingBlockOf 11 = .ok (.iload_n 1, 1) := by decide +kernel
theorem dX1_overflowingBlockOf_12 : decode cX1_overflowingBlockOf 12 = .ok (.iaload, 1) := by decide +kernel
theorem dX1_overflowingBlockOf_13 : decode cX1_overflowingBlockOf 13 = .ok (.goto 5, 3) := by decide +kernel
theorem dX1_overflowingBlockOf_16 : decode cX1_overflowingBlockOf 16 = .ok (.bipush (-5), 2) := by decide +kernel
theorem dX1_overflowingBlockOf_18 : decode cX1_overflowingBlockOf 18 = .ok (.ireturn, 1) := by decide +kernel
set_option maxRecDepth 20000 in
theorem ggX1_baselineOf_X1_isLinePlace : GoodIn wsX1_baselineOf wsX1_isLinePlace := goodIn_r _ [5, 6, 7, 8] (by decide +kernel) (by decide +kernel)
set_option maxRecDepth 20000 in
theorem gX1_baselineOf_X1_isLinePlace : GoodIn wsX1_baselineOf (va_wsS RX1 105 yX1_isLinePlace wsX1_isLinePlace) := goodIn_app (goodIn_of _ (by decide +kernel)) ggX1_baselineOf_X1_isLinePlace
theorem dX1_baselineOf_0 : decode cX1_baselineOf 0 = .ok (.iload_n 1, 1) := by decide +kernel
theorem dX1_baselineOf_1 : decode cX1_baselineOf 1 = .ok (.iload_n 2, 1) := by decide +kernel
theorem dX1_baselineOf_2 : decode cX1_baselineOf 2 = .ok (.invokestatic 105, 3) := by decide +kernel
theorem dX1_baselineOf_5 : decode cX1_baselineOf 5 = .ok (.ifCond .eq 18, 3) := by decide +kernel
theorem dX1_baselineOf_8 : decode cX1_baselineOf 8 = .ok (.aload_n 0, 1) := by decide +kernel
theorem dX1_baselineOf_9 : decode cX1_baselineOf 9 = .ok (.getfield 30, 3) := by decide +kernel
theorem dX1_baselineOf_12 : decode cX1_baselineOf 12 = .ok (.iload_n 1, 1) := by decide +kernel
theorem dX1_baselineOf_13 : decode cX1_baselineOf 13 = .ok (.sipush 640, 3) := by decide +kernel
theorem dX1_baselineOf_16 : decode cX1_baselineOf 16 = .ok (.imul, 1) := by decide +kernel
theorem dX1_baselineOf_17 : decode cX1_baselineOf 17 = .ok (.iload_n 2, 1) := by decide +kernel
theorem dX1_baselineOf_18 : decode cX1_baselineOf 18 = .ok (.iadd, 1) := by decide +kernel
theorem dX1_baselineOf_19 : decode cX1_baselineOf 19 = .ok (.iaload, 1) := by decide +kernel
theorem dX1_baselineOf_20 : decode cX1_baselineOf 20 = .ok (.goto 5, 3) := by decide +kernel
theorem dX1_baselineOf_23 : decode cX1_baselineOf 23 = .ok (.bipush (-5), 2) := by decide +kernel
theorem dX1_baselineOf_25 : decode cX1_baselineOf 25 = .ok (.ireturn, 1) := by decide +kernel
set_option maxRecDepth 20000 in
theorem ggX1_blockOfLine_X1_isLinePlace : GoodIn wsX1_blockOfLine wsX1_isLinePlace := goodIn_r _ [5, 6, 7, 8] (by decide +kernel) (by decide +kernel)
set_option maxRecDepth 20000 in
theorem gX1_blockOfLine_X1_isLinePlace : GoodIn wsX1_blockOfLine (va_wsS RX1 105 yX1_isLinePlace wsX1_isLinePlace) := goodIn_app (goodIn_of _ (by decide +kernel)) ggX1_blockOfLine_X1_isLinePlace
theorem dX1_blockOfLine_0 : decode cX1_blockOfLine 0 = .ok (.iload_n 1, 1) := by decide +kernel
theorem dX1_blockOfLine_1 : decode cX1_blockOfLine 1 = .ok (.iload_n 2, 1) := by decide +kernel
theorem dX1_blockOfLine_2 : decode cX1_blockOfLine 2 = .ok (.invokestatic 105, 3) := by decide +kernel
theorem dX1_blockOfLine_5 : decode cX1_blockOfLine 5 = .ok (.ifCond .eq 18, 3) := by decide +kernel
theorem dX1_blockOfLine_8 : decode cX1_blockOfLine 8 = .ok (.aload_n 0, 1) := by decide +kernel
theorem dX1_blockOfLine_9 : decode cX1_blockOfLine 9 = .ok (.getfield 33, 3) := by decide +kernel
theorem dX1_blockOfLine_12 : decode cX1_blockOfLine 12 = .ok (.iload_n 1, 1) := by decide +kernel
theorem dX1_blockOfLine_13 : decode cX1_blockOfLine 13 = .ok (.sipush 640, 3) := by decide +kernel
theorem dX1_blockOfLine_16 : decode cX1_blockOfLine 16 = .ok (.imul, 1) := by decide +kernel
theorem dX1_blockOfLine_17 : decode cX1_blockOfLine 17 = .ok (.iload_n 2, 1) := by decide +kernel
theorem dX1_blockOfLine_18 : decode cX1_blockOfLine 18 = .ok (.iadd, 1) := by decide +kernel
theorem dX1_blockOfLine_19 : decode cX1_blockOfLine 19 = .ok (.iaload, 1) := by decide +kernel
theorem dX1_blockOfLine_20 : decode cX1_blockOfLine 20 = .ok (.goto 5, 3) := by decide +kernel
theorem dX1_blockOfLine_23 : decode cX1_blockOfLine 23 = .ok (.bipush (-5), 2) := by decide +kernel
theorem dX1_blockOfLine_25 : decode cX1_blockOfLine 25 = .ok (.ireturn, 1) := by decide +kernel
set_option maxRecDepth 20000 in
theorem ggX1_hasLineAt_X1_linesOf : GoodIn wsX1_hasLineAt wsX1_linesOf := goodIn_r _ [5, 6, 7, 8, 9, 18, 19, 20, 21, 22, 23, 24, 25, 26, 27, 28, 29, 30, 31] (by decide +kernel) (by decide +kernel)
set_option maxRecDepth 20000 in
theorem gX1_hasLineAt_X1_linesOf : GoodIn wsX1_hasLineAt (wsV RX1 102 RX1 yX1_linesOf wsX1_linesOf) := goodIn_app (goodIn_of _ (by decide +kernel)) ggX1_hasLineAt_X1_linesOf
set_option maxRecDepth 20000 in
theorem ggX1_hasLineAt_X1_baselineOf : GoodIn wsX1_hasLineAt wsX1_baselineOf := goodIn_r _ [13, 14, 15, 16, 4, 17, 7, 8, 9, 18, 19, 20, 21, 22, 23, 24, 25, 26, 27, 28, 29, 30, 31] (by decide +kernel) (by decide +kernel)
set_option maxRecDepth 20000 in
theorem gX1_hasLineAt_X1_baselineOf : GoodIn wsX1_hasLineAt (wsV RX1 121 RX1 yX1_baselineOf wsX1_baselineOf) := goodIn_app (goodIn_of _ (by decide +kernel)) ggX1_hasLineAt_X1_baselineOf
theorem dX1_hasLineAt_0 : decode cX1_hasLineAt 0 = .ok (.iconst 0, 1) := by decide +kernel
theorem dX1_hasLineAt_1 : decode cX1_hasLineAt 1 = .ok (.istore_n 3, 1) := by decide +kernel
theorem dX1_hasLineAt_2 : decode cX1_hasLineAt 2 = .ok (.iload_n 3, 1) := by decide +kernel
theorem dX1_hasLineAt_3 : decode cX1_hasLineAt 3 = .ok (.aload_n 0, 1) := by decide +kernel
theorem dX1_hasLineAt_4 : decode cX1_hasLineAt 4 = .ok (.iload_n 1, 1) := by decide +kernel
theorem dX1_hasLineAt_5 : decode cX1_hasLineAt 5 = .ok (.invokevirtual 102, 3) := by decide +kernel
theorem dX1_hasLineAt_8 : decode cX1_hasLineAt 8 = .ok (.if_icmp .ge 21, 3) := by decide +kernel
theorem dX1_hasLineAt_11 : decode cX1_hasLineAt 11 = .ok (.aload_n 0, 1) := by decide +kernel
theorem dX1_hasLineAt_12 : decode cX1_hasLineAt 12 = .ok (.iload_n 1, 1) := by decide +kernel
theorem dX1_hasLineAt_13 : decode cX1_hasLineAt 13 = .ok (.iload_n 3, 1) := by decide +kernel
theorem dX1_hasLineAt_14 : decode cX1_hasLineAt 14 = .ok (.invokevirtual 121, 3) := by decide +kernel
theorem dX1_hasLineAt_17 : decode cX1_hasLineAt 17 = .ok (.iload_n 2, 1) := by decide +kernel
theorem dX1_hasLineAt_18 : decode cX1_hasLineAt 18 = .ok (.if_icmp .ne 5, 3) := by decide +kernel
theorem dX1_hasLineAt_21 : decode cX1_hasLineAt 21 = .ok (.iconst 1, 1) := by decide +kernel
theorem dX1_hasLineAt_22 : decode cX1_hasLineAt 22 = .ok (.ireturn, 1) := by decide +kernel
theorem dX1_hasLineAt_23 : decode cX1_hasLineAt 23 = .ok (.iinc 3 1, 3) := by decide +kernel
theorem dX1_hasLineAt_26 : decode cX1_hasLineAt 26 = .ok (.goto (-24), 3) := by decide +kernel
theorem dX1_hasLineAt_29 : decode cX1_hasLineAt 29 = .ok (.iconst 0, 1) := by decide +kernel
theorem dX1_hasLineAt_30 : decode cX1_hasLineAt 30 = .ok (.ireturn, 1) := by decide +kernel
set_option maxRecDepth 20000 in
theorem ggX1_sumOfDrifts_X1_linesOf : GoodIn wsX1_sumOfDrifts wsX1_linesOf := goodIn_r _ [5, 6, 7, 8, 9, 32, 33, 34, 35, 36, 37, 38, 39, 40, 41, 42, 43, 44, 45] (by decide +kernel) (by decide +kernel)
set_option maxRecDepth 20000 in
theorem gX1_sumOfDrifts_X1_linesOf : GoodIn wsX1_sumOfDrifts (wsV RX1 102 RX1 yX1_linesOf wsX1_linesOf) := goodIn_app (goodIn_of _ (by decide +kernel)) ggX1_sumOfDrifts_X1_linesOf
set_option maxRecDepth 20000 in
theorem ggX1_sumOfDrifts_X1_baselineOf : GoodIn wsX1_sumOfDrifts wsX1_baselineOf := goodIn_r _ [13, 14, 15, 16, 4, 17, 7, 8, 9, 32, 33, 34, 35, 36, 37, 38, 39, 40, 41, 42, 43, 44, 45] (by decide +kernel) (by decide +kernel)
set_option maxRecDepth 20000 in
theorem gX1_sumOfDrifts_X1_baselineOf : GoodIn wsX1_sumOfDrifts (wsV RX1 121 RX1 yX1_baselineOf wsX1_baselineOf) := goodIn_app (goodIn_of _ (by decide +kernel)) ggX1_sumOfDrifts_X1_baselineOf
set_option maxRecDepth 20000 in
theorem ggX1_sumOfDrifts_X1_driftAt : GoodIn wsX1_sumOfDrifts wsX1_driftAt := goodIn_r _ [21, 22, 23, 24, 25, 4, 26, 27, 28, 29, 30, 31, 32, 33, 34, 35, 36, 37, 38, 39, 40, 41, 42, 43, 44, 45] (by decide +kernel) (by decide +kernel)
set_option maxRecDepth 20000 in
theorem gX1_sumOfDrifts_X1_driftAt : GoodIn wsX1_sumOfDrifts (wsV RX1 118 RX1 yX1_driftAt wsX1_driftAt) := goodIn_app (goodIn_of _ (by decide +kernel)) ggX1_sumOfDrifts_X1_driftAt
theorem dX1_sumOfDrifts_0 : decode cX1_sumOfDrifts 0 = .ok (.iconst 0, 1) := by decide +kernel
theorem dX1_sumOfDrifts_1 : decode cX1_sumOfDrifts 1 = .ok (.istore_n 2, 1) := by decide +kernel
theorem dX1_sumOfDrifts_2 : decode cX1_sumOfDrifts 2 = .ok (.iconst 0, 1) := by decide +kernel
theorem dX1_sumOfDrifts_3 : decode cX1_sumOfDrifts 3 = .ok (.istore_n 3, 1) := by decide +kernel
theorem dX1_sumOfDrifts_4 : decode cX1_sumOfDrifts 4 = .ok (.iload_n 3, 1) := by decide +kernel
theorem dX1_sumOfDrifts_5 : decode cX1_sumOfDrifts 5 = .ok (.aload_n 0, 1) := by decide +kernel
theorem dX1_sumOfDrifts_6 : decode cX1_sumOfDrifts 6 = .ok (.iload_n 1, 1) := by decide +kernel
theorem dX1_sumOfDrifts_7 : decode cX1_sumOfDrifts 7 = .ok (.invokevirtual 102, 3) := by decide +kernel
theorem dX1_sumOfDrifts_10 : decode cX1_sumOfDrifts 10 = .ok (.if_icmp .ge 22, 3) := by decide +kernel
theorem dX1_sumOfDrifts_13 : decode cX1_sumOfDrifts 13 = .ok (.iload_n 2, 1) := by decide +kernel
theorem dX1_sumOfDrifts_14 : decode cX1_sumOfDrifts 14 = .ok (.aload_n 0, 1) := by decide +kernel
theorem dX1_sumOfDrifts_15 : decode cX1_sumOfDrifts 15 = .ok (.aload_n 0, 1) := by decide +kernel
theorem dX1_sumOfDrifts_16 : decode cX1_sumOfDrifts 16 = .ok (.iload_n 1, 1) := by decide +kernel
theorem dX1_sumOfDrifts_17 : decode cX1_sumOfDrifts 17 = .ok (.iload_n 3, 1) := by decide +kernel
theorem dX1_sumOfDrifts_18 : decode cX1_sumOfDrifts 18 = .ok (.invokevirtual 121, 3) := by decide +kernel
theorem dX1_sumOfDrifts_21 : decode cX1_sumOfDrifts 21 = .ok (.invokevirtual 118, 3) := by decide +kernel
theorem dX1_sumOfDrifts_24 : decode cX1_sumOfDrifts 24 = .ok (.iadd, 1) := by decide +kernel
theorem dX1_sumOfDrifts_25 : decode cX1_sumOfDrifts 25 = .ok (.istore_n 2, 1) := by decide +kernel
theorem dX1_sumOfDrifts_26 : decode cX1_sumOfDrifts 26 = .ok (.iinc 3 1, 3) := by decide +kernel
theorem dX1_sumOfDrifts_29 : decode cX1_sumOfDrifts 29 = .ok (.goto (-25), 3) := by decide +kernel
theorem dX1_sumOfDrifts_32 : decode cX1_sumOfDrifts 32 = .ok (.iload_n 2, 1) := by decide +kernel
theorem dX1_sumOfDrifts_33 : decode cX1_sumOfDrifts 33 = .ok (.ireturn, 1) := by decide +kernel
set_option maxRecDepth 20000 in
theorem ggX1_greatestDrift_X1_linesOf : GoodIn wsX1_greatestDrift wsX1_linesOf := goodIn_r _ [9, 10, 11, 12, 13, 36, 37, 38, 39, 40, 41, 42, 43, 44, 45, 46, 47, 48, 49] (by decide +kernel) (by decide +kernel)
set_option maxRecDepth 20000 in
theorem gX1_greatestDrift_X1_linesOf : GoodIn wsX1_greatestDrift (wsV RX1 102 RX1 yX1_linesOf wsX1_linesOf) := goodIn_app (goodIn_of _ (by decide +kernel)) ggX1_greatestDrift_X1_linesOf
set_option maxRecDepth 20000 in
theorem ggX1_greatestDrift_X1_baselineOf : GoodIn wsX1_greatestDrift wsX1_baselineOf := goodIn_r _ [17, 18, 19, 20, 8, 21, 11, 12, 13, 36, 37, 38, 39, 40, 41, 42, 43, 44, 45, 46, 47, 48, 49] (by decide +kernel) (by decide +kernel)
set_option maxRecDepth 20000 in
theorem gX1_greatestDrift_X1_baselineOf : GoodIn wsX1_greatestDrift (wsV RX1 121 RX1 yX1_baselineOf wsX1_baselineOf) := goodIn_app (goodIn_of _ (by decide +kernel)) ggX1_greatestDrift_X1_baselineOf
set_option maxRecDepth 20000 in
theorem ggX1_greatestDrift_X1_driftAt : GoodIn wsX1_greatestDrift wsX1_driftAt := goodIn_r _ [25, 26, 27, 28, 29, 8, 30, 31, 32, 33, 34, 35, 36, 37, 38, 39, 40, 41, 42, 43, 44, 45, 46, 47, 48, 49] (by decide +kernel) (by decide +kernel)
set_option maxRecDepth 20000 in
theorem gX1_greatestDrift_X1_driftAt : GoodIn wsX1_greatestDrift (wsV RX1 118 RX1 yX1_driftAt wsX1_driftAt) := goodIn_app (goodIn_of _ (by decide +kernel)) ggX1_greatestDrift_X1_driftAt
theorem dX1_greatestDrift_0 : decode cX1_greatestDrift 0 = .ok (.iconst 0, 1) := by decide +kernel
theorem dX1_greatestDrift_1 : decode cX1_greatestDrift 1 = .ok (.istore_n 2, 1) := by decide +kernel
theorem dX1_greatestDrift_2 : decode cX1_greatestDrift 2 = .ok (.iconst 0, 1) := by decide +kernel
theorem dX1_greatestDrift_3 : decode cX1_greatestDrift 3 = .ok (.istore_n 3, 1) := by decide +kernel
theorem dX1_greatestDrift_4 : decode cX1_greatestDrift 4 = .ok (.iload_n 3, 1) := by decide +kernel
theorem dX1_greatestDrift_5 : decode cX1_greatestDrift 5 = .ok (.aload_n 0, 1) := by decide +kernel
theorem dX1_greatestDrift_6 : decode cX1_greatestDrift 6 = .ok (.iload_n 1, 1) := by decide +kernel
theorem dX1_greatestDrift_7 : decode cX1_greatestDrift 7 = .ok (.invokevirtual 102, 3) := by decide +kernel
theorem dX1_greatestDrift_10 : decode cX1_greatestDrift 10 = .ok (.if_icmp .ge 24, 3) := by decide +kernel
theorem dX1_greatestDrift_13 : decode cX1_greatestDrift 13 = .ok (.iload_n 2, 1) := by decide +kernel
theorem dX1_greatestDrift_14 : decode cX1_greatestDrift 14 = .ok (.aload_n 0, 1) := by decide +kernel
theorem dX1_greatestDrift_15 : decode cX1_greatestDrift 15 = .ok (.aload_n 0, 1) := by decide +kernel
theorem dX1_greatestDrift_16 : decode cX1_greatestDrift 16 = .ok (.iload_n 1, 1) := by decide +kernel
theorem dX1_greatestDrift_17 : decode cX1_greatestDrift 17 = .ok (.iload_n 3, 1) := by decide +kernel
theorem dX1_greatestDrift_18 : decode cX1_greatestDrift 18 = .ok (.invokevirtual 121, 3) := by decide +kernel
theorem dX1_greatestDrift_21 : decode cX1_greatestDrift 21 = .ok (.invokevirtual 118, 3) := by decide +kernel
theorem dX1_greatestDrift_24 : decode cX1_greatestDrift 24 = .ok (.invokestatic 124, 3) := by decide +kernel
theorem dX1_greatestDrift_27 : decode cX1_greatestDrift 27 = .ok (.istore_n 2, 1) := by decide +kernel
theorem dX1_greatestDrift_28 : decode cX1_greatestDrift 28 = .ok (.iinc 3 1, 3) := by decide +kernel
theorem dX1_greatestDrift_31 : decode cX1_greatestDrift 31 = .ok (.goto (-27), 3) := by decide +kernel
theorem dX1_greatestDrift_34 : decode cX1_greatestDrift 34 = .ok (.iload_n 2, 1) := by decide +kernel
theorem dX1_greatestDrift_35 : decode cX1_greatestDrift 35 = .ok (.ireturn, 1) := by decide +kernel
set_option maxRecDepth 20000 in
theorem ggX1_linesOnGrid_X1_linesOf : GoodIn wsX1_linesOnGrid wsX1_linesOf := goodIn_r _ [5, 6, 7, 8, 9, 36, 37, 38, 39, 40, 41, 42, 43, 44, 45, 46, 47, 48, 49] (by decide +kernel) (by decide +kernel)
set_option maxRecDepth 20000 in
theorem gX1_linesOnGrid_X1_linesOf : GoodIn wsX1_linesOnGrid (wsV RX1 102 RX1 yX1_linesOf wsX1_linesOf) := goodIn_app (goodIn_of _ (by decide +kernel)) ggX1_linesOnGrid_X1_linesOf
set_option maxRecDepth 20000 in
theorem ggX1_linesOnGrid_X1_baselineOf : GoodIn wsX1_linesOnGrid wsX1_baselineOf := goodIn_r _ [13, 14, 15, 16, 4, 17, 7, 8, 9, 36, 37, 38, 39, 40, 41, 42, 43, 44, 45, 46, 47, 48, 49] (by decide +kernel) (by decide +kernel)
set_option maxRecDepth 20000 in
theorem gX1_linesOnGrid_X1_baselineOf : GoodIn wsX1_linesOnGrid (wsV RX1 121 RX1 yX1_baselineOf wsX1_baselineOf) := goodIn_app (goodIn_of _ (by decide +kernel)) ggX1_linesOnGrid_X1_baselineOf
set_option maxRecDepth 20000 in
theorem ggX1_linesOnGrid_X1_isOnGrid : GoodIn wsX1_linesOnGrid wsX1_isOnGrid := goodIn_r _ [21, 22, 23, 24, 25, 4, 26, 27, 28, 29, 30, 31, 32, 33, 34, 35, 36, 37, 38, 39, 40, 41, 42, 43, 44, 45, 46, 47, 48, 49] (by decide +kernel) (by decide +kernel)
set_option maxRecDepth 20000 in
theorem gX1_linesOnGrid_X1_isOnGrid : GoodIn wsX1_linesOnGrid (wsV RX1 127 RX1 yX1_isOnGrid wsX1_isOnGrid) := goodIn_app (goodIn_of _ (by decide +kernel)) ggX1_linesOnGrid_X1_isOnGrid
theorem dX1_linesOnGrid_0 : decode cX1_linesOnGrid 0 = .ok (.iconst 0, 1) := by decide +kernel
theorem dX1_linesOnGrid_1 : decode cX1_linesOnGrid 1 = .ok (.istore_n 2, 1) := by decide +kernel
theorem dX1_linesOnGrid_2 : decode cX1_linesOnGrid 2 = .ok (.iconst 0, 1) := by decide +kernel
theorem dX1_linesOnGrid_3 : decode cX1_linesOnGrid 3 = .ok (.istore_n 3, 1) := by decide +kernel
theorem dX1_linesOnGrid_4 : decode cX1_linesOnGrid 4 = .ok (.iload_n 3, 1) := by decide +kernel
theorem dX1_linesOnGrid_5 : decode cX1_linesOnGrid 5 = .ok (.aload_n 0, 1) := by decide +kernel
theorem dX1_linesOnGrid_6 : decode cX1_linesOnGrid 6 = .ok (.iload_n 1, 1) := by decide +kernel
theorem dX1_linesOnGrid_7 : decode cX1_linesOnGrid 7 = .ok (.invokevirtual 102, 3) := by decide +kernel
theorem dX1_linesOnGrid_10 : decode cX1_linesOnGrid 10 = .ok (.if_icmp .ge 25, 3) := by decide +kernel
theorem dX1_linesOnGrid_13 : decode cX1_linesOnGrid 13 = .ok (.aload_n 0, 1) := by decide +kernel
theorem dX1_linesOnGrid_14 : decode cX1_linesOnGrid 14 = .ok (.aload_n 0, 1) := by decide +kernel
theorem dX1_linesOnGrid_15 : decode cX1_linesOnGrid 15 = .ok (.iload_n 1, 1) := by decide +kernel
theorem dX1_linesOnGrid_16 : decode cX1_linesOnGrid 16 = .ok (.iload_n 3, 1) := by decide +kernel
theorem dX1_linesOnGrid_17 : decode cX1_linesOnGrid 17 = .ok (.invokevirtual 121, 3) := by decide +kernel
theorem dX1_linesOnGrid_20 : decode cX1_linesOnGrid 20 = .ok (.invokevirtual 127, 3) := by decide +kernel
theorem dX1_linesOnGrid_23 : decode cX1_linesOnGrid 23 = .ok (.ifCond .eq 6, 3) := by decide +kernel
theorem dX1_linesOnGrid_26 : decode cX1_linesOnGrid 26 = .ok (.iinc 2 1, 3) := by decide +kernel
theorem dX1_linesOnGrid_29 : decode cX1_linesOnGrid 29 = .ok (.iinc 3 1, 3) := by decide +kernel
theorem dX1_linesOnGrid_32 : decode cX1_linesOnGrid 32 = .ok (.goto (-28), 3) := by decide +kernel
theorem dX1_linesOnGrid_35 : decode cX1_linesOnGrid 35 = .ok (.iload_n 2, 1) := by decide +kernel
theorem dX1_linesOnGrid_36 : decode cX1_linesOnGrid 36 = .ok (.ireturn, 1) := by decide +kernel
set_option maxRecDepth 20000 in
theorem ggX1_metLines_X1_linesOf : GoodIn wsX1_metLines wsX1_linesOf := goodIn_r _ [5, 6, 7, 8, 9, 22, 23, 24, 25, 26, 27, 28, 29, 30, 31, 32, 33, 34, 35] (by decide +kernel) (by decide +kernel)
set_option maxRecDepth 20000 in
theorem gX1_metLines_X1_linesOf : GoodIn wsX1_metLines (wsV RX1 102 RX1 yX1_linesOf wsX1_linesOf) := goodIn_app (goodIn_of _ (by decide +kernel)) ggX1_metLines_X1_linesOf
set_option maxRecDepth 20000 in
theorem ggX1_metLines_X1_baselineOf : GoodIn wsX1_metLines wsX1_baselineOf := goodIn_r _ [13, 14, 15, 16, 4, 17, 7, 8, 9, 22, 23, 24, 25, 26, 27, 28, 29, 30, 31, 32, 33, 34, 35] (by decide +kernel) (by decide +kernel)
set_option maxRecDepth 20000 in
theorem gX1_metLines_X1_baselineOf : GoodIn wsX1_metLines (wsV RX1 121 RX1 yX1_baselineOf wsX1_baselineOf) := goodIn_app (goodIn_of _ (by decide +kernel)) ggX1_metLines_X1_baselineOf
set_option maxRecDepth 20000 in
theorem ggX1_metLines_X1_hasLineAt : GoodIn wsX1_metLines wsX1_hasLineAt := goodIn_r _ [21, 1, 2, 3, 4, 5, 6, 7, 8, 9, 10, 11, 12, 13, 14, 15, 16, 17, 22, 23, 24, 25, 26, 27, 28, 29, 30, 31, 32, 33, 34, 35] (by decide +kernel) (by decide +kernel)
set_option maxRecDepth 20000 in
theorem gX1_metLines_X1_hasLineAt : GoodIn wsX1_metLines (wsV RX1 130 RX1 yX1_hasLineAt wsX1_hasLineAt) := goodIn_app (goodIn_of _ (by decide +kernel)) ggX1_metLines_X1_hasLineAt
theorem dX1_metLines_0 : decode cX1_metLines 0 = .ok (.iconst 0, 1) := by decide +kernel
theorem dX1_metLines_1 : decode cX1_metLines 1 = .ok (.istore_n 2, 1) := by decide +kernel
theorem dX1_metLines_2 : decode cX1_metLines 2 = .ok (.iconst 0, 1) := by decide +kernel
theorem dX1_metLines_3 : decode cX1_metLines 3 = .ok (.istore_n 3, 1) := by decide +kernel
theorem dX1_metLines_4 : decode cX1_metLines 4 = .ok (.iload_n 3, 1) := by decide +kernel
theorem dX1_metLines_5 : decode cX1_metLines 5 = .ok (.aload_n 0, 1) := by decide +kernel
theorem dX1_metLines_6 : decode cX1_metLines 6 = .ok (.iload_n 1, 1) := by decide +kernel
theorem dX1_metLines_7 : decode cX1_metLines 7 = .ok (.invokevirtual 102, 3) := by decide +kernel
theorem dX1_metLines_10 : decode cX1_metLines 10 = .ok (.if_icmp .ge 44, 3) := by decide +kernel
theorem dX1_metLines_13 : decode cX1_metLines 13 = .ok (.aload_n 0, 1) := by decide +kernel
theorem dX1_metLines_14 : decode cX1_metLines 14 = .ok (.iload_n 1, 1) := by decide +kernel
theorem dX1_metLines_15 : decode cX1_metLines 15 = .ok (.iload_n 3, 1) := by decide +kernel
theorem dX1_metLines_16 : decode cX1_metLines 16 = .ok (.invokevirtual 121, 3) := by decide +kernel
theorem dX1_metLines_19 : decode cX1_metLines 19 = .ok (.istore 4, 2) := by decide +kernel
theorem dX1_metLines_21 : decode cX1_metLines 21 = .ok (.aload_n 0, 1) := by decide +kernel
theorem dX1_metLines_22 : decode cX1_metLines 22 = .ok (.iload_n 1, 1) := by decide +kernel
theorem dX1_metLines_23 : decode cX1_metLines 23 = .ok (.iconst 1, 1) := by decide +kernel
theorem dX1_metLines_24 : decode cX1_metLines 24 = .ok (.isub, 1) := by decide +kernel
theorem dX1_metLines_25 : decode cX1_metLines 25 = .ok (.iload 4, 2) := by decide +kernel
theorem dX1_metLines_27 : decode cX1_metLines 27 = .ok (.invokevirtual 130, 3) := by decide +kernel
theorem dX1_metLines_30 : decode cX1_metLines 30 = .ok (.ifCond .ne 15, 3) := by decide +kernel
theorem dX1_metLines_33 : decode cX1_metLines 33 = .ok (.aload_n 0, 1) := by decide +kernel
theorem dX1_metLines_34 : decode cX1_metLines 34 = .ok (.iload_n 1, 1) := by decide +kernel
theorem dX1_metLines_35 : decode cX1_metLines 35 = .ok (.iconst 1, 1) := by decide +kernel
theorem dX1_metLines_36 : decode cX1_metLines 36 = .ok (.iadd, 1) := by decide +kernel
theorem dX1_metLines_37 : decode cX1_metLines 37 = .ok (.iload 4, 2) := by decide +kernel
theorem dX1_metLines_39 : decode cX1_metLines 39 = .ok (.invokevirtual 130, 3) := by decide +kernel
theorem dX1_metLines_42 : decode cX1_metLines 42 = .ok (.ifCond .eq 6, 3) := by decide +kernel
theorem dX1_metLines_45 : decode cX1_metLines 45 = .ok (.iinc 2 1, 3) := by decide +kernel
theorem dX1_metLines_48 : decode cX1_metLines 48 = .ok (.iinc 3 1, 3) := by decide +kernel
theorem dX1_metLines_51 : decode cX1_metLines 51 = .ok (.goto (-47), 3) := by decide +kernel
theorem dX1_metLines_54 : decode cX1_metLines 54 = .ok (.iload_n 2, 1) := by decide +kernel
theorem dX1_metLines_55 : decode cX1_metLines 55 = .ok (.ireturn, 1) := by decide +kernel
set_option maxRecDepth 20000 in
theorem ggX1_allLines_X1_linesOf : GoodIn wsX1_allLines wsX1_linesOf := goodIn_r _ [5, 6, 7, 8, 9, 10, 11, 12, 13, 14, 15, 16, 17, 18, 19, 20, 21, 22, 23] (by decide +kernel) (by decide +kernel)
set_option maxRecDepth 20000 in
theorem gX1_allLines_X1_linesOf : GoodIn wsX1_allLines (wsV RX1 102 RX1 yX1_linesOf wsX1_linesOf) := goodIn_app (goodIn_of _ (by decide +kernel)) ggX1_allLines_X1_linesOf
theorem dX1_allLines_0 : decode cX1_allLines 0 = .ok (.iconst 0, 1) := by decide +kernel
theorem dX1_allLines_1 : decode cX1_allLines 1 = .ok (.istore_n 1, 1) := by decide +kernel
theorem dX1_allLines_2 : decode cX1_allLines 2 = .ok (.iconst 0, 1) := by decide +kernel
theorem dX1_allLines_3 : decode cX1_allLines 3 = .ok (.istore_n 2, 1) := by decide +kernel
theorem dX1_allLines_4 : decode cX1_allLines 4 = .ok (.iload_n 2, 1) := by decide +kernel
theorem dX1_allLines_5 : decode cX1_allLines 5 = .ok (.iconst 4, 1) := by decide +kernel
theorem dX1_allLines_6 : decode cX1_allLines 6 = .ok (.if_icmp .ge 17, 3) := by decide +kernel
theorem dX1_allLines_9 : decode cX1_allLines 9 = .ok (.iload_n 1, 1) := by decide +kernel
theorem dX1_allLines_10 : decode cX1_allLines 10 = .ok (.aload_n 0, 1) := by decide +kernel
theorem dX1_allLines_11 : decode cX1_allLines 11 = .ok (.iload_n 2, 1) := by decide +kernel
theorem dX1_allLines_12 : decode cX1_allLines 12 = .ok (.invokevirtual 102, 3) := by decide +kernel
theorem dX1_allLines_15 : decode cX1_allLines 15 = .ok (.iadd, 1) := by decide +kernel
theorem dX1_allLines_16 : decode cX1_allLines 16 = .ok (.istore_n 1, 1) := by decide +kernel
theorem dX1_allLines_17 : decode cX1_allLines 17 = .ok (.iinc 2 1, 3) := by decide +kernel
theorem dX1_allLines_20 : decode cX1_allLines 20 = .ok (.goto (-16), 3) := by decide +kernel
theorem dX1_allLines_23 : decode cX1_allLines 23 = .ok (.iload_n 1, 1) := by decide +kernel
theorem dX1_allLines_24 : decode cX1_allLines 24 = .ok (.ireturn, 1) := by decide +kernel
set_option maxRecDepth 20000 in
theorem ggX1_sumOfAllDrifts_X1_sumOfDrifts : GoodIn wsX1_sumOfAllDrifts wsX1_sumOfDrifts := goodIn_r _ [5, 6, 7, 8, 4, 9, 10, 11, 12, 13, 14, 15, 16, 17, 18, 19, 20, 21, 22, 23, 24, 25, 26, 27, 28, 29, 30, 31, 32, 33, 34, 35, 36, 37, 38, 39, 40, 41, 42, 43, 44, 45, 46, 47, 48, 49] (by decide +kernel) (by decide +kernel)
set_option maxRecDepth 20000 in
theorem gX1_sumOfAllDrifts_X1_sumOfDrifts : GoodIn wsX1_sumOfAllDrifts (wsV RX1 133 RX1 yX1_sumOfDrifts wsX1_sumOfDrifts) := goodIn_app (goodIn_of _ (by decide +kernel)) ggX1_sumOfAllDrifts_X1_sumOfDrifts
theorem dX1_sumOfAllDrifts_0 : decode cX1_sumOfAllDrifts 0 = .ok (.iconst 0, 1) := by decide +kernel
theorem dX1_sumOfAllDrifts_1 : decode cX1_sumOfAllDrifts 1 = .ok (.istore_n 1, 1) := by decide +kernel
theorem dX1_sumOfAllDrifts_2 : decode cX1_sumOfAllDrifts 2 = .ok (.iconst 0, 1) := by decide +kernel
theorem dX1_sumOfAllDrifts_3 : decode cX1_sumOfAllDrifts 3 = .ok (.istore_n 2, 1) := by decide +kernel
theorem dX1_sumOfAllDrifts_4 : decode cX1_sumOfAllDrifts 4 = .ok (.iload_n 2, 1) := by decide +kernel
theorem dX1_sumOfAllDrifts_5 : decode cX1_sumOfAllDrifts 5 = .ok (.iconst 4, 1) := by decide +kernel
theorem dX1_sumOfAllDrifts_6 : decode cX1_sumOfAllDrifts 6 = .ok (.if_icmp .ge 17, 3) := by decide +kernel
theorem dX1_sumOfAllDrifts_9 : decode cX1_sumOfAllDrifts 9 = .ok (.iload_n 1, 1) := by decide +kernel
theorem dX1_sumOfAllDrifts_10 : decode cX1_sumOfAllDrifts 10 = .ok (.aload_n 0, 1) := by decide +kernel
theorem dX1_sumOfAllDrifts_11 : decode cX1_sumOfAllDrifts 11 = .ok (.iload_n 2, 1) := by decide +kernel
theorem dX1_sumOfAllDrifts_12 : decode cX1_sumOfAllDrifts 12 = .ok (.invokevirtual 133, 3) := by decide +kernel
theorem dX1_sumOfAllDrifts_15 : decode cX1_sumOfAllDrifts 15 = .ok (.iadd, 1) := by decide +kernel
theorem dX1_sumOfAllDrifts_16 : decode cX1_sumOfAllDrifts 16 = .ok (.istore_n 1, 1) := by decide +kernel
theorem dX1_sumOfAllDrifts_17 : decode cX1_sumOfAllDrifts 17 = .ok (.iinc 2 1, 3) := by decide +kernel
theorem dX1_sumOfAllDrifts_20 : decode cX1_sumOfAllDrifts 20 = .ok (.goto (-16), 3) := by decide +kernel
theorem dX1_sumOfAllDrifts_23 : decode cX1_sumOfAllDrifts 23 = .ok (.iload_n 1, 1) := by decide +kernel
theorem dX1_sumOfAllDrifts_24 : decode cX1_sumOfAllDrifts 24 = .ok (.ireturn, 1) := by decide +kernel
set_option maxRecDepth 20000 in
theorem ggX1_allLinesOnGrid_X1_linesOnGrid : GoodIn wsX1_allLinesOnGrid wsX1_linesOnGrid := goodIn_r _ [5, 6, 7, 8, 4, 9, 10, 11, 12, 13, 14, 15, 16, 17, 18, 19, 20, 21, 22, 23, 24, 25, 26, 27, 28, 29, 30, 31, 32, 33, 34, 35, 36, 37, 38, 39, 40, 41, 42, 43, 44, 45, 46, 47, 48, 49, 50, 51, 52, 53] (by decide +kernel) (by decide +kernel)
set_option maxRecDepth 20000 in
theorem gX1_allLinesOnGrid_X1_linesOnGrid : GoodIn wsX1_allLinesOnGrid (wsV RX1 136 RX1 yX1_linesOnGrid wsX1_linesOnGrid) := goodIn_app (goodIn_of _ (by decide +kernel)) ggX1_allLinesOnGrid_X1_linesOnGrid
theorem dX1_allLinesOnGrid_0 : decode cX1_allLinesOnGrid 0 = .ok (.iconst 0, 1) := by decide +kernel
theorem dX1_allLinesOnGrid_1 : decode cX1_allLinesOnGrid 1 = .ok (.istore_n 1, 1) := by decide +kernel
theorem dX1_allLinesOnGrid_2 : decode cX1_allLinesOnGrid 2 = .ok (.iconst 0, 1) := by decide +kernel
theorem dX1_allLinesOnGrid_3 : decode cX1_allLinesOnGrid 3 = .ok (.istore_n 2, 1) := by decide +kernel
theorem dX1_allLinesOnGrid_4 : decode cX1_allLinesOnGrid 4 = .ok (.iload_n 2, 1) := by decide +kernel
theorem dX1_allLinesOnGrid_5 : decode cX1_allLinesOnGrid 5 = .ok (.iconst 4, 1) := by decide +kernel
theorem dX1_allLinesOnGrid_6 : decode cX1_allLinesOnGrid 6 = .ok (.if_icmp .ge 17, 3) := by decide +kernel
theorem dX1_allLinesOnGrid_9 : decode cX1_allLinesOnGrid 9 = .ok (.iload_n 1, 1) := by decide +kernel
theorem dX1_allLinesOnGrid_10 : decode cX1_allLinesOnGrid 10 = .ok (.aload_n 0, 1) := by decide +kernel
theorem dX1_allLinesOnGrid_11 : decode cX1_allLinesOnGrid 11 = .ok (.iload_n 2, 1) := by decide +kernel
theorem dX1_allLinesOnGrid_12 : decode cX1_allLinesOnGrid 12 = .ok (.invokevirtual 136, 3) := by decide +kernel
theorem dX1_allLinesOnGrid_15 : decode cX1_allLinesOnGrid 15 = .ok (.iadd, 1) := by decide +kernel
theorem dX1_allLinesOnGrid_16 : decode cX1_allLinesOnGrid 16 = .ok (.istore_n 1, 1) := by decide +kernel
theorem dX1_allLinesOnGrid_17 : decode cX1_allLinesOnGrid 17 = .ok (.iinc 2 1, 3) := by decide +kernel
theorem dX1_allLinesOnGrid_20 : decode cX1_allLinesOnGrid 20 = .ok (.goto (-16), 3) := by decide +kernel
theorem dX1_allLinesOnGrid_23 : decode cX1_allLinesOnGrid 23 = .ok (.iload_n 1, 1) := by decide +kernel
theorem dX1_allLinesOnGrid_24 : decode cX1_allLinesOnGrid 24 = .ok (.ireturn, 1) := by decide +kernel
set_option maxRecDepth 20000 in
theorem ggX1_overflowingColumns_X1_overflowingBlockOf : GoodIn wsX1_overflowingColumns wsX1_overflowingBlockOf := goodIn_r _ [5, 6, 7, 8, 9, 10, 11, 12, 13, 14, 15, 16, 17, 18, 19, 20, 21, 22, 23] (by decide +kernel) (by decide +kernel)
set_option maxRecDepth 20000 in
theorem gX1_overflowingColumns_X1_overflowingBlockOf : GoodIn wsX1_overflowingColumns (wsV RX1 139 RX1 yX1_overflowingBlockOf wsX1_overflowingBlockOf) := goodIn_app (goodIn_of _ (by decide +kernel)) ggX1_overflowingColumns_X1_overflowingBlockOf
theorem dX1_overflowingColumns_0 : decode cX1_overflowingColumns 0 = .ok (.iconst 0, 1) := by decide +kernel
theorem dX1_overflowingColumns_1 : decode cX1_overflowingColumns 1 = .ok (.istore_n 1, 1) := by decide +kernel
theorem dX1_overflowingColumns_2 : decode cX1_overflowingColumns 2 = .ok (.iconst 0, 1) := by decide +kernel
theorem dX1_overflowingColumns_3 : decode cX1_overflowingColumns 3 = .ok (.istore_n 2, 1) := by decide +kernel
theorem dX1_overflowingColumns_4 : decode cX1_overflowingColumns 4 = .ok (.iload_n 2, 1) := by decide +kernel
theorem dX1_overflowingColumns_5 : decode cX1_overflowingColumns 5 = .ok (.iconst 4, 1) := by decide +kernel
theorem dX1_overflowingColumns_6 : decode cX1_overflowingColumns 6 = .ok (.if_icmp .ge 22, 3) := by decide +kernel
theorem dX1_overflowingColumns_9 : decode cX1_overflowingColumns 9 = .ok (.aload_n 0, 1) := by decide +kernel
theorem dX1_overflowingColumns_10 : decode cX1_overflowingColumns 10 = .ok (.iload_n 2, 1) := by decide +kernel
theorem dX1_overflowingColumns_11 : decode cX1_overflowingColumns 11 = .ok (.invokevirtual 139, 3) := by decide +kernel
theorem dX1_overflowingColumns_14 : decode cX1_overflowingColumns 14 = .ok (.bipush (-5), 2) := by decide +kernel
theorem dX1_overflowingColumns_16 : decode cX1_overflowingColumns 16 = .ok (.if_icmp .eq 6, 3) := by decide +kernel
theorem dX1_overflowingColumns_19 : decode cX1_overflowingColumns 19 = .ok (.iinc 1 1, 3) := by decide +kernel
theorem dX1_overflowingColumns_22 : decode cX1_overflowingColumns 22 = .ok (.iinc 2 1, 3) := by decide +kernel
theorem dX1_overflowingColumns_25 : decode cX1_overflowingColumns 25 = .ok (.goto (-21), 3) := by decide +kernel
theorem dX1_overflowingColumns_28 : decode cX1_overflowingColumns 28 = .ok (.iload_n 1, 1) := by decide +kernel
theorem dX1_overflowingColumns_29 : decode cX1_overflowingColumns 29 = .ok (.ireturn, 1) := by decide +kernel
set_option maxRecDepth 20000 in
theorem ggX1_greatestEnd_X1_endOf : GoodIn wsX1_greatestEnd wsX1_endOf := goodIn_r _ [9, 10, 11, 12, 13, 14, 15, 16, 17, 18, 19, 20, 21, 22, 23, 24, 25, 26, 27] (by decide +kernel) (by decide +kernel)
set_option maxRecDepth 20000 in
theorem gX1_greatestEnd_X1_endOf : GoodIn wsX1_greatestEnd (wsV RX1 142 RX1 yX1_endOf wsX1_endOf) := goodIn_app (goodIn_of _ (by decide +kernel)) ggX1_greatestEnd_X1_endOf
theorem dX1_greatestEnd_0 : decode cX1_greatestEnd 0 = .ok (.iconst 0, 1) := by decide +kernel
theorem dX1_greatestEnd_1 : decode cX1_greatestEnd 1 = .ok (.istore_n 1, 1) := by decide +kernel
theorem dX1_greatestEnd_2 : decode cX1_greatestEnd 2 = .ok (.iconst 0, 1) := by decide +kernel
theorem dX1_greatestEnd_3 : decode cX1_greatestEnd 3 = .ok (.istore_n 2, 1) := by decide +kernel
theorem dX1_greatestEnd_4 : decode cX1_greatestEnd 4 = .ok (.iload_n 2, 1) := by decide +kernel
theorem dX1_greatestEnd_5 : decode cX1_greatestEnd 5 = .ok (.iconst 4, 1) := by decide +kernel
theorem dX1_greatestEnd_6 : decode cX1_greatestEnd 6 = .ok (.if_icmp .ge 19, 3) := by decide +kernel
theorem dX1_greatestEnd_9 : decode cX1_greatestEnd 9 = .ok (.iload_n 1, 1) := by decide +kernel
theorem dX1_greatestEnd_10 : decode cX1_greatestEnd 10 = .ok (.aload_n 0, 1) := by decide +kernel
theorem dX1_greatestEnd_11 : decode cX1_greatestEnd 11 = .ok (.iload_n 2, 1) := by decide +kernel
theorem dX1_greatestEnd_12 : decode cX1_greatestEnd 12 = .ok (.invokevirtual 142, 3) := by decide +kernel
theorem dX1_greatestEnd_15 : decode cX1_greatestEnd 15 = .ok (.invokestatic 124, 3) := by decide +kernel
theorem dX1_greatestEnd_18 : decode cX1_greatestEnd 18 = .ok (.istore_n 1, 1) := by decide +kernel
theorem dX1_greatestEnd_19 : decode cX1_greatestEnd 19 = .ok (.iinc 2 1, 3) := by decide +kernel
theorem dX1_greatestEnd_22 : decode cX1_greatestEnd 22 = .ok (.goto (-18), 3) := by decide +kernel
theorem dX1_greatestEnd_25 : decode cX1_greatestEnd 25 = .ok (.iload_n 1, 1) := by decide +kernel
theorem dX1_greatestEnd_26 : decode cX1_greatestEnd 26 = .ok (.ireturn, 1) := by decide +kernel
set_option maxRecDepth 20000 in
theorem ggX1_columnsAt_X1_hasLineAt : GoodIn wsX1_columnsAt wsX1_hasLineAt := goodIn_r _ [5, 6, 7, 8, 4, 9, 10, 11, 12, 13, 14, 15, 16, 17, 18, 19, 20, 21, 22, 23, 24, 25, 26, 27, 28, 29, 30, 31, 32, 33, 34, 35] (by decide +kernel) (by decide +kernel)
set_option maxRecDepth 20000 in
theorem gX1_columnsAt_X1_hasLineAt : GoodIn wsX1_columnsAt (wsV RX1 130 RX1 yX1_hasLineAt wsX1_hasLineAt) := goodIn_app (goodIn_of _ (by decide +kernel)) ggX1_columnsAt_X1_hasLineAt
theorem dX1_columnsAt_0 : decode cX1_columnsAt 0 = .ok (.iconst 0, 1) := by decide +kernel
theorem dX1_columnsAt_1 : decode cX1_columnsAt 1 = .ok (.istore_n 2, 1) := by decide +kernel
theorem dX1_columnsAt_2 : decode cX1_columnsAt 2 = .ok (.iconst 0, 1) := by decide +kernel
theorem dX1_columnsAt_3 : decode cX1_columnsAt 3 = .ok (.istore_n 3, 1) := by decide +kernel
theorem dX1_columnsAt_4 : decode cX1_columnsAt 4 = .ok (.iload_n 3, 1) := by decide +kernel
theorem dX1_columnsAt_5 : decode cX1_columnsAt 5 = .ok (.iconst 4, 1) := by decide +kernel
theorem dX1_columnsAt_6 : decode cX1_columnsAt 6 = .ok (.if_icmp .ge 21, 3) := by decide +kernel
theorem dX1_columnsAt_9 : decode cX1_columnsAt 9 = .ok (.aload_n 0, 1) := by decide +kernel
theorem dX1_columnsAt_10 : decode cX1_columnsAt 10 = .ok (.iload_n 3, 1) := by decide +kernel
theorem dX1_columnsAt_11 : decode cX1_columnsAt 11 = .ok (.iload_n 1, 1) := by decide +kernel
theorem dX1_columnsAt_12 : decode cX1_columnsAt 12 = .ok (.invokevirtual 130, 3) := by decide +kernel
theorem dX1_columnsAt_15 : decode cX1_columnsAt 15 = .ok (.ifCond .eq 6, 3) := by decide +kernel
theorem dX1_columnsAt_18 : decode cX1_columnsAt 18 = .ok (.iinc 2 1, 3) := by decide +kernel
theorem dX1_columnsAt_21 : decode cX1_columnsAt 21 = .ok (.iinc 3 1, 3) := by decide +kernel
theorem dX1_columnsAt_24 : decode cX1_columnsAt 24 = .ok (.goto (-20), 3) := by decide +kernel
theorem dX1_columnsAt_27 : decode cX1_columnsAt 27 = .ok (.iload_n 2, 1) := by decide +kernel
theorem dX1_columnsAt_28 : decode cX1_columnsAt 28 = .ok (.ireturn, 1) := by decide +kernel
set_option maxRecDepth 20000 in
theorem ggX1_sharedBaseline_X1_uppermostReached : GoodIn wsX1_sharedBaseline wsX1_uppermostReached := goodIn_r _ [6, 1, 7, 8, 9, 10, 11, 12, 13, 5, 14, 15, 16, 17, 18, 19, 20, 21, 22, 23, 24, 25, 26, 31, 32, 33, 34, 35, 36, 37, 38, 39, 40, 41, 42, 43, 44] (by decide +kernel) (by decide +kernel)
set_option maxRecDepth 20000 in
theorem gX1_sharedBaseline_X1_uppermostReached : GoodIn wsX1_sharedBaseline (wsV RX1 145 RX1 yX1_uppermostReached wsX1_uppermostReached) := goodIn_app (goodIn_of _ (by decide +kernel)) ggX1_sharedBaseline_X1_uppermostReached
set_option maxRecDepth 20000 in
theorem ggX1_sharedBaseline_X1_passLinesAt : GoodIn wsX1_sharedBaseline wsX1_passLinesAt := goodIn_r _ [30, 1, 11, 12, 13, 5, 14, 15, 16, 17, 18, 19, 20, 21, 22, 23, 24, 25, 26, 31, 32, 33, 34, 35, 36, 37, 38, 39, 40, 41, 42, 43, 44] (by decide +kernel) (by decide +kernel)
set_option maxRecDepth 20000 in
theorem gX1_sharedBaseline_X1_passLinesAt : GoodIn wsX1_sharedBaseline (wsV RX1 148 RX1 yX1_passLinesAt wsX1_passLinesAt) := goodIn_app (goodIn_of _ (by decide +kernel)) ggX1_sharedBaseline_X1_passLinesAt
theorem dX1_sharedBaseline_0 : decode cX1_sharedBaseline 0 = .ok (.iconst 0, 1) := by decide +kernel
theorem dX1_sharedBaseline_1 : decode cX1_sharedBaseline 1 = .ok (.istore_n 2, 1) := by decide +kernel
theorem dX1_sharedBaseline_2 : decode cX1_sharedBaseline 2 = .ok (.iconst 0, 1) := by decide +kernel
theorem dX1_sharedBaseline_3 : decode cX1_sharedBaseline 3 = .ok (.istore_n 3, 1) := by decide +kernel
theorem dX1_sharedBaseline_4 : decode cX1_sharedBaseline 4 = .ok (.iload_n 3, 1) := by decide +kernel
theorem dX1_sharedBaseline_5 : decode cX1_sharedBaseline 5 = .ok (.iconst 4, 1) := by decide +kernel
theorem dX1_sharedBaseline_6 : decode cX1_sharedBaseline 6 = .ok (.if_icmp .ge 16, 3) := by decide +kernel
theorem dX1_sharedBaseline_9 : decode cX1_sharedBaseline 9 = .ok (.aload_n 0, 1) := by decide +kernel
theorem dX1_sharedBaseline_10 : decode cX1_sharedBaseline 10 = .ok (.getfield 36, 3) := by decide +kernel
theorem dX1_sharedBaseline_13 : decode cX1_sharedBaseline 13 = .ok (.iload_n 3, 1) := by decide +kernel
theorem dX1_sharedBaseline_14 : decode cX1_sharedBaseline 14 = .ok (.iconst 0, 1) := by decide +kernel
theorem dX1_sharedBaseline_15 : decode cX1_sharedBaseline 15 = .ok (.iastore, 1) := by decide +kernel
theorem dX1_sharedBaseline_16 : decode cX1_sharedBaseline 16 = .ok (.iinc 3 1, 3) := by decide +kernel
theorem dX1_sharedBaseline_19 : decode cX1_sharedBaseline 19 = .ok (.goto (-15), 3) := by decide +kernel
theorem dX1_sharedBaseline_22 : decode cX1_sharedBaseline 22 = .ok (.iconst 0, 1) := by decide +kernel
theorem dX1_sharedBaseline_23 : decode cX1_sharedBaseline 23 = .ok (.istore_n 3, 1) := by decide +kernel
theorem dX1_sharedBaseline_24 : decode cX1_sharedBaseline 24 = .ok (.iload_n 3, 1) := by decide +kernel
theorem dX1_sharedBaseline_25 : decode cX1_sharedBaseline 25 = .ok (.sipush 2560, 3) := by decide +kernel
theorem dX1_sharedBaseline_28 : decode cX1_sharedBaseline 28 = .ok (.if_icmp .ge 46, 3) := by decide +kernel
theorem dX1_sharedBaseline_31 : decode cX1_sharedBaseline 31 = .ok (.aload_n 0, 1) := by decide +kernel
theorem dX1_sharedBaseline_32 : decode cX1_sharedBaseline 32 = .ok (.invokevirtual 145, 3) := by decide +kernel
theorem dX1_sharedBaseline_35 : decode cX1_sharedBaseline 35 = .ok (.istore 4, 2) := by decide +kernel
theorem dX1_sharedBaseline_37 : decode cX1_sharedBaseline 37 = .ok (.iload 4, 2) := by decide +kernel
theorem dX1_sharedBaseline_39 : decode cX1_sharedBaseline 39 = .ok (.bipush (-5), 2) := by decide +kernel
theorem dX1_sharedBaseline_41 : decode cX1_sharedBaseline 41 = .ok (.if_icmp .ne 6, 3) := by decide +kernel
theorem dX1_sharedBaseline_44 : decode cX1_sharedBaseline 44 = .ok (.bipush (-5), 2) := by decide +kernel
theorem dX1_sharedBaseline_46 : decode cX1_sharedBaseline 46 = .ok (.ireturn, 1) := by decide +kernel
theorem dX1_sharedBaseline_47 : decode cX1_sharedBaseline 47 = .ok (.aload_n 0, 1) := by decide +kernel
theorem dX1_sharedBaseline_48 : decode cX1_sharedBaseline 48 = .ok (.iload 4, 2) := by decide +kernel
theorem dX1_sharedBaseline_50 : decode cX1_sharedBaseline 50 = .ok (.invokevirtual 148, 3) := by decide +kernel
theorem dX1_sharedBaseline_53 : decode cX1_sharedBaseline 53 = .ok (.iconst 2, 1) := by decide +kernel
theorem dX1_sharedBaseline_54 : decode cX1_sharedBaseline 54 = .ok (.if_icmp .lt 14, 3) := by decide +kernel
theorem dX1_sharedBaseline_57 : decode cX1_sharedBaseline 57 = .ok (.iload_n 2, 1) := by decide +kernel
theorem dX1_sharedBaseline_58 : decode cX1_sharedBaseline 58 = .ok (.iload_n 1, 1) := by decide +kernel
theorem dX1_sharedBaseline_59 : decode cX1_sharedBaseline 59 = .ok (.if_icmp .ne 6, 3) := by decide +kernel
theorem dX1_sharedBaseline_62 : decode cX1_sharedBaseline 62 = .ok (.iload 4, 2) := by decide +kernel
theorem dX1_sharedBaseline_64 : decode cX1_sharedBaseline 64 = .ok (.ireturn, 1) := by decide +kernel
theorem dX1_sharedBaseline_65 : decode cX1_sharedBaseline 65 = .ok (.iinc 2 1, 3) := by decide +kernel
theorem dX1_sharedBaseline_68 : decode cX1_sharedBaseline 68 = .ok (.iinc 3 1, 3) := by decide +kernel
theorem dX1_sharedBaseline_71 : decode cX1_sharedBaseline 71 = .ok (.goto (-47), 3) := by decide +kernel
theorem dX1_sharedBaseline_74 : decode cX1_sharedBaseline 74 = .ok (.bipush (-5), 2) := by decide +kernel
theorem dX1_sharedBaseline_76 : decode cX1_sharedBaseline 76 = .ok (.ireturn, 1) := by decide +kernel
set_option maxRecDepth 20000 in
theorem ggX1_uppermostReached_X1_linesOf : GoodIn wsX1_uppermostReached wsX1_linesOf := goodIn_r _ [10, 11, 12, 13, 14, 23, 24, 25, 26, 27, 28, 29, 30, 31, 32, 33, 34, 35, 36] (by decide +kernel) (by decide +kernel)
set_option maxRecDepth 20000 in
theorem gX1_uppermostReached_X1_linesOf : GoodIn wsX1_uppermostReached (wsV RX1 102 RX1 yX1_linesOf wsX1_linesOf) := goodIn_app (goodIn_of _ (by decide +kernel)) ggX1_uppermostReached_X1_linesOf
set_option maxRecDepth 20000 in
theorem ggX1_uppermostReached_X1_baselineOf : GoodIn wsX1_uppermostReached wsX1_baselineOf := goodIn_r _ [18, 19, 20, 21, 9, 22, 12, 13, 14, 23, 24, 25, 26, 27, 28, 29, 30, 31, 32, 33, 34, 35, 36] (by decide +kernel) (by decide +kernel)
set_option maxRecDepth 20000 in
theorem gX1_uppermostReached_X1_baselineOf : GoodIn wsX1_uppermostReached (wsV RX1 121 RX1 yX1_baselineOf wsX1_baselineOf) := goodIn_app (goodIn_of _ (by decide +kernel)) ggX1_uppermostReached_X1_baselineOf
theorem dX1_uppermostReached_0 : decode cX1_uppermostReached 0 = .ok (.bipush (-5), 2) := by decide +kernel
theorem dX1_uppermostReached_2 : decode cX1_uppermostReached 2 = .ok (.istore_n 1, 1) := by decide +kernel
theorem dX1_uppermostReached_3 : decode cX1_uppermostReached 3 = .ok (.iconst 0, 1) := by decide +kernel
theorem dX1_uppermostReached_4 : decode cX1_uppermostReached 4 = .ok (.istore_n 2, 1) := by decide +kernel
theorem dX1_uppermostReached_5 : decode cX1_uppermostReached 5 = .ok (.iload_n 2, 1) := by decide +kernel
theorem dX1_uppermostReached_6 : decode cX1_uppermostReached 6 = .ok (.iconst 4, 1) := by decide +kernel
theorem dX1_uppermostReached_7 : decode cX1_uppermostReached 7 = .ok (.if_icmp .ge 51, 3) := by decide +kernel
theorem dX1_uppermostReached_10 : decode cX1_uppermostReached 10 = .ok (.aload_n 0, 1) := by decide +kernel
theorem dX1_uppermostReached_11 : decode cX1_uppermostReached 11 = .ok (.getfield 36, 3) := by decide +kernel
theorem dX1_uppermostReached_14 : decode cX1_uppermostReached 14 = .ok (.iload_n 2, 1) := by decide +kernel
theorem dX1_uppermostReached_15 : decode cX1_uppermostReached 15 = .ok (.iaload, 1) := by decide +kernel
theorem dX1_uppermostReached_16 : decode cX1_uppermostReached 16 = .ok (.aload_n 0, 1) := by decide +kernel
theorem dX1_uppermostReached_17 : decode cX1_uppermostReached 17 = .ok (.iload_n 2, 1) := by decide +kernel
theorem dX1_uppermostReached_18 : decode cX1_uppermostReached 18 = .ok (.invokevirtual 102, 3) := by decide +kernel
theorem dX1_uppermostReached_21 : decode cX1_uppermostReached 21 = .ok (.if_icmp .ge 31, 3) := by decide +kernel
theorem dX1_uppermostReached_24 : decode cX1_uppermostReached 24 = .ok (.aload_n 0, 1) := by decide +kernel
theorem dX1_uppermostReached_25 : decode cX1_uppermostReached 25 = .ok (.iload_n 2, 1) := by decide +kernel
theorem dX1_uppermostReached_26 : decode cX1_uppermostReached 26 = .ok (.aload_n 0, 1) := by decide +kernel
theorem dX1_uppermostReached_27 : decode cX1_uppermostReached 27 = .ok (.getfield 36, 3) := by decide +kernel
theorem dX1_uppermostReached_30 : decode cX1_uppermostReached 30 = .ok (.iload_n 2, 1) := by decide +kernel
theorem dX1_uppermostReached_31 : decode cX1_uppermostReached 31 = .ok (.iaload, 1) := by decide +kernel
theorem dX1_uppermostReached_32 : decode cX1_uppermostReached 32 = .ok (.invokevirtual 121, 3) := by decide +kernel
theorem dX1_uppermostReached_35 : decode cX1_uppermostReached 35 = .ok (.istore_n 3, 1) := by decide +kernel
theorem dX1_uppermostReached_36 : decode cX1_uppermostReached 36 = .ok (.iload_n 1, 1) := by decide +kernel
theorem dX1_uppermostReached_37 : decode cX1_uppermostReached 37 = .ok (.bipush (-5), 2) := by decide +kernel
theorem dX1_uppermostReached_39 : decode cX1_uppermostReached 39 = .ok (.if_icmp .ne 7, 3) := by decide +kernel
theorem dX1_uppermostReached_42 : decode cX1_uppermostReached 42 = .ok (.iload_n 3, 1) := by decide +kernel
theorem dX1_uppermostReached_43 : decode cX1_uppermostReached 43 = .ok (.goto 8, 3) := by decide +kernel
theorem dX1_uppermostReached_46 : decode cX1_uppermostReached 46 = .ok (.iload_n 1, 1) := by decide +kernel
theorem dX1_uppermostReached_47 : decode cX1_uppermostReached 47 = .ok (.iload_n 3, 1) := by decide +kernel
theorem dX1_uppermostReached_48 : decode cX1_uppermostReached 48 = .ok (.invokestatic 151, 3) := by decide +kernel
theorem dX1_uppermostReached_51 : decode cX1_uppermostReached 51 = .ok (.istore_n 1, 1) := by decide +kernel
theorem dX1_uppermostReached_52 : decode cX1_uppermostReached 52 = .ok (.iinc 2 1, 3) := by decide +kernel
theorem dX1_uppermostReached_55 : decode cX1_uppermostReached 55 = .ok (.goto (-50), 3) := by decide +kernel
theorem dX1_uppermostReached_58 : decode cX1_uppermostReached 58 = .ok (.iload_n 1, 1) := by decide +kernel
theorem dX1_uppermostReached_59 : decode cX1_uppermostReached 59 = .ok (.ireturn, 1) := by decide +kernel
set_option maxRecDepth 20000 in
theorem ggX1_passLinesAt_X1_linesOf : GoodIn wsX1_passLinesAt wsX1_linesOf := goodIn_r _ [6, 7, 8, 9, 10, 19, 20, 21, 22, 23, 24, 25, 26, 27, 28, 29, 30, 31, 32] (by decide +kernel) (by decide +kernel)
set_option maxRecDepth 20000 in
theorem gX1_passLinesAt_X1_linesOf : GoodIn wsX1_passLinesAt (wsV RX1 102 RX1 yX1_linesOf wsX1_linesOf) := goodIn_app (goodIn_of _ (by decide +kernel)) ggX1_passLinesAt_X1_linesOf
set_option maxRecDepth 20000 in
theorem ggX1_passLinesAt_X1_baselineOf : GoodIn wsX1_passLinesAt wsX1_baselineOf := goodIn_r _ [14, 15, 16, 17, 5, 18, 8, 9, 10, 19, 20, 21, 22, 23, 24, 25, 26, 27, 28, 29, 30, 31, 32] (by decide +kernel) (by decide +kernel)
set_option maxRecDepth 20000 in
theorem gX1_passLinesAt_X1_baselineOf : GoodIn wsX1_passLinesAt (wsV RX1 121 RX1 yX1_baselineOf wsX1_baselineOf) := goodIn_app (goodIn_of _ (by decide +kernel)) ggX1_passLinesAt_X1_baselineOf
theorem dX1_passLinesAt_0 : decode cX1_passLinesAt 0 = .ok (.iconst 0, 1) := by decide +kernel
theorem dX1_passLinesAt_1 : decode cX1_passLinesAt 1 = .ok (.istore_n 2, 1) := by decide +kernel
theorem dX1_passLinesAt_2 : decode cX1_passLinesAt 2 = .ok (.iconst 0, 1) := by decide +kernel
theorem dX1_passLinesAt_3 : decode cX1_passLinesAt 3 = .ok (.istore_n 3, 1) := by decide +kernel
theorem dX1_passLinesAt_4 : decode cX1_passLinesAt 4 = .ok (.iload_n 3, 1) := by decide +kernel
theorem dX1_passLinesAt_5 : decode cX1_passLinesAt 5 = .ok (.iconst 4, 1) := by decide +kernel
theorem dX1_passLinesAt_6 : decode cX1_passLinesAt 6 = .ok (.if_icmp .ge 51, 3) := by decide +kernel
theorem dX1_passLinesAt_9 : decode cX1_passLinesAt 9 = .ok (.aload_n 0, 1) := by decide +kernel
theorem dX1_passLinesAt_10 : decode cX1_passLinesAt 10 = .ok (.getfield 36, 3) := by decide +kernel
theorem dX1_passLinesAt_13 : decode cX1_passLinesAt 13 = .ok (.iload_n 3, 1) := by decide +kernel
theorem dX1_passLinesAt_14 : decode cX1_passLinesAt 14 = .ok (.iaload, 1) := by decide +kernel
theorem dX1_passLinesAt_15 : decode cX1_passLinesAt 15 = .ok (.aload_n 0, 1) := by decide +kernel
theorem dX1_passLinesAt_16 : decode cX1_passLinesAt 16 = .ok (.iload_n 3, 1) := by decide +kernel
theorem dX1_passLinesAt_17 : decode cX1_passLinesAt 17 = .ok (.invokevirtual 102, 3) := by decide +kernel
theorem dX1_passLinesAt_20 : decode cX1_passLinesAt 20 = .ok (.if_icmp .ge 31, 3) := by decide +kernel
theorem dX1_passLinesAt_23 : decode cX1_passLinesAt 23 = .ok (.aload_n 0, 1) := by decide +kernel
theorem dX1_passLinesAt_24 : decode cX1_passLinesAt 24 = .ok (.iload_n 3, 1) := by decide +kernel
theorem dX1_passLinesAt_25 : decode cX1_passLinesAt 25 = .ok (.aload_n 0, 1) := by decide +kernel
theorem dX1_passLinesAt_26 : decode cX1_passLinesAt 26 = .ok (.getfield 36, 3) := by decide +kernel
theorem dX1_passLinesAt_29 : decode cX1_passLinesAt 29 = .ok (.iload_n 3, 1) := by decide +kernel
theorem dX1_passLinesAt_30 : decode cX1_passLinesAt 30 = .ok (.iaload, 1) := by decide +kernel
theorem dX1_passLinesAt_31 : decode cX1_passLinesAt 31 = .ok (.invokevirtual 121, 3) := by decide +kernel
theorem dX1_passLinesAt_34 : decode cX1_passLinesAt 34 = .ok (.iload_n 1, 1) := by decide +kernel
theorem dX1_passLinesAt_35 : decode cX1_passLinesAt 35 = .ok (.if_icmp .ne 16, 3) := by decide +kernel
theorem dX1_passLinesAt_38 : decode cX1_passLinesAt 38 = .ok (.aload_n 0, 1) := by decide +kernel
theorem dX1_passLinesAt_39 : decode cX1_passLinesAt 39 = .ok (.getfield 36, 3) := by decide +kernel
theorem dX1_passLinesAt_42 : decode cX1_passLinesAt 42 = .ok (.iload_n 3, 1) := by decide +kernel
theorem dX1_passLinesAt_43 : decode cX1_passLinesAt 43 = .ok (.dup2, 1) := by decide +kernel
theorem dX1_passLinesAt_44 : decode cX1_passLinesAt 44 = .ok (.iaload, 1) := by decide +kernel
theorem dX1_passLinesAt_45 : decode cX1_passLinesAt 45 = .ok (.iconst 1, 1) := by decide +kernel
theorem dX1_passLinesAt_46 : decode cX1_passLinesAt 46 = .ok (.iadd, 1) := by decide +kernel
theorem dX1_passLinesAt_47 : decode cX1_passLinesAt 47 = .ok (.iastore, 1) := by decide +kernel
theorem dX1_passLinesAt_48 : decode cX1_passLinesAt 48 = .ok (.iinc 2 1, 3) := by decide +kernel
theorem dX1_passLinesAt_51 : decode cX1_passLinesAt 51 = .ok (.iinc 3 1, 3) := by decide +kernel
theorem dX1_passLinesAt_54 : decode cX1_passLinesAt 54 = .ok (.goto (-50), 3) := by decide +kernel
theorem dX1_passLinesAt_57 : decode cX1_passLinesAt 57 = .ok (.iload_n 2, 1) := by decide +kernel
theorem dX1_passLinesAt_58 : decode cX1_passLinesAt 58 = .ok (.ireturn, 1) := by decide +kernel
set_option maxRecDepth 20000 in
theorem ggX1_isBlockPlace_X4_isColumn : GoodIn wsX1_isBlockPlace wsX4_isColumn := goodIn_r _ [3] (by decide +kernel) (by decide +kernel)
set_option maxRecDepth 20000 in
theorem gX1_isBlockPlace_X4_isColumn_n98 : GoodIn wsX1_isBlockPlace (wsX4_isColumn) := ggX1_isBlockPlace_X4_isColumn
theorem dX1_isBlockPlace_0 : decode cX1_isBlockPlace 0 = .ok (.iload_n 0, 1) := by decide +kernel
theorem dX1_isBlockPlace_1 : decode cX1_isBlockPlace 1 = .ok (.invokestatic 98, 3) := by decide +kernel
theorem dX1_isBlockPlace_4 : decode cX1_isBlockPlace 4 = .ok (.ifCond .eq 17, 3) := by decide +kernel
theorem dX1_isBlockPlace_7 : decode cX1_isBlockPlace 7 = .ok (.iload_n 1, 1) := by decide +kernel
theorem dX1_isBlockPlace_8 : decode cX1_isBlockPlace 8 = .ok (.ifCond .lt 13, 3) := by decide +kernel
theorem dX1_isBlockPlace_11 : decode cX1_isBlockPlace 11 = .ok (.iload_n 1, 1) := by decide +kernel
theorem dX1_isBlockPlace_12 : decode cX1_isBlockPlace 12 = .ok (.bipush 16, 2) := by decide +kernel
theorem dX1_isBlockPlace_14 : decode cX1_isBlockPlace 14 = .ok (.if_icmp .ge 7, 3) := by decide +kernel
theorem dX1_isBlockPlace_17 : decode cX1_isBlockPlace 17 = .ok (.iconst 1, 1) := by decide +kernel
theorem dX1_isBlockPlace_18 : decode cX1_isBlockPlace 18 = .ok (.goto 4, 3) := by decide +kernel
theorem dX1_isBlockPlace_21 : decode cX1_isBlockPlace 21 = .ok (.iconst 0, 1) := by decide +kernel
theorem dX1_isBlockPlace_22 : decode cX1_isBlockPlace 22 = .ok (.ireturn, 1) := by decide +kernel
set_option maxRecDepth 20000 in
theorem ggX1_isLinePlace_X4_isColumn : GoodIn wsX1_isLinePlace wsX4_isColumn := goodIn_r _ [3] (by decide +kernel) (by decide +kernel)
set_option maxRecDepth 20000 in
theorem gX1_isLinePlace_X4_isColumn_n98 : GoodIn wsX1_isLinePlace (wsX4_isColumn) := ggX1_isLinePlace_X4_isColumn
theorem dX1_isLinePlace_0 : decode cX1_isLinePlace 0 = .ok (.iload_n 0, 1) := by decide +kernel
theorem dX1_isLinePlace_1 : decode cX1_isLinePlace 1 = .ok (.invokestatic 98, 3) := by decide +kernel
theorem dX1_isLinePlace_4 : decode cX1_isLinePlace 4 = .ok (.ifCond .eq 18, 3) := by decide +kernel
theorem dX1_isLinePlace_7 : decode cX1_isLinePlace 7 = .ok (.iload_n 1, 1) := by decide +kernel
theorem dX1_isLinePlace_8 : decode cX1_isLinePlace 8 = .ok (.ifCond .lt 14, 3) := by decide +kernel
theorem dX1_isLinePlace_11 : decode cX1_isLinePlace 11 = .ok (.iload_n 1, 1) := by decide +kernel
theorem dX1_isLinePlace_12 : decode cX1_isLinePlace 12 = .ok (.sipush 640, 3) := by decide +kernel
theorem dX1_isLinePlace_15 : decode cX1_isLinePlace 15 = .ok (.if_icmp .ge 7, 3) := by decide +kernel
theorem dX1_isLinePlace_18 : decode cX1_isLinePlace 18 = .ok (.iconst 1, 1) := by decide +kernel
theorem dX1_isLinePlace_19 : decode cX1_isLinePlace 19 = .ok (.goto 4, 3) := by decide +kernel
theorem dX1_isLinePlace_22 : decode cX1_isLinePlace 22 = .ok (.iconst 0, 1) := by decide +kernel
theorem dX1_isLinePlace_23 : decode cX1_isLinePlace 23 = .ok (.ireturn, 1) := by decide +kernel
theorem dX2_init_0 : decode cX2_init 0 = .ok (.aload_n 0, 1) := by decide +kernel
theorem dX2_init_1 : decode cX2_init 1 = .ok (.invokespecial 3, 3) := by decide +kernel
theorem dX2_init_4 : decode cX2_init 4 = .ok (.aload_n 0, 1) := by decide +kernel
theorem dX2_init_5 : decode cX2_init 5 = .ok (.sipush 393, 3) := by decide +kernel
theorem dX2_init_8 : decode cX2_init 8 = .ok (.newarray .int, 2) := by decide +kernel
theorem dX2_init_10 : decode cX2_init 10 = .ok (.putfield 9, 3) := by decide +kernel
theorem dX2_init_13 : decode cX2_init 13 = .ok (.iconst 0, 1) := by decide +kernel
theorem dX2_init_14 : decode cX2_init 14 = .ok (.istore_n 1, 1) := by decide +kernel
theorem dX2_init_15 : decode cX2_init 15 = .ok (.iload_n 1, 1) := by decide +kernel
theorem dX2_init_16 : decode cX2_init 16 = .ok (.iconst 5, 1) := by decide +kernel
theorem dX2_init_17 : decode cX2_init 17 = .ok (.if_icmp .ge 20, 3) := by decide +kernel
theorem dX2_init_20 : decode cX2_init 20 = .ok (.aload_n 0, 1) := by decide +kernel
theorem dX2_init_21 : decode cX2_init 21 = .ok (.getfield 9, 3) := by decide +kernel
theorem dX2_init_24 : decode cX2_init 24 = .ok (.iload_n 1, 1) := by decide +kernel
theorem dX2_init_25 : decode cX2_init 25 = .ok (.getstatic 15, 3) := by decide +kernel
theorem dX2_init_28 : decode cX2_init 28 = .ok (.iload_n 1, 1) := by decide +kernel
theorem dX2_init_29 : decode cX2_init 29 = .ok (.iaload, 1) := by decide +kernel
theorem dX2_init_30 : decode cX2_init 30 = .ok (.iastore, 1) := by decide +kernel
theorem dX2_init_31 : decode cX2_init 31 = .ok (.iinc 1 1, 3) := by decide +kernel
theorem dX2_init_34 : decode cX2_init 34 = .ok (.goto (-19), 3) := by decide +kernel
theorem dX2_init_37 : decode cX2_init 37 = .ok (.return_, 1) := by decide +kernel
theorem dX2_settingOf_0 : decode cX2_settingOf 0 = .ok (.iload_n 1, 1) := by decide +kernel
theorem dX2_settingOf_1 : decode cX2_settingOf 1 = .ok (.ifCond .lt 8, 3) := by decide +kernel
theorem dX2_settingOf_4 : decode cX2_settingOf 4 = .ok (.iload_n 1, 1) := by decide +kernel
theorem dX2_settingOf_5 : decode cX2_settingOf 5 = .ok (.iconst 5, 1) := by decide +kernel
theorem dX2_settingOf_6 : decode cX2_settingOf 6 = .ok (.if_icmp .lt 7, 3) := by decide +kernel
theorem dX2_settingOf_9 : decode cX2_settingOf 9 = .ok (.iconst 0, 1) := by decide +kernel
theorem dX2_settingOf_10 : decode cX2_settingOf 10 = .ok (.goto 9, 3) := by decide +kernel
theorem dX2_settingOf_13 : decode cX2_settingOf 13 = .ok (.aload_n 0, 1) := by decide +kernel
theorem dX2_settingOf_14 : decode cX2_settingOf 14 = .ok (.getfield 9, 3) := by decide +kernel
theorem dX2_settingOf_17 : decode cX2_settingOf 17 = .ok (.iload_n 1, 1) := by decide +kernel
theorem dX2_settingOf_18 : decode cX2_settingOf 18 = .ok (.iaload, 1) := by decide +kernel
theorem dX2_settingOf_19 : decode cX2_settingOf 19 = .ok (.ireturn, 1) := by decide +kernel
theorem dX2_changeSetting_0 : decode cX2_changeSetting 0 = .ok (.iload_n 1, 1) := by decide +kernel
theorem dX2_changeSetting_1 : decode cX2_changeSetting 1 = .ok (.ifCond .lt 15, 3) := by decide +kernel
theorem dX2_changeSetting_4 : decode cX2_changeSetting 4 = .ok (.iload_n 1, 1) := by decide +kernel
theorem dX2_changeSetting_5 : decode cX2_changeSetting 5 = .ok (.iconst 5, 1) := by decide +kernel
theorem dX2_changeSetting_6 : decode cX2_changeSetting 6 = .ok (.if_icmp .ge 10, 3) := by decide +kernel
theorem dX2_changeSetting_9 : decode cX2_changeSetting 9 = .ok (.aload_n 0, 1) := by decide +kernel
theorem dX2_changeSetting_10 : decode cX2_changeSetting 10 = .ok (.getfield 9, 3) := by decide +kernel
theorem dX2_changeSetting_13 : decode cX2_changeSetting 13 = .ok (.iload_n 1, 1) := by decide +kernel
theorem dX2_changeSetting_14 : decode cX2_changeSetting 14 = .ok (.iload_n 2, 1) := by decide +kernel
theorem dX2_changeSetting_15 : decode cX2_changeSetting 15 = .ok (.iastore, 1) := by decide +kernel
theorem dX2_changeSetting_16 : decode cX2_changeSetting 16 = .ok (.return_, 1) := by decide +kernel
set_option maxRecDepth 20000 in
theorem ggX2_blocksOf_X4_isColumn : GoodIn wsX2_blocksOf wsX4_isColumn := goodIn_r _ [4] (by decide +kernel) (by decide +kernel)
set_option maxRecDepth 20000 in
theorem gX2_blocksOf_X4_isColumn_n18 : GoodIn wsX2_blocksOf (wsX4_isColumn) := ggX2_blocksOf_X4_isColumn
theorem dX2_blocksOf_0 : decode cX2_blocksOf 0 = .ok (.iload_n 1, 1) := by decide +kernel
theorem dX2_blocksOf_1 : decode cX2_blocksOf 1 = .ok (.invokestatic 18, 3) := by decide +kernel
theorem dX2_blocksOf_4 : decode cX2_blocksOf 4 = .ok (.ifCond .eq 14, 3) := by decide +kernel
theorem dX2_blocksOf_7 : decode cX2_blocksOf 7 = .ok (.aload_n 0, 1) := by decide +kernel
theorem dX2_blocksOf_8 : decode cX2_blocksOf 8 = .ok (.getfield 9, 3) := by decide +kernel
theorem dX2_blocksOf_11 : decode cX2_blocksOf 11 = .ok (.iconst 5, 1) := by decide +kernel
theorem dX2_blocksOf_12 : decode cX2_blocksOf 12 = .ok (.iload_n 1, 1) := by decide +kernel
theorem dX2_blocksOf_13 : decode cX2_blocksOf 13 = .ok (.iadd, 1) := by decide +kernel
theorem dX2_blocksOf_14 : decode cX2_blocksOf 14 = .ok (.iaload, 1) := by decide +kernel
theorem dX2_blocksOf_15 : decode cX2_blocksOf 15 = .ok (.goto 4, 3) := by decide +kernel
theorem dX2_blocksOf_18 : decode cX2_blocksOf 18 = .ok (.iconst 0, 1) := by decide +kernel
theorem dX2_blocksOf_19 : decode cX2_blocksOf 19 = .ok (.ireturn, 1) := by decide +kernel
set_option maxRecDepth 20000 in
theorem ggX2_allBlocks_X2_blocksOf : GoodIn wsX2_allBlocks wsX2_blocksOf := goodIn_r _ [5, 6, 7, 8, 9, 10] (by decide +kernel) (by decide +kernel)
set_option maxRecDepth 20000 in
theorem gX2_allBlocks_X2_blocksOf : GoodIn wsX2_allBlocks (wsV RX2 22 RX2 yX2_blocksOf wsX2_blocksOf) := goodIn_app (goodIn_of _ (by decide +kernel)) ggX2_allBlocks_X2_blocksOf
theorem dX2_allBlocks_0 : decode cX2_allBlocks 0 = .ok (.iconst 0, 1) := by decide +kernel
theorem dX2_allBlocks_1 : decode cX2_allBlocks 1 = .ok (.istore_n 1, 1) := by decide +kernel
theorem dX2_allBlocks_2 : decode cX2_allBlocks 2 = .ok (.iconst 0, 1) := by decide +kernel
theorem dX2_allBlocks_3 : decode cX2_allBlocks 3 = .ok (.istore_n 2, 1) := by decide +kernel
theorem dX2_allBlocks_4 : decode cX2_allBlocks 4 = .ok (.iload_n 2, 1) := by decide +kernel
theorem dX2_allBlocks_5 : decode cX2_allBlocks 5 = .ok (.iconst 4, 1) := by decide +kernel
theorem dX2_allBlocks_6 : decode cX2_allBlocks 6 = .ok (.if_icmp .ge 17, 3) := by decide +kernel
theorem dX2_allBlocks_9 : decode cX2_allBlocks 9 = .ok (.iload_n 1, 1) := by decide +kernel
theorem dX2_allBlocks_10 : decode cX2_allBlocks 10 = .ok (.aload_n 0, 1) := by decide +kernel
theorem dX2_allBlocks_11 : decode cX2_allBlocks 11 = .ok (.iload_n 2, 1) := by decide +kernel
theorem dX2_allBlocks_12 : decode cX2_allBlocks 12 = .ok (.invokevirtual 22, 3) := by decide +kernel
theorem dX2_allBlocks_15 : decode cX2_allBlocks 15 = .ok (.iadd, 1) := by decide +kernel
theorem dX2_allBlocks_16 : decode cX2_allBlocks 16 = .ok (.istore_n 1, 1) := by decide +kernel
theorem dX2_allBlocks_17 : decode cX2_allBlocks 17 = .ok (.iinc 2 1, 3) := by decide +kernel
theorem dX2_allBlocks_20 : decode cX2_allBlocks 20 = .ok (.goto (-16), 3) := by decide +kernel
theorem dX2_allBlocks_23 : decode cX2_allBlocks 23 = .ok (.iload_n 1, 1) := by decide +kernel
theorem dX2_allBlocks_24 : decode cX2_allBlocks 24 = .ok (.ireturn, 1) := by decide +kernel
set_option maxRecDepth 20000 in
theorem ggX2_hasBlock_X2_blocksOf : GoodIn wsX2_hasBlock wsX2_blocksOf := goodIn_r _ [5, 6, 7, 8, 9, 10] (by decide +kernel) (by decide +kernel)
set_option maxRecDepth 20000 in
theorem gX2_hasBlock_X2_blocksOf : GoodIn wsX2_hasBlock (wsV RX2 22 RX2 yX2_blocksOf wsX2_blocksOf) := goodIn_app (goodIn_of _ (by decide +kernel)) ggX2_hasBlock_X2_blocksOf
theorem dX2_hasBlock_0 : decode cX2_hasBlock 0 = .ok (.iload_n 2, 1) := by decide +kernel
theorem dX2_hasBlock_1 : decode cX2_hasBlock 1 = .ok (.ifCond .lt 16, 3) := by decide +kernel
theorem dX2_hasBlock_4 : decode cX2_hasBlock 4 = .ok (.iload_n 2, 1) := by decide +kernel
theorem dX2_hasBlock_5 : decode cX2_hasBlock 5 = .ok (.aload_n 0, 1) := by decide +kernel
theorem dX2_hasBlock_6 : decode cX2_hasBlock 6 = .ok (.iload_n 1, 1) := by decide +kernel
theorem dX2_hasBlock_7 : decode cX2_hasBlock 7 = .ok (.invokevirtual 22, 3) := by decide +kernel
theorem dX2_hasBlock_10 : decode cX2_hasBlock 10 = .ok (.if_icmp .ge 7, 3) := by decide +kernel
theorem dX2_hasBlock_13 : decode cX2_hasBlock 13 = .ok (.iconst 1, 1) := by decide +kernel
theorem dX2_hasBlock_14 : decode cX2_hasBlock 14 = .ok (.goto 4, 3) := by decide +kernel
theorem dX2_hasBlock_17 : decode cX2_hasBlock 17 = .ok (.iconst 0, 1) := by decide +kernel
theorem dX2_hasBlock_18 : decode cX2_hasBlock 18 = .ok (.ireturn, 1) := by decide +kernel
set_option maxRecDepth 20000 in
theorem ggX2_paragraphLinesOf_X2_blocksOf : GoodIn wsX2_paragraphLinesOf wsX2_blocksOf := goodIn_r _ [5, 6, 7, 8, 9, 20] (by decide +kernel) (by decide +kernel)
set_option maxRecDepth 20000 in
theorem gX2_paragraphLinesOf_X2_blocksOf : GoodIn wsX2_paragraphLinesOf (wsV RX2 22 RX2 yX2_blocksOf wsX2_blocksOf) := goodIn_app (goodIn_of _ (by decide +kernel)) ggX2_paragraphLinesOf_X2_blocksOf
set_option maxRecDepth 20000 in
theorem ggX2_paragraphLinesOf_X2_fieldOf : GoodIn wsX2_paragraphLinesOf wsX2_fieldOf := goodIn_r _ [13, 6, 14, 15, 4, 16, 7, 8, 9, 17, 18, 19, 20] (by decide +kernel) (by decide +kernel)
set_option maxRecDepth 20000 in
theorem gX2_paragraphLinesOf_X2_fieldOf : GoodIn wsX2_paragraphLinesOf (wsV RX2 26 RX2 yX2_fieldOf wsX2_fieldOf) := goodIn_app (goodIn_of _ (by decide +kernel)) ggX2_paragraphLinesOf_X2_fieldOf
theorem dX2_paragraphLinesOf_0 : decode cX2_paragraphLinesOf 0 = .ok (.iconst 0, 1) := by decide +kernel
theorem dX2_paragraphLinesOf_1 : decode cX2_paragraphLinesOf 1 = .ok (.istore_n 2, 1) := by decide +kernel
theorem dX2_paragraphLinesOf_2 : decode cX2_paragraphLinesOf 2 = .ok (.iconst 0, 1) := by decide +kernel
theorem dX2_paragraphLinesOf_3 : decode cX2_paragraphLinesOf 3 = .ok (.istore_n 3, 1) := by decide +kernel
theorem dX2_paragraphLinesOf_4 : decode cX2_paragraphLinesOf 4 = .ok (.iload_n 3, 1) := by decide +kernel
theorem dX2_paragraphLinesOf_5 : decode cX2_paragraphLinesOf 5 = .ok (.aload_n 0, 1) := by decide +kernel
theorem dX2_paragraphLinesOf_6 : decode cX2_paragraphLinesOf 6 = .ok (.iload_n 1, 1) := by decide +kernel
theorem dX2_paragraphLinesOf_7 : decode cX2_paragraphLinesOf 7 = .ok (.invokevirtual 22, 3) := by decide +kernel
theorem dX2_paragraphLinesOf_10 : decode cX2_paragraphLinesOf 10 = .ok (.if_icmp .ge 29, 3) := by decide +kernel
theorem dX2_paragraphLinesOf_13 : decode cX2_paragraphLinesOf 13 = .ok (.aload_n 0, 1) := by decide +kernel
theorem dX2_paragraphLinesOf_14 : decode cX2_paragraphLinesOf 14 = .ok (.iload_n 1, 1) := by decide +kernel
theorem dX2_paragraphLinesOf_15 : decode cX2_paragraphLinesOf 15 = .ok (.iload_n 3, 1) := by decide +kernel
theorem dX2_paragraphLinesOf_16 : decode cX2_paragraphLinesOf 16 = .ok (.iconst 0, 1) := by decide +kernel
theorem dX2_paragraphLinesOf_17 : decode cX2_paragraphLinesOf 17 = .ok (.invokevirtual 26, 3) := by decide +kernel
theorem dX2_paragraphLinesOf_20 : decode cX2_paragraphLinesOf 20 = .ok (.ifCond .ne 13, 3) := by decide +kernel
theorem dX2_paragraphLinesOf_23 : decode cX2_paragraphLinesOf 23 = .ok (.iload_n 2, 1) := by decide +kernel
theorem dX2_paragraphLinesOf_24 : decode cX2_paragraphLinesOf 24 = .ok (.aload_n 0, 1) := by decide +kernel
theorem dX2_paragraphLinesOf_25 : decode cX2_paragraphLinesOf 25 = .ok (.iload_n 1, 1) := by decide +kernel
theorem dX2_paragraphLinesOf_26 : decode cX2_paragraphLinesOf 26 = .ok (.iload_n 3, 1) := by decide +kernel
theorem dX2_paragraphLinesOf_27 : decode cX2_paragraphLinesOf 27 = .ok (.iconst 1, 1) := by decide +kernel
theorem dX2_paragraphLinesOf_28 : decode cX2_paragraphLinesOf 28 = .ok (.invokevirtual 26, 3) := by decide +kernel
theorem dX2_paragraphLinesOf_31 : decode cX2_paragraphLinesOf 31 = .ok (.iadd, 1) := by decide +kernel
theorem dX2_paragraphLinesOf_32 : decode cX2_paragraphLinesOf 32 = .ok (.istore_n 2, 1) := by decide +kernel
theorem dX2_paragraphLinesOf_33 : decode cX2_paragraphLinesOf 33 = .ok (.iinc 3 1, 3) := by decide +kernel
theorem dX2_paragraphLinesOf_36 : decode cX2_paragraphLinesOf 36 = .ok (.goto (-32), 3) := by decide +kernel
theorem dX2_paragraphLinesOf_39 : decode cX2_paragraphLinesOf 39 = .ok (.iload_n 2, 1) := by decide +kernel
theorem dX2_paragraphLinesOf_40 : decode cX2_paragraphLinesOf 40 = .ok (.ireturn, 1) := by decide +kernel
set_option maxRecDepth 20000 in
theorem ggX2_fieldOf_X2_isCell : GoodIn wsX2_fieldOf wsX2_isCell := goodIn_r _ [5, 6, 7, 8] (by decide +kernel) (by decide +kernel)
set_option maxRecDepth 20000 in
theorem gX2_fieldOf_X2_isCell : GoodIn wsX2_fieldOf (va_wsS RX2 30 yX2_isCell wsX2_isCell) := goodIn_app (goodIn_of _ (by decide +kernel)) ggX2_fieldOf_X2_isCell
set_option maxRecDepth 20000 in
theorem ggX2_fieldOf_X2_cellAt : GoodIn wsX2_fieldOf wsX2_cellAt := goodIn_r _ [11] (by decide +kernel) (by decide +kernel)
set_option maxRecDepth 20000 in
theorem gX2_fieldOf_X2_cellAt : GoodIn wsX2_fieldOf (va_wsS RX2 34 yX2_cellAt wsX2_cellAt) := goodIn_app (goodIn_of _ (by decide +kernel)) ggX2_fieldOf_X2_cellAt
theorem dX2_fieldOf_0 : decode cX2_fieldOf 0 = .ok (.iload_n 1, 1) := by decide +kernel
theorem dX2_fieldOf_1 : decode cX2_fieldOf 1 = .ok (.iload_n 2, 1) := by decide +kernel
theorem dX2_fieldOf_2 : decode cX2_fieldOf 2 = .ok (.iload_n 3, 1) := by decide +kernel
theorem dX2_fieldOf_3 : decode cX2_fieldOf 3 = .ok (.invokestatic 30, 3) := by decide +kernel
theorem dX2_fieldOf_6 : decode cX2_fieldOf 6 = .ok (.ifCond .eq 18, 3) := by decide +kernel
theorem dX2_fieldOf_9 : decode cX2_fieldOf 9 = .ok (.aload_n 0, 1) := by decide +kernel
theorem dX2_fieldOf_10 : decode cX2_fieldOf 10 = .ok (.getfield 9, 3) := by decide +kernel
theorem dX2_fieldOf_13 : decode cX2_fieldOf 13 = .ok (.iload_n 1, 1) := by decide +kernel
theorem dX2_fieldOf_14 : decode cX2_fieldOf 14 = .ok (.iload_n 2, 1) := by decide +kernel
theorem dX2_fieldOf_15 : decode cX2_fieldOf 15 = .ok (.invokestatic 34, 3) := by decide +kernel
theorem dX2_fieldOf_18 : decode cX2_fieldOf 18 = .ok (.iload_n 3, 1) := by decide +kernel
theorem dX2_fieldOf_19 : decode cX2_fieldOf 19 = .ok (.iadd, 1) := by decide +kernel
theorem dX2_fieldOf_20 : decode cX2_fieldOf 20 = .ok (.iaload, 1) := by decide +kernel
theorem dX2_fieldOf_21 : decode cX2_fieldOf 21 = .ok (.goto 5, 3) := by decide +kernel
theorem dX2_fieldOf_24 : decode cX2_fieldOf 24 = .ok (.bipush (-5), 2) := by decide +kernel
theorem dX2_fieldOf_26 : decode cX2_fieldOf 26 = .ok (.ireturn, 1) := by decide +kernel
set_option maxRecDepth 20000 in
theorem ggX2_changeField_X2_isCell : GoodIn wsX2_changeField wsX2_isCell := goodIn_r _ [5, 6, 7, 8] (by decide +kernel) (by decide +kernel)
set_option maxRecDepth 20000 in
theorem gX2_changeField_X2_isCell : GoodIn wsX2_changeField (va_wsS RX2 30 yX2_isCell wsX2_isCell) := goodIn_app (goodIn_of _ (by decide +kernel)) ggX2_changeField_X2_isCell
set_option maxRecDepth 20000 in
theorem ggX2_changeField_X2_cellAt : GoodIn wsX2_changeField wsX2_cellAt := goodIn_r _ [11] (by decide +kernel) (by decide +kernel)
set_option maxRecDepth 20000 in
theorem gX2_changeField_X2_cellAt : GoodIn wsX2_changeField (va_wsS RX2 34 yX2_cellAt wsX2_cellAt) := goodIn_app (goodIn_of _ (by decide +kernel)) ggX2_changeField_X2_cellAt
theorem dX2_changeField_0 : decode cX2_changeField 0 = .ok (.iload_n 1, 1) := by decide +kernel
theorem dX2_changeField_1 : decode cX2_changeField 1 = .ok (.iload_n 2, 1) := by decide +kernel
theorem dX2_changeField_2 : decode cX2_changeField 2 = .ok (.iload_n 3, 1) := by decide +kernel
theorem dX2_changeField_3 : decode cX2_changeField 3 = .ok (.invokestatic 30, 3) := by decide +kernel
theorem dX2_changeField_6 : decode cX2_changeField 6 = .ok (.ifCond .eq 17, 3) := by decide +kernel
theorem dX2_changeField_9 : decode cX2_changeField 9 = .ok (.aload_n 0, 1) := by decide +kernel
theorem dX2_changeField_10 : decode cX2_changeField 10 = .ok (.getfield 9, 3) := by decide +kernel
theorem dX2_changeField_13 : decode cX2_changeField 13 = .ok (.iload_n 1, 1) := by decide +kernel
theorem dX2_changeField_14 : decode cX2_changeField 14 = .ok (.iload_n 2, 1) := by decide +kernel
theorem dX2_changeField_15 : decode cX2_changeField 15 = .ok (.invokestatic 34, 3) := by decide +kernel
theorem dX2_changeField_18 : decode cX2_changeField 18 = .ok (.iload_n 3, 1) := by decide +kernel
theorem dX2_changeField_19 : decode cX2_changeField 19 = .ok (.iadd, 1) := by decide +kernel
theorem dX2_changeField_20 : decode cX2_changeField 20 = .ok (.iload 4, 2) := by decide +kernel
theorem dX2_changeField_22 : decode cX2_changeField 22 = .ok (.iastore, 1) := by decide +kernel
theorem dX2_changeField_23 : decode cX2_changeField 23 = .ok (.return_, 1) := by decide +kernel
set_option maxRecDepth 20000 in
theorem ggX2_appendParagraph_X2_hasRoom : GoodIn wsX2_appendParagraph wsX2_hasRoom := goodIn_r _ [6, 7, 8, 9, 10, 11, 12, 5, 13, 1, 23] (by decide +kernel) (by decide +kernel)
set_option maxRecDepth 20000 in
theorem gX2_appendParagraph_X2_hasRoom : GoodIn wsX2_appendParagraph (wsV RX2 38 RX2 yX2_hasRoom wsX2_hasRoom) := goodIn_app (goodIn_of _ (by decide +kernel)) ggX2_appendParagraph_X2_hasRoom
set_option maxRecDepth 20000 in
theorem ggX2_appendParagraph_X2_blocksOf : GoodIn wsX2_appendParagraph wsX2_blocksOf := goodIn_r _ [13, 1, 7, 8, 9, 23] (by decide +kernel) (by decide +kernel)
set_option maxRecDepth 20000 in
theorem gX2_appendParagraph_X2_blocksOf : GoodIn wsX2_appendParagraph (wsV RX2 22 RX2 yX2_blocksOf wsX2_blocksOf) := goodIn_app (goodIn_of _ (by decide +kernel)) ggX2_appendParagraph_X2_blocksOf
set_option maxRecDepth 20000 in
theorem ggX2_appendParagraph_X2_cellAt : GoodIn wsX2_appendParagraph wsX2_cellAt := goodIn_r _ [16] (by decide +kernel) (by decide +kernel)
set_option maxRecDepth 20000 in
theorem gX2_appendParagraph_X2_cellAt : GoodIn wsX2_appendParagraph (va_wsS RX2 34 yX2_cellAt wsX2_cellAt) := goodIn_app (goodIn_of _ (by decide +kernel)) ggX2_appendParagraph_X2_cellAt
set_option maxRecDepth 20000 in
theorem ggX2_appendParagraph_X4_writeParagraph : GoodIn wsX2_appendParagraph wsX4_writeParagraph := goodIn_r _ [18] (by decide +kernel) (by decide +kernel)
set_option maxRecDepth 20000 in
theorem gX2_appendParagraph_X4_writeParagraph_n41 : GoodIn wsX2_appendParagraph (wsX4_writeParagraph) := ggX2_appendParagraph_X4_writeParagraph
set_option maxRecDepth 20000 in
theorem ggX2_appendParagraph_X2_changeBlocks : GoodIn wsX2_appendParagraph wsX2_changeBlocks := goodIn_r _ [22, 1, 7, 8, 9, 23] (by decide +kernel) (by decide +kernel)
set_option maxRecDepth 20000 in
theorem gX2_appendParagraph_X2_changeBlocks : GoodIn wsX2_appendParagraph (wsV RX2 45 RX2 yX2_changeBlocks wsX2_changeBlocks) := goodIn_app (goodIn_of _ (by decide +kernel)) ggX2_appendParagraph_X2_changeBlocks
theorem dX2_appendParagraph_0 : decode cX2_appendParagraph 0 = .ok (.aload_n 0, 1) := by decide +kernel
theorem dX2_appendParagraph_1 : decode cX2_appendParagraph 1 = .ok (.iload_n 1, 1) := by decide +kernel
theorem dX2_appendParagraph_2 : decode cX2_appendParagraph 2 = .ok (.invokevirtual 38, 3) := by decide +kernel
theorem dX2_appendParagraph_5 : decode cX2_appendParagraph 5 = .ok (.ifCond .eq 37, 3) := by decide +kernel
theorem dX2_appendParagraph_8 : decode cX2_appendParagraph 8 = .ok (.aload_n 0, 1) := by decide +kernel
theorem dX2_appendParagraph_9 : decode cX2_appendParagraph 9 = .ok (.getfield 9, 3) := by decide +kernel
theorem dX2_appendParagraph_12 : decode cX2_appendParagraph 12 = .ok (.iload_n 1, 1) := by decide +kernel
theorem dX2_appendParagraph_13 : decode cX2_appendParagraph 13 = .ok (.aload_n 0, 1) := by decide +kernel
theorem dX2_appendParagraph_14 : decode cX2_appendParagraph 14 = .ok (.iload_n 1, 1) := by decide +kernel
theorem dX2_appendParagraph_15 : decode cX2_appendParagraph 15 = .ok (.invokevirtual 22, 3) := by decide +kernel
theorem dX2_appendParagraph_18 : decode cX2_appendParagraph 18 = .ok (.invokestatic 34, 3) := by decide +kernel
theorem dX2_appendParagraph_21 : decode cX2_appendParagraph 21 = .ok (.iload_n 2, 1) := by decide +kernel
theorem dX2_appendParagraph_22 : decode cX2_appendParagraph 22 = .ok (.iload_n 3, 1) := by decide +kernel
theorem dX2_appendParagraph_23 : decode cX2_appendParagraph 23 = .ok (.iload 4, 2) := by decide +kernel
theorem dX2_appendParagraph_25 : decode cX2_appendParagraph 25 = .ok (.iload 5, 2) := by decide +kernel
theorem dX2_appendParagraph_27 : decode cX2_appendParagraph 27 = .ok (.invokestatic 41, 3) := by decide +kernel
theorem dX2_appendParagraph_30 : decode cX2_appendParagraph 30 = .ok (.aload_n 0, 1) := by decide +kernel
theorem dX2_appendParagraph_31 : decode cX2_appendParagraph 31 = .ok (.iload_n 1, 1) := by decide +kernel
theorem dX2_appendParagraph_32 : decode cX2_appendParagraph 32 = .ok (.aload_n 0, 1) := by decide +kernel
theorem dX2_appendParagraph_33 : decode cX2_appendParagraph 33 = .ok (.iload_n 1, 1) := by decide +kernel
theorem dX2_appendParagraph_34 : decode cX2_appendParagraph 34 = .ok (.invokevirtual 22, 3) := by decide +kernel
theorem dX2_appendParagraph_37 : decode cX2_appendParagraph 37 = .ok (.iconst 1, 1) := by decide +kernel
theorem dX2_appendParagraph_38 : decode cX2_appendParagraph 38 = .ok (.iadd, 1) := by decide +kernel
theorem dX2_appendParagraph_39 : decode cX2_appendParagraph 39 = .ok (.invokevirtual 45, 3) := by decide +kernel
theorem dX2_appendParagraph_42 : decode cX2_appendParagraph 42 = .ok (.return_, 1) := by decide +kernel
set_option maxRecDepth 20000 in
theorem ggX2_appendLineless_X2_hasRoom : GoodIn wsX2_appendLineless wsX2_hasRoom := goodIn_r _ [6, 7, 8, 9, 10, 11, 12, 5, 13, 1, 23] (by decide +kernel) (by decide +kernel)
set_option maxRecDepth 20000 in
theorem gX2_appendLineless_X2_hasRoom : GoodIn wsX2_appendLineless (wsV RX2 38 RX2 yX2_hasRoom wsX2_hasRoom) := goodIn_app (goodIn_of _ (by decide +kernel)) ggX2_appendLineless_X2_hasRoom
set_option maxRecDepth 20000 in
theorem ggX2_appendLineless_X2_blocksOf : GoodIn wsX2_appendLineless wsX2_blocksOf := goodIn_r _ [13, 1, 7, 8, 9, 23] (by decide +kernel) (by decide +kernel)
set_option maxRecDepth 20000 in
theorem gX2_appendLineless_X2_blocksOf : GoodIn wsX2_appendLineless (wsV RX2 22 RX2 yX2_blocksOf wsX2_blocksOf) := goodIn_app (goodIn_of _ (by decide +kernel)) ggX2_appendLineless_X2_blocksOf
set_option maxRecDepth 20000 in
theorem ggX2_appendLineless_X2_cellAt : GoodIn wsX2_appendLineless wsX2_cellAt := goodIn_r _ [16] (by decide +kernel) (by decide +kernel)
set_option maxRecDepth 20000 in
theorem gX2_appendLineless_X2_cellAt : GoodIn wsX2_appendLineless (va_wsS RX2 34 yX2_cellAt wsX2_cellAt) := goodIn_app (goodIn_of _ (by decide +kernel)) ggX2_appendLineless_X2_cellAt
set_option maxRecDepth 20000 in
theorem ggX2_appendLineless_X4_writeLineless : GoodIn wsX2_appendLineless wsX4_writeLineless := goodIn_r _ [18] (by decide +kernel) (by decide +kernel)
set_option maxRecDepth 20000 in
theorem gX2_appendLineless_X4_writeLineless_n49 : GoodIn wsX2_appendLineless (wsX4_writeLineless) := ggX2_appendLineless_X4_writeLineless
set_option maxRecDepth 20000 in
theorem ggX2_appendLineless_X2_changeBlocks : GoodIn wsX2_appendLineless wsX2_changeBlocks := goodIn_r _ [22, 1, 7, 8, 9, 23] (by decide +kernel) (by decide +kernel)
set_option maxRecDepth 20000 in
theorem gX2_appendLineless_X2_changeBlocks : GoodIn wsX2_appendLineless (wsV RX2 45 RX2 yX2_changeBlocks wsX2_changeBlocks) := goodIn_app (goodIn_of _ (by decide +kernel)) ggX2_appendLineless_X2_changeBlocks
theorem dX2_appendLineless_0 : decode cX2_appendLineless 0 = .ok (.aload_n 0, 1) := by decide +kernel
theorem dX2_appendLineless_1 : decode cX2_appendLineless 1 = .ok (.iload_n 1, 1) := by decide +kernel
theorem dX2_appendLineless_2 : decode cX2_appendLineless 2 = .ok (.invokevirtual 38, 3) := by decide +kernel
theorem dX2_appendLineless_5 : decode cX2_appendLineless 5 = .ok (.ifCond .eq 33, 3) := by decide +kernel
theorem dX2_appendLineless_8 : decode cX2_appendLineless 8 = .ok (.aload_n 0, 1) := by decide +kernel
theorem dX2_appendLineless_9 : decode cX2_appendLineless 9 = .ok (.getfield 9, 3) := by decide +kernel
theorem dX2_appendLineless_12 : decode cX2_appendLineless 12 = .ok (.iload_n 1, 1) := by decide +kernel
theorem dX2_appendLineless_13 : decode cX2_appendLineless 13 = .ok (.aload_n 0, 1) := by decide +kernel
theorem dX2_appendLineless_14 : decode cX2_appendLineless 14 = .ok (.iload_n 1, 1) := by decide +kernel
theorem dX2_appendLineless_15 : decode cX2_appendLineless 15 = .ok (.invokevirtual 22, 3) := by decide +kernel
theorem dX2_appendLineless_18 : decode cX2_appendLineless 18 = .ok (.invokestatic 34, 3) := by decide +kernel
theorem dX2_appendLineless_21 : decode cX2_appendLineless 21 = .ok (.iload_n 2, 1) := by decide +kernel
theorem dX2_appendLineless_22 : decode cX2_appendLineless 22 = .ok (.iload_n 3, 1) := by decide +kernel
theorem dX2_appendLineless_23 : decode cX2_appendLineless 23 = .ok (.invokestatic 49, 3) := by decide +kernel
theorem dX2_appendLineless_26 : decode cX2_appendLineless 26 = .ok (.aload_n 0, 1) := by decide +kernel
theorem dX2_appendLineless_27 : decode cX2_appendLineless 27 = .ok (.iload_n 1, 1) := by decide +kernel
theorem dX2_appendLineless_28 : decode cX2_appendLineless 28 = .ok (.aload_n 0, 1) := by decide +kernel
theorem dX2_appendLineless_29 : decode cX2_appendLineless 29 = .ok (.iload_n 1, 1) := by decide +kernel
theorem dX2_appendLineless_30 : decode cX2_appendLineless 30 = .ok (.invokevirtual 22, 3) := by decide +kernel
theorem dX2_appendLineless_33 : decode cX2_appendLineless 33 = .ok (.iconst 1, 1) := by decide +kernel
theorem dX2_appendLineless_34 : decode cX2_appendLineless 34 = .ok (.iadd, 1) := by decide +kernel
theorem dX2_appendLineless_35 : decode cX2_appendLineless 35 = .ok (.invokevirtual 45, 3) := by decide +kernel
theorem dX2_appendLineless_38 : decode cX2_appendLineless 38 = .ok (.return_, 1) := by decide +kernel
set_option maxRecDepth 20000 in
theorem ggX2_appendRows_X4_isColumn : GoodIn wsX2_appendRows wsX4_isColumn := goodIn_r _ [4] (by decide +kernel) (by decide +kernel)
set_option maxRecDepth 20000 in
theorem gX2_appendRows_X4_isColumn_n18 : GoodIn wsX2_appendRows (wsX4_isColumn) := ggX2_appendRows_X4_isColumn
set_option maxRecDepth 20000 in
theorem ggX2_appendRows_X2_blocksOf : GoodIn wsX2_appendRows wsX2_blocksOf := goodIn_r _ [9, 1, 2, 3, 4, 23] (by decide +kernel) (by decide +kernel)
set_option maxRecDepth 20000 in
theorem gX2_appendRows_X2_blocksOf : GoodIn wsX2_appendRows (wsV RX2 22 RX2 yX2_blocksOf wsX2_blocksOf) := goodIn_app (goodIn_of _ (by decide +kernel)) ggX2_appendRows_X2_blocksOf
set_option maxRecDepth 20000 in
theorem ggX2_appendRows_X2_cellAt : GoodIn wsX2_appendRows wsX2_cellAt := goodIn_r _ [12] (by decide +kernel) (by decide +kernel)
set_option maxRecDepth 20000 in
theorem gX2_appendRows_X2_cellAt : GoodIn wsX2_appendRows (va_wsS RX2 34 yX2_cellAt wsX2_cellAt) := goodIn_app (goodIn_of _ (by decide +kernel)) ggX2_appendRows_X2_cellAt
set_option maxRecDepth 20000 in
theorem ggX2_appendRows_X4_copyCells : GoodIn wsX2_appendRows wsX4_copyCells := goodIn_r _ [14, 15, 16, 17, 18] (by decide +kernel) (by decide +kernel)
set_option maxRecDepth 20000 in
theorem gX2_appendRows_X4_copyCells_n53 : GoodIn wsX2_appendRows (wsX4_copyCells) := ggX2_appendRows_X4_copyCells
set_option maxRecDepth 20000 in
theorem ggX2_appendRows_X2_changeBlocks : GoodIn wsX2_appendRows wsX2_changeBlocks := goodIn_r _ [22, 1, 2, 3, 4, 23] (by decide +kernel) (by decide +kernel)
set_option maxRecDepth 20000 in
theorem gX2_appendRows_X2_changeBlocks : GoodIn wsX2_appendRows (wsV RX2 45 RX2 yX2_changeBlocks wsX2_changeBlocks) := goodIn_app (goodIn_of _ (by decide +kernel)) ggX2_appendRows_X2_changeBlocks
theorem dX2_appendRows_0 : decode cX2_appendRows 0 = .ok (.iload_n 1, 1) := by decide +kernel
theorem dX2_appendRows_1 : decode cX2_appendRows 1 = .ok (.invokestatic 18, 3) := by decide +kernel
theorem dX2_appendRows_4 : decode cX2_appendRows 4 = .ok (.ifCond .eq 53, 3) := by decide +kernel
theorem dX2_appendRows_7 : decode cX2_appendRows 7 = .ok (.iload_n 3, 1) := by decide +kernel
theorem dX2_appendRows_8 : decode cX2_appendRows 8 = .ok (.ifCond .lt 49, 3) := by decide +kernel
theorem dX2_appendRows_11 : decode cX2_appendRows 11 = .ok (.iload_n 3, 1) := by decide +kernel
theorem dX2_appendRows_12 : decode cX2_appendRows 12 = .ok (.bipush 16, 2) := by decide +kernel
theorem dX2_appendRows_14 : decode cX2_appendRows 14 = .ok (.aload_n 0, 1) := by decide +kernel
theorem dX2_appendRows_15 : decode cX2_appendRows 15 = .ok (.iload_n 1, 1) := by decide +kernel
theorem dX2_appendRows_16 : decode cX2_appendRows 16 = .ok (.invokevirtual 22, 3) := by decide +kernel
theorem dX2_appendRows_19 : decode cX2_appendRows 19 = .ok (.isub, 1) := by decide +kernel
theorem dX2_appendRows_20 : decode cX2_appendRows 20 = .ok (.if_icmp .gt 37, 3) := by decide +kernel
theorem dX2_appendRows_23 : decode cX2_appendRows 23 = .ok (.aload_n 2, 1) := by decide +kernel
theorem dX2_appendRows_24 : decode cX2_appendRows 24 = .ok (.iconst 0, 1) := by decide +kernel
theorem dX2_appendRows_25 : decode cX2_appendRows 25 = .ok (.aload_n 0, 1) := by decide +kernel
theorem dX2_appendRows_26 : decode cX2_appendRows 26 = .ok (.getfield 9, 3) := by decide +kernel
theorem dX2_appendRows_29 : decode cX2_appendRows 29 = .ok (.iload_n 1, 1) := by decide +kernel
theorem dX2_appendRows_30 : decode cX2_appendRows 30 = .ok (.aload_n 0, 1) := by decide +kernel
theorem dX2_appendRows_31 : decode cX2_appendRows 31 = .ok (.iload_n 1, 1) := by decide +kernel
theorem dX2_appendRows_32 : decode cX2_appendRows 32 = .ok (.invokevirtual 22, 3) := by decide +kernel
theorem dX2_appendRows_35 : decode cX2_appendRows 35 = .ok (.invokestatic 34, 3) := by decide +kernel
theorem dX2_appendRows_38 : decode cX2_appendRows 38 = .ok (.iload_n 3, 1) := by decide +kernel
theorem dX2_appendRows_39 : decode cX2_appendRows 39 = .ok (.bipush 6, 2) := by decide +kernel
theorem dX2_appendRows_41 : decode cX2_appendRows 41 = .ok (.imul, 1) := by decide +kernel
theorem dX2_appendRows_42 : decode cX2_appendRows 42 = .ok (.invokestatic 53, 3) := by decide +kernel
theorem dX2_appendRows_45 : decode cX2_appendRows 45 = .ok (.aload_n 0, 1) := by decide +kernel
theorem dX2_appendRows_46 : decode cX2_appendRows 46 = .ok (.iload_n 1, 1) := by decide +kernel
theorem dX2_appendRows_47 : decode cX2_appendRows 47 = .ok (.aload_n 0, 1) := by decide +kernel
theorem dX2_appendRows_48 : decode cX2_appendRows 48 = .ok (.iload_n 1, 1) := by decide +kernel
theorem dX2_appendRows_49 : decode cX2_appendRows 49 = .ok (.invokevirtual 22, 3) := by decide +kernel
theorem dX2_appendRows_52 : decode cX2_appendRows 52 = .ok (.iload_n 3, 1) := by decide +kernel
theorem dX2_appendRows_53 : decode cX2_appendRows 53 = .ok (.iadd, 1) := by decide +kernel
theorem dX2_appendRows_54 : decode cX2_appendRows 54 = .ok (.invokevirtual 45, 3) := by decide +kernel
theorem dX2_appendRows_57 : decode cX2_appendRows 57 = .ok (.return_, 1) := by decide +kernel
set_option maxRecDepth 20000 in
theorem ggX2_takeOut_X2_hasBlock : GoodIn wsX2_takeOut wsX2_hasBlock := goodIn_r _ [5, 6, 7, 8, 4, 9, 10, 11, 12, 13, 31] (by decide +kernel) (by decide +kernel)
set_option maxRecDepth 20000 in
theorem gX2_takeOut_X2_hasBlock : GoodIn wsX2_takeOut (wsV RX2 57 RX2 yX2_hasBlock wsX2_hasBlock) := goodIn_app (goodIn_of _ (by decide +kernel)) ggX2_takeOut_X2_hasBlock
set_option maxRecDepth 20000 in
theorem ggX2_takeOut_X2_blocksOf : GoodIn wsX2_takeOut wsX2_blocksOf := goodIn_r _ [9, 10, 11, 12, 13, 31] (by decide +kernel) (by decide +kernel)
set_option maxRecDepth 20000 in
theorem gX2_takeOut_X2_blocksOf : GoodIn wsX2_takeOut (wsV RX2 22 RX2 yX2_blocksOf wsX2_blocksOf) := goodIn_app (goodIn_of _ (by decide +kernel)) ggX2_takeOut_X2_blocksOf
set_option maxRecDepth 20000 in
theorem ggX2_takeOut_X2_cellAt : GoodIn wsX2_takeOut wsX2_cellAt := goodIn_r _ [16] (by decide +kernel) (by decide +kernel)
set_option maxRecDepth 20000 in
theorem gX2_takeOut_X2_cellAt : GoodIn wsX2_takeOut (va_wsS RX2 34 yX2_cellAt wsX2_cellAt) := goodIn_app (goodIn_of _ (by decide +kernel)) ggX2_takeOut_X2_cellAt
set_option maxRecDepth 20000 in
theorem ggX2_takeOut_X2_moveBlocks : GoodIn wsX2_takeOut wsX2_moveBlocks := goodIn_r _ [20, 10, 21, 12, 22, 23, 24, 25, 26, 31] (by decide +kernel) (by decide +kernel)
set_option maxRecDepth 20000 in
theorem gX2_takeOut_X2_moveBlocks : GoodIn wsX2_takeOut (wsV RX2 61 RX2 yX2_moveBlocks wsX2_moveBlocks) := goodIn_app (goodIn_of _ (by decide +kernel)) ggX2_takeOut_X2_moveBlocks
set_option maxRecDepth 20000 in
theorem ggX2_takeOut_X2_changeBlocks : GoodIn wsX2_takeOut wsX2_changeBlocks := goodIn_r _ [30, 10, 11, 12, 13, 31] (by decide +kernel) (by decide +kernel)
set_option maxRecDepth 20000 in
theorem gX2_takeOut_X2_changeBlocks : GoodIn wsX2_takeOut (wsV RX2 45 RX2 yX2_changeBlocks wsX2_changeBlocks) := goodIn_app (goodIn_of _ (by decide +kernel)) ggX2_takeOut_X2_changeBlocks
theorem dX2_takeOut_0 : decode cX2_takeOut 0 = .ok (.aload_n 0, 1) := by decide +kernel
theorem dX2_takeOut_1 : decode cX2_takeOut 1 = .ok (.iload_n 1, 1) := by decide +kernel
theorem dX2_takeOut_2 : decode cX2_takeOut 2 = .ok (.iload_n 2, 1) := by decide +kernel
theorem dX2_takeOut_3 : decode cX2_takeOut 3 = .ok (.invokevirtual 57, 3) := by decide +kernel
theorem dX2_takeOut_6 : decode cX2_takeOut 6 = .ok (.ifCond .eq 42, 3) := by decide +kernel
theorem dX2_takeOut_9 : decode cX2_takeOut 9 = .ok (.aload_n 0, 1) := by decide +kernel
theorem dX2_takeOut_10 : decode cX2_takeOut 10 = .ok (.iload_n 1, 1) := by decide +kernel
theorem dX2_takeOut_11 : decode cX2_takeOut 11 = .ok (.invokevirtual 22, 3) := by decide +kernel
theorem dX2_takeOut_14 : decode cX2_takeOut 14 = .ok (.iconst 1, 1) := by decide +kernel
theorem dX2_takeOut_15 : decode cX2_takeOut 15 = .ok (.isub, 1) := by decide +kernel
theorem dX2_takeOut_16 : decode cX2_takeOut 16 = .ok (.iload_n 2, 1) := by decide +kernel
theorem dX2_takeOut_17 : decode cX2_takeOut 17 = .ok (.isub, 1) := by decide +kernel
theorem dX2_takeOut_18 : decode cX2_takeOut 18 = .ok (.istore_n 3, 1) := by decide +kernel
theorem dX2_takeOut_19 : decode cX2_takeOut 19 = .ok (.aload_n 0, 1) := by decide +kernel
theorem dX2_takeOut_20 : decode cX2_takeOut 20 = .ok (.iload_n 1, 1) := by decide +kernel
theorem dX2_takeOut_21 : decode cX2_takeOut 21 = .ok (.iload_n 2, 1) := by decide +kernel
theorem dX2_takeOut_22 : decode cX2_takeOut 22 = .ok (.iconst 1, 1) := by decide +kernel
theorem dX2_takeOut_23 : decode cX2_takeOut 23 = .ok (.iadd, 1) := by decide +kernel
theorem dX2_takeOut_24 : decode cX2_takeOut 24 = .ok (.invokestatic 34, 3) := by decide +kernel
theorem dX2_takeOut_27 : decode cX2_takeOut 27 = .ok (.iload_n 1, 1) := by decide +kernel
theorem dX2_takeOut_28 : decode cX2_takeOut 28 = .ok (.iload_n 2, 1) := by decide +kernel
theorem dX2_takeOut_29 : decode cX2_takeOut 29 = .ok (.invokestatic 34, 3) := by decide +kernel
theorem dX2_takeOut_32 : decode cX2_takeOut 32 = .ok (.iload_n 3, 1) := by decide +kernel
theorem dX2_takeOut_33 : decode cX2_takeOut 33 = .ok (.invokevirtual 61, 3) := by decide +kernel
theorem dX2_takeOut_36 : decode cX2_takeOut 36 = .ok (.aload_n 0, 1) := by decide +kernel
theorem dX2_takeOut_37 : decode cX2_takeOut 37 = .ok (.iload_n 1, 1) := by decide +kernel
theorem dX2_takeOut_38 : decode cX2_takeOut 38 = .ok (.aload_n 0, 1) := by decide +kernel
theorem dX2_takeOut_39 : decode cX2_takeOut 39 = .ok (.iload_n 1, 1) := by decide +kernel
theorem dX2_takeOut_40 : decode cX2_takeOut 40 = .ok (.invokevirtual 22, 3) := by decide +kernel
theorem dX2_takeOut_43 : decode cX2_takeOut 43 = .ok (.iconst 1, 1) := by decide +kernel
theorem dX2_takeOut_44 : decode cX2_takeOut 44 = .ok (.isub, 1) := by decide +kernel
theorem dX2_takeOut_45 : decode cX2_takeOut 45 = .ok (.invokevirtual 45, 3) := by decide +kernel
theorem dX2_takeOut_48 : decode cX2_takeOut 48 = .ok (.return_, 1) := by decide +kernel
set_option maxRecDepth 20000 in
theorem ggX2_moveToNext_X2_blocksOf : GoodIn wsX2_moveToNext wsX2_blocksOf := goodIn_r _ [5, 6, 7, 8, 9, 42] (by decide +kernel) (by decide +kernel)
set_option maxRecDepth 20000 in
theorem gX2_moveToNext_X2_blocksOf : GoodIn wsX2_moveToNext (wsV RX2 22 RX2 yX2_blocksOf wsX2_blocksOf) := goodIn_app (goodIn_of _ (by decide +kernel)) ggX2_moveToNext_X2_blocksOf
set_option maxRecDepth 20000 in
theorem ggX2_moveToNext_X4_isColumn : GoodIn wsX2_moveToNext wsX4_isColumn := goodIn_r _ [9] (by decide +kernel) (by decide +kernel)
set_option maxRecDepth 20000 in
theorem gX2_moveToNext_X4_isColumn_n18 : GoodIn wsX2_moveToNext (wsX4_isColumn) := ggX2_moveToNext_X4_isColumn
set_option maxRecDepth 20000 in
theorem ggX2_moveToNext_X2_hasBlock : GoodIn wsX2_moveToNext wsX2_hasBlock := goodIn_r _ [13, 1, 2, 3, 4, 5, 6, 7, 8, 9, 42] (by decide +kernel) (by decide +kernel)
set_option maxRecDepth 20000 in
theorem gX2_moveToNext_X2_hasBlock : GoodIn wsX2_moveToNext (wsV RX2 57 RX2 yX2_hasBlock wsX2_hasBlock) := goodIn_app (goodIn_of _ (by decide +kernel)) ggX2_moveToNext_X2_hasBlock
set_option maxRecDepth 20000 in
theorem ggX2_moveToNext_X2_cellAt : GoodIn wsX2_moveToNext wsX2_cellAt := goodIn_r _ [16] (by decide +kernel) (by decide +kernel)
set_option maxRecDepth 20000 in
theorem gX2_moveToNext_X2_cellAt : GoodIn wsX2_moveToNext (va_wsS RX2 34 yX2_cellAt wsX2_cellAt) := goodIn_app (goodIn_of _ (by decide +kernel)) ggX2_moveToNext_X2_cellAt
set_option maxRecDepth 20000 in
theorem ggX2_moveToNext_X2_moveBlocks : GoodIn wsX2_moveToNext wsX2_moveBlocks := goodIn_r _ [20, 6, 21, 8, 22, 23, 24, 25, 26, 42] (by decide +kernel) (by decide +kernel)
set_option maxRecDepth 20000 in
theorem gX2_moveToNext_X2_moveBlocks : GoodIn wsX2_moveToNext (wsV RX2 61 RX2 yX2_moveBlocks wsX2_moveBlocks) := goodIn_app (goodIn_of _ (by decide +kernel)) ggX2_moveToNext_X2_moveBlocks
set_option maxRecDepth 20000 in
theorem ggX2_moveToNext_X2_changeBlocks : GoodIn wsX2_moveToNext wsX2_changeBlocks := goodIn_r _ [30, 6, 7, 8, 9, 42] (by decide +kernel) (by decide +kernel)
set_option maxRecDepth 20000 in
theorem gX2_moveToNext_X2_changeBlocks : GoodIn wsX2_moveToNext (wsV RX2 45 RX2 yX2_changeBlocks wsX2_changeBlocks) := goodIn_app (goodIn_of _ (by decide +kernel)) ggX2_moveToNext_X2_changeBlocks
set_option maxRecDepth 20000 in
theorem ggX2_moveToNext_X2_fieldOf : GoodIn wsX2_moveToNext wsX2_fieldOf := goodIn_r _ [34, 6, 35, 36, 4, 37, 7, 8, 9, 14, 15, 16, 42] (by decide +kernel) (by decide +kernel)
set_option maxRecDepth 20000 in
theorem gX2_moveToNext_X2_fieldOf : GoodIn wsX2_moveToNext (wsV RX2 26 RX2 yX2_fieldOf wsX2_fieldOf) := goodIn_app (goodIn_of _ (by decide +kernel)) ggX2_moveToNext_X2_fieldOf
set_option maxRecDepth 20000 in
theorem ggX2_moveToNext_X2_changeField : GoodIn wsX2_moveToNext wsX2_changeField := goodIn_r _ [41, 6, 35, 36, 4, 37, 7, 8, 9, 14, 15, 16, 42] (by decide +kernel) (by decide +kernel)
set_option maxRecDepth 20000 in
theorem gX2_moveToNext_X2_changeField : GoodIn wsX2_moveToNext (wsV RX2 65 RX2 yX2_changeField wsX2_changeField) := goodIn_app (goodIn_of _ (by decide +kernel)) ggX2_moveToNext_X2_changeField
theorem dX2_moveToNext_0 : decode cX2_moveToNext 0 = .ok (.iload_n 1, 1) := by decide +kernel
theorem dX2_moveToNext_1 : decode cX2_moveToNext 1 = .ok (.iconst 1, 1) := by decide +kernel
theorem dX2_moveToNext_2 : decode cX2_moveToNext 2 = .ok (.iadd, 1) := by decide +kernel
theorem dX2_moveToNext_3 : decode cX2_moveToNext 3 = .ok (.istore 4, 2) := by decide +kernel
theorem dX2_moveToNext_5 : decode cX2_moveToNext 5 = .ok (.aload_n 0, 1) := by decide +kernel
theorem dX2_moveToNext_6 : decode cX2_moveToNext 6 = .ok (.iload_n 1, 1) := by decide +kernel
theorem dX2_moveToNext_7 : decode cX2_moveToNext 7 = .ok (.invokevirtual 22, 3) := by decide +kernel
theorem dX2_moveToNext_10 : decode cX2_moveToNext 10 = .ok (.iload_n 2, 1) := by decide +kernel
theorem dX2_moveToNext_11 : decode cX2_moveToNext 11 = .ok (.isub, 1) := by decide +kernel
theorem dX2_moveToNext_12 : decode cX2_moveToNext 12 = .ok (.istore 5, 2) := by decide +kernel
theorem dX2_moveToNext_14 : decode cX2_moveToNext 14 = .ok (.iload 4, 2) := by decide +kernel
theorem dX2_moveToNext_16 : decode cX2_moveToNext 16 = .ok (.invokestatic 18, 3) := by decide +kernel
theorem dX2_moveToNext_19 : decode cX2_moveToNext 19 = .ok (.ifCond .eq 26, 3) := by decide +kernel
theorem dX2_moveToNext_22 : decode cX2_moveToNext 22 = .ok (.aload_n 0, 1) := by decide +kernel
theorem dX2_moveToNext_23 : decode cX2_moveToNext 23 = .ok (.iload_n 1, 1) := by decide +kernel
theorem dX2_moveToNext_24 : decode cX2_moveToNext 24 = .ok (.iload_n 2, 1) := by decide +kernel
theorem dX2_moveToNext_25 : decode cX2_moveToNext 25 = .ok (.invokevirtual 57, 3) := by decide +kernel
theorem dX2_moveToNext_28 : decode cX2_moveToNext 28 = .ok (.ifCond .eq 17, 3) := by decide +kernel
theorem dX2_moveToNext_31 : decode cX2_moveToNext 31 = .ok (.aload_n 0, 1) := by decide +kernel
theorem dX2_moveToNext_32 : decode cX2_moveToNext 32 = .ok (.iload 4, 2) := by decide +kernel
theorem dX2_moveToNext_34 : decode cX2_moveToNext 34 = .ok (.invokevirtual 22, 3) := by decide +kernel
theorem dX2_moveToNext_37 : decode cX2_moveToNext 37 = .ok (.iload 5, 2) := by decide +kernel
theorem dX2_moveToNext_39 : decode cX2_moveToNext 39 = .ok (.iadd, 1) := by decide +kernel
theorem dX2_moveToNext_40 : decode cX2_moveToNext 40 = .ok (.bipush 16, 2) := by decide +kernel
theorem dX2_moveToNext_42 : decode cX2_moveToNext 42 = .ok (.if_icmp .le 4, 3) := by decide +kernel
theorem dX2_moveToNext_45 : decode cX2_moveToNext 45 = .ok (.return_, 1) := by decide +kernel
theorem dX2_moveToNext_46 : decode cX2_moveToNext 46 = .ok (.aload_n 0, 1) := by decide +kernel
theorem dX2_moveToNext_47 : decode cX2_moveToNext 47 = .ok (.iload 4, 2) := by decide +kernel
theorem dX2_moveToNext_49 : decode cX2_moveToNext 49 = .ok (.iconst 0, 1) := by decide +kernel
theorem dX2_moveToNext_50 : decode cX2_moveToNext 50 = .ok (.invokestatic 34, 3) := by decide +kernel
theorem dX2_moveToNext_53 : decode cX2_moveToNext 53 = .ok (.iload 4, 2) := by decide +kernel
theorem dX2_moveToNext_55 : decode cX2_moveToNext 55 = .ok (.iload 5, 2) := by decide +kernel
theorem dX2_moveToNext_57 : decode cX2_moveToNext 57 = .ok (.invokestatic 34, 3) := by decide +kernel
theorem dX2_moveToNext_60 : decode cX2_moveToNext 60 = .ok (.aload_n 0, 1) := by decide +kernel
theorem dX2_moveToNext_61 : decode cX2_moveToNext 61 = .ok (.iload 4, 2) := by decide +kernel
theorem dX2_moveToNext_63 : decode cX2_moveToNext 63 = .ok (.invokevirtual 22, 3) := by decide +kernel
theorem dX2_moveToNext_66 : decode cX2_moveToNext 66 = .ok (.invokevirtual 61, 3) := by decide +kernel
theorem dX2_moveToNext_69 : decode cX2_moveToNext 69 = .ok (.aload_n 0, 1) := by decide +kernel
theorem dX2_moveToNext_70 : decode cX2_moveToNext 70 = .ok (.iload_n 1, 1) := by decide +kernel
theorem dX2_moveToNext_71 : decode cX2_moveToNext 71 = .ok (.iload_n 2, 1) := by decide +kernel
theorem dX2_moveToNext_72 : decode cX2_moveToNext 72 = .ok (.invokestatic 34, 3) := by decide +kernel
theorem dX2_moveToNext_75 : decode cX2_moveToNext 75 = .ok (.iload 4, 2) := by decide +kernel
theorem dX2_moveToNext_77 : decode cX2_moveToNext 77 = .ok (.iconst 0, 1) := by decide +kernel
theorem dX2_moveToNext_78 : decode cX2_moveToNext 78 = .ok (.invokestatic 34, 3) := by decide +kernel
theorem dX2_moveToNext_81 : decode cX2_moveToNext 81 = .ok (.iload 5, 2) := by decide +kernel
theorem dX2_moveToNext_83 : decode cX2_moveToNext 83 = .ok (.invokevirtual 61, 3) := by decide +kernel
theorem dX2_moveToNext_86 : decode cX2_moveToNext 86 = .ok (.aload_n 0, 1) := by decide +kernel
theorem dX2_moveToNext_87 : decode cX2_moveToNext 87 = .ok (.iload 4, 2) := by decide +kernel
theorem dX2_moveToNext_89 : decode cX2_moveToNext 89 = .ok (.aload_n 0, 1) := by decide +kernel
theorem dX2_moveToNext_90 : decode cX2_moveToNext 90 = .ok (.iload 4, 2) := by decide +kernel
theorem dX2_moveToNext_92 : decode cX2_moveToNext 92 = .ok (.invokevirtual 22, 3) := by decide +kernel
theorem dX2_moveToNext_95 : decode cX2_moveToNext 95 = .ok (.iload 5, 2) := by decide +kernel
theorem dX2_moveToNext_97 : decode cX2_moveToNext 97 = .ok (.iadd, 1) := by decide +kernel
theorem dX2_moveToNext_98 : decode cX2_moveToNext 98 = .ok (.invokevirtual 45, 3) := by decide +kernel
theorem dX2_moveToNext_101 : decode cX2_moveToNext 101 = .ok (.aload_n 0, 1) := by decide +kernel
theorem dX2_moveToNext_102 : decode cX2_moveToNext 102 = .ok (.iload_n 1, 1) := by decide +kernel
theorem dX2_moveToNext_103 : decode cX2_moveToNext 103 = .ok (.iload_n 2, 1) := by decide +kernel
theorem dX2_moveToNext_104 : decode cX2_moveToNext 104 = .ok (.invokevirtual 45, 3) := by decide +kernel
theorem dX2_moveToNext_107 : decode cX2_moveToNext 107 = .ok (.iload_n 3, 1) := by decide +kernel
theorem dX2_moveToNext_108 : decode cX2_moveToNext 108 = .ok (.ifCond .le 37, 3) := by decide +kernel
theorem dX2_moveToNext_111 : decode cX2_moveToNext 111 = .ok (.aload_n 0, 1) := by decide +kernel
theorem dX2_moveToNext_112 : decode cX2_moveToNext 112 = .ok (.iload_n 1, 1) := by decide +kernel
theorem dX2_moveToNext_113 : decode cX2_moveToNext 113 = .ok (.iload_n 2, 1) := by decide +kernel
theorem dX2_moveToNext_114 : decode cX2_moveToNext 114 = .ok (.iconst 1, 1) := by decide +kernel
theorem dX2_moveToNext_115 : decode cX2_moveToNext 115 = .ok (.iadd, 1) := by decide +kernel
theorem dX2_moveToNext_116 : decode cX2_moveToNext 116 = .ok (.invokevirtual 45, 3) := by decide +kernel
theorem dX2_moveToNext_119 : decode cX2_moveToNext 119 = .ok (.aload_n 0, 1) := by decide +kernel
theorem dX2_moveToNext_120 : decode cX2_moveToNext 120 = .ok (.iload 4, 2) := by decide +kernel
theorem dX2_moveToNext_122 : decode cX2_moveToNext 122 = .ok (.iconst 0, 1) := by decide +kernel
theorem dX2_moveToNext_123 : decode cX2_moveToNext 123 = .ok (.iconst 1, 1) := by decide +kernel
theorem dX2_moveToNext_124 : decode cX2_moveToNext 124 = .ok (.aload_n 0, 1) := by decide +kernel
theorem dX2_moveToNext_125 : decode cX2_moveToNext 125 = .ok (.iload 4, 2) := by decide +kernel
theorem dX2_moveToNext_127 : decode cX2_moveToNext 127 = .ok (.iconst 0, 1) := by decide +kernel
theorem dX2_moveToNext_128 : decode cX2_moveToNext 128 = .ok (.iconst 1, 1) := by decide +kernel
theorem dX2_moveToNext_129 : decode cX2_moveToNext 129 = .ok (.invokevirtual 26, 3) := by decide +kernel
theorem dX2_moveToNext_132 : decode cX2_moveToNext 132 = .ok (.iload_n 3, 1) := by decide +kernel
theorem dX2_moveToNext_133 : decode cX2_moveToNext 133 = .ok (.isub, 1) := by decide +kernel
theorem dX2_moveToNext_134 : decode cX2_moveToNext 134 = .ok (.invokevirtual 65, 3) := by decide +kernel
theorem dX2_moveToNext_137 : decode cX2_moveToNext 137 = .ok (.aload_n 0, 1) := by decide +kernel
theorem dX2_moveToNext_138 : decode cX2_moveToNext 138 = .ok (.iload_n 1, 1) := by decide +kernel
theorem dX2_moveToNext_139 : decode cX2_moveToNext 139 = .ok (.iload_n 2, 1) := by decide +kernel
theorem dX2_moveToNext_140 : decode cX2_moveToNext 140 = .ok (.iconst 1, 1) := by decide +kernel
theorem dX2_moveToNext_141 : decode cX2_moveToNext 141 = .ok (.iload_n 3, 1) := by decide +kernel
theorem dX2_moveToNext_142 : decode cX2_moveToNext 142 = .ok (.invokevirtual 65, 3) := by decide +kernel
theorem dX2_moveToNext_145 : decode cX2_moveToNext 145 = .ok (.return_, 1) := by decide +kernel
set_option maxRecDepth 20000 in
theorem ggX2_copyTo_X4_copyCells : GoodIn wsX2_copyTo wsX4_copyCells := goodIn_r _ [4, 5, 6, 7, 8] (by decide +kernel) (by decide +kernel)
set_option maxRecDepth 20000 in
theorem gX2_copyTo_X4_copyCells_n53 : GoodIn wsX2_copyTo (wsX4_copyCells) := ggX2_copyTo_X4_copyCells
theorem dX2_copyTo_0 : decode cX2_copyTo 0 = .ok (.aload_n 0, 1) := by decide +kernel
theorem dX2_copyTo_1 : decode cX2_copyTo 1 = .ok (.getfield 9, 3) := by decide +kernel
theorem dX2_copyTo_4 : decode cX2_copyTo 4 = .ok (.iconst 0, 1) := by decide +kernel
theorem dX2_copyTo_5 : decode cX2_copyTo 5 = .ok (.aload_n 1, 1) := by decide +kernel
theorem dX2_copyTo_6 : decode cX2_copyTo 6 = .ok (.iload_n 2, 1) := by decide +kernel
theorem dX2_copyTo_7 : decode cX2_copyTo 7 = .ok (.sipush 393, 3) := by decide +kernel
theorem dX2_copyTo_10 : decode cX2_copyTo 10 = .ok (.invokestatic 53, 3) := by decide +kernel
theorem dX2_copyTo_13 : decode cX2_copyTo 13 = .ok (.return_, 1) := by decide +kernel
set_option maxRecDepth 20000 in
theorem ggX2_copyFrom_X4_copyCells : GoodIn wsX2_copyFrom wsX4_copyCells := goodIn_r _ [4, 5, 6, 7, 8] (by decide +kernel) (by decide +kernel)
set_option maxRecDepth 20000 in
theorem gX2_copyFrom_X4_copyCells_n53 : GoodIn wsX2_copyFrom (wsX4_copyCells) := ggX2_copyFrom_X4_copyCells
theorem dX2_copyFrom_0 : decode cX2_copyFrom 0 = .ok (.aload_n 1, 1) := by decide +kernel
theorem dX2_copyFrom_1 : decode cX2_copyFrom 1 = .ok (.iload_n 2, 1) := by decide +kernel
theorem dX2_copyFrom_2 : decode cX2_copyFrom 2 = .ok (.aload_n 0, 1) := by decide +kernel
theorem dX2_copyFrom_3 : decode cX2_copyFrom 3 = .ok (.getfield 9, 3) := by decide +kernel
theorem dX2_copyFrom_6 : decode cX2_copyFrom 6 = .ok (.iconst 0, 1) := by decide +kernel
theorem dX2_copyFrom_7 : decode cX2_copyFrom 7 = .ok (.sipush 393, 3) := by decide +kernel
theorem dX2_copyFrom_10 : decode cX2_copyFrom 10 = .ok (.invokestatic 53, 3) := by decide +kernel
theorem dX2_copyFrom_13 : decode cX2_copyFrom 13 = .ok (.return_, 1) := by decide +kernel
set_option maxRecDepth 20000 in
theorem ggX2_moveBlocks_X4_copyCells : GoodIn wsX2_moveBlocks wsX4_copyCells := goodIn_r _ [4, 5, 6, 7, 8] (by decide +kernel) (by decide +kernel)
set_option maxRecDepth 20000 in
theorem gX2_moveBlocks_X4_copyCells_n53 : GoodIn wsX2_moveBlocks (wsX4_copyCells) := ggX2_moveBlocks_X4_copyCells
theorem dX2_moveBlocks_0 : decode cX2_moveBlocks 0 = .ok (.aload_n 0, 1) := by decide +kernel
theorem dX2_moveBlocks_1 : decode cX2_moveBlocks 1 = .ok (.getfield 9, 3) := by decide +kernel
theorem dX2_moveBlocks_4 : decode cX2_moveBlocks 4 = .ok (.iload_n 1, 1) := by decide +kernel
theorem dX2_moveBlocks_5 : decode cX2_moveBlocks 5 = .ok (.aload_n 0, 1) := by decide +kernel
theorem dX2_moveBlocks_6 : decode cX2_moveBlocks 6 = .ok (.getfield 9, 3) := by decide +kernel
theorem dX2_moveBlocks_9 : decode cX2_moveBlocks 9 = .ok (.iload_n 2, 1) := by decide +kernel
theorem dX2_moveBlocks_10 : decode cX2_moveBlocks 10 = .ok (.iload_n 3, 1) := by decide +kernel
theorem dX2_moveBlocks_11 : decode cX2_moveBlocks 11 = .ok (.bipush 6, 2) := by decide +kernel
theorem dX2_moveBlocks_13 : decode cX2_moveBlocks 13 = .ok (.imul, 1) := by decide +kernel
theorem dX2_moveBlocks_14 : decode cX2_moveBlocks 14 = .ok (.invokestatic 53, 3) := by decide +kernel
theorem dX2_moveBlocks_17 : decode cX2_moveBlocks 17 = .ok (.return_, 1) := by decide +kernel
set_option maxRecDepth 20000 in
theorem ggX2_hasRoom_X4_isColumn : GoodIn wsX2_hasRoom wsX4_isColumn := goodIn_r _ [3] (by decide +kernel) (by decide +kernel)
set_option maxRecDepth 20000 in
theorem gX2_hasRoom_X4_isColumn_n18 : GoodIn wsX2_hasRoom (wsX4_isColumn) := ggX2_hasRoom_X4_isColumn
set_option maxRecDepth 20000 in
theorem ggX2_hasRoom_X2_blocksOf : GoodIn wsX2_hasRoom wsX2_blocksOf := goodIn_r _ [8, 9, 1, 2, 3, 10] (by decide +kernel) (by decide +kernel)
set_option maxRecDepth 20000 in
theorem gX2_hasRoom_X2_blocksOf : GoodIn wsX2_hasRoom (wsV RX2 22 RX2 yX2_blocksOf wsX2_blocksOf) := goodIn_app (goodIn_of _ (by decide +kernel)) ggX2_hasRoom_X2_blocksOf
theorem dX2_hasRoom_0 : decode cX2_hasRoom 0 = .ok (.iload_n 1, 1) := by decide +kernel
theorem dX2_hasRoom_1 : decode cX2_hasRoom 1 = .ok (.invokestatic 18, 3) := by decide +kernel
theorem dX2_hasRoom_4 : decode cX2_hasRoom 4 = .ok (.ifCond .eq 17, 3) := by decide +kernel
theorem dX2_hasRoom_7 : decode cX2_hasRoom 7 = .ok (.aload_n 0, 1) := by decide +kernel
theorem dX2_hasRoom_8 : decode cX2_hasRoom 8 = .ok (.iload_n 1, 1) := by decide +kernel
theorem dX2_hasRoom_9 : decode cX2_hasRoom 9 = .ok (.invokevirtual 22, 3) := by decide +kernel
theorem dX2_hasRoom_12 : decode cX2_hasRoom 12 = .ok (.bipush 16, 2) := by decide +kernel
theorem dX2_hasRoom_14 : decode cX2_hasRoom 14 = .ok (.if_icmp .ge 7, 3) := by decide +kernel
theorem dX2_hasRoom_17 : decode cX2_hasRoom 17 = .ok (.iconst 1, 1) := by decide +kernel
theorem dX2_hasRoom_18 : decode cX2_hasRoom 18 = .ok (.goto 4, 3) := by decide +kernel
theorem dX2_hasRoom_21 : decode cX2_hasRoom 21 = .ok (.iconst 0, 1) := by decide +kernel
theorem dX2_hasRoom_22 : decode cX2_hasRoom 22 = .ok (.ireturn, 1) := by decide +kernel
set_option maxRecDepth 20000 in
theorem ggX2_changeBlocks_X4_isColumn : GoodIn wsX2_changeBlocks wsX4_isColumn := goodIn_r _ [4] (by decide +kernel) (by decide +kernel)
set_option maxRecDepth 20000 in
theorem gX2_changeBlocks_X4_isColumn_n18 : GoodIn wsX2_changeBlocks (wsX4_isColumn) := ggX2_changeBlocks_X4_isColumn
theorem dX2_changeBlocks_0 : decode cX2_changeBlocks 0 = .ok (.iload_n 1, 1) := by decide +kernel
theorem dX2_changeBlocks_1 : decode cX2_changeBlocks 1 = .ok (.invokestatic 18, 3) := by decide +kernel
theorem dX2_changeBlocks_4 : decode cX2_changeBlocks 4 = .ok (.ifCond .eq 22, 3) := by decide +kernel
theorem dX2_changeBlocks_7 : decode cX2_changeBlocks 7 = .ok (.iload_n 2, 1) := by decide +kernel
theorem dX2_changeBlocks_8 : decode cX2_changeBlocks 8 = .ok (.ifCond .lt 18, 3) := by decide +kernel
theorem dX2_changeBlocks_11 : decode cX2_changeBlocks 11 = .ok (.iload_n 2, 1) := by decide +kernel
theorem dX2_changeBlocks_12 : decode cX2_changeBlocks 12 = .ok (.bipush 16, 2) := by decide +kernel
theorem dX2_changeBlocks_14 : decode cX2_changeBlocks 14 = .ok (.if_icmp .gt 12, 3) := by decide +kernel
theorem dX2_changeBlocks_17 : decode cX2_changeBlocks 17 = .ok (.aload_n 0, 1) := by decide +kernel
theorem dX2_changeBlocks_18 : decode cX2_changeBlocks 18 = .ok (.getfield 9, 3) := by decide +kernel
theorem dX2_changeBlocks_21 : decode cX2_changeBlocks 21 = .ok (.iconst 5, 1) := by decide +kernel
theorem dX2_changeBlocks_22 : decode cX2_changeBlocks 22 = .ok (.iload_n 1, 1) := by decide +kernel
theorem dX2_changeBlocks_23 : decode cX2_changeBlocks 23 = .ok (.iadd, 1) := by decide +kernel
theorem dX2_changeBlocks_24 : decode cX2_changeBlocks 24 = .ok (.iload_n 2, 1) := by decide +kernel
theorem dX2_changeBlocks_25 : decode cX2_changeBlocks 25 = .ok (.iastore, 1) := by decide +kernel
theorem dX2_changeBlocks_26 : decode cX2_changeBlocks 26 = .ok (.return_, 1) := by decide +kernel
theorem dX2_cellAt_0 : decode cX2_cellAt 0 = .ok (.bipush 9, 2) := by decide +kernel
theorem dX2_cellAt_2 : decode cX2_cellAt 2 = .ok (.iload_n 0, 1) := by decide +kernel
theorem dX2_cellAt_3 : decode cX2_cellAt 3 = .ok (.bipush 16, 2) := by decide +kernel
theorem dX2_cellAt_5 : decode cX2_cellAt 5 = .ok (.imul, 1) := by decide +kernel
theorem dX2_cellAt_6 : decode cX2_cellAt 6 = .ok (.iload_n 1, 1) := by decide +kernel
theorem dX2_cellAt_7 : decode cX2_cellAt 7 = .ok (.iadd, 1) := by decide +kernel
theorem dX2_cellAt_8 : decode cX2_cellAt 8 = .ok (.bipush 6, 2) := by decide +kernel
theorem dX2_cellAt_10 : decode cX2_cellAt 10 = .ok (.imul, 1) := by decide +kernel
theorem dX2_cellAt_11 : decode cX2_cellAt 11 = .ok (.iadd, 1) := by decide +kernel
theorem dX2_cellAt_12 : decode cX2_cellAt 12 = .ok (.ireturn, 1) := by decide +kernel
set_option maxRecDepth 20000 in
theorem ggX2_isCell_X4_isColumn : GoodIn wsX2_isCell wsX4_isColumn := goodIn_r _ [3] (by decide +kernel) (by decide +kernel)
set_option maxRecDepth 20000 in
theorem gX2_isCell_X4_isColumn_n18 : GoodIn wsX2_isCell (wsX4_isColumn) := ggX2_isCell_X4_isColumn
theorem dX2_isCell_0 : decode cX2_isCell 0 = .ok (.iload_n 0, 1) := by decide +kernel
theorem dX2_isCell_1 : decode cX2_isCell 1 = .ok (.invokestatic 18, 3) := by decide +kernel
theorem dX2_isCell_4 : decode cX2_isCell 4 = .ok (.ifCond .eq 27, 3) := by decide +kernel
theorem dX2_isCell_7 : decode cX2_isCell 7 = .ok (.iload_n 1, 1) := by decide +kernel
theorem dX2_isCell_8 : decode cX2_isCell 8 = .ok (.ifCond .lt 23, 3) := by decide +kernel
theorem dX2_isCell_11 : decode cX2_isCell 11 = .ok (.iload_n 1, 1) := by decide +kernel
theorem dX2_isCell_12 : decode cX2_isCell 12 = .ok (.bipush 16, 2) := by decide +kernel
theorem dX2_isCell_14 : decode cX2_isCell 14 = .ok (.if_icmp .ge 17, 3) := by decide +kernel
theorem dX2_isCell_17 : decode cX2_isCell 17 = .ok (.iload_n 2, 1) := by decide +kernel
theorem dX2_isCell_18 : decode cX2_isCell 18 = .ok (.ifCond .lt 13, 3) := by decide +kernel
theorem dX2_isCell_21 : decode cX2_isCell 21 = .ok (.iload_n 2, 1) := by decide +kernel
theorem dX2_isCell_22 : decode cX2_isCell 22 = .ok (.bipush 6, 2) := by decide +kernel
theorem dX2_isCell_24 : decode cX2_isCell 24 = .ok (.if_icmp .ge 7, 3) := by decide +kernel
theorem dX2_isCell_27 : decode cX2_isCell 27 = .ok (.iconst 1, 1) := by decide +kernel
theorem dX2_isCell_28 : decode cX2_isCell 28 = .ok (.goto 4, 3) := by decide +kernel
theorem dX2_isCell_31 : decode cX2_isCell 31 = .ok (.iconst 0, 1) := by decide +kernel
theorem dX2_isCell_32 : decode cX2_isCell 32 = .ok (.ireturn, 1) := by decide +kernel
theorem dX3_init_0 : decode cX3_init 0 = .ok (.aload_n 0, 1) := by decide +kernel
theorem dX3_init_1 : decode cX3_init 1 = .ok (.invokespecial 3, 3) := by decide +kernel
theorem dX3_init_4 : decode cX3_init 4 = .ok (.aload_n 0, 1) := by decide +kernel
theorem dX3_init_5 : decode cX3_init 5 = .ok (.bipush 60, 2) := by decide +kernel
theorem dX3_init_7 : decode cX3_init 7 = .ok (.newarray .char, 2) := by decide +kernel
theorem dX3_init_9 : decode cX3_init 9 = .ok (.putfield 9, 3) := by decide +kernel
theorem dX3_init_12 : decode cX3_init 12 = .ok (.aload_n 0, 1) := by decide +kernel
theorem dX3_init_13 : decode cX3_init 13 = .ok (.iconst 0, 1) := by decide +kernel
theorem dX3_init_14 : decode cX3_init 14 = .ok (.putfield 15, 3) := by decide +kernel
theorem dX3_init_17 : decode cX3_init 17 = .ok (.aload_n 0, 1) := by decide +kernel
theorem dX3_init_18 : decode cX3_init 18 = .ok (.bipush 120, 2) := by decide +kernel
theorem dX3_init_20 : decode cX3_init 20 = .ok (.newarray .int, 2) := by decide +kernel
theorem dX3_init_22 : decode cX3_init 22 = .ok (.putfield 19, 3) := by decide +kernel
theorem dX3_init_25 : decode cX3_init 25 = .ok (.aload_n 0, 1) := by decide +kernel
theorem dX3_init_26 : decode cX3_init 26 = .ok (.iconst 0, 1) := by decide +kernel
theorem dX3_init_27 : decode cX3_init 27 = .ok (.putfield 23, 3) := by decide +kernel
theorem dX3_init_30 : decode cX3_init 30 = .ok (.aload_n 0, 1) := by decide +kernel
theorem dX3_init_31 : decode cX3_init 31 = .ok (.iconst 1, 1) := by decide +kernel
theorem dX3_init_32 : decode cX3_init 32 = .ok (.putfield 26, 3) := by decide +kernel
theorem dX3_init_35 : decode cX3_init 35 = .ok (.aload_n 0, 1) := by decide +kernel
theorem dX3_init_36 : decode cX3_init 36 = .ok (.iconst 0, 1) := by decide +kernel
theorem dX3_init_37 : decode cX3_init 37 = .ok (.putfield 30, 3) := by decide +kernel
theorem dX3_init_40 : decode cX3_init 40 = .ok (.aload_n 0, 1) := by decide +kernel
theorem dX3_init_41 : decode cX3_init 41 = .ok (.iconst 0, 1) := by decide +kernel
theorem dX3_init_42 : decode cX3_init 42 = .ok (.putfield 33, 3) := by decide +kernel
theorem dX3_init_45 : decode cX3_init 45 = .ok (.return_, 1) := by decide +kernel
theorem dX3_length_0 : decode cX3_length 0 = .ok (.aload_n 0, 1) := by decide +kernel
theorem dX3_length_1 : decode cX3_length 1 = .ok (.getfield 15, 3) := by decide +kernel
theorem dX3_length_4 : decode cX3_length 4 = .ok (.ireturn, 1) := by decide +kernel
theorem dX3_append_0 : decode cX3_append 0 = .ok (.aload_n 0, 1) := by decide +kernel
theorem dX3_append_1 : decode cX3_append 1 = .ok (.getfield 15, 3) := by decide +kernel
theorem dX3_append_4 : decode cX3_append 4 = .ok (.ifCond .lt 12, 3) := by decide +kernel
theorem dX3_append_7 : decode cX3_append 7 = .ok (.aload_n 0, 1) := by decide +kernel
theorem dX3_append_8 : decode cX3_append 8 = .ok (.getfield 15, 3) := by decide +kernel
theorem dX3_append_11 : decode cX3_append 11 = .ok (.bipush 60, 2) := by decide +kernel
theorem dX3_append_13 : decode cX3_append 13 = .ok (.if_icmp .lt 5, 3) := by decide +kernel
theorem dX3_append_16 : decode cX3_append 16 = .ok (.iconst 0, 1) := by decide +kernel
theorem dX3_append_17 : decode cX3_append 17 = .ok (.ireturn, 1) := by decide +kernel
theorem dX3_append_18 : decode cX3_append 18 = .ok (.aload_n 0, 1) := by decide +kernel
theorem dX3_append_19 : decode cX3_append 19 = .ok (.getfield 9, 3) := by decide +kernel
theorem dX3_append_22 : decode cX3_append 22 = .ok (.aload_n 0, 1) := by decide +kernel
theorem dX3_append_23 : decode cX3_append 23 = .ok (.getfield 15, 3) := by decide +kernel
theorem dX3_append_26 : decode cX3_append 26 = .ok (.iload_n 1, 1) := by decide +kernel
theorem dX3_append_27 : decode cX3_append 27 = .ok (.castore, 1) := by decide +kernel
theorem dX3_append_28 : decode cX3_append 28 = .ok (.aload_n 0, 1) := by decide +kernel
theorem dX3_append_29 : decode cX3_append 29 = .ok (.dup, 1) := by decide +kernel
theorem dX3_append_30 : decode cX3_append 30 = .ok (.getfield 15, 3) := by decide +kernel
theorem dX3_append_33 : decode cX3_append 33 = .ok (.iconst 1, 1) := by decide +kernel
theorem dX3_append_34 : decode cX3_append 34 = .ok (.iadd, 1) := by decide +kernel
theorem dX3_append_35 : decode cX3_append 35 = .ok (.putfield 15, 3) := by decide +kernel
theorem dX3_append_38 : decode cX3_append 38 = .ok (.iconst 1, 1) := by decide +kernel
theorem dX3_append_39 : decode cX3_append 39 = .ok (.ireturn, 1) := by decide +kernel
theorem dX3_clear_0 : decode cX3_clear 0 = .ok (.aload_n 0, 1) := by decide +kernel
theorem dX3_clear_1 : decode cX3_clear 1 = .ok (.iconst 0, 1) := by decide +kernel
theorem dX3_clear_2 : decode cX3_clear 2 = .ok (.putfield 15, 3) := by decide +kernel
theorem dX3_clear_5 : decode cX3_clear 5 = .ok (.return_, 1) := by decide +kernel
theorem dX3_blocks_0 : decode cX3_blocks 0 = .ok (.aload_n 0, 1) := by decide +kernel
theorem dX3_blocks_1 : decode cX3_blocks 1 = .ok (.getfield 23, 3) := by decide +kernel
theorem dX3_blocks_4 : decode cX3_blocks 4 = .ok (.ireturn, 1) := by decide +kernel
theorem dX3_allFit_0 : decode cX3_allFit 0 = .ok (.aload_n 0, 1) := by decide +kernel
theorem dX3_allFit_1 : decode cX3_allFit 1 = .ok (.getfield 26, 3) := by decide +kernel
theorem dX3_allFit_4 : decode cX3_allFit 4 = .ok (.ireturn, 1) := by decide +kernel
theorem dX3_rows_0 : decode cX3_rows 0 = .ok (.aload_n 0, 1) := by decide +kernel
theorem dX3_rows_1 : decode cX3_rows 1 = .ok (.getfield 19, 3) := by decide +kernel
theorem dX3_rows_4 : decode cX3_rows 4 = .ok (.areturn, 1) := by decide +kernel
set_option maxRecDepth 20000 in
theorem ggX3_readBlocks_X3_readBlock : GoodIn wsX3_readBlocks wsX3_readBlock := goodIn_r _ [9, 10, 11, 12, 8, 13, 3, 14, 15, 16, 17, 18, 4, 19, 20, 21, 22, 23, 24, 1, 2, 25, 26, 27, 28, 29, 30, 31, 32, 33, 34, 35, 36, 37, 38, 39, 40, 41, 42, 43, 44, 45, 46, 47, 48, 49, 50] (by decide +kernel) (by decide +kernel)
set_option maxRecDepth 20000 in
theorem gX3_readBlocks_X3_readBlock : GoodIn wsX3_readBlocks (wsV RX3 36 RX3 yX3_readBlock wsX3_readBlock) := goodIn_app (goodIn_of _ (by decide +kernel)) ggX3_readBlocks_X3_readBlock
set_option maxRecDepth 20000 in
theorem ggX3_readBlocks_X3_passes : GoodIn wsX3_readBlocks wsX3_passes := goodIn_r _ [13, 3, 14, 15, 16, 17, 8, 18, 4, 44, 45, 46, 47, 48, 49, 50] (by decide +kernel) (by decide +kernel)
set_option maxRecDepth 20000 in
theorem gX3_readBlocks_X3_passes : GoodIn wsX3_readBlocks (wsV RX3 40 RX3 yX3_passes wsX3_passes) := goodIn_app (goodIn_of _ (by decide +kernel)) ggX3_readBlocks_X3_passes
theorem dX3_readBlocks_0 : decode cX3_readBlocks 0 = .ok (.aload_n 0, 1) := by decide +kernel
theorem dX3_readBlocks_1 : decode cX3_readBlocks 1 = .ok (.iconst 0, 1) := by decide +kernel
theorem dX3_readBlocks_2 : decode cX3_readBlocks 2 = .ok (.putfield 23, 3) := by decide +kernel
theorem dX3_readBlocks_5 : decode cX3_readBlocks 5 = .ok (.aload_n 0, 1) := by decide +kernel
theorem dX3_readBlocks_6 : decode cX3_readBlocks 6 = .ok (.iconst 1, 1) := by decide +kernel
theorem dX3_readBlocks_7 : decode cX3_readBlocks 7 = .ok (.putfield 26, 3) := by decide +kernel
theorem dX3_readBlocks_10 : decode cX3_readBlocks 10 = .ok (.aload_n 0, 1) := by decide +kernel
theorem dX3_readBlocks_11 : decode cX3_readBlocks 11 = .ok (.iconst 0, 1) := by decide +kernel
theorem dX3_readBlocks_12 : decode cX3_readBlocks 12 = .ok (.putfield 30, 3) := by decide +kernel
theorem dX3_readBlocks_15 : decode cX3_readBlocks 15 = .ok (.iconst 0, 1) := by decide +kernel
theorem dX3_readBlocks_16 : decode cX3_readBlocks 16 = .ok (.istore_n 1, 1) := by decide +kernel
theorem dX3_readBlocks_17 : decode cX3_readBlocks 17 = .ok (.iload_n 1, 1) := by decide +kernel
theorem dX3_readBlocks_18 : decode cX3_readBlocks 18 = .ok (.bipush 60, 2) := by decide +kernel
theorem dX3_readBlocks_20 : decode cX3_readBlocks 20 = .ok (.if_icmp .gt 49, 3) := by decide +kernel
theorem dX3_readBlocks_23 : decode cX3_readBlocks 23 = .ok (.aload_n 0, 1) := by decide +kernel
theorem dX3_readBlocks_24 : decode cX3_readBlocks 24 = .ok (.invokevirtual 36, 3) := by decide +kernel
theorem dX3_readBlocks_27 : decode cX3_readBlocks 27 = .ok (.ifCond .ne 8, 3) := by decide +kernel
theorem dX3_readBlocks_30 : decode cX3_readBlocks 30 = .ok (.aload_n 0, 1) := by decide +kernel
theorem dX3_readBlocks_31 : decode cX3_readBlocks 31 = .ok (.getfield 30, 3) := by decide +kernel
theorem dX3_readBlocks_34 : decode cX3_readBlocks 34 = .ok (.ireturn, 1) := by decide +kernel
theorem dX3_readBlocks_35 : decode cX3_readBlocks 35 = .ok (.aload_n 0, 1) := by decide +kernel
theorem dX3_readBlocks_36 : decode cX3_readBlocks 36 = .ok (.getfield 30, 3) := by decide +kernel
theorem dX3_readBlocks_39 : decode cX3_readBlocks 39 = .ok (.aload_n 0, 1) := by decide +kernel
theorem dX3_readBlocks_40 : decode cX3_readBlocks 40 = .ok (.getfield 15, 3) := by decide +kernel
theorem dX3_readBlocks_43 : decode cX3_readBlocks 43 = .ok (.if_icmp .lt 6, 3) := by decide +kernel
theorem dX3_readBlocks_46 : decode cX3_readBlocks 46 = .ok (.bipush (-5), 2) := by decide +kernel
theorem dX3_readBlocks_48 : decode cX3_readBlocks 48 = .ok (.ireturn, 1) := by decide +kernel
theorem dX3_readBlocks_49 : decode cX3_readBlocks 49 = .ok (.aload_n 0, 1) := by decide +kernel
theorem dX3_readBlocks_50 : decode cX3_readBlocks 50 = .ok (.bipush 59, 2) := by decide +kernel
theorem dX3_readBlocks_52 : decode cX3_readBlocks 52 = .ok (.invokevirtual 40, 3) := by decide +kernel
theorem dX3_readBlocks_55 : decode cX3_readBlocks 55 = .ok (.ifCond .ne 8, 3) := by decide +kernel
theorem dX3_readBlocks_58 : decode cX3_readBlocks 58 = .ok (.aload_n 0, 1) := by decide +kernel
theorem dX3_readBlocks_59 : decode cX3_readBlocks 59 = .ok (.getfield 30, 3) := by decide +kernel
theorem dX3_readBlocks_62 : decode cX3_readBlocks 62 = .ok (.ireturn, 1) := by decide +kernel
theorem dX3_readBlocks_63 : decode cX3_readBlocks 63 = .ok (.iinc 1 1, 3) := by decide +kernel
theorem dX3_readBlocks_66 : decode cX3_readBlocks 66 = .ok (.goto (-49), 3) := by decide +kernel
theorem dX3_readBlocks_69 : decode cX3_readBlocks 69 = .ok (.aload_n 0, 1) := by decide +kernel
theorem dX3_readBlocks_70 : decode cX3_readBlocks 70 = .ok (.getfield 30, 3) := by decide +kernel
theorem dX3_readBlocks_73 : decode cX3_readBlocks 73 = .ok (.ireturn, 1) := by decide +kernel
set_option maxRecDepth 20000 in
theorem ggX3_readBlock_X3_passes : GoodIn wsX3_readBlock wsX3_passes := goodIn_r _ [5, 6, 7, 8, 9, 10, 4, 11, 12, 40, 41, 42, 43, 44, 45, 46] (by decide +kernel) (by decide +kernel)
set_option maxRecDepth 20000 in
theorem gX3_readBlock_X3_passes : GoodIn wsX3_readBlock (wsV RX3 40 RX3 yX3_passes wsX3_passes) := goodIn_app (goodIn_of _ (by decide +kernel)) ggX3_readBlock_X3_passes
set_option maxRecDepth 20000 in
theorem ggX3_readBlock_X3_readParagraph : GoodIn wsX3_readBlock wsX3_readParagraph := goodIn_r _ [16, 17, 18, 19, 20, 21, 22, 23, 4, 24, 6, 12, 25, 26, 27, 28, 7, 8, 9, 10, 11, 1, 2, 3, 5, 29, 30, 31, 32, 33, 40, 41, 42, 43, 44, 45, 46] (by decide +kernel) (by decide +kernel)
set_option maxRecDepth 20000 in
theorem gX3_readBlock_X3_readParagraph : GoodIn wsX3_readBlock (wsV RX3 44 RX3 yX3_readParagraph wsX3_readParagraph) := goodIn_app (goodIn_of _ (by decide +kernel)) ggX3_readBlock_X3_readParagraph
set_option maxRecDepth 20000 in
theorem ggX3_readBlock_X3_readLineless : GoodIn wsX3_readBlock wsX3_readLineless := goodIn_r _ [37, 18, 19, 17, 21, 22, 23, 4, 24, 6, 12, 25, 26, 27, 28, 7, 8, 9, 10, 11, 38, 30, 39, 40, 41, 42, 43, 44, 45, 46] (by decide +kernel) (by decide +kernel)
set_option maxRecDepth 20000 in
theorem gX3_readBlock_X3_readLineless : GoodIn wsX3_readBlock (wsV RX3 47 RX3 yX3_readLineless wsX3_readLineless) := goodIn_app (goodIn_of _ (by decide +kernel)) ggX3_readBlock_X3_readLineless
theorem dX3_readBlock_0 : decode cX3_readBlock 0 = .ok (.aload_n 0, 1) := by decide +kernel
theorem dX3_readBlock_1 : decode cX3_readBlock 1 = .ok (.bipush 112, 2) := by decide +kernel
theorem dX3_readBlock_3 : decode cX3_readBlock 3 = .ok (.invokevirtual 40, 3) := by decide +kernel
theorem dX3_readBlock_6 : decode cX3_readBlock 6 = .ok (.ifCond .eq 8, 3) := by decide +kernel
theorem dX3_readBlock_9 : decode cX3_readBlock 9 = .ok (.aload_n 0, 1) := by decide +kernel
theorem dX3_readBlock_10 : decode cX3_readBlock 10 = .ok (.invokevirtual 44, 3) := by decide +kernel
theorem dX3_readBlock_13 : decode cX3_readBlock 13 = .ok (.ireturn, 1) := by decide +kernel
theorem dX3_readBlock_14 : decode cX3_readBlock 14 = .ok (.aload_n 0, 1) := by decide +kernel
theorem dX3_readBlock_15 : decode cX3_readBlock 15 = .ok (.bipush 105, 2) := by decide +kernel
theorem dX3_readBlock_17 : decode cX3_readBlock 17 = .ok (.invokevirtual 40, 3) := by decide +kernel
theorem dX3_readBlock_20 : decode cX3_readBlock 20 = .ok (.ifCond .eq 9, 3) := by decide +kernel
theorem dX3_readBlock_23 : decode cX3_readBlock 23 = .ok (.aload_n 0, 1) := by decide +kernel
theorem dX3_readBlock_24 : decode cX3_readBlock 24 = .ok (.iconst 1, 1) := by decide +kernel
theorem dX3_readBlock_25 : decode cX3_readBlock 25 = .ok (.invokevirtual 47, 3) := by decide +kernel
theorem dX3_readBlock_28 : decode cX3_readBlock 28 = .ok (.ireturn, 1) := by decide +kernel
theorem dX3_readBlock_29 : decode cX3_readBlock 29 = .ok (.aload_n 0, 1) := by decide +kernel
theorem dX3_readBlock_30 : decode cX3_readBlock 30 = .ok (.bipush 115, 2) := by decide +kernel
theorem dX3_readBlock_32 : decode cX3_readBlock 32 = .ok (.invokevirtual 40, 3) := by decide +kernel
theorem dX3_readBlock_35 : decode cX3_readBlock 35 = .ok (.ifCond .eq 15, 3) := by decide +kernel
theorem dX3_readBlock_38 : decode cX3_readBlock 38 = .ok (.aload_n 0, 1) := by decide +kernel
theorem dX3_readBlock_39 : decode cX3_readBlock 39 = .ok (.iconst 2, 1) := by decide +kernel
theorem dX3_readBlock_40 : decode cX3_readBlock 40 = .ok (.invokevirtual 47, 3) := by decide +kernel
theorem dX3_readBlock_43 : decode cX3_readBlock 43 = .ok (.ifCond .eq 7, 3) := by decide +kernel
theorem dX3_readBlock_46 : decode cX3_readBlock 46 = .ok (.iconst 1, 1) := by decide +kernel
theorem dX3_readBlock_47 : decode cX3_readBlock 47 = .ok (.goto 4, 3) := by decide +kernel
theorem dX3_readBlock_50 : decode cX3_readBlock 50 = .ok (.iconst 0, 1) := by decide +kernel
theorem dX3_readBlock_51 : decode cX3_readBlock 51 = .ok (.ireturn, 1) := by decide +kernel
set_option maxRecDepth 20000 in
theorem ggX3_readParagraph_X3_readNumber : GoodIn wsX3_readParagraph wsX3_readNumber := goodIn_r _ [9, 1, 10, 11, 12, 13, 14, 8, 15, 16, 17, 18, 19, 20, 30, 31, 32, 33, 34, 35, 36] (by decide +kernel) (by decide +kernel)
set_option maxRecDepth 20000 in
theorem gX3_readParagraph_X3_readNumber : GoodIn wsX3_readParagraph (wsV RX3 51 RX3 yX3_readNumber wsX3_readNumber) := goodIn_app (goodIn_of _ (by decide +kernel)) ggX3_readParagraph_X3_readNumber
set_option maxRecDepth 20000 in
theorem ggX3_readParagraph_X3_passes : GoodIn wsX3_readParagraph wsX3_passes := goodIn_r _ [24, 10, 16, 17, 18, 19, 8, 20, 11, 30, 31, 32, 33, 34, 35, 36] (by decide +kernel) (by decide +kernel)
set_option maxRecDepth 20000 in
theorem gX3_readParagraph_X3_passes : GoodIn wsX3_readParagraph (wsV RX3 40 RX3 yX3_passes wsX3_passes) := goodIn_app (goodIn_of _ (by decide +kernel)) ggX3_readParagraph_X3_passes
set_option maxRecDepth 20000 in
theorem ggX3_readParagraph_X4_writeParagraph : GoodIn wsX3_readParagraph wsX4_writeParagraph := goodIn_r _ [27] (by decide +kernel) (by decide +kernel)
set_option maxRecDepth 20000 in
theorem gX3_readParagraph_X4_writeParagraph_n54 : GoodIn wsX3_readParagraph (wsX4_writeParagraph) := ggX3_readParagraph_X4_writeParagraph
set_option maxRecDepth 20000 in
theorem ggX3_readParagraph_X4_isFitting : GoodIn wsX3_readParagraph wsX4_isFitting := goodIn_r _ [29] (by decide +kernel) (by decide +kernel)
set_option maxRecDepth 20000 in
theorem gX3_readParagraph_X4_isFitting_n58 : GoodIn wsX3_readParagraph (wsX4_isFitting) := ggX3_readParagraph_X4_isFitting
theorem dX3_readParagraph_0 : decode cX3_readParagraph 0 = .ok (.aload_n 0, 1) := by decide +kernel
theorem dX3_readParagraph_1 : decode cX3_readParagraph 1 = .ok (.bipush 40, 2) := by decide +kernel
theorem dX3_readParagraph_3 : decode cX3_readParagraph 3 = .ok (.invokevirtual 51, 3) := by decide +kernel
theorem dX3_readParagraph_6 : decode cX3_readParagraph 6 = .ok (.ifCond .ne 5, 3) := by decide +kernel
theorem dX3_readParagraph_9 : decode cX3_readParagraph 9 = .ok (.iconst 0, 1) := by decide +kernel
theorem dX3_readParagraph_10 : decode cX3_readParagraph 10 = .ok (.ireturn, 1) := by decide +kernel
theorem dX3_readParagraph_11 : decode cX3_readParagraph 11 = .ok (.aload_n 0, 1) := by decide +kernel
theorem dX3_readParagraph_12 : decode cX3_readParagraph 12 = .ok (.getfield 33, 3) := by decide +kernel
theorem dX3_readParagraph_15 : decode cX3_readParagraph 15 = .ok (.istore_n 1, 1) := by decide +kernel
theorem dX3_readParagraph_16 : decode cX3_readParagraph 16 = .ok (.aload_n 0, 1) := by decide +kernel
theorem dX3_readParagraph_17 : decode cX3_readParagraph 17 = .ok (.bipush 42, 2) := by decide +kernel
theorem dX3_readParagraph_19 : decode cX3_readParagraph 19 = .ok (.invokevirtual 40, 3) := by decide +kernel
theorem dX3_readParagraph_22 : decode cX3_readParagraph 22 = .ok (.ifCond .eq 13, 3) := by decide +kernel
theorem dX3_readParagraph_25 : decode cX3_readParagraph 25 = .ok (.aload_n 0, 1) := by decide +kernel
theorem dX3_readParagraph_26 : decode cX3_readParagraph 26 = .ok (.sipush 400, 3) := by decide +kernel
theorem dX3_readParagraph_29 : decode cX3_readParagraph 29 = .ok (.invokevirtual 51, 3) := by decide +kernel
theorem dX3_readParagraph_32 : decode cX3_readParagraph 32 = .ok (.ifCond .ne 5, 3) := by decide +kernel
theorem dX3_readParagraph_35 : decode cX3_readParagraph 35 = .ok (.iconst 0, 1) := by decide +kernel
theorem dX3_readParagraph_36 : decode cX3_readParagraph 36 = .ok (.ireturn, 1) := by decide +kernel
theorem dX3_readParagraph_37 : decode cX3_readParagraph 37 = .ok (.aload_n 0, 1) := by decide +kernel
theorem dX3_readParagraph_38 : decode cX3_readParagraph 38 = .ok (.getfield 33, 3) := by decide +kernel
theorem dX3_readParagraph_41 : decode cX3_readParagraph 41 = .ok (.istore_n 2, 1) := by decide +kernel
theorem dX3_readParagraph_42 : decode cX3_readParagraph 42 = .ok (.aload_n 0, 1) := by decide +kernel
theorem dX3_readParagraph_43 : decode cX3_readParagraph 43 = .ok (.bipush 47, 2) := by decide +kernel
theorem dX3_readParagraph_45 : decode cX3_readParagraph 45 = .ok (.invokevirtual 40, 3) := by decide +kernel
theorem dX3_readParagraph_48 : decode cX3_readParagraph 48 = .ok (.ifCond .eq 13, 3) := by decide +kernel
theorem dX3_readParagraph_51 : decode cX3_readParagraph 51 = .ok (.aload_n 0, 1) := by decide +kernel
theorem dX3_readParagraph_52 : decode cX3_readParagraph 52 = .ok (.sipush 600, 3) := by decide +kernel
theorem dX3_readParagraph_55 : decode cX3_readParagraph 55 = .ok (.invokevirtual 51, 3) := by decide +kernel
theorem dX3_readParagraph_58 : decode cX3_readParagraph 58 = .ok (.ifCond .ne 5, 3) := by decide +kernel
theorem dX3_readParagraph_61 : decode cX3_readParagraph 61 = .ok (.iconst 0, 1) := by decide +kernel
theorem dX3_readParagraph_62 : decode cX3_readParagraph 62 = .ok (.ireturn, 1) := by decide +kernel
theorem dX3_readParagraph_63 : decode cX3_readParagraph 63 = .ok (.aload_n 0, 1) := by decide +kernel
theorem dX3_readParagraph_64 : decode cX3_readParagraph 64 = .ok (.getfield 33, 3) := by decide +kernel
theorem dX3_readParagraph_67 : decode cX3_readParagraph 67 = .ok (.istore_n 3, 1) := by decide +kernel
theorem dX3_readParagraph_68 : decode cX3_readParagraph 68 = .ok (.aload_n 0, 1) := by decide +kernel
theorem dX3_readParagraph_69 : decode cX3_readParagraph 69 = .ok (.bipush 33, 2) := by decide +kernel
theorem dX3_readParagraph_71 : decode cX3_readParagraph 71 = .ok (.invokevirtual 40, 3) := by decide +kernel
theorem dX3_readParagraph_74 : decode cX3_readParagraph 74 = .ok (.istore 4, 2) := by decide +kernel
theorem dX3_readParagraph_76 : decode cX3_readParagraph 76 = .ok (.aload_n 0, 1) := by decide +kernel
theorem dX3_readParagraph_77 : decode cX3_readParagraph 77 = .ok (.getfield 19, 3) := by decide +kernel
theorem dX3_readParagraph_80 : decode cX3_readParagraph 80 = .ok (.aload_n 0, 1) := by decide +kernel
theorem dX3_readParagraph_81 : decode cX3_readParagraph 81 = .ok (.getfield 23, 3) := by decide +kernel
theorem dX3_readParagraph_84 : decode cX3_readParagraph 84 = .ok (.bipush 6, 2) := by decide +kernel
theorem dX3_readParagraph_86 : decode cX3_readParagraph 86 = .ok (.imul, 1) := by decide +kernel
theorem dX3_readParagraph_87 : decode cX3_readParagraph 87 = .ok (.iload_n 1, 1) := by decide +kernel
theorem dX3_readParagraph_88 : decode cX3_readParagraph 88 = .ok (.iload_n 2, 1) := by decide +kernel
theorem dX3_readParagraph_89 : decode cX3_readParagraph 89 = .ok (.iload_n 3, 1) := by decide +kernel
theorem dX3_readParagraph_90 : decode cX3_readParagraph 90 = .ok (.iload 4, 2) := by decide +kernel
theorem dX3_readParagraph_92 : decode cX3_readParagraph 92 = .ok (.invokestatic 54, 3) := by decide +kernel
theorem dX3_readParagraph_95 : decode cX3_readParagraph 95 = .ok (.aload_n 0, 1) := by decide +kernel
theorem dX3_readParagraph_96 : decode cX3_readParagraph 96 = .ok (.dup, 1) := by decide +kernel
theorem dX3_readParagraph_97 : decode cX3_readParagraph 97 = .ok (.getfield 23, 3) := by decide +kernel
theorem dX3_readParagraph_100 : decode cX3_readParagraph 100 = .ok (.iconst 1, 1) := by decide +kernel
theorem dX3_readParagraph_101 : decode cX3_readParagraph 101 = .ok (.iadd, 1) := by decide +kernel
theorem dX3_readParagraph_102 : decode cX3_readParagraph 102 = .ok (.putfield 23, 3) := by decide +kernel
theorem dX3_readParagraph_105 : decode cX3_readParagraph 105 = .ok (.aload_n 0, 1) := by decide +kernel
theorem dX3_readParagraph_106 : decode cX3_readParagraph 106 = .ok (.aload_n 0, 1) := by decide +kernel
theorem dX3_readParagraph_107 : decode cX3_readParagraph 107 = .ok (.getfield 26, 3) := by decide +kernel
theorem dX3_readParagraph_110 : decode cX3_readParagraph 110 = .ok (.ifCond .eq 15, 3) := by decide +kernel
theorem dX3_readParagraph_113 : decode cX3_readParagraph 113 = .ok (.iload_n 2, 1) := by decide +kernel
theorem dX3_readParagraph_114 : decode cX3_readParagraph 114 = .ok (.iload_n 3, 1) := by decide +kernel
theorem dX3_readParagraph_115 : decode cX3_readParagraph 115 = .ok (.invokestatic 58, 3) := by decide +kernel
theorem dX3_readParagraph_118 : decode cX3_readParagraph 118 = .ok (.ifCond .eq 7, 3) := by decide +kernel
theorem dX3_readParagraph_121 : decode cX3_readParagraph 121 = .ok (.iconst 1, 1) := by decide +kernel
theorem dX3_readParagraph_122 : decode cX3_readParagraph 122 = .ok (.goto 4, 3) := by decide +kernel
theorem dX3_readParagraph_125 : decode cX3_readParagraph 125 = .ok (.iconst 0, 1) := by decide +kernel
theorem dX3_readParagraph_126 : decode cX3_readParagraph 126 = .ok (.putfield 26, 3) := by decide +kernel
theorem dX3_readParagraph_129 : decode cX3_readParagraph 129 = .ok (.iconst 1, 1) := by decide +kernel
theorem dX3_readParagraph_130 : decode cX3_readParagraph 130 = .ok (.ireturn, 1) := by decide +kernel
set_option maxRecDepth 20000 in
theorem ggX3_readLineless_X3_readNumber : GoodIn wsX3_readLineless wsX3_readNumber := goodIn_r _ [8, 3, 9, 10, 11, 12, 13, 7, 14, 15, 16, 17, 18, 19, 23, 24, 25, 26, 27, 28, 29] (by decide +kernel) (by decide +kernel)
set_option maxRecDepth 20000 in
theorem gX3_readLineless_X3_readNumber : GoodIn wsX3_readLineless (wsV RX3 51 RX3 yX3_readNumber wsX3_readNumber) := goodIn_app (goodIn_of _ (by decide +kernel)) ggX3_readLineless_X3_readNumber
set_option maxRecDepth 20000 in
theorem ggX3_readLineless_X4_writeLineless : GoodIn wsX3_readLineless wsX4_writeLineless := goodIn_r _ [22] (by decide +kernel) (by decide +kernel)
set_option maxRecDepth 20000 in
theorem gX3_readLineless_X4_writeLineless_n62 : GoodIn wsX3_readLineless (wsX4_writeLineless) := ggX3_readLineless_X4_writeLineless
theorem dX3_readLineless_0 : decode cX3_readLineless 0 = .ok (.aload_n 0, 1) := by decide +kernel
theorem dX3_readLineless_1 : decode cX3_readLineless 1 = .ok (.sipush 3000, 3) := by decide +kernel
theorem dX3_readLineless_4 : decode cX3_readLineless 4 = .ok (.invokevirtual 51, 3) := by decide +kernel
theorem dX3_readLineless_7 : decode cX3_readLineless 7 = .ok (.ifCond .ne 5, 3) := by decide +kernel
theorem dX3_readLineless_10 : decode cX3_readLineless 10 = .ok (.iconst 0, 1) := by decide +kernel
theorem dX3_readLineless_11 : decode cX3_readLineless 11 = .ok (.ireturn, 1) := by decide +kernel
theorem dX3_readLineless_12 : decode cX3_readLineless 12 = .ok (.aload_n 0, 1) := by decide +kernel
theorem dX3_readLineless_13 : decode cX3_readLineless 13 = .ok (.getfield 19, 3) := by decide +kernel
theorem dX3_readLineless_16 : decode cX3_readLineless 16 = .ok (.aload_n 0, 1) := by decide +kernel
theorem dX3_readLineless_17 : decode cX3_readLineless 17 = .ok (.getfield 23, 3) := by decide +kernel
theorem dX3_readLineless_20 : decode cX3_readLineless 20 = .ok (.bipush 6, 2) := by decide +kernel
theorem dX3_readLineless_22 : decode cX3_readLineless 22 = .ok (.imul, 1) := by decide +kernel
theorem dX3_readLineless_23 : decode cX3_readLineless 23 = .ok (.iload_n 1, 1) := by decide +kernel
theorem dX3_readLineless_24 : decode cX3_readLineless 24 = .ok (.aload_n 0, 1) := by decide +kernel
theorem dX3_readLineless_25 : decode cX3_readLineless 25 = .ok (.getfield 33, 3) := by decide +kernel
theorem dX3_readLineless_28 : decode cX3_readLineless 28 = .ok (.invokestatic 62, 3) := by decide +kernel
theorem dX3_readLineless_31 : decode cX3_readLineless 31 = .ok (.aload_n 0, 1) := by decide +kernel
theorem dX3_readLineless_32 : decode cX3_readLineless 32 = .ok (.dup, 1) := by decide +kernel
theorem dX3_readLineless_33 : decode cX3_readLineless 33 = .ok (.getfield 23, 3) := by decide +kernel
theorem dX3_readLineless_36 : decode cX3_readLineless 36 = .ok (.iconst 1, 1) := by decide +kernel
theorem dX3_readLineless_37 : decode cX3_readLineless 37 = .ok (.iadd, 1) := by decide +kernel
theorem dX3_readLineless_38 : decode cX3_readLineless 38 = .ok (.putfield 23, 3) := by decide +kernel
theorem dX3_readLineless_41 : decode cX3_readLineless 41 = .ok (.iconst 1, 1) := by decide +kernel
theorem dX3_readLineless_42 : decode cX3_readLineless 42 = .ok (.ireturn, 1) := by decide +kernel
set_option maxRecDepth 20000 in
theorem ggX3_readNumber_X3_digitAt : GoodIn wsX3_readNumber wsX3_digitAt := goodIn_r _ [8, 9, 10, 11, 12, 7, 13, 3, 14, 15, 16, 17, 18, 19, 20] (by decide +kernel) (by decide +kernel)
set_option maxRecDepth 20000 in
theorem gX3_readNumber_X3_digitAt : GoodIn wsX3_readNumber (wsV RX3 66 RX3 yX3_digitAt wsX3_digitAt) := goodIn_app (goodIn_of _ (by decide +kernel)) ggX3_readNumber_X3_digitAt
theorem dX3_readNumber_0 : decode cX3_readNumber 0 = .ok (.aload_n 0, 1) := by decide +kernel
theorem dX3_readNumber_1 : decode cX3_readNumber 1 = .ok (.iconst 0, 1) := by decide +kernel
theorem dX3_readNumber_2 : decode cX3_readNumber 2 = .ok (.putfield 33, 3) := by decide +kernel
theorem dX3_readNumber_5 : decode cX3_readNumber 5 = .ok (.aload_n 0, 1) := by decide +kernel
theorem dX3_readNumber_6 : decode cX3_readNumber 6 = .ok (.getfield 30, 3) := by decide +kernel
theorem dX3_readNumber_9 : decode cX3_readNumber 9 = .ok (.aload_n 0, 1) := by decide +kernel
theorem dX3_readNumber_10 : decode cX3_readNumber 10 = .ok (.getfield 15, 3) := by decide +kernel
theorem dX3_readNumber_13 : decode cX3_readNumber 13 = .ok (.if_icmp .ge 58, 3) := by decide +kernel
theorem dX3_readNumber_16 : decode cX3_readNumber 16 = .ok (.aload_n 0, 1) := by decide +kernel
theorem dX3_readNumber_17 : decode cX3_readNumber 17 = .ok (.aload_n 0, 1) := by decide +kernel
theorem dX3_readNumber_18 : decode cX3_readNumber 18 = .ok (.getfield 30, 3) := by decide +kernel
theorem dX3_readNumber_21 : decode cX3_readNumber 21 = .ok (.invokevirtual 66, 3) := by decide +kernel
theorem dX3_readNumber_24 : decode cX3_readNumber 24 = .ok (.istore_n 2, 1) := by decide +kernel
theorem dX3_readNumber_25 : decode cX3_readNumber 25 = .ok (.aload_n 0, 1) := by decide +kernel
theorem dX3_readNumber_26 : decode cX3_readNumber 26 = .ok (.getfield 33, 3) := by decide +kernel
theorem dX3_readNumber_29 : decode cX3_readNumber 29 = .ok (.bipush 10, 2) := by decide +kernel
theorem dX3_readNumber_31 : decode cX3_readNumber 31 = .ok (.imul, 1) := by decide +kernel
theorem dX3_readNumber_32 : decode cX3_readNumber 32 = .ok (.iload_n 2, 1) := by decide +kernel
theorem dX3_readNumber_33 : decode cX3_readNumber 33 = .ok (.iadd, 1) := by decide +kernel
theorem dX3_readNumber_34 : decode cX3_readNumber 34 = .ok (.istore_n 3, 1) := by decide +kernel
theorem dX3_readNumber_35 : decode cX3_readNumber 35 = .ok (.iload_n 2, 1) := by decide +kernel
theorem dX3_readNumber_36 : decode cX3_readNumber 36 = .ok (.bipush (-5), 2) := by decide +kernel
theorem dX3_readNumber_38 : decode cX3_readNumber 38 = .ok (.if_icmp .eq 33, 3) := by decide +kernel
theorem dX3_readNumber_41 : decode cX3_readNumber 41 = .ok (.iload_n 3, 1) := by decide +kernel
theorem dX3_readNumber_42 : decode cX3_readNumber 42 = .ok (.ifCond .eq 29, 3) := by decide +kernel
theorem dX3_readNumber_45 : decode cX3_readNumber 45 = .ok (.iload_n 3, 1) := by decide +kernel
theorem dX3_readNumber_46 : decode cX3_readNumber 46 = .ok (.iload_n 1, 1) := by decide +kernel
theorem dX3_readNumber_47 : decode cX3_readNumber 47 = .ok (.if_icmp .le 6, 3) := by decide +kernel
theorem dX3_readNumber_50 : decode cX3_readNumber 50 = .ok (.goto 21, 3) := by decide +kernel
theorem dX3_readNumber_53 : decode cX3_readNumber 53 = .ok (.aload_n 0, 1) := by decide +kernel
theorem dX3_readNumber_54 : decode cX3_readNumber 54 = .ok (.iload_n 3, 1) := by decide +kernel
theorem dX3_readNumber_55 : decode cX3_readNumber 55 = .ok (.putfield 33, 3) := by decide +kernel
theorem dX3_readNumber_58 : decode cX3_readNumber 58 = .ok (.aload_n 0, 1) := by decide +kernel
theorem dX3_readNumber_59 : decode cX3_readNumber 59 = .ok (.dup, 1) := by decide +kernel
theorem dX3_readNumber_60 : decode cX3_readNumber 60 = .ok (.getfield 30, 3) := by decide +kernel
theorem dX3_readNumber_63 : decode cX3_readNumber 63 = .ok (.iconst 1, 1) := by decide +kernel
theorem dX3_readNumber_64 : decode cX3_readNumber 64 = .ok (.iadd, 1) := by decide +kernel
theorem dX3_readNumber_65 : decode cX3_readNumber 65 = .ok (.putfield 30, 3) := by decide +kernel
theorem dX3_readNumber_68 : decode cX3_readNumber 68 = .ok (.goto (-63), 3) := by decide +kernel
theorem dX3_readNumber_71 : decode cX3_readNumber 71 = .ok (.aload_n 0, 1) := by decide +kernel
theorem dX3_readNumber_72 : decode cX3_readNumber 72 = .ok (.getfield 33, 3) := by decide +kernel
theorem dX3_readNumber_75 : decode cX3_readNumber 75 = .ok (.ifCond .le 7, 3) := by decide +kernel
theorem dX3_readNumber_78 : decode cX3_readNumber 78 = .ok (.iconst 1, 1) := by decide +kernel
theorem dX3_readNumber_79 : decode cX3_readNumber 79 = .ok (.goto 4, 3) := by decide +kernel
theorem dX3_readNumber_82 : decode cX3_readNumber 82 = .ok (.iconst 0, 1) := by decide +kernel
theorem dX3_readNumber_83 : decode cX3_readNumber 83 = .ok (.ireturn, 1) := by decide +kernel
set_option maxRecDepth 20000 in
theorem ggX3_passes_X3_isIndex : GoodIn wsX3_passes wsX3_isIndex := goodIn_r _ [7, 8, 9, 10, 11, 12, 13, 14, 15] (by decide +kernel) (by decide +kernel)
set_option maxRecDepth 20000 in
theorem gX3_passes_X3_isIndex : GoodIn wsX3_passes (wsV RX3 70 RX3 yX3_isIndex wsX3_isIndex) := goodIn_app (goodIn_of _ (by decide +kernel)) ggX3_passes_X3_isIndex
theorem dX3_passes_0 : decode cX3_passes 0 = .ok (.aload_n 0, 1) := by decide +kernel
theorem dX3_passes_1 : decode cX3_passes 1 = .ok (.aload_n 0, 1) := by decide +kernel
theorem dX3_passes_2 : decode cX3_passes 2 = .ok (.getfield 30, 3) := by decide +kernel
theorem dX3_passes_5 : decode cX3_passes 5 = .ok (.invokevirtual 70, 3) := by decide +kernel
theorem dX3_passes_8 : decode cX3_passes 8 = .ok (.ifCond .eq 16, 3) := by decide +kernel
theorem dX3_passes_11 : decode cX3_passes 11 = .ok (.aload_n 0, 1) := by decide +kernel
theorem dX3_passes_12 : decode cX3_passes 12 = .ok (.getfield 9, 3) := by decide +kernel
theorem dX3_passes_15 : decode cX3_passes 15 = .ok (.aload_n 0, 1) := by decide +kernel
theorem dX3_passes_16 : decode cX3_passes 16 = .ok (.getfield 30, 3) := by decide +kernel
theorem dX3_passes_19 : decode cX3_passes 19 = .ok (.caload, 1) := by decide +kernel
theorem dX3_passes_20 : decode cX3_passes 20 = .ok (.iload_n 1, 1) := by decide +kernel
theorem dX3_passes_21 : decode cX3_passes 21 = .ok (.if_icmp .eq 5, 3) := by decide +kernel
theorem dX3_passes_24 : decode cX3_passes 24 = .ok (.iconst 0, 1) := by decide +kernel
theorem dX3_passes_25 : decode cX3_passes 25 = .ok (.ireturn, 1) := by decide +kernel
theorem dX3_passes_26 : decode cX3_passes 26 = .ok (.aload_n 0, 1) := by decide +kernel
theorem dX3_passes_27 : decode cX3_passes 27 = .ok (.dup, 1) := by decide +kernel
theorem dX3_passes_28 : decode cX3_passes 28 = .ok (.getfield 30, 3) := by decide +kernel
theorem dX3_passes_31 : decode cX3_passes 31 = .ok (.iconst 1, 1) := by decide +kernel
theorem dX3_passes_32 : decode cX3_passes 32 = .ok (.iadd, 1) := by decide +kernel
theorem dX3_passes_33 : decode cX3_passes 33 = .ok (.putfield 30, 3) := by decide +kernel
theorem dX3_passes_36 : decode cX3_passes 36 = .ok (.iconst 1, 1) := by decide +kernel
theorem dX3_passes_37 : decode cX3_passes 37 = .ok (.ireturn, 1) := by decide +kernel
set_option maxRecDepth 20000 in
theorem ggX3_digitAt_X3_isIndex : GoodIn wsX3_digitAt wsX3_isIndex := goodIn_r _ [6, 7, 8, 9, 10, 11, 12, 13, 14] (by decide +kernel) (by decide +kernel)
set_option maxRecDepth 20000 in
theorem gX3_digitAt_X3_isIndex : GoodIn wsX3_digitAt (wsV RX3 70 RX3 yX3_isIndex wsX3_isIndex) := goodIn_app (goodIn_of _ (by decide +kernel)) ggX3_digitAt_X3_isIndex
theorem dX3_digitAt_0 : decode cX3_digitAt 0 = .ok (.aload_n 0, 1) := by decide +kernel
theorem dX3_digitAt_1 : decode cX3_digitAt 1 = .ok (.iload_n 1, 1) := by decide +kernel
theorem dX3_digitAt_2 : decode cX3_digitAt 2 = .ok (.invokevirtual 70, 3) := by decide +kernel
theorem dX3_digitAt_5 : decode cX3_digitAt 5 = .ok (.ifCond .eq 25, 3) := by decide +kernel
theorem dX3_digitAt_8 : decode cX3_digitAt 8 = .ok (.aload_n 0, 1) := by decide +kernel
theorem dX3_digitAt_9 : decode cX3_digitAt 9 = .ok (.getfield 9, 3) := by decide +kernel
theorem dX3_digitAt_12 : decode cX3_digitAt 12 = .ok (.iload_n 1, 1) := by decide +kernel
theorem dX3_digitAt_13 : decode cX3_digitAt 13 = .ok (.caload, 1) := by decide +kernel
theorem dX3_digitAt_14 : decode cX3_digitAt 14 = .ok (.bipush 48, 2) := by decide +kernel
theorem dX3_digitAt_16 : decode cX3_digitAt 16 = .ok (.if_icmp .lt 14, 3) := by decide +kernel
theorem dX3_digitAt_19 : decode cX3_digitAt 19 = .ok (.aload_n 0, 1) := by decide +kernel
theorem dX3_digitAt_20 : decode cX3_digitAt 20 = .ok (.getfield 9, 3) := by decide +kernel
theorem dX3_digitAt_23 : decode cX3_digitAt 23 = .ok (.iload_n 1, 1) := by decide +kernel
theorem dX3_digitAt_24 : decode cX3_digitAt 24 = .ok (.caload, 1) := by decide +kernel
theorem dX3_digitAt_25 : decode cX3_digitAt 25 = .ok (.bipush 57, 2) := by decide +kernel
theorem dX3_digitAt_27 : decode cX3_digitAt 27 = .ok (.if_icmp .le 6, 3) := by decide +kernel
theorem dX3_digitAt_30 : decode cX3_digitAt 30 = .ok (.bipush (-5), 2) := by decide +kernel
theorem dX3_digitAt_32 : decode cX3_digitAt 32 = .ok (.ireturn, 1) := by decide +kernel
theorem dX3_digitAt_33 : decode cX3_digitAt 33 = .ok (.aload_n 0, 1) := by decide +kernel
theorem dX3_digitAt_34 : decode cX3_digitAt 34 = .ok (.getfield 9, 3) := by decide +kernel
theorem dX3_digitAt_37 : decode cX3_digitAt 37 = .ok (.iload_n 1, 1) := by decide +kernel
theorem dX3_digitAt_38 : decode cX3_digitAt 38 = .ok (.caload, 1) := by decide +kernel
theorem dX3_digitAt_39 : decode cX3_digitAt 39 = .ok (.bipush 48, 2) := by decide +kernel
theorem dX3_digitAt_41 : decode cX3_digitAt 41 = .ok (.isub, 1) := by decide +kernel
theorem dX3_digitAt_42 : decode cX3_digitAt 42 = .ok (.ireturn, 1) := by decide +kernel
theorem dX3_isIndex_0 : decode cX3_isIndex 0 = .ok (.iload_n 1, 1) := by decide +kernel
theorem dX3_isIndex_1 : decode cX3_isIndex 1 = .ok (.ifCond .lt 21, 3) := by decide +kernel
theorem dX3_isIndex_4 : decode cX3_isIndex 4 = .ok (.iload_n 1, 1) := by decide +kernel
theorem dX3_isIndex_5 : decode cX3_isIndex 5 = .ok (.aload_n 0, 1) := by decide +kernel
theorem dX3_isIndex_6 : decode cX3_isIndex 6 = .ok (.getfield 15, 3) := by decide +kernel
theorem dX3_isIndex_9 : decode cX3_isIndex 9 = .ok (.if_icmp .ge 13, 3) := by decide +kernel
theorem dX3_isIndex_12 : decode cX3_isIndex 12 = .ok (.iload_n 1, 1) := by decide +kernel
theorem dX3_isIndex_13 : decode cX3_isIndex 13 = .ok (.bipush 60, 2) := by decide +kernel
theorem dX3_isIndex_15 : decode cX3_isIndex 15 = .ok (.if_icmp .ge 7, 3) := by decide +kernel
theorem dX3_isIndex_18 : decode cX3_isIndex 18 = .ok (.iconst 1, 1) := by decide +kernel
theorem dX3_isIndex_19 : decode cX3_isIndex 19 = .ok (.goto 4, 3) := by decide +kernel
theorem dX3_isIndex_22 : decode cX3_isIndex 22 = .ok (.iconst 0, 1) := by decide +kernel
theorem dX3_isIndex_23 : decode cX3_isIndex 23 = .ok (.ireturn, 1) := by decide +kernel
