set_option maxRecDepth 20000 in
theorem ggX4_init_X2_init : GoodIn wsX4_init wsX2_init := goodIn_r _ [26, 27, 2, 3, 17, 28, 134] (by decide +kernel) (by decide +kernel)
set_option maxRecDepth 20000 in
theorem gX4_init_X2_init : GoodIn wsX4_init (wsX2_init) := ggX4_init_X2_init
set_option maxRecDepth 20000 in
theorem ggX4_init_X1_init : GoodIn wsX4_init wsX1_init := goodIn_r _ [30, 31, 2, 3, 17, 32, 33, 34, 35, 36, 37, 38, 39, 40, 142, 143, 144, 145, 146, 147, 148, 149, 150, 151, 152, 153, 154, 155] (by decide +kernel) (by decide +kernel)
set_option maxRecDepth 20000 in
theorem gX4_init_X1_init_n18 : GoodIn wsX4_init (wsX1_init) := ggX4_init_X1_init
set_option maxRecDepth 20000 in
theorem ggX4_init_X0_init : GoodIn wsX4_init wsX0_init := goodIn_r _ [42, 43, 2, 3, 17, 44, 45, 156, 157] (by decide +kernel) (by decide +kernel)
set_option maxRecDepth 20000 in
theorem gX4_init_X0_init_n28 : GoodIn wsX4_init (wsX0_init) := ggX4_init_X0_init
set_option maxRecDepth 20000 in
theorem ggX4_init_X3_init : GoodIn wsX4_init wsX3_init := goodIn_r _ [47, 48, 2, 3, 49, 50, 51, 17, 52, 53, 54, 55, 56, 158, 159, 160, 161, 162, 163, 164] (by decide +kernel) (by decide +kernel)
set_option maxRecDepth 20000 in
theorem gX4_init_X3_init_n43 : GoodIn wsX4_init (wsX3_init) := ggX4_init_X3_init
set_option maxRecDepth 20000 in
theorem ggX4_init_X2_settingOf : GoodIn wsX4_init wsX2_settingOf := goodIn_r _ [60, 28, 134] (by decide +kernel) (by decide +kernel)
set_option maxRecDepth 20000 in
theorem gX4_init_X2_settingOf : GoodIn wsX4_init (wsV RX4 48 RX2 yX2_settingOf wsX2_settingOf) := goodIn_app (goodIn_of _ (by decide +kernel)) ggX4_init_X2_settingOf
set_option maxRecDepth 20000 in
theorem ggX4_init_X1_layOut : GoodIn wsX4_init wsX1_layOut := goodIn_r _ [64, 65, 66, 67, 68, 69, 32, 34, 33, 70, 58, 59, 6, 60, 28, 71, 72, 73, 74, 75, 76, 77, 78, 79, 80, 10, 81, 35, 37, 36, 82, 83, 84, 85, 86, 87, 88, 89, 90, 91, 92, 93, 94, 95, 96, 97, 98, 99, 100, 101, 102, 103, 104, 105, 106, 107, 108, 109, 110, 111, 112, 113, 114, 115, 116, 117, 118, 38, 39, 119, 120, 121, 122, 123, 124, 125, 126, 127, 128, 129, 130, 131, 132, 133, 142, 143, 144, 145, 146, 147, 148, 149, 150, 151, 152, 153, 154, 155, 134] (by decide +kernel) (by decide +kernel)
set_option maxRecDepth 20000 in
theorem gX4_init_X1_layOut : GoodIn wsX4_init (wsV RX4 52 RX1 yX1_layOut wsX1_layOut) := goodIn_app (goodIn_of _ (by decide +kernel)) ggX4_init_X1_layOut
theorem dX4_init_0 : decode cX4_init 0 = .ok (.aload_n 0, 1) := by decide +kernel
theorem dX4_init_1 : decode cX4_init 1 = .ok (.invokespecial 3, 3) := by decide +kernel
theorem dX4_init_4 : decode cX4_init 4 = .ok (.aload_n 0, 1) := by decide +kernel
theorem dX4_init_5 : decode cX4_init 5 = .ok (.new 9, 3) := by decide +kernel
theorem dX4_init_8 : decode cX4_init 8 = .ok (.dup, 1) := by decide +kernel
theorem dX4_init_9 : decode cX4_init 9 = .ok (.invokespecial 11, 3) := by decide +kernel
theorem dX4_init_12 : decode cX4_init 12 = .ok (.putfield 12, 3) := by decide +kernel
theorem dX4_init_15 : decode cX4_init 15 = .ok (.aload_n 0, 1) := by decide +kernel
theorem dX4_init_16 : decode cX4_init 16 = .ok (.new 16, 3) := by decide +kernel
theorem dX4_init_19 : decode cX4_init 19 = .ok (.dup, 1) := by decide +kernel
theorem dX4_init_20 : decode cX4_init 20 = .ok (.invokespecial 18, 3) := by decide +kernel
theorem dX4_init_23 : decode cX4_init 23 = .ok (.putfield 19, 3) := by decide +kernel
theorem dX4_init_26 : decode cX4_init 26 = .ok (.aload_n 0, 1) := by decide +kernel
theorem dX4_init_27 : decode cX4_init 27 = .ok (.new 16, 3) := by decide +kernel
theorem dX4_init_30 : decode cX4_init 30 = .ok (.dup, 1) := by decide +kernel
theorem dX4_init_31 : decode cX4_init 31 = .ok (.invokespecial 18, 3) := by decide +kernel
theorem dX4_init_34 : decode cX4_init 34 = .ok (.putfield 23, 3) := by decide +kernel
theorem dX4_init_37 : decode cX4_init 37 = .ok (.aload_n 0, 1) := by decide +kernel
theorem dX4_init_38 : decode cX4_init 38 = .ok (.new 26, 3) := by decide +kernel
theorem dX4_init_41 : decode cX4_init 41 = .ok (.dup, 1) := by decide +kernel
theorem dX4_init_42 : decode cX4_init 42 = .ok (.invokespecial 28, 3) := by decide +kernel
theorem dX4_init_45 : decode cX4_init 45 = .ok (.putfield 29, 3) := by decide +kernel
theorem dX4_init_48 : decode cX4_init 48 = .ok (.aload_n 0, 1) := by decide +kernel
theorem dX4_init_49 : decode cX4_init 49 = .ok (.sipush 393, 3) := by decide +kernel
theorem dX4_init_52 : decode cX4_init 52 = .ok (.newarray .int, 2) := by decide +kernel
theorem dX4_init_54 : decode cX4_init 54 = .ok (.putfield 33, 3) := by decide +kernel
theorem dX4_init_57 : decode cX4_init 57 = .ok (.aload_n 0, 1) := by decide +kernel
theorem dX4_init_58 : decode cX4_init 58 = .ok (.iconst 0, 1) := by decide +kernel
theorem dX4_init_59 : decode cX4_init 59 = .ok (.putfield 37, 3) := by decide +kernel
theorem dX4_init_62 : decode cX4_init 62 = .ok (.aload_n 0, 1) := by decide +kernel
theorem dX4_init_63 : decode cX4_init 63 = .ok (.new 41, 3) := by decide +kernel
theorem dX4_init_66 : decode cX4_init 66 = .ok (.dup, 1) := by decide +kernel
theorem dX4_init_67 : decode cX4_init 67 = .ok (.invokespecial 43, 3) := by decide +kernel
theorem dX4_init_70 : decode cX4_init 70 = .ok (.putfield 44, 3) := by decide +kernel
theorem dX4_init_73 : decode cX4_init 73 = .ok (.aload_n 0, 1) := by decide +kernel
theorem dX4_init_74 : decode cX4_init 74 = .ok (.getfield 19, 3) := by decide +kernel
theorem dX4_init_77 : decode cX4_init 77 = .ok (.aload_n 0, 1) := by decide +kernel
theorem dX4_init_78 : decode cX4_init 78 = .ok (.getfield 12, 3) := by decide +kernel
theorem dX4_init_81 : decode cX4_init 81 = .ok (.aload_n 0, 1) := by decide +kernel
theorem dX4_init_82 : decode cX4_init 82 = .ok (.getfield 12, 3) := by decide +kernel
theorem dX4_init_85 : decode cX4_init 85 = .ok (.iconst 2, 1) := by decide +kernel
theorem dX4_init_86 : decode cX4_init 86 = .ok (.invokevirtual 48, 3) := by decide +kernel
theorem dX4_init_89 : decode cX4_init 89 = .ok (.invokevirtual 52, 3) := by decide +kernel
theorem dX4_init_92 : decode cX4_init 92 = .ok (.return_, 1) := by decide +kernel
set_option maxRecDepth 20000 in
theorem ggX4_set_X2_settingOf : GoodIn wsX4_set wsX2_settingOf := goodIn_r _ [9, 10, 126] (by decide +kernel) (by decide +kernel)
set_option maxRecDepth 20000 in
theorem gX4_set_X2_settingOf : GoodIn wsX4_set (wsV RX4 48 RX2 yX2_settingOf wsX2_settingOf) := goodIn_app (goodIn_of _ (by decide +kernel)) ggX4_set_X2_settingOf
set_option maxRecDepth 20000 in
theorem ggX4_set_X0_record : GoodIn wsX4_set wsX0_record := goodIn_r _ [15, 16, 17, 18, 19, 20, 21, 22, 23, 24, 25, 26, 27, 8, 28, 10, 127, 128, 126] (by decide +kernel) (by decide +kernel)
set_option maxRecDepth 20000 in
theorem gX4_set_X0_record : GoodIn wsX4_set (wsV RX4 62 RX0 yX0_record wsX0_record) := goodIn_app (goodIn_of _ (by decide +kernel)) ggX4_set_X0_record
set_option maxRecDepth 20000 in
theorem ggX4_set_X2_changeSetting : GoodIn wsX4_set wsX2_changeSetting := goodIn_r _ [32, 10, 126] (by decide +kernel) (by decide +kernel)
set_option maxRecDepth 20000 in
theorem gX4_set_X2_changeSetting : GoodIn wsX4_set (wsV RX4 66 RX2 yX2_changeSetting wsX2_changeSetting) := goodIn_app (goodIn_of _ (by decide +kernel)) ggX4_set_X2_changeSetting
set_option maxRecDepth 20000 in
theorem ggX4_set_X4_layOutAgain : GoodIn wsX4_set wsX4_layOutAgain := goodIn_r _ [36, 37, 3, 5, 6, 7, 8, 9, 10, 38, 39, 40, 41, 42, 43, 44, 45, 46, 47, 48, 49, 50, 51, 52, 53, 54, 55, 56, 19, 57, 58, 59, 60, 61, 62, 63, 64, 65, 66, 67, 68, 69, 70, 71, 72, 73, 74, 75, 76, 77, 78, 79, 80, 81, 82, 83, 84, 85, 86, 87, 88, 89, 90, 91, 92, 93, 94, 95, 96, 97, 98, 99, 100, 101, 102, 103, 104, 105, 106, 107, 108, 109, 110, 111, 112, 113, 114, 115, 116, 117, 118, 119, 120, 121, 122, 123, 124, 125, 126, 129, 130, 131, 132, 133, 134, 135, 136, 137, 138, 139, 140, 141, 142] (by decide +kernel) (by decide +kernel)
set_option maxRecDepth 20000 in
theorem gX4_set_X4_layOutAgain : GoodIn wsX4_set (wsV RX4 70 RX4 yX4_layOutAgain wsX4_layOutAgain) := goodIn_app (goodIn_of _ (by decide +kernel)) ggX4_set_X4_layOutAgain
theorem dX4_set_0 : decode cX4_set 0 = .ok (.iload_n 1, 1) := by decide +kernel
theorem dX4_set_1 : decode cX4_set 1 = .ok (.ifCond .lt 8, 3) := by decide +kernel
theorem dX4_set_4 : decode cX4_set 4 = .ok (.iload_n 1, 1) := by decide +kernel
theorem dX4_set_5 : decode cX4_set 5 = .ok (.iconst 5, 1) := by decide +kernel
theorem dX4_set_6 : decode cX4_set 6 = .ok (.if_icmp .lt 6, 3) := by decide +kernel
theorem dX4_set_9 : decode cX4_set 9 = .ok (.bipush (-2), 2) := by decide +kernel
theorem dX4_set_11 : decode cX4_set 11 = .ok (.ireturn, 1) := by decide +kernel
theorem dX4_set_12 : decode cX4_set 12 = .ok (.iload_n 2, 1) := by decide +kernel
theorem dX4_set_13 : decode cX4_set 13 = .ok (.getstatic 56, 3) := by decide +kernel
theorem dX4_set_16 : decode cX4_set 16 = .ok (.iload_n 1, 1) := by decide +kernel
theorem dX4_set_17 : decode cX4_set 17 = .ok (.iaload, 1) := by decide +kernel
theorem dX4_set_18 : decode cX4_set 18 = .ok (.if_icmp .lt 12, 3) := by decide +kernel
theorem dX4_set_21 : decode cX4_set 21 = .ok (.iload_n 2, 1) := by decide +kernel
theorem dX4_set_22 : decode cX4_set 22 = .ok (.getstatic 59, 3) := by decide +kernel
theorem dX4_set_25 : decode cX4_set 25 = .ok (.iload_n 1, 1) := by decide +kernel
theorem dX4_set_26 : decode cX4_set 26 = .ok (.iaload, 1) := by decide +kernel
theorem dX4_set_27 : decode cX4_set 27 = .ok (.if_icmp .le 6, 3) := by decide +kernel
theorem dX4_set_30 : decode cX4_set 30 = .ok (.bipush (-2), 2) := by decide +kernel
theorem dX4_set_32 : decode cX4_set 32 = .ok (.ireturn, 1) := by decide +kernel
theorem dX4_set_33 : decode cX4_set 33 = .ok (.aload_n 0, 1) := by decide +kernel
theorem dX4_set_34 : decode cX4_set 34 = .ok (.getfield 12, 3) := by decide +kernel
theorem dX4_set_37 : decode cX4_set 37 = .ok (.iload_n 1, 1) := by decide +kernel
theorem dX4_set_38 : decode cX4_set 38 = .ok (.invokevirtual 48, 3) := by decide +kernel
theorem dX4_set_41 : decode cX4_set 41 = .ok (.istore_n 3, 1) := by decide +kernel
theorem dX4_set_42 : decode cX4_set 42 = .ok (.iload_n 3, 1) := by decide +kernel
theorem dX4_set_43 : decode cX4_set 43 = .ok (.iload_n 2, 1) := by decide +kernel
theorem dX4_set_44 : decode cX4_set 44 = .ok (.if_icmp .ne 6, 3) := by decide +kernel
theorem dX4_set_47 : decode cX4_set 47 = .ok (.bipush (-5), 2) := by decide +kernel
theorem dX4_set_49 : decode cX4_set 49 = .ok (.ireturn, 1) := by decide +kernel
theorem dX4_set_50 : decode cX4_set 50 = .ok (.aload_n 0, 1) := by decide +kernel
theorem dX4_set_51 : decode cX4_set 51 = .ok (.getfield 29, 3) := by decide +kernel
theorem dX4_set_54 : decode cX4_set 54 = .ok (.aload_n 0, 1) := by decide +kernel
theorem dX4_set_55 : decode cX4_set 55 = .ok (.getfield 12, 3) := by decide +kernel
theorem dX4_set_58 : decode cX4_set 58 = .ok (.invokevirtual 62, 3) := by decide +kernel
theorem dX4_set_61 : decode cX4_set 61 = .ok (.aload_n 0, 1) := by decide +kernel
theorem dX4_set_62 : decode cX4_set 62 = .ok (.getfield 12, 3) := by decide +kernel
theorem dX4_set_65 : decode cX4_set 65 = .ok (.iload_n 1, 1) := by decide +kernel
theorem dX4_set_66 : decode cX4_set 66 = .ok (.iload_n 2, 1) := by decide +kernel
theorem dX4_set_67 : decode cX4_set 67 = .ok (.invokevirtual 66, 3) := by decide +kernel
theorem dX4_set_70 : decode cX4_set 70 = .ok (.aload_n 0, 1) := by decide +kernel
theorem dX4_set_71 : decode cX4_set 71 = .ok (.invokevirtual 70, 3) := by decide +kernel
theorem dX4_set_74 : decode cX4_set 74 = .ok (.iload_n 3, 1) := by decide +kernel
theorem dX4_set_75 : decode cX4_set 75 = .ok (.ireturn, 1) := by decide +kernel
set_option maxRecDepth 20000 in
theorem ggX4_paragraph_X4_isColumn : GoodIn wsX4_paragraph wsX4_isColumn := goodIn_r _ [6] (by decide +kernel) (by decide +kernel)
set_option maxRecDepth 20000 in
theorem gX4_paragraph_X4_isColumn : GoodIn wsX4_paragraph (va_wsS RX4 73 yX4_isColumn wsX4_isColumn) := goodIn_app (goodIn_of _ (by decide +kernel)) ggX4_paragraph_X4_isColumn
set_option maxRecDepth 20000 in
theorem ggX4_paragraph_X4_isFitting : GoodIn wsX4_paragraph wsX4_isFitting := goodIn_r _ [9] (by decide +kernel) (by decide +kernel)
set_option maxRecDepth 20000 in
theorem gX4_paragraph_X4_isFitting : GoodIn wsX4_paragraph (va_wsS RX4 77 yX4_isFitting wsX4_isFitting) := goodIn_app (goodIn_of _ (by decide +kernel)) ggX4_paragraph_X4_isFitting
set_option maxRecDepth 20000 in
theorem ggX4_paragraph_X2_blocksOf : GoodIn wsX4_paragraph wsX2_blocksOf := goodIn_r _ [14, 15, 4, 5, 6, 140] (by decide +kernel) (by decide +kernel)
set_option maxRecDepth 20000 in
theorem gX4_paragraph_X2_blocksOf : GoodIn wsX4_paragraph (wsV RX4 81 RX2 yX2_blocksOf wsX2_blocksOf) := goodIn_app (goodIn_of _ (by decide +kernel)) ggX4_paragraph_X2_blocksOf
set_option maxRecDepth 20000 in
theorem ggX4_paragraph_X0_record : GoodIn wsX4_paragraph wsX0_record := goodIn_r _ [20, 21, 22, 23, 5, 24, 25, 26, 27, 28, 29, 30, 31, 13, 32, 15, 141, 142, 140] (by decide +kernel) (by decide +kernel)
set_option maxRecDepth 20000 in
theorem gX4_paragraph_X0_record : GoodIn wsX4_paragraph (wsV RX4 62 RX0 yX0_record wsX0_record) := goodIn_app (goodIn_of _ (by decide +kernel)) ggX4_paragraph_X0_record
set_option maxRecDepth 20000 in
theorem ggX4_paragraph_X2_appendParagraph : GoodIn wsX4_paragraph wsX2_appendParagraph := goodIn_r _ [36, 15, 37, 38, 39, 13, 40, 4, 5, 6, 41, 11, 12, 14, 42, 43, 44, 45, 46, 47, 48, 49, 50, 140] (by decide +kernel) (by decide +kernel)
set_option maxRecDepth 20000 in
theorem gX4_paragraph_X2_appendParagraph : GoodIn wsX4_paragraph (wsV RX4 84 RX2 yX2_appendParagraph wsX2_appendParagraph) := goodIn_app (goodIn_of _ (by decide +kernel)) ggX4_paragraph_X2_appendParagraph
set_option maxRecDepth 20000 in
theorem ggX4_paragraph_X4_layOutAgain : GoodIn wsX4_paragraph wsX4_layOutAgain := goodIn_r _ [54, 55, 1, 56, 57, 58, 13, 59, 15, 60, 61, 62, 63, 64, 65, 66, 67, 68, 69, 70, 71, 72, 73, 74, 11, 12, 14, 4, 5, 6, 75, 76, 77, 78, 79, 80, 81, 82, 83, 84, 85, 86, 87, 88, 89, 90, 91, 42, 43, 44, 92, 93, 94, 95, 96, 97, 98, 99, 100, 101, 102, 103, 104, 105, 106, 107, 108, 109, 110, 111, 112, 113, 114, 115, 116, 117, 118, 119, 120, 121, 122, 123, 124, 125, 126, 127, 128, 129, 130, 131, 132, 133, 134, 135, 136, 137, 138, 139, 140, 143, 144, 145, 146, 147, 148, 149, 150, 151, 152, 153, 154, 155, 156] (by decide +kernel) (by decide +kernel)
set_option maxRecDepth 20000 in
theorem gX4_paragraph_X4_layOutAgain : GoodIn wsX4_paragraph (wsV RX4 70 RX4 yX4_layOutAgain wsX4_layOutAgain) := goodIn_app (goodIn_of _ (by decide +kernel)) ggX4_paragraph_X4_layOutAgain
theorem dX4_paragraph_0 : decode cX4_paragraph 0 = .ok (.iload_n 1, 1) := by decide +kernel
theorem dX4_paragraph_1 : decode cX4_paragraph 1 = .ok (.invokestatic 73, 3) := by decide +kernel
theorem dX4_paragraph_4 : decode cX4_paragraph 4 = .ok (.ifCond .ne 5, 3) := by decide +kernel
theorem dX4_paragraph_7 : decode cX4_paragraph 7 = .ok (.iconst (-1), 1) := by decide +kernel
theorem dX4_paragraph_8 : decode cX4_paragraph 8 = .ok (.ireturn, 1) := by decide +kernel
theorem dX4_paragraph_9 : decode cX4_paragraph 9 = .ok (.iload_n 2, 1) := by decide +kernel
theorem dX4_paragraph_10 : decode cX4_paragraph 10 = .ok (.iconst 1, 1) := by decide +kernel
theorem dX4_paragraph_11 : decode cX4_paragraph 11 = .ok (.if_icmp .lt 24, 3) := by decide +kernel
theorem dX4_paragraph_14 : decode cX4_paragraph 14 = .ok (.iload_n 2, 1) := by decide +kernel
theorem dX4_paragraph_15 : decode cX4_paragraph 15 = .ok (.bipush 40, 2) := by decide +kernel
theorem dX4_paragraph_17 : decode cX4_paragraph 17 = .ok (.if_icmp .gt 18, 3) := by decide +kernel
theorem dX4_paragraph_20 : decode cX4_paragraph 20 = .ok (.iload_n 3, 1) := by decide +kernel
theorem dX4_paragraph_21 : decode cX4_paragraph 21 = .ok (.sipush 400, 3) := by decide +kernel
theorem dX4_paragraph_24 : decode cX4_paragraph 24 = .ok (.if_icmp .gt 11, 3) := by decide +kernel
theorem dX4_paragraph_27 : decode cX4_paragraph 27 = .ok (.iload 4, 2) := by decide +kernel
theorem dX4_paragraph_29 : decode cX4_paragraph 29 = .ok (.sipush 600, 3) := by decide +kernel
theorem dX4_paragraph_32 : decode cX4_paragraph 32 = .ok (.if_icmp .le 6, 3) := by decide +kernel
theorem dX4_paragraph_35 : decode cX4_paragraph 35 = .ok (.bipush (-2), 2) := by decide +kernel
theorem dX4_paragraph_37 : decode cX4_paragraph 37 = .ok (.ireturn, 1) := by decide +kernel
theorem dX4_paragraph_38 : decode cX4_paragraph 38 = .ok (.iload_n 3, 1) := by decide +kernel
theorem dX4_paragraph_39 : decode cX4_paragraph 39 = .ok (.iload 4, 2) := by decide +kernel
theorem dX4_paragraph_41 : decode cX4_paragraph 41 = .ok (.invokestatic 77, 3) := by decide +kernel
theorem dX4_paragraph_44 : decode cX4_paragraph 44 = .ok (.ifCond .ne 6, 3) := by decide +kernel
theorem dX4_paragraph_47 : decode cX4_paragraph 47 = .ok (.bipush (-2), 2) := by decide +kernel
theorem dX4_paragraph_49 : decode cX4_paragraph 49 = .ok (.ireturn, 1) := by decide +kernel
theorem dX4_paragraph_50 : decode cX4_paragraph 50 = .ok (.aload_n 0, 1) := by decide +kernel
theorem dX4_paragraph_51 : decode cX4_paragraph 51 = .ok (.getfield 12, 3) := by decide +kernel
theorem dX4_paragraph_54 : decode cX4_paragraph 54 = .ok (.iload_n 1, 1) := by decide +kernel
theorem dX4_paragraph_55 : decode cX4_paragraph 55 = .ok (.invokevirtual 81, 3) := by decide +kernel
theorem dX4_paragraph_58 : decode cX4_paragraph 58 = .ok (.istore 6, 2) := by decide +kernel
theorem dX4_paragraph_60 : decode cX4_paragraph 60 = .ok (.iload 6, 2) := by decide +kernel
theorem dX4_paragraph_62 : decode cX4_paragraph 62 = .ok (.bipush 16, 2) := by decide +kernel
theorem dX4_paragraph_64 : decode cX4_paragraph 64 = .ok (.if_icmp .lt 6, 3) := by decide +kernel
theorem dX4_paragraph_67 : decode cX4_paragraph 67 = .ok (.bipush (-3), 2) := by decide +kernel
theorem dX4_paragraph_69 : decode cX4_paragraph 69 = .ok (.ireturn, 1) := by decide +kernel
theorem dX4_paragraph_70 : decode cX4_paragraph 70 = .ok (.aload_n 0, 1) := by decide +kernel
theorem dX4_paragraph_71 : decode cX4_paragraph 71 = .ok (.getfield 29, 3) := by decide +kernel
theorem dX4_paragraph_74 : decode cX4_paragraph 74 = .ok (.aload_n 0, 1) := by decide +kernel
theorem dX4_paragraph_75 : decode cX4_paragraph 75 = .ok (.getfield 12, 3) := by decide +kernel
theorem dX4_paragraph_78 : decode cX4_paragraph 78 = .ok (.invokevirtual 62, 3) := by decide +kernel
theorem dX4_paragraph_81 : decode cX4_paragraph 81 = .ok (.aload_n 0, 1) := by decide +kernel
theorem dX4_paragraph_82 : decode cX4_paragraph 82 = .ok (.getfield 12, 3) := by decide +kernel
theorem dX4_paragraph_85 : decode cX4_paragraph 85 = .ok (.iload_n 1, 1) := by decide +kernel
theorem dX4_paragraph_86 : decode cX4_paragraph 86 = .ok (.iload_n 2, 1) := by decide +kernel
theorem dX4_paragraph_87 : decode cX4_paragraph 87 = .ok (.iload_n 3, 1) := by decide +kernel
theorem dX4_paragraph_88 : decode cX4_paragraph 88 = .ok (.iload 4, 2) := by decide +kernel
theorem dX4_paragraph_90 : decode cX4_paragraph 90 = .ok (.iload 5, 2) := by decide +kernel
theorem dX4_paragraph_92 : decode cX4_paragraph 92 = .ok (.invokevirtual 84, 3) := by decide +kernel
theorem dX4_paragraph_95 : decode cX4_paragraph 95 = .ok (.aload_n 0, 1) := by decide +kernel
theorem dX4_paragraph_96 : decode cX4_paragraph 96 = .ok (.invokevirtual 70, 3) := by decide +kernel
theorem dX4_paragraph_99 : decode cX4_paragraph 99 = .ok (.iload 6, 2) := by decide +kernel
theorem dX4_paragraph_101 : decode cX4_paragraph 101 = .ok (.ireturn, 1) := by decide +kernel
set_option maxRecDepth 20000 in
theorem ggX4_put_X4_isColumn : GoodIn wsX4_put wsX4_isColumn := goodIn_r _ [6] (by decide +kernel) (by decide +kernel)
set_option maxRecDepth 20000 in
theorem gX4_put_X4_isColumn : GoodIn wsX4_put (va_wsS RX4 73 yX4_isColumn wsX4_isColumn) := goodIn_app (goodIn_of _ (by decide +kernel)) ggX4_put_X4_isColumn
set_option maxRecDepth 20000 in
theorem ggX4_put_X2_blocksOf : GoodIn wsX4_put wsX2_blocksOf := goodIn_r _ [11, 12, 4, 5, 6, 137] (by decide +kernel) (by decide +kernel)
set_option maxRecDepth 20000 in
theorem gX4_put_X2_blocksOf : GoodIn wsX4_put (wsV RX4 81 RX2 yX2_blocksOf wsX2_blocksOf) := goodIn_app (goodIn_of _ (by decide +kernel)) ggX4_put_X2_blocksOf
set_option maxRecDepth 20000 in
theorem ggX4_put_X0_record : GoodIn wsX4_put wsX0_record := goodIn_r _ [17, 18, 19, 20, 5, 21, 22, 23, 24, 25, 26, 27, 28, 10, 29, 12, 138, 139, 137] (by decide +kernel) (by decide +kernel)
set_option maxRecDepth 20000 in
theorem gX4_put_X0_record : GoodIn wsX4_put (wsV RX4 62 RX0 yX0_record wsX0_record) := goodIn_app (goodIn_of _ (by decide +kernel)) ggX4_put_X0_record
set_option maxRecDepth 20000 in
theorem ggX4_put_X2_appendLineless : GoodIn wsX4_put wsX2_appendLineless := goodIn_r _ [33, 12, 34, 35, 36, 10, 37, 4, 5, 6, 38, 8, 9, 11, 39, 40, 41, 42, 43, 44, 45, 46, 47, 137] (by decide +kernel) (by decide +kernel)
set_option maxRecDepth 20000 in
theorem gX4_put_X2_appendLineless : GoodIn wsX4_put (wsV RX4 88 RX2 yX2_appendLineless wsX2_appendLineless) := goodIn_app (goodIn_of _ (by decide +kernel)) ggX4_put_X2_appendLineless
set_option maxRecDepth 20000 in
theorem ggX4_put_X4_layOutAgain : GoodIn wsX4_put wsX4_layOutAgain := goodIn_r _ [51, 52, 1, 53, 54, 55, 10, 56, 12, 57, 58, 59, 60, 61, 62, 63, 64, 65, 66, 67, 68, 69, 70, 71, 8, 9, 11, 4, 5, 6, 72, 73, 74, 75, 76, 77, 78, 79, 80, 81, 82, 83, 84, 85, 86, 87, 88, 39, 40, 41, 89, 90, 91, 92, 93, 94, 95, 96, 97, 98, 99, 100, 101, 102, 103, 104, 105, 106, 107, 108, 109, 110, 111, 112, 113, 114, 115, 116, 117, 118, 119, 120, 121, 122, 123, 124, 125, 126, 127, 128, 129, 130, 131, 132, 133, 134, 135, 136, 137, 140, 141, 142, 143, 144, 145, 146, 147, 148, 149, 150, 151, 152, 153] (by decide +kernel) (by decide +kernel)
set_option maxRecDepth 20000 in
theorem gX4_put_X4_layOutAgain : GoodIn wsX4_put (wsV RX4 70 RX4 yX4_layOutAgain wsX4_layOutAgain) := goodIn_app (goodIn_of _ (by decide +kernel)) ggX4_put_X4_layOutAgain
theorem dX4_put_0 : decode cX4_put 0 = .ok (.iload_n 1, 1) := by decide +kernel
theorem dX4_put_1 : decode cX4_put 1 = .ok (.invokestatic 73, 3) := by decide +kernel
theorem dX4_put_4 : decode cX4_put 4 = .ok (.ifCond .ne 5, 3) := by decide +kernel
theorem dX4_put_7 : decode cX4_put 7 = .ok (.iconst (-1), 1) := by decide +kernel
theorem dX4_put_8 : decode cX4_put 8 = .ok (.ireturn, 1) := by decide +kernel
theorem dX4_put_9 : decode cX4_put 9 = .ok (.iload_n 3, 1) := by decide +kernel
theorem dX4_put_10 : decode cX4_put 10 = .ok (.iconst 1, 1) := by decide +kernel
theorem dX4_put_11 : decode cX4_put 11 = .ok (.if_icmp .lt 10, 3) := by decide +kernel
theorem dX4_put_14 : decode cX4_put 14 = .ok (.iload_n 3, 1) := by decide +kernel
theorem dX4_put_15 : decode cX4_put 15 = .ok (.sipush 3000, 3) := by decide +kernel
theorem dX4_put_18 : decode cX4_put 18 = .ok (.if_icmp .le 6, 3) := by decide +kernel
theorem dX4_put_21 : decode cX4_put 21 = .ok (.bipush (-2), 2) := by decide +kernel
theorem dX4_put_23 : decode cX4_put 23 = .ok (.ireturn, 1) := by decide +kernel
theorem dX4_put_24 : decode cX4_put 24 = .ok (.aload_n 0, 1) := by decide +kernel
theorem dX4_put_25 : decode cX4_put 25 = .ok (.getfield 12, 3) := by decide +kernel
theorem dX4_put_28 : decode cX4_put 28 = .ok (.iload_n 1, 1) := by decide +kernel
theorem dX4_put_29 : decode cX4_put 29 = .ok (.invokevirtual 81, 3) := by decide +kernel
theorem dX4_put_32 : decode cX4_put 32 = .ok (.istore 4, 2) := by decide +kernel
theorem dX4_put_34 : decode cX4_put 34 = .ok (.iload 4, 2) := by decide +kernel
theorem dX4_put_36 : decode cX4_put 36 = .ok (.bipush 16, 2) := by decide +kernel
theorem dX4_put_38 : decode cX4_put 38 = .ok (.if_icmp .lt 6, 3) := by decide +kernel
theorem dX4_put_41 : decode cX4_put 41 = .ok (.bipush (-3), 2) := by decide +kernel
theorem dX4_put_43 : decode cX4_put 43 = .ok (.ireturn, 1) := by decide +kernel
theorem dX4_put_44 : decode cX4_put 44 = .ok (.aload_n 0, 1) := by decide +kernel
theorem dX4_put_45 : decode cX4_put 45 = .ok (.getfield 29, 3) := by decide +kernel
theorem dX4_put_48 : decode cX4_put 48 = .ok (.aload_n 0, 1) := by decide +kernel
theorem dX4_put_49 : decode cX4_put 49 = .ok (.getfield 12, 3) := by decide +kernel
theorem dX4_put_52 : decode cX4_put 52 = .ok (.invokevirtual 62, 3) := by decide +kernel
theorem dX4_put_55 : decode cX4_put 55 = .ok (.aload_n 0, 1) := by decide +kernel
theorem dX4_put_56 : decode cX4_put 56 = .ok (.getfield 12, 3) := by decide +kernel
theorem dX4_put_59 : decode cX4_put 59 = .ok (.iload_n 1, 1) := by decide +kernel
theorem dX4_put_60 : decode cX4_put 60 = .ok (.iload_n 2, 1) := by decide +kernel
theorem dX4_put_61 : decode cX4_put 61 = .ok (.ifCond .eq 7, 3) := by decide +kernel
theorem dX4_put_64 : decode cX4_put 64 = .ok (.iconst 1, 1) := by decide +kernel
theorem dX4_put_65 : decode cX4_put 65 = .ok (.goto 4, 3) := by decide +kernel
theorem dX4_put_68 : decode cX4_put 68 = .ok (.iconst 2, 1) := by decide +kernel
theorem dX4_put_69 : decode cX4_put 69 = .ok (.iload_n 3, 1) := by decide +kernel
theorem dX4_put_70 : decode cX4_put 70 = .ok (.invokevirtual 88, 3) := by decide +kernel
theorem dX4_put_73 : decode cX4_put 73 = .ok (.aload_n 0, 1) := by decide +kernel
theorem dX4_put_74 : decode cX4_put 74 = .ok (.invokevirtual 70, 3) := by decide +kernel
theorem dX4_put_77 : decode cX4_put 77 = .ok (.iload 4, 2) := by decide +kernel
theorem dX4_put_79 : decode cX4_put 79 = .ok (.ireturn, 1) := by decide +kernel
set_option maxRecDepth 20000 in
theorem ggX4_putAll_X4_isColumn : GoodIn wsX4_putAll wsX4_isColumn := goodIn_r _ [7] (by decide +kernel) (by decide +kernel)
set_option maxRecDepth 20000 in
theorem gX4_putAll_X4_isColumn : GoodIn wsX4_putAll (va_wsS RX4 73 yX4_isColumn wsX4_isColumn) := goodIn_app (goodIn_of _ (by decide +kernel)) ggX4_putAll_X4_isColumn
set_option maxRecDepth 20000 in
theorem ggX4_putAll_X3_readBlocks : GoodIn wsX4_putAll wsX3_readBlocks := goodIn_r _ [12, 13, 14, 15, 16, 17, 18, 19, 11, 20, 21, 22, 23, 24, 25, 26, 27, 28, 29, 30, 31, 32, 33, 34, 35, 36, 37, 38, 39, 40, 41, 42, 43, 44, 6, 45, 46, 47, 48, 49, 50, 51, 52, 53, 190, 191, 192, 193, 194, 195, 196] (by decide +kernel) (by decide +kernel)
set_option maxRecDepth 20000 in
theorem gX4_putAll_X3_readBlocks : GoodIn wsX4_putAll (wsV RX4 92 RX3 yX3_readBlocks wsX3_readBlocks) := goodIn_app (goodIn_of _ (by decide +kernel)) ggX4_putAll_X3_readBlocks
set_option maxRecDepth 20000 in
theorem ggX4_putAll_X3_allFit : GoodIn wsX4_putAll wsX3_allFit := goodIn_r _ [57, 14, 190, 191, 192, 193, 194, 195, 196] (by decide +kernel) (by decide +kernel)
set_option maxRecDepth 20000 in
theorem gX4_putAll_X3_allFit : GoodIn wsX4_putAll (wsV RX4 96 RX3 yX3_allFit wsX3_allFit) := goodIn_app (goodIn_of _ (by decide +kernel)) ggX4_putAll_X3_allFit
set_option maxRecDepth 20000 in
theorem ggX4_putAll_X2_blocksOf : GoodIn wsX4_putAll wsX2_blocksOf := goodIn_r _ [62, 63, 5, 6, 7, 197] (by decide +kernel) (by decide +kernel)
set_option maxRecDepth 20000 in
theorem gX4_putAll_X2_blocksOf : GoodIn wsX4_putAll (wsV RX4 81 RX2 yX2_blocksOf wsX2_blocksOf) := goodIn_app (goodIn_of _ (by decide +kernel)) ggX4_putAll_X2_blocksOf
set_option maxRecDepth 20000 in
theorem ggX4_putAll_X3_blocks : GoodIn wsX4_putAll wsX3_blocks := goodIn_r _ [67, 13, 190, 191, 192, 193, 194, 195, 196] (by decide +kernel) (by decide +kernel)
set_option maxRecDepth 20000 in
theorem gX4_putAll_X3_blocks : GoodIn wsX4_putAll (wsV RX4 100 RX3 yX3_blocks wsX3_blocks) := goodIn_app (goodIn_of _ (by decide +kernel)) ggX4_putAll_X3_blocks
set_option maxRecDepth 20000 in
theorem ggX4_putAll_X0_record : GoodIn wsX4_putAll wsX0_record := goodIn_r _ [72, 73, 74, 75, 6, 76, 77, 78, 79, 80, 81, 82, 83, 61, 84, 63, 198, 199, 197] (by decide +kernel) (by decide +kernel)
set_option maxRecDepth 20000 in
theorem gX4_putAll_X0_record : GoodIn wsX4_putAll (wsV RX4 62 RX0 yX0_record wsX0_record) := goodIn_app (goodIn_of _ (by decide +kernel)) ggX4_putAll_X0_record
set_option maxRecDepth 20000 in
theorem ggX4_putAll_X3_rows : GoodIn wsX4_putAll wsX3_rows := goodIn_r _ [88, 35, 190, 191, 192, 193, 194, 195, 196] (by decide +kernel) (by decide +kernel)
set_option maxRecDepth 20000 in
theorem gX4_putAll_X3_rows : GoodIn wsX4_putAll (wsV RX4 103 RX3 yX3_rows wsX3_rows) := goodIn_app (goodIn_of _ (by decide +kernel)) ggX4_putAll_X3_rows
set_option maxRecDepth 20000 in
theorem ggX4_putAll_X2_appendRows : GoodIn wsX4_putAll wsX2_appendRows := goodIn_r _ [92, 63, 5, 6, 7, 93, 59, 60, 61, 62, 94, 95, 96, 75, 76, 77, 78, 79, 80, 97, 98, 99, 100, 197] (by decide +kernel) (by decide +kernel)
set_option maxRecDepth 20000 in
theorem gX4_putAll_X2_appendRows : GoodIn wsX4_putAll (wsV RX4 107 RX2 yX2_appendRows wsX2_appendRows) := goodIn_app (goodIn_of _ (by decide +kernel)) ggX4_putAll_X2_appendRows
set_option maxRecDepth 20000 in
theorem ggX4_putAll_X4_layOutAgain : GoodIn wsX4_putAll wsX4_layOutAgain := goodIn_r _ [104, 105, 2, 106, 107, 108, 61, 109, 63, 110, 111, 112, 113, 114, 115, 116, 117, 118, 119, 120, 121, 122, 123, 124, 59, 60, 62, 5, 6, 7, 125, 126, 127, 128, 129, 130, 131, 132, 133, 134, 135, 136, 137, 138, 139, 140, 141, 94, 95, 96, 142, 143, 144, 145, 146, 147, 148, 149, 150, 151, 152, 153, 154, 155, 156, 157, 158, 159, 160, 161, 162, 163, 164, 165, 166, 167, 168, 169, 170, 171, 172, 173, 174, 175, 176, 177, 178, 179, 180, 181, 182, 183, 184, 185, 186, 187, 188, 189, 197, 200, 201, 202, 203, 204, 205, 206, 207, 208, 209, 210, 211, 212, 213] (by decide +kernel) (by decide +kernel)
set_option maxRecDepth 20000 in
theorem gX4_putAll_X4_layOutAgain : GoodIn wsX4_putAll (wsV RX4 70 RX4 yX4_layOutAgain wsX4_layOutAgain) := goodIn_app (goodIn_of _ (by decide +kernel)) ggX4_putAll_X4_layOutAgain
theorem dX4_putAll_0 : decode cX4_putAll 0 = .ok (.iload_n 1, 1) := by decide +kernel
theorem dX4_putAll_1 : decode cX4_putAll 1 = .ok (.invokestatic 73, 3) := by decide +kernel
theorem dX4_putAll_4 : decode cX4_putAll 4 = .ok (.ifCond .ne 5, 3) := by decide +kernel
theorem dX4_putAll_7 : decode cX4_putAll 7 = .ok (.iconst (-1), 1) := by decide +kernel
theorem dX4_putAll_8 : decode cX4_putAll 8 = .ok (.ireturn, 1) := by decide +kernel
theorem dX4_putAll_9 : decode cX4_putAll 9 = .ok (.aload_n 0, 1) := by decide +kernel
theorem dX4_putAll_10 : decode cX4_putAll 10 = .ok (.getfield 44, 3) := by decide +kernel
theorem dX4_putAll_13 : decode cX4_putAll 13 = .ok (.invokevirtual 92, 3) := by decide +kernel
theorem dX4_putAll_16 : decode cX4_putAll 16 = .ok (.istore_n 2, 1) := by decide +kernel
theorem dX4_putAll_17 : decode cX4_putAll 17 = .ok (.iload_n 2, 1) := by decide +kernel
theorem dX4_putAll_18 : decode cX4_putAll 18 = .ok (.bipush (-5), 2) := by decide +kernel
theorem dX4_putAll_20 : decode cX4_putAll 20 = .ok (.if_icmp .eq 8, 3) := by decide +kernel
theorem dX4_putAll_23 : decode cX4_putAll 23 = .ok (.bipush (-100), 2) := by decide +kernel
theorem dX4_putAll_25 : decode cX4_putAll 25 = .ok (.iload_n 2, 1) := by decide +kernel
theorem dX4_putAll_26 : decode cX4_putAll 26 = .ok (.isub, 1) := by decide +kernel
theorem dX4_putAll_27 : decode cX4_putAll 27 = .ok (.ireturn, 1) := by decide +kernel
theorem dX4_putAll_28 : decode cX4_putAll 28 = .ok (.aload_n 0, 1) := by decide +kernel
theorem dX4_putAll_29 : decode cX4_putAll 29 = .ok (.getfield 44, 3) := by decide +kernel
theorem dX4_putAll_32 : decode cX4_putAll 32 = .ok (.invokevirtual 96, 3) := by decide +kernel
theorem dX4_putAll_35 : decode cX4_putAll 35 = .ok (.ifCond .ne 6, 3) := by decide +kernel
theorem dX4_putAll_38 : decode cX4_putAll 38 = .ok (.bipush (-2), 2) := by decide +kernel
theorem dX4_putAll_40 : decode cX4_putAll 40 = .ok (.ireturn, 1) := by decide +kernel
theorem dX4_putAll_41 : decode cX4_putAll 41 = .ok (.aload_n 0, 1) := by decide +kernel
theorem dX4_putAll_42 : decode cX4_putAll 42 = .ok (.getfield 12, 3) := by decide +kernel
theorem dX4_putAll_45 : decode cX4_putAll 45 = .ok (.iload_n 1, 1) := by decide +kernel
theorem dX4_putAll_46 : decode cX4_putAll 46 = .ok (.invokevirtual 81, 3) := by decide +kernel
theorem dX4_putAll_49 : decode cX4_putAll 49 = .ok (.aload_n 0, 1) := by decide +kernel
theorem dX4_putAll_50 : decode cX4_putAll 50 = .ok (.getfield 44, 3) := by decide +kernel
theorem dX4_putAll_53 : decode cX4_putAll 53 = .ok (.invokevirtual 100, 3) := by decide +kernel
theorem dX4_putAll_56 : decode cX4_putAll 56 = .ok (.iadd, 1) := by decide +kernel
theorem dX4_putAll_57 : decode cX4_putAll 57 = .ok (.bipush 16, 2) := by decide +kernel
theorem dX4_putAll_59 : decode cX4_putAll 59 = .ok (.if_icmp .le 6, 3) := by decide +kernel
theorem dX4_putAll_62 : decode cX4_putAll 62 = .ok (.bipush (-3), 2) := by decide +kernel
theorem dX4_putAll_64 : decode cX4_putAll 64 = .ok (.ireturn, 1) := by decide +kernel
theorem dX4_putAll_65 : decode cX4_putAll 65 = .ok (.aload_n 0, 1) := by decide +kernel
theorem dX4_putAll_66 : decode cX4_putAll 66 = .ok (.getfield 29, 3) := by decide +kernel
theorem dX4_putAll_69 : decode cX4_putAll 69 = .ok (.aload_n 0, 1) := by decide +kernel
theorem dX4_putAll_70 : decode cX4_putAll 70 = .ok (.getfield 12, 3) := by decide +kernel
theorem dX4_putAll_73 : decode cX4_putAll 73 = .ok (.invokevirtual 62, 3) := by decide +kernel
theorem dX4_putAll_76 : decode cX4_putAll 76 = .ok (.aload_n 0, 1) := by decide +kernel
theorem dX4_putAll_77 : decode cX4_putAll 77 = .ok (.getfield 12, 3) := by decide +kernel
theorem dX4_putAll_80 : decode cX4_putAll 80 = .ok (.iload_n 1, 1) := by decide +kernel
theorem dX4_putAll_81 : decode cX4_putAll 81 = .ok (.aload_n 0, 1) := by decide +kernel
theorem dX4_putAll_82 : decode cX4_putAll 82 = .ok (.getfield 44, 3) := by decide +kernel
theorem dX4_putAll_85 : decode cX4_putAll 85 = .ok (.invokevirtual 103, 3) := by decide +kernel
theorem dX4_putAll_88 : decode cX4_putAll 88 = .ok (.aload_n 0, 1) := by decide +kernel
theorem dX4_putAll_89 : decode cX4_putAll 89 = .ok (.getfield 44, 3) := by decide +kernel
theorem dX4_putAll_92 : decode cX4_putAll 92 = .ok (.invokevirtual 100, 3) := by decide +kernel
theorem dX4_putAll_95 : decode cX4_putAll 95 = .ok (.invokevirtual 107, 3) := by decide +kernel
theorem dX4_putAll_98 : decode cX4_putAll 98 = .ok (.aload_n 0, 1) := by decide +kernel
theorem dX4_putAll_99 : decode cX4_putAll 99 = .ok (.invokevirtual 70, 3) := by decide +kernel
theorem dX4_putAll_102 : decode cX4_putAll 102 = .ok (.aload_n 0, 1) := by decide +kernel
theorem dX4_putAll_103 : decode cX4_putAll 103 = .ok (.getfield 12, 3) := by decide +kernel
theorem dX4_putAll_106 : decode cX4_putAll 106 = .ok (.iload_n 1, 1) := by decide +kernel
theorem dX4_putAll_107 : decode cX4_putAll 107 = .ok (.invokevirtual 81, 3) := by decide +kernel
theorem dX4_putAll_110 : decode cX4_putAll 110 = .ok (.ireturn, 1) := by decide +kernel
set_option maxRecDepth 20000 in
theorem ggX4_remove_X2_hasBlock : GoodIn wsX4_remove wsX2_hasBlock := goodIn_r _ [7, 8, 9, 10, 6, 11, 12, 13, 14, 15, 139] (by decide +kernel) (by decide +kernel)
set_option maxRecDepth 20000 in
theorem gX4_remove_X2_hasBlock : GoodIn wsX4_remove (wsV RX4 111 RX2 yX2_hasBlock wsX2_hasBlock) := goodIn_app (goodIn_of _ (by decide +kernel)) ggX4_remove_X2_hasBlock
set_option maxRecDepth 20000 in
theorem ggX4_remove_X0_record : GoodIn wsX4_remove wsX0_record := goodIn_r _ [20, 21, 22, 23, 14, 24, 25, 26, 27, 28, 29, 30, 31, 6, 32, 12, 140, 141, 139] (by decide +kernel) (by decide +kernel)
set_option maxRecDepth 20000 in
theorem gX4_remove_X0_record : GoodIn wsX4_remove (wsV RX4 62 RX0 yX0_record wsX0_record) := goodIn_app (goodIn_of _ (by decide +kernel)) ggX4_remove_X0_record
set_option maxRecDepth 20000 in
theorem ggX4_remove_X2_takeOut : GoodIn wsX4_remove wsX2_takeOut := goodIn_r _ [36, 37, 4, 5, 6, 7, 8, 9, 10, 11, 12, 13, 14, 15, 38, 39, 40, 41, 42, 43, 44, 23, 24, 25, 26, 27, 28, 45, 46, 47, 48, 139] (by decide +kernel) (by decide +kernel)
set_option maxRecDepth 20000 in
theorem gX4_remove_X2_takeOut : GoodIn wsX4_remove (wsV RX4 114 RX2 yX2_takeOut wsX2_takeOut) := goodIn_app (goodIn_of _ (by decide +kernel)) ggX4_remove_X2_takeOut
set_option maxRecDepth 20000 in
theorem ggX4_remove_X4_layOutAgain : GoodIn wsX4_remove wsX4_layOutAgain := goodIn_r _ [52, 53, 1, 54, 55, 56, 6, 57, 12, 58, 59, 60, 61, 62, 63, 64, 65, 66, 67, 68, 69, 70, 71, 72, 9, 10, 11, 13, 14, 15, 73, 74, 75, 76, 77, 78, 79, 80, 81, 82, 83, 84, 85, 86, 87, 88, 89, 38, 39, 40, 90, 91, 92, 93, 94, 95, 96, 97, 98, 99, 100, 101, 102, 103, 104, 105, 106, 107, 108, 109, 110, 111, 112, 113, 114, 115, 116, 117, 118, 119, 120, 121, 122, 123, 124, 125, 126, 127, 128, 129, 130, 132, 133, 134, 135, 136, 137, 138, 139, 142, 143, 144, 145, 146, 147, 148, 149, 150, 151, 152, 153, 154, 155] (by decide +kernel) (by decide +kernel)
set_option maxRecDepth 20000 in
theorem gX4_remove_X4_layOutAgain : GoodIn wsX4_remove (wsV RX4 70 RX4 yX4_layOutAgain wsX4_layOutAgain) := goodIn_app (goodIn_of _ (by decide +kernel)) ggX4_remove_X4_layOutAgain
set_option maxRecDepth 20000 in
theorem ggX4_remove_X2_blocksOf : GoodIn wsX4_remove wsX2_blocksOf := goodIn_r _ [11, 12, 13, 14, 15, 139] (by decide +kernel) (by decide +kernel)
set_option maxRecDepth 20000 in
theorem gX4_remove_X2_blocksOf : GoodIn wsX4_remove (wsV RX4 81 RX2 yX2_blocksOf wsX2_blocksOf) := goodIn_app (goodIn_of _ (by decide +kernel)) ggX4_remove_X2_blocksOf
theorem dX4_remove_0 : decode cX4_remove 0 = .ok (.aload_n 0, 1) := by decide +kernel
theorem dX4_remove_1 : decode cX4_remove 1 = .ok (.getfield 12, 3) := by decide +kernel
theorem dX4_remove_4 : decode cX4_remove 4 = .ok (.iload_n 1, 1) := by decide +kernel
theorem dX4_remove_5 : decode cX4_remove 5 = .ok (.iload_n 2, 1) := by decide +kernel
theorem dX4_remove_6 : decode cX4_remove 6 = .ok (.invokevirtual 111, 3) := by decide +kernel
theorem dX4_remove_9 : decode cX4_remove 9 = .ok (.ifCond .ne 5, 3) := by decide +kernel
theorem dX4_remove_12 : decode cX4_remove 12 = .ok (.iconst (-1), 1) := by decide +kernel
theorem dX4_remove_13 : decode cX4_remove 13 = .ok (.ireturn, 1) := by decide +kernel
theorem dX4_remove_14 : decode cX4_remove 14 = .ok (.aload_n 0, 1) := by decide +kernel
theorem dX4_remove_15 : decode cX4_remove 15 = .ok (.getfield 29, 3) := by decide +kernel
theorem dX4_remove_18 : decode cX4_remove 18 = .ok (.aload_n 0, 1) := by decide +kernel
theorem dX4_remove_19 : decode cX4_remove 19 = .ok (.getfield 12, 3) := by decide +kernel
theorem dX4_remove_22 : decode cX4_remove 22 = .ok (.invokevirtual 62, 3) := by decide +kernel
theorem dX4_remove_25 : decode cX4_remove 25 = .ok (.aload_n 0, 1) := by decide +kernel
theorem dX4_remove_26 : decode cX4_remove 26 = .ok (.getfield 12, 3) := by decide +kernel
theorem dX4_remove_29 : decode cX4_remove 29 = .ok (.iload_n 1, 1) := by decide +kernel
theorem dX4_remove_30 : decode cX4_remove 30 = .ok (.iload_n 2, 1) := by decide +kernel
theorem dX4_remove_31 : decode cX4_remove 31 = .ok (.invokevirtual 114, 3) := by decide +kernel
theorem dX4_remove_34 : decode cX4_remove 34 = .ok (.aload_n 0, 1) := by decide +kernel
theorem dX4_remove_35 : decode cX4_remove 35 = .ok (.invokevirtual 70, 3) := by decide +kernel
theorem dX4_remove_38 : decode cX4_remove 38 = .ok (.aload_n 0, 1) := by decide +kernel
theorem dX4_remove_39 : decode cX4_remove 39 = .ok (.getfield 12, 3) := by decide +kernel
theorem dX4_remove_42 : decode cX4_remove 42 = .ok (.iload_n 1, 1) := by decide +kernel
theorem dX4_remove_43 : decode cX4_remove 43 = .ok (.invokevirtual 81, 3) := by decide +kernel
theorem dX4_remove_46 : decode cX4_remove 46 = .ok (.ireturn, 1) := by decide +kernel
set_option maxRecDepth 20000 in
theorem ggX4_snap_X2_hasBlock : GoodIn wsX4_snap wsX2_hasBlock := goodIn_r _ [8, 9, 10, 11, 7, 12, 13, 14, 15, 16, 134] (by decide +kernel) (by decide +kernel)
set_option maxRecDepth 20000 in
theorem gX4_snap_X2_hasBlock : GoodIn wsX4_snap (wsV RX4 111 RX2 yX2_hasBlock wsX2_hasBlock) := goodIn_app (goodIn_of _ (by decide +kernel)) ggX4_snap_X2_hasBlock
set_option maxRecDepth 20000 in
theorem ggX4_snap_X2_fieldOf : GoodIn wsX4_snap wsX2_fieldOf := goodIn_r _ [20, 13, 21, 22, 7, 23, 14, 15, 16, 24, 25, 26, 134] (by decide +kernel) (by decide +kernel)
set_option maxRecDepth 20000 in
theorem gX4_snap_X2_fieldOf : GoodIn wsX4_snap (wsV RX4 117 RX2 yX2_fieldOf wsX2_fieldOf) := goodIn_app (goodIn_of _ (by decide +kernel)) ggX4_snap_X2_fieldOf
set_option maxRecDepth 20000 in
theorem ggX4_snap_X0_record : GoodIn wsX4_snap wsX0_record := goodIn_r _ [31, 32, 33, 34, 15, 35, 36, 37, 38, 39, 40, 41, 42, 7, 43, 13, 135, 136, 134] (by decide +kernel) (by decide +kernel)
set_option maxRecDepth 20000 in
theorem gX4_snap_X0_record : GoodIn wsX4_snap (wsV RX4 62 RX0 yX0_record wsX0_record) := goodIn_app (goodIn_of _ (by decide +kernel)) ggX4_snap_X0_record
set_option maxRecDepth 20000 in
theorem ggX4_snap_X2_changeField : GoodIn wsX4_snap wsX2_changeField := goodIn_r _ [47, 13, 21, 22, 7, 23, 14, 15, 16, 24, 25, 26, 134] (by decide +kernel) (by decide +kernel)
set_option maxRecDepth 20000 in
theorem gX4_snap_X2_changeField : GoodIn wsX4_snap (wsV RX4 121 RX2 yX2_changeField wsX2_changeField) := goodIn_app (goodIn_of _ (by decide +kernel)) ggX4_snap_X2_changeField
set_option maxRecDepth 20000 in
theorem ggX4_snap_X4_layOutAgain : GoodIn wsX4_snap wsX4_layOutAgain := goodIn_r _ [51, 3, 1, 52, 53, 54, 7, 55, 13, 56, 57, 58, 59, 60, 61, 62, 63, 64, 65, 66, 67, 68, 69, 70, 10, 11, 12, 14, 15, 16, 71, 72, 73, 74, 75, 76, 77, 78, 79, 80, 81, 18, 19, 20, 21, 22, 23, 24, 25, 26, 82, 83, 84, 85, 86, 87, 88, 89, 90, 91, 92, 93, 94, 95, 96, 97, 98, 99, 100, 101, 102, 103, 104, 105, 106, 107, 108, 109, 110, 111, 112, 113, 114, 115, 116, 117, 118, 119, 120, 121, 122, 127, 128, 129, 130, 131, 132, 133, 134, 137, 138, 139, 140, 141, 142, 143, 144, 145, 146, 147, 148, 149, 150] (by decide +kernel) (by decide +kernel)
set_option maxRecDepth 20000 in
theorem gX4_snap_X4_layOutAgain : GoodIn wsX4_snap (wsV RX4 70 RX4 yX4_layOutAgain wsX4_layOutAgain) := goodIn_app (goodIn_of _ (by decide +kernel)) ggX4_snap_X4_layOutAgain
set_option maxRecDepth 20000 in
theorem ggX4_snap_X1_endOf : GoodIn wsX4_snap wsX1_endOf := goodIn_r _ [126, 68, 14, 15, 16, 137, 138, 139, 140, 141, 142, 143, 144, 145, 146, 147, 148, 149, 150] (by decide +kernel) (by decide +kernel)
set_option maxRecDepth 20000 in
theorem gX4_snap_X1_endOf : GoodIn wsX4_snap (wsV RX4 125 RX1 yX1_endOf wsX1_endOf) := goodIn_app (goodIn_of _ (by decide +kernel)) ggX4_snap_X1_endOf
theorem dX4_snap_0 : decode cX4_snap 0 = .ok (.aload_n 0, 1) := by decide +kernel
theorem dX4_snap_1 : decode cX4_snap 1 = .ok (.getfield 12, 3) := by decide +kernel
theorem dX4_snap_4 : decode cX4_snap 4 = .ok (.iload_n 1, 1) := by decide +kernel
theorem dX4_snap_5 : decode cX4_snap 5 = .ok (.iload_n 2, 1) := by decide +kernel
theorem dX4_snap_6 : decode cX4_snap 6 = .ok (.invokevirtual 111, 3) := by decide +kernel
theorem dX4_snap_9 : decode cX4_snap 9 = .ok (.ifCond .ne 5, 3) := by decide +kernel
theorem dX4_snap_12 : decode cX4_snap 12 = .ok (.iconst (-1), 1) := by decide +kernel
theorem dX4_snap_13 : decode cX4_snap 13 = .ok (.ireturn, 1) := by decide +kernel
theorem dX4_snap_14 : decode cX4_snap 14 = .ok (.aload_n 0, 1) := by decide +kernel
theorem dX4_snap_15 : decode cX4_snap 15 = .ok (.getfield 12, 3) := by decide +kernel
theorem dX4_snap_18 : decode cX4_snap 18 = .ok (.iload_n 1, 1) := by decide +kernel
theorem dX4_snap_19 : decode cX4_snap 19 = .ok (.iload_n 2, 1) := by decide +kernel
theorem dX4_snap_20 : decode cX4_snap 20 = .ok (.iconst 0, 1) := by decide +kernel
theorem dX4_snap_21 : decode cX4_snap 21 = .ok (.invokevirtual 117, 3) := by decide +kernel
theorem dX4_snap_24 : decode cX4_snap 24 = .ok (.ifCond .eq 6, 3) := by decide +kernel
theorem dX4_snap_27 : decode cX4_snap 27 = .ok (.bipush (-4), 2) := by decide +kernel
theorem dX4_snap_29 : decode cX4_snap 29 = .ok (.ireturn, 1) := by decide +kernel
theorem dX4_snap_30 : decode cX4_snap 30 = .ok (.iload_n 3, 1) := by decide +kernel
theorem dX4_snap_31 : decode cX4_snap 31 = .ok (.ifCond .eq 7, 3) := by decide +kernel
theorem dX4_snap_34 : decode cX4_snap 34 = .ok (.iconst 1, 1) := by decide +kernel
theorem dX4_snap_35 : decode cX4_snap 35 = .ok (.goto 4, 3) := by decide +kernel
theorem dX4_snap_38 : decode cX4_snap 38 = .ok (.iconst 0, 1) := by decide +kernel
theorem dX4_snap_39 : decode cX4_snap 39 = .ok (.istore 4, 2) := by decide +kernel
theorem dX4_snap_41 : decode cX4_snap 41 = .ok (.aload_n 0, 1) := by decide +kernel
theorem dX4_snap_42 : decode cX4_snap 42 = .ok (.getfield 12, 3) := by decide +kernel
theorem dX4_snap_45 : decode cX4_snap 45 = .ok (.iload_n 1, 1) := by decide +kernel
theorem dX4_snap_46 : decode cX4_snap 46 = .ok (.iload_n 2, 1) := by decide +kernel
theorem dX4_snap_47 : decode cX4_snap 47 = .ok (.iconst 4, 1) := by decide +kernel
theorem dX4_snap_48 : decode cX4_snap 48 = .ok (.invokevirtual 117, 3) := by decide +kernel
theorem dX4_snap_51 : decode cX4_snap 51 = .ok (.iload 4, 2) := by decide +kernel
theorem dX4_snap_53 : decode cX4_snap 53 = .ok (.if_icmp .ne 6, 3) := by decide +kernel
theorem dX4_snap_56 : decode cX4_snap 56 = .ok (.bipush (-5), 2) := by decide +kernel
theorem dX4_snap_58 : decode cX4_snap 58 = .ok (.ireturn, 1) := by decide +kernel
theorem dX4_snap_59 : decode cX4_snap 59 = .ok (.aload_n 0, 1) := by decide +kernel
theorem dX4_snap_60 : decode cX4_snap 60 = .ok (.getfield 29, 3) := by decide +kernel
theorem dX4_snap_63 : decode cX4_snap 63 = .ok (.aload_n 0, 1) := by decide +kernel
theorem dX4_snap_64 : decode cX4_snap 64 = .ok (.getfield 12, 3) := by decide +kernel
theorem dX4_snap_67 : decode cX4_snap 67 = .ok (.invokevirtual 62, 3) := by decide +kernel
theorem dX4_snap_70 : decode cX4_snap 70 = .ok (.aload_n 0, 1) := by decide +kernel
theorem dX4_snap_71 : decode cX4_snap 71 = .ok (.getfield 12, 3) := by decide +kernel
theorem dX4_snap_74 : decode cX4_snap 74 = .ok (.iload_n 1, 1) := by decide +kernel
theorem dX4_snap_75 : decode cX4_snap 75 = .ok (.iload_n 2, 1) := by decide +kernel
theorem dX4_snap_76 : decode cX4_snap 76 = .ok (.iconst 4, 1) := by decide +kernel
theorem dX4_snap_77 : decode cX4_snap 77 = .ok (.iload 4, 2) := by decide +kernel
theorem dX4_snap_79 : decode cX4_snap 79 = .ok (.invokevirtual 121, 3) := by decide +kernel
theorem dX4_snap_82 : decode cX4_snap 82 = .ok (.aload_n 0, 1) := by decide +kernel
theorem dX4_snap_83 : decode cX4_snap 83 = .ok (.invokevirtual 70, 3) := by decide +kernel
theorem dX4_snap_86 : decode cX4_snap 86 = .ok (.aload_n 0, 1) := by decide +kernel
theorem dX4_snap_87 : decode cX4_snap 87 = .ok (.getfield 19, 3) := by decide +kernel
theorem dX4_snap_90 : decode cX4_snap 90 = .ok (.iload_n 1, 1) := by decide +kernel
theorem dX4_snap_91 : decode cX4_snap 91 = .ok (.invokevirtual 125, 3) := by decide +kernel
theorem dX4_snap_94 : decode cX4_snap 94 = .ok (.ireturn, 1) := by decide +kernel
set_option maxRecDepth 20000 in
theorem ggX4_flow_X4_isColumn : GoodIn wsX4_flow wsX4_isColumn := goodIn_r _ [7] (by decide +kernel) (by decide +kernel)
set_option maxRecDepth 20000 in
theorem gX4_flow_X4_isColumn : GoodIn wsX4_flow (va_wsS RX4 73 yX4_isColumn wsX4_isColumn) := goodIn_app (goodIn_of _ (by decide +kernel)) ggX4_flow_X4_isColumn
set_option maxRecDepth 20000 in
theorem ggX4_flow_X1_overflowingBlockOf : GoodIn wsX4_flow wsX1_overflowingBlockOf := goodIn_r _ [12, 13, 5, 6, 7, 161, 162, 163, 164, 165, 166, 167, 168, 169, 170, 171, 172, 173, 174] (by decide +kernel) (by decide +kernel)
set_option maxRecDepth 20000 in
theorem gX4_flow_X1_overflowingBlockOf : GoodIn wsX4_flow (wsV RX4 128 RX1 yX1_overflowingBlockOf wsX1_overflowingBlockOf) := goodIn_app (goodIn_of _ (by decide +kernel)) ggX4_flow_X1_overflowingBlockOf
set_option maxRecDepth 20000 in
theorem ggX4_flow_X2_blocksOf : GoodIn wsX4_flow wsX2_blocksOf := goodIn_r _ [18, 19, 5, 6, 7, 175] (by decide +kernel) (by decide +kernel)
set_option maxRecDepth 20000 in
theorem gX4_flow_X2_blocksOf : GoodIn wsX4_flow (wsV RX4 81 RX2 yX2_blocksOf wsX2_blocksOf) := goodIn_app (goodIn_of _ (by decide +kernel)) ggX4_flow_X2_blocksOf
set_option maxRecDepth 20000 in
theorem ggX4_flow_X0_record : GoodIn wsX4_flow wsX0_record := goodIn_r _ [24, 25, 26, 27, 6, 28, 29, 30, 31, 32, 33, 34, 35, 17, 36, 19, 176, 177, 175] (by decide +kernel) (by decide +kernel)
set_option maxRecDepth 20000 in
theorem gX4_flow_X0_record : GoodIn wsX4_flow (wsV RX4 62 RX0 yX0_record wsX0_record) := goodIn_app (goodIn_of _ (by decide +kernel)) ggX4_flow_X0_record
set_option maxRecDepth 20000 in
theorem ggX4_flow_X4_linesThatStay : GoodIn wsX4_flow wsX4_linesThatStay := goodIn_r _ [40, 2, 1, 41, 42, 43, 44, 45, 46, 47, 17, 48, 19, 49, 50, 51, 5, 6, 7, 52, 53, 54, 55, 56, 57, 58, 59, 60, 61, 11, 62, 63, 64, 65, 66, 154, 155, 156, 157, 158, 159, 160, 175, 161, 162, 163, 164, 165, 166, 167, 168, 169, 170, 171, 172, 173, 174] (by decide +kernel) (by decide +kernel)
set_option maxRecDepth 20000 in
theorem gX4_flow_X4_linesThatStay : GoodIn wsX4_flow (wsV RX4 131 RX4 yX4_linesThatStay wsX4_linesThatStay) := goodIn_app (goodIn_of _ (by decide +kernel)) ggX4_flow_X4_linesThatStay
set_option maxRecDepth 20000 in
theorem ggX4_flow_X2_moveToNext : GoodIn wsX4_flow wsX2_moveToNext := goodIn_r _ [70, 71, 15, 16, 17, 18, 19, 5, 6, 7, 72, 73, 74, 75, 52, 53, 54, 76, 77, 78, 79, 27, 28, 29, 30, 31, 32, 80, 81, 82, 83, 84, 46, 47, 48, 49, 50, 51, 85, 86, 87, 88, 175] (by decide +kernel) (by decide +kernel)
set_option maxRecDepth 20000 in
theorem gX4_flow_X2_moveToNext : GoodIn wsX4_flow (wsV RX4 135 RX2 yX2_moveToNext wsX2_moveToNext) := goodIn_app (goodIn_of _ (by decide +kernel)) ggX4_flow_X2_moveToNext
set_option maxRecDepth 20000 in
theorem ggX4_flow_X4_layOutAgain : GoodIn wsX4_flow wsX4_layOutAgain := goodIn_r _ [92, 1, 2, 55, 56, 57, 17, 58, 19, 93, 94, 95, 11, 96, 97, 98, 99, 100, 101, 102, 13, 103, 104, 105, 15, 16, 18, 5, 6, 7, 106, 107, 108, 109, 110, 63, 111, 64, 65, 66, 112, 46, 47, 48, 49, 50, 51, 52, 53, 54, 113, 114, 115, 116, 117, 118, 119, 120, 121, 122, 123, 124, 125, 126, 127, 128, 129, 130, 131, 132, 133, 134, 135, 136, 137, 138, 139, 140, 141, 142, 143, 144, 145, 146, 147, 148, 149, 150, 151, 152, 153, 154, 155, 156, 157, 158, 159, 160, 175, 161, 162, 163, 164, 165, 166, 167, 168, 169, 170, 171, 172, 173, 174] (by decide +kernel) (by decide +kernel)
set_option maxRecDepth 20000 in
theorem gX4_flow_X4_layOutAgain : GoodIn wsX4_flow (wsV RX4 70 RX4 yX4_layOutAgain wsX4_layOutAgain) := goodIn_app (goodIn_of _ (by decide +kernel)) ggX4_flow_X4_layOutAgain
theorem dX4_flow_0 : decode cX4_flow 0 = .ok (.iload_n 1, 1) := by decide +kernel
theorem dX4_flow_1 : decode cX4_flow 1 = .ok (.invokestatic 73, 3) := by decide +kernel
theorem dX4_flow_4 : decode cX4_flow 4 = .ok (.ifCond .ne 5, 3) := by decide +kernel
theorem dX4_flow_7 : decode cX4_flow 7 = .ok (.iconst (-1), 1) := by decide +kernel
theorem dX4_flow_8 : decode cX4_flow 8 = .ok (.ireturn, 1) := by decide +kernel
theorem dX4_flow_9 : decode cX4_flow 9 = .ok (.iload_n 1, 1) := by decide +kernel
theorem dX4_flow_10 : decode cX4_flow 10 = .ok (.iconst 3, 1) := by decide +kernel
theorem dX4_flow_11 : decode cX4_flow 11 = .ok (.if_icmp .ne 6, 3) := by decide +kernel
theorem dX4_flow_14 : decode cX4_flow 14 = .ok (.bipush (-4), 2) := by decide +kernel
theorem dX4_flow_16 : decode cX4_flow 16 = .ok (.ireturn, 1) := by decide +kernel
theorem dX4_flow_17 : decode cX4_flow 17 = .ok (.aload_n 0, 1) := by decide +kernel
theorem dX4_flow_18 : decode cX4_flow 18 = .ok (.getfield 19, 3) := by decide +kernel
theorem dX4_flow_21 : decode cX4_flow 21 = .ok (.iload_n 1, 1) := by decide +kernel
theorem dX4_flow_22 : decode cX4_flow 22 = .ok (.invokevirtual 128, 3) := by decide +kernel
theorem dX4_flow_25 : decode cX4_flow 25 = .ok (.istore_n 2, 1) := by decide +kernel
theorem dX4_flow_26 : decode cX4_flow 26 = .ok (.iload_n 2, 1) := by decide +kernel
theorem dX4_flow_27 : decode cX4_flow 27 = .ok (.bipush (-5), 2) := by decide +kernel
theorem dX4_flow_29 : decode cX4_flow 29 = .ok (.if_icmp .ne 6, 3) := by decide +kernel
theorem dX4_flow_32 : decode cX4_flow 32 = .ok (.bipush (-5), 2) := by decide +kernel
theorem dX4_flow_34 : decode cX4_flow 34 = .ok (.ireturn, 1) := by decide +kernel
theorem dX4_flow_35 : decode cX4_flow 35 = .ok (.aload_n 0, 1) := by decide +kernel
theorem dX4_flow_36 : decode cX4_flow 36 = .ok (.getfield 12, 3) := by decide +kernel
theorem dX4_flow_39 : decode cX4_flow 39 = .ok (.iload_n 1, 1) := by decide +kernel
theorem dX4_flow_40 : decode cX4_flow 40 = .ok (.invokevirtual 81, 3) := by decide +kernel
theorem dX4_flow_43 : decode cX4_flow 43 = .ok (.iload_n 2, 1) := by decide +kernel
theorem dX4_flow_44 : decode cX4_flow 44 = .ok (.isub, 1) := by decide +kernel
theorem dX4_flow_45 : decode cX4_flow 45 = .ok (.istore_n 3, 1) := by decide +kernel
theorem dX4_flow_46 : decode cX4_flow 46 = .ok (.aload_n 0, 1) := by decide +kernel
theorem dX4_flow_47 : decode cX4_flow 47 = .ok (.getfield 12, 3) := by decide +kernel
theorem dX4_flow_50 : decode cX4_flow 50 = .ok (.iload_n 1, 1) := by decide +kernel
theorem dX4_flow_51 : decode cX4_flow 51 = .ok (.iconst 1, 1) := by decide +kernel
theorem dX4_flow_52 : decode cX4_flow 52 = .ok (.iadd, 1) := by decide +kernel
theorem dX4_flow_53 : decode cX4_flow 53 = .ok (.invokevirtual 81, 3) := by decide +kernel
theorem dX4_flow_56 : decode cX4_flow 56 = .ok (.iload_n 3, 1) := by decide +kernel
theorem dX4_flow_57 : decode cX4_flow 57 = .ok (.iadd, 1) := by decide +kernel
theorem dX4_flow_58 : decode cX4_flow 58 = .ok (.bipush 16, 2) := by decide +kernel
theorem dX4_flow_60 : decode cX4_flow 60 = .ok (.if_icmp .le 6, 3) := by decide +kernel
theorem dX4_flow_63 : decode cX4_flow 63 = .ok (.bipush (-3), 2) := by decide +kernel
theorem dX4_flow_65 : decode cX4_flow 65 = .ok (.ireturn, 1) := by decide +kernel
theorem dX4_flow_66 : decode cX4_flow 66 = .ok (.aload_n 0, 1) := by decide +kernel
theorem dX4_flow_67 : decode cX4_flow 67 = .ok (.getfield 29, 3) := by decide +kernel
theorem dX4_flow_70 : decode cX4_flow 70 = .ok (.aload_n 0, 1) := by decide +kernel
theorem dX4_flow_71 : decode cX4_flow 71 = .ok (.getfield 12, 3) := by decide +kernel
theorem dX4_flow_74 : decode cX4_flow 74 = .ok (.invokevirtual 62, 3) := by decide +kernel
theorem dX4_flow_77 : decode cX4_flow 77 = .ok (.aload_n 0, 1) := by decide +kernel
theorem dX4_flow_78 : decode cX4_flow 78 = .ok (.getfield 12, 3) := by decide +kernel
theorem dX4_flow_81 : decode cX4_flow 81 = .ok (.iload_n 1, 1) := by decide +kernel
theorem dX4_flow_82 : decode cX4_flow 82 = .ok (.iload_n 2, 1) := by decide +kernel
theorem dX4_flow_83 : decode cX4_flow 83 = .ok (.aload_n 0, 1) := by decide +kernel
theorem dX4_flow_84 : decode cX4_flow 84 = .ok (.iload_n 1, 1) := by decide +kernel
theorem dX4_flow_85 : decode cX4_flow 85 = .ok (.iload_n 2, 1) := by decide +kernel
theorem dX4_flow_86 : decode cX4_flow 86 = .ok (.invokevirtual 131, 3) := by decide +kernel
theorem dX4_flow_89 : decode cX4_flow 89 = .ok (.invokevirtual 135, 3) := by decide +kernel
theorem dX4_flow_92 : decode cX4_flow 92 = .ok (.aload_n 0, 1) := by decide +kernel
theorem dX4_flow_93 : decode cX4_flow 93 = .ok (.invokevirtual 70, 3) := by decide +kernel
theorem dX4_flow_96 : decode cX4_flow 96 = .ok (.iload_n 3, 1) := by decide +kernel
theorem dX4_flow_97 : decode cX4_flow 97 = .ok (.ireturn, 1) := by decide +kernel
set_option maxRecDepth 20000 in
theorem ggX4_spread_X4_isColumn : GoodIn wsX4_spread wsX4_isColumn := goodIn_r _ [5] (by decide +kernel) (by decide +kernel)
set_option maxRecDepth 20000 in
theorem gX4_spread_X4_isColumn : GoodIn wsX4_spread (va_wsS RX4 73 yX4_isColumn wsX4_isColumn) := goodIn_app (goodIn_of _ (by decide +kernel)) ggX4_spread_X4_isColumn
set_option maxRecDepth 20000 in
theorem ggX4_spread_X1_endOf : GoodIn wsX4_spread wsX1_endOf := goodIn_r _ [10, 11, 3, 4, 5, 159, 160, 161, 162, 163, 164, 165, 166, 167, 168, 169, 170, 171, 172] (by decide +kernel) (by decide +kernel)
set_option maxRecDepth 20000 in
theorem gX4_spread_X1_endOf : GoodIn wsX4_spread (wsV RX4 125 RX1 yX1_endOf wsX1_endOf) := goodIn_app (goodIn_of _ (by decide +kernel)) ggX4_spread_X1_endOf
set_option maxRecDepth 20000 in
theorem ggX4_spread_X4_raiseSpaces : GoodIn wsX4_spread wsX4_raiseSpaces := goodIn_r _ [15, 16, 17, 18, 19, 20, 21, 22, 23, 24, 4, 25, 26, 27, 28, 29, 30, 31, 3, 5, 32, 33, 34, 35, 1, 36, 37, 38, 39, 40, 41, 42, 43, 44, 45, 46, 47, 48, 9, 49, 50, 51, 52, 53, 54, 55, 56, 57, 58, 59, 60, 61, 62, 63, 64, 65, 66, 67, 68, 69, 70, 71, 72, 73, 74, 75, 76, 77, 78, 79, 80, 81, 82, 152, 153, 154, 155, 156, 157, 158, 173, 159, 160, 161, 162, 163, 164, 165, 166, 167, 168, 169, 170, 171, 172, 174, 175] (by decide +kernel) (by decide +kernel)
set_option maxRecDepth 20000 in
theorem gX4_spread_X4_raiseSpaces : GoodIn wsX4_spread (wsV RX4 138 RX4 yX4_raiseSpaces wsX4_raiseSpaces) := goodIn_app (goodIn_of _ (by decide +kernel)) ggX4_spread_X4_raiseSpaces
set_option maxRecDepth 20000 in
theorem ggX4_spread_X4_layOutAgain : GoodIn wsX4_spread wsX4_layOutAgain := goodIn_r _ [86, 1, 16, 87, 88, 89, 29, 90, 31, 91, 92, 93, 9, 94, 95, 96, 97, 98, 99, 100, 101, 11, 102, 103, 27, 28, 30, 3, 4, 5, 104, 105, 106, 107, 108, 50, 109, 51, 52, 53, 110, 37, 38, 39, 40, 41, 42, 43, 44, 45, 111, 112, 113, 114, 115, 116, 117, 118, 119, 120, 121, 122, 123, 124, 125, 126, 127, 128, 129, 130, 131, 132, 133, 134, 135, 136, 137, 138, 139, 140, 141, 142, 143, 144, 145, 146, 147, 148, 149, 150, 151, 152, 153, 154, 155, 156, 157, 158, 173, 159, 160, 161, 162, 163, 164, 165, 166, 167, 168, 169, 170, 171, 172] (by decide +kernel) (by decide +kernel)
set_option maxRecDepth 20000 in
theorem gX4_spread_X4_layOutAgain : GoodIn wsX4_spread (wsV RX4 70 RX4 yX4_layOutAgain wsX4_layOutAgain) := goodIn_app (goodIn_of _ (by decide +kernel)) ggX4_spread_X4_layOutAgain
theorem dX4_spread_0 : decode cX4_spread 0 = .ok (.iload_n 1, 1) := by decide +kernel
theorem dX4_spread_1 : decode cX4_spread 1 = .ok (.invokestatic 73, 3) := by decide +kernel
theorem dX4_spread_4 : decode cX4_spread 4 = .ok (.ifCond .ne 5, 3) := by decide +kernel
theorem dX4_spread_7 : decode cX4_spread 7 = .ok (.iconst (-1), 1) := by decide +kernel
theorem dX4_spread_8 : decode cX4_spread 8 = .ok (.ireturn, 1) := by decide +kernel
theorem dX4_spread_9 : decode cX4_spread 9 = .ok (.iload_n 2, 1) := by decide +kernel
theorem dX4_spread_10 : decode cX4_spread 10 = .ok (.iconst 1, 1) := by decide +kernel
theorem dX4_spread_11 : decode cX4_spread 11 = .ok (.if_icmp .lt 10, 3) := by decide +kernel
theorem dX4_spread_14 : decode cX4_spread 14 = .ok (.iload_n 2, 1) := by decide +kernel
theorem dX4_spread_15 : decode cX4_spread 15 = .ok (.sipush 9999, 3) := by decide +kernel
theorem dX4_spread_18 : decode cX4_spread 18 = .ok (.if_icmp .le 6, 3) := by decide +kernel
theorem dX4_spread_21 : decode cX4_spread 21 = .ok (.bipush (-2), 2) := by decide +kernel
theorem dX4_spread_23 : decode cX4_spread 23 = .ok (.ireturn, 1) := by decide +kernel
theorem dX4_spread_24 : decode cX4_spread 24 = .ok (.aload_n 0, 1) := by decide +kernel
theorem dX4_spread_25 : decode cX4_spread 25 = .ok (.iload_n 1, 1) := by decide +kernel
theorem dX4_spread_26 : decode cX4_spread 26 = .ok (.iload_n 2, 1) := by decide +kernel
theorem dX4_spread_27 : decode cX4_spread 27 = .ok (.aload_n 0, 1) := by decide +kernel
theorem dX4_spread_28 : decode cX4_spread 28 = .ok (.getfield 19, 3) := by decide +kernel
theorem dX4_spread_31 : decode cX4_spread 31 = .ok (.iload_n 1, 1) := by decide +kernel
theorem dX4_spread_32 : decode cX4_spread 32 = .ok (.invokevirtual 125, 3) := by decide +kernel
theorem dX4_spread_35 : decode cX4_spread 35 = .ok (.isub, 1) := by decide +kernel
theorem dX4_spread_36 : decode cX4_spread 36 = .ok (.invokevirtual 138, 3) := by decide +kernel
theorem dX4_spread_39 : decode cX4_spread 39 = .ok (.ifCond .ne 6, 3) := by decide +kernel
theorem dX4_spread_42 : decode cX4_spread 42 = .ok (.bipush (-5), 2) := by decide +kernel
theorem dX4_spread_44 : decode cX4_spread 44 = .ok (.ireturn, 1) := by decide +kernel
theorem dX4_spread_45 : decode cX4_spread 45 = .ok (.aload_n 0, 1) := by decide +kernel
theorem dX4_spread_46 : decode cX4_spread 46 = .ok (.invokevirtual 70, 3) := by decide +kernel
theorem dX4_spread_49 : decode cX4_spread 49 = .ok (.aload_n 0, 1) := by decide +kernel
theorem dX4_spread_50 : decode cX4_spread 50 = .ok (.getfield 19, 3) := by decide +kernel
theorem dX4_spread_53 : decode cX4_spread 53 = .ok (.iload_n 1, 1) := by decide +kernel
theorem dX4_spread_54 : decode cX4_spread 54 = .ok (.invokevirtual 125, 3) := by decide +kernel
theorem dX4_spread_57 : decode cX4_spread 57 = .ok (.ireturn, 1) := by decide +kernel
set_option maxRecDepth 20000 in
theorem ggX4_type_X3_append : GoodIn wsX4_type wsX3_append := goodIn_r _ [6, 7, 8, 20, 21, 22, 23, 24, 25, 26] (by decide +kernel) (by decide +kernel)
set_option maxRecDepth 20000 in
theorem gX4_type_X3_append : GoodIn wsX4_type (wsV RX4 141 RX3 yX3_append wsX3_append) := goodIn_app (goodIn_of _ (by decide +kernel)) ggX4_type_X3_append
set_option maxRecDepth 20000 in
theorem ggX4_type_X3_length : GoodIn wsX4_type wsX3_length := goodIn_r _ [12, 7, 20, 21, 22, 23, 24, 25, 26] (by decide +kernel) (by decide +kernel)
set_option maxRecDepth 20000 in
theorem gX4_type_X3_length : GoodIn wsX4_type (wsV RX4 145 RX3 yX3_length wsX3_length) := goodIn_app (goodIn_of _ (by decide +kernel)) ggX4_type_X3_length
theorem dX4_type_0 : decode cX4_type 0 = .ok (.aload_n 0, 1) := by decide +kernel
theorem dX4_type_1 : decode cX4_type 1 = .ok (.getfield 44, 3) := by decide +kernel
theorem dX4_type_4 : decode cX4_type 4 = .ok (.iload_n 1, 1) := by decide +kernel
theorem dX4_type_5 : decode cX4_type 5 = .ok (.invokevirtual 141, 3) := by decide +kernel
theorem dX4_type_8 : decode cX4_type 8 = .ok (.ifCond .ne 6, 3) := by decide +kernel
theorem dX4_type_11 : decode cX4_type 11 = .ok (.bipush (-3), 2) := by decide +kernel
theorem dX4_type_13 : decode cX4_type 13 = .ok (.ireturn, 1) := by decide +kernel
theorem dX4_type_14 : decode cX4_type 14 = .ok (.aload_n 0, 1) := by decide +kernel
theorem dX4_type_15 : decode cX4_type 15 = .ok (.getfield 44, 3) := by decide +kernel
theorem dX4_type_18 : decode cX4_type 18 = .ok (.invokevirtual 145, 3) := by decide +kernel
theorem dX4_type_21 : decode cX4_type 21 = .ok (.ireturn, 1) := by decide +kernel
set_option maxRecDepth 20000 in
theorem ggX4_clearText_X3_length : GoodIn wsX4_clearText wsX3_length := goodIn_r _ [6, 7, 19, 20, 21, 22, 23, 24, 25] (by decide +kernel) (by decide +kernel)
set_option maxRecDepth 20000 in
theorem gX4_clearText_X3_length : GoodIn wsX4_clearText (wsV RX4 145 RX3 yX3_length wsX3_length) := goodIn_app (goodIn_of _ (by decide +kernel)) ggX4_clearText_X3_length
set_option maxRecDepth 20000 in
theorem ggX4_clearText_X3_clear : GoodIn wsX4_clearText wsX3_clear := goodIn_r _ [11, 7, 19, 20, 21, 22, 23, 24, 25] (by decide +kernel) (by decide +kernel)
set_option maxRecDepth 20000 in
theorem gX4_clearText_X3_clear : GoodIn wsX4_clearText (wsV RX4 148 RX3 yX3_clear wsX3_clear) := goodIn_app (goodIn_of _ (by decide +kernel)) ggX4_clearText_X3_clear
theorem dX4_clearText_0 : decode cX4_clearText 0 = .ok (.aload_n 0, 1) := by decide +kernel
theorem dX4_clearText_1 : decode cX4_clearText 1 = .ok (.getfield 44, 3) := by decide +kernel
theorem dX4_clearText_4 : decode cX4_clearText 4 = .ok (.invokevirtual 145, 3) := by decide +kernel
theorem dX4_clearText_7 : decode cX4_clearText 7 = .ok (.istore_n 1, 1) := by decide +kernel
theorem dX4_clearText_8 : decode cX4_clearText 8 = .ok (.aload_n 0, 1) := by decide +kernel
theorem dX4_clearText_9 : decode cX4_clearText 9 = .ok (.getfield 44, 3) := by decide +kernel
theorem dX4_clearText_12 : decode cX4_clearText 12 = .ok (.invokevirtual 148, 3) := by decide +kernel
theorem dX4_clearText_15 : decode cX4_clearText 15 = .ok (.iload_n 1, 1) := by decide +kernel
theorem dX4_clearText_16 : decode cX4_clearText 16 = .ok (.ireturn, 1) := by decide +kernel
set_option maxRecDepth 20000 in
theorem ggX4_undo_X0_states : GoodIn wsX4_undo wsX0_states := goodIn_r _ [7, 8, 124, 125] (by decide +kernel) (by decide +kernel)
set_option maxRecDepth 20000 in
theorem gX4_undo_X0_states : GoodIn wsX4_undo (wsV RX4 151 RX0 yX0_states wsX0_states) := goodIn_app (goodIn_of _ (by decide +kernel)) ggX4_undo_X0_states
set_option maxRecDepth 20000 in
theorem ggX4_undo_X0_giveBack : GoodIn wsX4_undo wsX0_giveBack := goodIn_r _ [12, 8, 13, 14, 15, 16, 17, 18, 19, 20, 21, 22, 23, 24, 25, 26, 124, 125, 126] (by decide +kernel) (by decide +kernel)
set_option maxRecDepth 20000 in
theorem gX4_undo_X0_giveBack : GoodIn wsX4_undo (wsV RX4 154 RX0 yX0_giveBack wsX0_giveBack) := goodIn_app (goodIn_of _ (by decide +kernel)) ggX4_undo_X0_giveBack
set_option maxRecDepth 20000 in
theorem ggX4_undo_X4_layOutAgain : GoodIn wsX4_undo wsX4_layOutAgain := goodIn_r _ [30, 31, 2, 32, 33, 34, 17, 35, 19, 36, 37, 38, 39, 40, 41, 42, 43, 44, 45, 46, 47, 48, 49, 50, 51, 52, 53, 54, 21, 55, 56, 57, 58, 59, 60, 61, 62, 63, 64, 65, 66, 67, 68, 69, 70, 71, 72, 73, 74, 75, 76, 77, 78, 79, 80, 81, 82, 83, 84, 85, 86, 87, 88, 89, 90, 91, 92, 93, 94, 95, 96, 97, 98, 99, 100, 101, 102, 103, 104, 105, 106, 107, 108, 109, 110, 111, 112, 113, 114, 115, 116, 117, 118, 119, 120, 121, 122, 123, 126, 127, 128, 129, 130, 131, 132, 133, 134, 135, 136, 137, 138, 139, 140] (by decide +kernel) (by decide +kernel)
set_option maxRecDepth 20000 in
theorem gX4_undo_X4_layOutAgain : GoodIn wsX4_undo (wsV RX4 70 RX4 yX4_layOutAgain wsX4_layOutAgain) := goodIn_app (goodIn_of _ (by decide +kernel)) ggX4_undo_X4_layOutAgain
theorem dX4_undo_0 : decode cX4_undo 0 = .ok (.aload_n 0, 1) := by decide +kernel
theorem dX4_undo_1 : decode cX4_undo 1 = .ok (.getfield 29, 3) := by decide +kernel
theorem dX4_undo_4 : decode cX4_undo 4 = .ok (.invokevirtual 151, 3) := by decide +kernel
theorem dX4_undo_7 : decode cX4_undo 7 = .ok (.ifCond .ne 6, 3) := by decide +kernel
theorem dX4_undo_10 : decode cX4_undo 10 = .ok (.bipush (-5), 2) := by decide +kernel
theorem dX4_undo_12 : decode cX4_undo 12 = .ok (.ireturn, 1) := by decide +kernel
theorem dX4_undo_13 : decode cX4_undo 13 = .ok (.aload_n 0, 1) := by decide +kernel
theorem dX4_undo_14 : decode cX4_undo 14 = .ok (.getfield 29, 3) := by decide +kernel
theorem dX4_undo_17 : decode cX4_undo 17 = .ok (.aload_n 0, 1) := by decide +kernel
theorem dX4_undo_18 : decode cX4_undo 18 = .ok (.getfield 12, 3) := by decide +kernel
theorem dX4_undo_21 : decode cX4_undo 21 = .ok (.invokevirtual 154, 3) := by decide +kernel
theorem dX4_undo_24 : decode cX4_undo 24 = .ok (.aload_n 0, 1) := by decide +kernel
theorem dX4_undo_25 : decode cX4_undo 25 = .ok (.invokevirtual 70, 3) := by decide +kernel
theorem dX4_undo_28 : decode cX4_undo 28 = .ok (.aload_n 0, 1) := by decide +kernel
theorem dX4_undo_29 : decode cX4_undo 29 = .ok (.getfield 29, 3) := by decide +kernel
theorem dX4_undo_32 : decode cX4_undo 32 = .ok (.invokevirtual 151, 3) := by decide +kernel
theorem dX4_undo_35 : decode cX4_undo 35 = .ok (.ireturn, 1) := by decide +kernel
set_option maxRecDepth 20000 in
theorem ggX4_keep_X2_copyTo : GoodIn wsX4_keep wsX2_copyTo := goodIn_r _ [8, 9, 10, 11, 12, 13, 14, 15, 16, 34] (by decide +kernel) (by decide +kernel)
set_option maxRecDepth 20000 in
theorem gX4_keep_X2_copyTo : GoodIn wsX4_keep (wsV RX4 157 RX2 yX2_copyTo wsX2_copyTo) := goodIn_app (goodIn_of _ (by decide +kernel)) ggX4_keep_X2_copyTo
set_option maxRecDepth 20000 in
theorem ggX4_keep_X2_allBlocks : GoodIn wsX4_keep wsX2_allBlocks := goodIn_r _ [20, 21, 22, 23, 7, 24, 9, 25, 11, 26, 34] (by decide +kernel) (by decide +kernel)
set_option maxRecDepth 20000 in
theorem gX4_keep_X2_allBlocks : GoodIn wsX4_keep (wsV RX4 161 RX2 yX2_allBlocks wsX2_allBlocks) := goodIn_app (goodIn_of _ (by decide +kernel)) ggX4_keep_X2_allBlocks
theorem dX4_keep_0 : decode cX4_keep 0 = .ok (.aload_n 0, 1) := by decide +kernel
theorem dX4_keep_1 : decode cX4_keep 1 = .ok (.getfield 12, 3) := by decide +kernel
theorem dX4_keep_4 : decode cX4_keep 4 = .ok (.aload_n 0, 1) := by decide +kernel
theorem dX4_keep_5 : decode cX4_keep 5 = .ok (.getfield 33, 3) := by decide +kernel
theorem dX4_keep_8 : decode cX4_keep 8 = .ok (.iconst 0, 1) := by decide +kernel
theorem dX4_keep_9 : decode cX4_keep 9 = .ok (.invokevirtual 157, 3) := by decide +kernel
theorem dX4_keep_12 : decode cX4_keep 12 = .ok (.aload_n 0, 1) := by decide +kernel
theorem dX4_keep_13 : decode cX4_keep 13 = .ok (.iconst 1, 1) := by decide +kernel
theorem dX4_keep_14 : decode cX4_keep 14 = .ok (.putfield 37, 3) := by decide +kernel
theorem dX4_keep_17 : decode cX4_keep 17 = .ok (.aload_n 0, 1) := by decide +kernel
theorem dX4_keep_18 : decode cX4_keep 18 = .ok (.getfield 12, 3) := by decide +kernel
theorem dX4_keep_21 : decode cX4_keep 21 = .ok (.invokevirtual 161, 3) := by decide +kernel
theorem dX4_keep_24 : decode cX4_keep 24 = .ok (.ireturn, 1) := by decide +kernel
set_option maxRecDepth 20000 in
theorem ggX4_restore_X0_record : GoodIn wsX4_restore wsX0_record := goodIn_r _ [9, 10, 11, 12, 13, 14, 15, 16, 17, 18, 19, 20, 21, 22, 23, 24, 131, 132, 133] (by decide +kernel) (by decide +kernel)
set_option maxRecDepth 20000 in
theorem gX4_restore_X0_record : GoodIn wsX4_restore (wsV RX4 62 RX0 yX0_record wsX0_record) := goodIn_app (goodIn_of _ (by decide +kernel)) ggX4_restore_X0_record
set_option maxRecDepth 20000 in
theorem ggX4_restore_X2_copyFrom : GoodIn wsX4_restore wsX2_copyFrom := goodIn_r _ [28, 24, 12, 13, 14, 15, 16, 17, 18, 133] (by decide +kernel) (by decide +kernel)
set_option maxRecDepth 20000 in
theorem gX4_restore_X2_copyFrom : GoodIn wsX4_restore (wsV RX4 164 RX2 yX2_copyFrom wsX2_copyFrom) := goodIn_app (goodIn_of _ (by decide +kernel)) ggX4_restore_X2_copyFrom
set_option maxRecDepth 20000 in
theorem ggX4_restore_X4_layOutAgain : GoodIn wsX4_restore wsX4_layOutAgain := goodIn_r _ [32, 33, 3, 34, 35, 36, 22, 37, 24, 38, 39, 40, 41, 42, 43, 44, 45, 46, 47, 48, 49, 50, 51, 52, 53, 54, 55, 56, 13, 57, 58, 59, 60, 61, 62, 63, 64, 65, 66, 67, 68, 69, 70, 71, 72, 73, 74, 75, 76, 77, 78, 79, 80, 81, 82, 83, 84, 85, 86, 87, 88, 89, 90, 91, 92, 93, 94, 95, 96, 97, 98, 99, 100, 101, 102, 103, 104, 105, 106, 107, 108, 109, 110, 111, 112, 113, 114, 115, 116, 117, 118, 124, 125, 126, 127, 128, 129, 130, 133, 134, 135, 136, 137, 138, 139, 140, 141, 142, 143, 144, 145, 146, 147] (by decide +kernel) (by decide +kernel)
set_option maxRecDepth 20000 in
theorem gX4_restore_X4_layOutAgain : GoodIn wsX4_restore (wsV RX4 70 RX4 yX4_layOutAgain wsX4_layOutAgain) := goodIn_app (goodIn_of _ (by decide +kernel)) ggX4_restore_X4_layOutAgain
set_option maxRecDepth 20000 in
theorem ggX4_restore_X2_allBlocks : GoodIn wsX4_restore wsX2_allBlocks := goodIn_r _ [122, 123, 53, 54, 22, 55, 24, 56, 13, 57, 133] (by decide +kernel) (by decide +kernel)
set_option maxRecDepth 20000 in
theorem gX4_restore_X2_allBlocks : GoodIn wsX4_restore (wsV RX4 161 RX2 yX2_allBlocks wsX2_allBlocks) := goodIn_app (goodIn_of _ (by decide +kernel)) ggX4_restore_X2_allBlocks
theorem dX4_restore_0 : decode cX4_restore 0 = .ok (.aload_n 0, 1) := by decide +kernel
theorem dX4_restore_1 : decode cX4_restore 1 = .ok (.getfield 37, 3) := by decide +kernel
theorem dX4_restore_4 : decode cX4_restore 4 = .ok (.ifCond .ne 6, 3) := by decide +kernel
theorem dX4_restore_7 : decode cX4_restore 7 = .ok (.bipush (-5), 2) := by decide +kernel
theorem dX4_restore_9 : decode cX4_restore 9 = .ok (.ireturn, 1) := by decide +kernel
theorem dX4_restore_10 : decode cX4_restore 10 = .ok (.aload_n 0, 1) := by decide +kernel
theorem dX4_restore_11 : decode cX4_restore 11 = .ok (.getfield 29, 3) := by decide +kernel
theorem dX4_restore_14 : decode cX4_restore 14 = .ok (.aload_n 0, 1) := by decide +kernel
theorem dX4_restore_15 : decode cX4_restore 15 = .ok (.getfield 12, 3) := by decide +kernel
theorem dX4_restore_18 : decode cX4_restore 18 = .ok (.invokevirtual 62, 3) := by decide +kernel
theorem dX4_restore_21 : decode cX4_restore 21 = .ok (.aload_n 0, 1) := by decide +kernel
theorem dX4_restore_22 : decode cX4_restore 22 = .ok (.getfield 12, 3) := by decide +kernel
theorem dX4_restore_25 : decode cX4_restore 25 = .ok (.aload_n 0, 1) := by decide +kernel
theorem dX4_restore_26 : decode cX4_restore 26 = .ok (.getfield 33, 3) := by decide +kernel
theorem dX4_restore_29 : decode cX4_restore 29 = .ok (.iconst 0, 1) := by decide +kernel
theorem dX4_restore_30 : decode cX4_restore 30 = .ok (.invokevirtual 164, 3) := by decide +kernel
theorem dX4_restore_33 : decode cX4_restore 33 = .ok (.aload_n 0, 1) := by decide +kernel
theorem dX4_restore_34 : decode cX4_restore 34 = .ok (.invokevirtual 70, 3) := by decide +kernel
theorem dX4_restore_37 : decode cX4_restore 37 = .ok (.aload_n 0, 1) := by decide +kernel
theorem dX4_restore_38 : decode cX4_restore 38 = .ok (.getfield 12, 3) := by decide +kernel
theorem dX4_restore_41 : decode cX4_restore 41 = .ok (.invokevirtual 161, 3) := by decide +kernel
theorem dX4_restore_44 : decode cX4_restore 44 = .ok (.ireturn, 1) := by decide +kernel
set_option maxRecDepth 20000 in
theorem ggX4_block_X2_hasBlock : GoodIn wsX4_block wsX2_hasBlock := goodIn_r _ [7, 8, 9, 10, 6, 11, 12, 13, 14, 15, 52] (by decide +kernel) (by decide +kernel)
set_option maxRecDepth 20000 in
theorem gX4_block_X2_hasBlock : GoodIn wsX4_block (wsV RX4 111 RX2 yX2_hasBlock wsX2_hasBlock) := goodIn_app (goodIn_of _ (by decide +kernel)) ggX4_block_X2_hasBlock
set_option maxRecDepth 20000 in
theorem ggX4_block_X2_fieldOf : GoodIn wsX4_block wsX2_fieldOf := goodIn_r _ [19, 12, 20, 21, 6, 22, 13, 14, 15, 23, 24, 25, 52] (by decide +kernel) (by decide +kernel)
set_option maxRecDepth 20000 in
theorem gX4_block_X2_fieldOf : GoodIn wsX4_block (wsV RX4 117 RX2 yX2_fieldOf wsX2_fieldOf) := goodIn_app (goodIn_of _ (by decide +kernel)) ggX4_block_X2_fieldOf
set_option maxRecDepth 20000 in
theorem ggX4_block_X1_setPartsOf : GoodIn wsX4_block wsX1_setPartsOf := goodIn_r _ [30, 31, 32, 33, 29, 34, 13, 14, 15, 53, 54, 55, 56, 57, 58, 59, 60, 61, 62, 63, 64, 65, 66] (by decide +kernel) (by decide +kernel)
set_option maxRecDepth 20000 in
theorem gX4_block_X1_setPartsOf : GoodIn wsX4_block (wsV RX4 167 RX1 yX1_setPartsOf wsX1_setPartsOf) := goodIn_app (goodIn_of _ (by decide +kernel)) ggX4_block_X1_setPartsOf
set_option maxRecDepth 20000 in
theorem ggX4_block_X1_cursorAhead : GoodIn wsX4_block wsX1_cursorAhead := goodIn_r _ [38, 39, 32, 33, 29, 34, 13, 14, 15, 53, 54, 55, 56, 57, 58, 59, 60, 61, 62, 63, 64, 65, 66] (by decide +kernel) (by decide +kernel)
set_option maxRecDepth 20000 in
theorem gX4_block_X1_cursorAhead : GoodIn wsX4_block (wsV RX4 170 RX1 yX1_cursorAhead wsX1_cursorAhead) := goodIn_app (goodIn_of _ (by decide +kernel)) ggX4_block_X1_cursorAhead
set_option maxRecDepth 20000 in
theorem ggX4_block_X1_cursorBehind : GoodIn wsX4_block wsX1_cursorBehind := goodIn_r _ [43, 44, 32, 33, 29, 34, 13, 14, 15, 53, 54, 55, 56, 57, 58, 59, 60, 61, 62, 63, 64, 65, 66] (by decide +kernel) (by decide +kernel)
set_option maxRecDepth 20000 in
theorem gX4_block_X1_cursorBehind : GoodIn wsX4_block (wsV RX4 173 RX1 yX1_cursorBehind wsX1_cursorBehind) := goodIn_app (goodIn_of _ (by decide +kernel)) ggX4_block_X1_cursorBehind
theorem dX4_block_0 : decode cX4_block 0 = .ok (.aload_n 0, 1) := by decide +kernel
theorem dX4_block_1 : decode cX4_block 1 = .ok (.getfield 12, 3) := by decide +kernel
theorem dX4_block_4 : decode cX4_block 4 = .ok (.iload_n 1, 1) := by decide +kernel
theorem dX4_block_5 : decode cX4_block 5 = .ok (.iload_n 2, 1) := by decide +kernel
theorem dX4_block_6 : decode cX4_block 6 = .ok (.invokevirtual 111, 3) := by decide +kernel
theorem dX4_block_9 : decode cX4_block 9 = .ok (.ifCond .ne 5, 3) := by decide +kernel
theorem dX4_block_12 : decode cX4_block 12 = .ok (.iconst (-1), 1) := by decide +kernel
theorem dX4_block_13 : decode cX4_block 13 = .ok (.ireturn, 1) := by decide +kernel
theorem dX4_block_14 : decode cX4_block 14 = .ok (.iload_n 3, 1) := by decide +kernel
theorem dX4_block_15 : decode cX4_block 15 = .ok (.ifCond .lt 9, 3) := by decide +kernel
theorem dX4_block_18 : decode cX4_block 18 = .ok (.iload_n 3, 1) := by decide +kernel
theorem dX4_block_19 : decode cX4_block 19 = .ok (.bipush 8, 2) := by decide +kernel
theorem dX4_block_21 : decode cX4_block 21 = .ok (.if_icmp .le 6, 3) := by decide +kernel
theorem dX4_block_24 : decode cX4_block 24 = .ok (.bipush (-2), 2) := by decide +kernel
theorem dX4_block_26 : decode cX4_block 26 = .ok (.ireturn, 1) := by decide +kernel
theorem dX4_block_27 : decode cX4_block 27 = .ok (.iload_n 3, 1) := by decide +kernel
theorem dX4_block_28 : decode cX4_block 28 = .ok (.bipush 6, 2) := by decide +kernel
theorem dX4_block_30 : decode cX4_block 30 = .ok (.if_icmp .ge 14, 3) := by decide +kernel
theorem dX4_block_33 : decode cX4_block 33 = .ok (.aload_n 0, 1) := by decide +kernel
theorem dX4_block_34 : decode cX4_block 34 = .ok (.getfield 12, 3) := by decide +kernel
theorem dX4_block_37 : decode cX4_block 37 = .ok (.iload_n 1, 1) := by decide +kernel
theorem dX4_block_38 : decode cX4_block 38 = .ok (.iload_n 2, 1) := by decide +kernel
theorem dX4_block_39 : decode cX4_block 39 = .ok (.iload_n 3, 1) := by decide +kernel
theorem dX4_block_40 : decode cX4_block 40 = .ok (.invokevirtual 117, 3) := by decide +kernel
theorem dX4_block_43 : decode cX4_block 43 = .ok (.ireturn, 1) := by decide +kernel
theorem dX4_block_44 : decode cX4_block 44 = .ok (.aload_n 0, 1) := by decide +kernel
theorem dX4_block_45 : decode cX4_block 45 = .ok (.getfield 19, 3) := by decide +kernel
theorem dX4_block_48 : decode cX4_block 48 = .ok (.iload_n 1, 1) := by decide +kernel
theorem dX4_block_49 : decode cX4_block 49 = .ok (.iload_n 2, 1) := by decide +kernel
theorem dX4_block_50 : decode cX4_block 50 = .ok (.invokevirtual 167, 3) := by decide +kernel
theorem dX4_block_53 : decode cX4_block 53 = .ok (.istore 4, 2) := by decide +kernel
theorem dX4_block_55 : decode cX4_block 55 = .ok (.iload_n 3, 1) := by decide +kernel
theorem dX4_block_56 : decode cX4_block 56 = .ok (.bipush 8, 2) := by decide +kernel
theorem dX4_block_58 : decode cX4_block 58 = .ok (.if_icmp .ne 6, 3) := by decide +kernel
theorem dX4_block_61 : decode cX4_block 61 = .ok (.iload 4, 2) := by decide +kernel
theorem dX4_block_63 : decode cX4_block 63 = .ok (.ireturn, 1) := by decide +kernel
theorem dX4_block_64 : decode cX4_block 64 = .ok (.iload 4, 2) := by decide +kernel
theorem dX4_block_66 : decode cX4_block 66 = .ok (.ifCond .ne 6, 3) := by decide +kernel
theorem dX4_block_69 : decode cX4_block 69 = .ok (.bipush (-5), 2) := by decide +kernel
theorem dX4_block_71 : decode cX4_block 71 = .ok (.ireturn, 1) := by decide +kernel
theorem dX4_block_72 : decode cX4_block 72 = .ok (.iload_n 3, 1) := by decide +kernel
theorem dX4_block_73 : decode cX4_block 73 = .ok (.bipush 6, 2) := by decide +kernel
theorem dX4_block_75 : decode cX4_block 75 = .ok (.if_icmp .ne 15, 3) := by decide +kernel
theorem dX4_block_78 : decode cX4_block 78 = .ok (.aload_n 0, 1) := by decide +kernel
theorem dX4_block_79 : decode cX4_block 79 = .ok (.getfield 19, 3) := by decide +kernel
theorem dX4_block_82 : decode cX4_block 82 = .ok (.iload_n 1, 1) := by decide +kernel
theorem dX4_block_83 : decode cX4_block 83 = .ok (.iload_n 2, 1) := by decide +kernel
theorem dX4_block_84 : decode cX4_block 84 = .ok (.invokevirtual 170, 3) := by decide +kernel
theorem dX4_block_87 : decode cX4_block 87 = .ok (.goto 12, 3) := by decide +kernel
theorem dX4_block_90 : decode cX4_block 90 = .ok (.aload_n 0, 1) := by decide +kernel
theorem dX4_block_91 : decode cX4_block 91 = .ok (.getfield 19, 3) := by decide +kernel
theorem dX4_block_94 : decode cX4_block 94 = .ok (.iload_n 1, 1) := by decide +kernel
theorem dX4_block_95 : decode cX4_block 95 = .ok (.iload_n 2, 1) := by decide +kernel
theorem dX4_block_96 : decode cX4_block 96 = .ok (.invokevirtual 173, 3) := by decide +kernel
theorem dX4_block_99 : decode cX4_block 99 = .ok (.ireturn, 1) := by decide +kernel
set_option maxRecDepth 20000 in
theorem ggX4_line_X4_isColumn : GoodIn wsX4_line wsX4_isColumn := goodIn_r _ [5] (by decide +kernel) (by decide +kernel)
set_option maxRecDepth 20000 in
theorem gX4_line_X4_isColumn : GoodIn wsX4_line (va_wsS RX4 73 yX4_isColumn wsX4_isColumn) := goodIn_app (goodIn_of _ (by decide +kernel)) ggX4_line_X4_isColumn
set_option maxRecDepth 20000 in
theorem ggX4_line_X1_linesOf : GoodIn wsX4_line wsX1_linesOf := goodIn_r _ [10, 11, 3, 4, 5, 52, 53, 54, 55, 56, 57, 58, 59, 60, 61, 62, 63, 64, 65] (by decide +kernel) (by decide +kernel)
set_option maxRecDepth 20000 in
theorem gX4_line_X1_linesOf : GoodIn wsX4_line (wsV RX4 176 RX1 yX1_linesOf wsX1_linesOf) := goodIn_app (goodIn_of _ (by decide +kernel)) ggX4_line_X1_linesOf
set_option maxRecDepth 20000 in
theorem ggX4_line_X1_baselineOf : GoodIn wsX4_line wsX1_baselineOf := goodIn_r _ [15, 16, 17, 18, 9, 19, 3, 4, 5, 52, 53, 54, 55, 56, 57, 58, 59, 60, 61, 62, 63, 64, 65] (by decide +kernel) (by decide +kernel)
set_option maxRecDepth 20000 in
theorem gX4_line_X1_baselineOf : GoodIn wsX4_line (wsV RX4 179 RX1 yX1_baselineOf wsX1_baselineOf) := goodIn_app (goodIn_of _ (by decide +kernel)) ggX4_line_X1_baselineOf
set_option maxRecDepth 20000 in
theorem ggX4_line_X1_driftAt : GoodIn wsX4_line wsX1_driftAt := goodIn_r _ [23, 24, 25, 26, 27, 9, 28, 29, 30, 31, 32, 33, 52, 53, 54, 55, 56, 57, 58, 59, 60, 61, 62, 63, 64, 65] (by decide +kernel) (by decide +kernel)
set_option maxRecDepth 20000 in
theorem gX4_line_X1_driftAt : GoodIn wsX4_line (wsV RX4 182 RX1 yX1_driftAt wsX1_driftAt) := goodIn_app (goodIn_of _ (by decide +kernel)) ggX4_line_X1_driftAt
set_option maxRecDepth 20000 in
theorem ggX4_line_X1_blockOfLine : GoodIn wsX4_line wsX1_blockOfLine := goodIn_r _ [37, 38, 17, 18, 9, 19, 3, 4, 5, 52, 53, 54, 55, 56, 57, 58, 59, 60, 61, 62, 63, 64, 65] (by decide +kernel) (by decide +kernel)
set_option maxRecDepth 20000 in
theorem gX4_line_X1_blockOfLine : GoodIn wsX4_line (wsV RX4 185 RX1 yX1_blockOfLine wsX1_blockOfLine) := goodIn_app (goodIn_of _ (by decide +kernel)) ggX4_line_X1_blockOfLine
set_option maxRecDepth 20000 in
theorem ggX4_line_X1_hasLineAt : GoodIn wsX4_line wsX1_hasLineAt := goodIn_r _ [42, 43, 7, 8, 9, 10, 11, 3, 4, 5, 44, 13, 14, 15, 16, 17, 18, 19, 52, 53, 54, 55, 56, 57, 58, 59, 60, 61, 62, 63, 64, 65] (by decide +kernel) (by decide +kernel)
set_option maxRecDepth 20000 in
theorem gX4_line_X1_hasLineAt : GoodIn wsX4_line (wsV RX4 188 RX1 yX1_hasLineAt wsX1_hasLineAt) := goodIn_app (goodIn_of _ (by decide +kernel)) ggX4_line_X1_hasLineAt
theorem dX4_line_0 : decode cX4_line 0 = .ok (.iload_n 1, 1) := by decide +kernel
theorem dX4_line_1 : decode cX4_line 1 = .ok (.invokestatic 73, 3) := by decide +kernel
theorem dX4_line_4 : decode cX4_line 4 = .ok (.ifCond .ne 5, 3) := by decide +kernel
theorem dX4_line_7 : decode cX4_line 7 = .ok (.iconst (-1), 1) := by decide +kernel
theorem dX4_line_8 : decode cX4_line 8 = .ok (.ireturn, 1) := by decide +kernel
theorem dX4_line_9 : decode cX4_line 9 = .ok (.iload_n 2, 1) := by decide +kernel
theorem dX4_line_10 : decode cX4_line 10 = .ok (.ifCond .lt 12, 3) := by decide +kernel
theorem dX4_line_13 : decode cX4_line 13 = .ok (.iload_n 3, 1) := by decide +kernel
theorem dX4_line_14 : decode cX4_line 14 = .ok (.ifCond .lt 8, 3) := by decide +kernel
theorem dX4_line_17 : decode cX4_line 17 = .ok (.iload_n 3, 1) := by decide +kernel
theorem dX4_line_18 : decode cX4_line 18 = .ok (.iconst 4, 1) := by decide +kernel
theorem dX4_line_19 : decode cX4_line 19 = .ok (.if_icmp .le 6, 3) := by decide +kernel
theorem dX4_line_22 : decode cX4_line 22 = .ok (.bipush (-2), 2) := by decide +kernel
theorem dX4_line_24 : decode cX4_line 24 = .ok (.ireturn, 1) := by decide +kernel
theorem dX4_line_25 : decode cX4_line 25 = .ok (.iload_n 2, 1) := by decide +kernel
theorem dX4_line_26 : decode cX4_line 26 = .ok (.aload_n 0, 1) := by decide +kernel
theorem dX4_line_27 : decode cX4_line 27 = .ok (.getfield 19, 3) := by decide +kernel
theorem dX4_line_30 : decode cX4_line 30 = .ok (.iload_n 1, 1) := by decide +kernel
theorem dX4_line_31 : decode cX4_line 31 = .ok (.invokevirtual 176, 3) := by decide +kernel
theorem dX4_line_34 : decode cX4_line 34 = .ok (.if_icmp .lt 6, 3) := by decide +kernel
theorem dX4_line_37 : decode cX4_line 37 = .ok (.bipush (-5), 2) := by decide +kernel
theorem dX4_line_39 : decode cX4_line 39 = .ok (.ireturn, 1) := by decide +kernel
theorem dX4_line_40 : decode cX4_line 40 = .ok (.aload_n 0, 1) := by decide +kernel
theorem dX4_line_41 : decode cX4_line 41 = .ok (.getfield 19, 3) := by decide +kernel
theorem dX4_line_44 : decode cX4_line 44 = .ok (.iload_n 1, 1) := by decide +kernel
theorem dX4_line_45 : decode cX4_line 45 = .ok (.iload_n 2, 1) := by decide +kernel
theorem dX4_line_46 : decode cX4_line 46 = .ok (.invokevirtual 179, 3) := by decide +kernel
theorem dX4_line_49 : decode cX4_line 49 = .ok (.istore 4, 2) := by decide +kernel
theorem dX4_line_51 : decode cX4_line 51 = .ok (.iload_n 3, 1) := by decide +kernel
theorem dX4_line_52 : decode cX4_line 52 = .ok (.tableswitch 76 0 3 #[32, 35, 45, 55], 32) := by decide +kernel
theorem dX4_line_84 : decode cX4_line 84 = .ok (.iload 4, 2) := by decide +kernel
theorem dX4_line_86 : decode cX4_line 86 = .ok (.ireturn, 1) := by decide +kernel
theorem dX4_line_87 : decode cX4_line 87 = .ok (.aload_n 0, 1) := by decide +kernel
theorem dX4_line_88 : decode cX4_line 88 = .ok (.getfield 19, 3) := by decide +kernel
theorem dX4_line_91 : decode cX4_line 91 = .ok (.iload 4, 2) := by decide +kernel
theorem dX4_line_93 : decode cX4_line 93 = .ok (.invokevirtual 182, 3) := by decide +kernel
theorem dX4_line_96 : decode cX4_line 96 = .ok (.ireturn, 1) := by decide +kernel
theorem dX4_line_97 : decode cX4_line 97 = .ok (.aload_n 0, 1) := by decide +kernel
theorem dX4_line_98 : decode cX4_line 98 = .ok (.getfield 19, 3) := by decide +kernel
theorem dX4_line_101 : decode cX4_line 101 = .ok (.iload_n 1, 1) := by decide +kernel
theorem dX4_line_102 : decode cX4_line 102 = .ok (.iload_n 2, 1) := by decide +kernel
theorem dX4_line_103 : decode cX4_line 103 = .ok (.invokevirtual 185, 3) := by decide +kernel
theorem dX4_line_106 : decode cX4_line 106 = .ok (.ireturn, 1) := by decide +kernel
theorem dX4_line_107 : decode cX4_line 107 = .ok (.aload_n 0, 1) := by decide +kernel
theorem dX4_line_108 : decode cX4_line 108 = .ok (.getfield 19, 3) := by decide +kernel
theorem dX4_line_111 : decode cX4_line 111 = .ok (.iload_n 1, 1) := by decide +kernel
theorem dX4_line_112 : decode cX4_line 112 = .ok (.iconst 1, 1) := by decide +kernel
theorem dX4_line_113 : decode cX4_line 113 = .ok (.isub, 1) := by decide +kernel
theorem dX4_line_114 : decode cX4_line 114 = .ok (.iload 4, 2) := by decide +kernel
theorem dX4_line_116 : decode cX4_line 116 = .ok (.invokevirtual 188, 3) := by decide +kernel
theorem dX4_line_119 : decode cX4_line 119 = .ok (.ifCond .eq 7, 3) := by decide +kernel
theorem dX4_line_122 : decode cX4_line 122 = .ok (.iconst 1, 1) := by decide +kernel
theorem dX4_line_123 : decode cX4_line 123 = .ok (.goto 4, 3) := by decide +kernel
theorem dX4_line_126 : decode cX4_line 126 = .ok (.iconst 0, 1) := by decide +kernel
theorem dX4_line_127 : decode cX4_line 127 = .ok (.ireturn, 1) := by decide +kernel
theorem dX4_line_128 : decode cX4_line 128 = .ok (.aload_n 0, 1) := by decide +kernel
theorem dX4_line_129 : decode cX4_line 129 = .ok (.getfield 19, 3) := by decide +kernel
theorem dX4_line_132 : decode cX4_line 132 = .ok (.iload_n 1, 1) := by decide +kernel
theorem dX4_line_133 : decode cX4_line 133 = .ok (.iconst 1, 1) := by decide +kernel
theorem dX4_line_134 : decode cX4_line 134 = .ok (.iadd, 1) := by decide +kernel
theorem dX4_line_135 : decode cX4_line 135 = .ok (.iload 4, 2) := by decide +kernel
theorem dX4_line_137 : decode cX4_line 137 = .ok (.invokevirtual 188, 3) := by decide +kernel
theorem dX4_line_140 : decode cX4_line 140 = .ok (.ifCond .eq 7, 3) := by decide +kernel
theorem dX4_line_143 : decode cX4_line 143 = .ok (.iconst 1, 1) := by decide +kernel
theorem dX4_line_144 : decode cX4_line 144 = .ok (.goto 4, 3) := by decide +kernel
theorem dX4_line_147 : decode cX4_line 147 = .ok (.iconst 0, 1) := by decide +kernel
theorem dX4_line_148 : decode cX4_line 148 = .ok (.ireturn, 1) := by decide +kernel
set_option maxRecDepth 20000 in
theorem ggX4_column_X4_isColumn : GoodIn wsX4_column wsX4_isColumn := goodIn_r _ [6] (by decide +kernel) (by decide +kernel)
set_option maxRecDepth 20000 in
theorem gX4_column_X4_isColumn : GoodIn wsX4_column (va_wsS RX4 73 yX4_isColumn wsX4_isColumn) := goodIn_app (goodIn_of _ (by decide +kernel)) ggX4_column_X4_isColumn
set_option maxRecDepth 20000 in
theorem ggX4_column_X2_blocksOf : GoodIn wsX4_column wsX2_blocksOf := goodIn_r _ [11, 12, 4, 5, 6, 117] (by decide +kernel) (by decide +kernel)
set_option maxRecDepth 20000 in
theorem gX4_column_X2_blocksOf : GoodIn wsX4_column (wsV RX4 81 RX2 yX2_blocksOf wsX2_blocksOf) := goodIn_app (goodIn_of _ (by decide +kernel)) ggX4_column_X2_blocksOf
set_option maxRecDepth 20000 in
theorem ggX4_column_X1_linesOf : GoodIn wsX4_column wsX1_linesOf := goodIn_r _ [17, 18, 4, 5, 6, 118, 119, 120, 121, 122, 123, 124, 125, 126, 127, 128, 129, 130, 131] (by decide +kernel) (by decide +kernel)
set_option maxRecDepth 20000 in
theorem gX4_column_X1_linesOf : GoodIn wsX4_column (wsV RX4 176 RX1 yX1_linesOf wsX1_linesOf) := goodIn_app (goodIn_of _ (by decide +kernel)) ggX4_column_X1_linesOf
set_option maxRecDepth 20000 in
theorem ggX4_column_X1_endOf : GoodIn wsX4_column wsX1_endOf := goodIn_r _ [22, 23, 4, 5, 6, 118, 119, 120, 121, 122, 123, 124, 125, 126, 127, 128, 129, 130, 131] (by decide +kernel) (by decide +kernel)
set_option maxRecDepth 20000 in
theorem gX4_column_X1_endOf : GoodIn wsX4_column (wsV RX4 125 RX1 yX1_endOf wsX1_endOf) := goodIn_app (goodIn_of _ (by decide +kernel)) ggX4_column_X1_endOf
set_option maxRecDepth 20000 in
theorem ggX4_column_X4_unsetLines : GoodIn wsX4_column wsX4_unsetLines := goodIn_r _ [27, 1, 2, 28, 29, 30, 10, 31, 32, 8, 9, 11, 12, 4, 5, 6, 33, 34, 35, 36, 37, 38, 39, 40, 41, 42, 13, 14, 15, 16, 17, 18, 110, 111, 112, 113, 114, 115, 116, 117, 118, 119, 120, 121, 122, 123, 124, 125, 126, 127, 128, 129, 130, 131] (by decide +kernel) (by decide +kernel)
set_option maxRecDepth 20000 in
theorem gX4_column_X4_unsetLines : GoodIn wsX4_column (wsV RX4 191 RX4 yX4_unsetLines wsX4_unsetLines) := goodIn_app (goodIn_of _ (by decide +kernel)) ggX4_column_X4_unsetLines
set_option maxRecDepth 20000 in
theorem ggX4_column_X4_unsetBlocks : GoodIn wsX4_column wsX4_unsetBlocks := goodIn_r _ [46, 1, 2, 7, 8, 9, 10, 11, 12, 4, 5, 6, 47, 48, 49, 16, 50, 51, 52, 53, 54, 110, 111, 112, 113, 114, 115, 116, 117, 118, 119, 120, 121, 122, 123, 124, 125, 126, 127, 128, 129, 130, 131] (by decide +kernel) (by decide +kernel)
set_option maxRecDepth 20000 in
theorem gX4_column_X4_unsetBlocks : GoodIn wsX4_column (wsV RX4 194 RX4 yX4_unsetBlocks wsX4_unsetBlocks) := goodIn_app (goodIn_of _ (by decide +kernel)) ggX4_column_X4_unsetBlocks
set_option maxRecDepth 20000 in
theorem ggX4_column_X1_sumOfDrifts : GoodIn wsX4_column wsX1_sumOfDrifts := goodIn_r _ [58, 59, 14, 15, 16, 17, 18, 4, 5, 6, 60, 61, 62, 63, 64, 65, 66, 67, 68, 69, 70, 71, 72, 73, 74, 75, 76, 77, 78, 79, 80, 81, 118, 119, 120, 121, 122, 123, 124, 125, 126, 127, 128, 129, 130, 131] (by decide +kernel) (by decide +kernel)
set_option maxRecDepth 20000 in
theorem gX4_column_X1_sumOfDrifts : GoodIn wsX4_column (wsV RX4 197 RX1 yX1_sumOfDrifts wsX1_sumOfDrifts) := goodIn_app (goodIn_of _ (by decide +kernel)) ggX4_column_X1_sumOfDrifts
set_option maxRecDepth 20000 in
theorem ggX4_column_X1_greatestDrift : GoodIn wsX4_column wsX1_greatestDrift := goodIn_r _ [85, 86, 87, 88, 89, 59, 14, 15, 16, 17, 18, 4, 5, 6, 60, 61, 62, 63, 64, 65, 66, 67, 68, 69, 70, 71, 72, 73, 74, 75, 76, 77, 78, 79, 80, 81, 118, 119, 120, 121, 122, 123, 124, 125, 126, 127, 128, 129, 130, 131] (by decide +kernel) (by decide +kernel)
set_option maxRecDepth 20000 in
theorem gX4_column_X1_greatestDrift : GoodIn wsX4_column (wsV RX4 200 RX1 yX1_greatestDrift wsX1_greatestDrift) := goodIn_app (goodIn_of _ (by decide +kernel)) ggX4_column_X1_greatestDrift
set_option maxRecDepth 20000 in
theorem ggX4_column_X1_linesOnGrid : GoodIn wsX4_column wsX1_linesOnGrid := goodIn_r _ [93, 59, 14, 15, 16, 17, 18, 4, 5, 6, 60, 61, 62, 63, 64, 65, 66, 67, 94, 95, 96, 97, 72, 68, 69, 70, 71, 73, 74, 75, 76, 77, 78, 79, 80, 81, 118, 119, 120, 121, 122, 123, 124, 125, 126, 127, 128, 129, 130, 131] (by decide +kernel) (by decide +kernel)
set_option maxRecDepth 20000 in
theorem gX4_column_X1_linesOnGrid : GoodIn wsX4_column (wsV RX4 203 RX1 yX1_linesOnGrid wsX1_linesOnGrid) := goodIn_app (goodIn_of _ (by decide +kernel)) ggX4_column_X1_linesOnGrid
set_option maxRecDepth 20000 in
theorem ggX4_column_X1_metLines : GoodIn wsX4_column wsX1_metLines := goodIn_r _ [101, 59, 14, 15, 16, 17, 18, 4, 5, 6, 60, 61, 62, 63, 64, 65, 66, 67, 102, 103, 104, 105, 118, 119, 120, 121, 122, 123, 124, 125, 126, 127, 128, 129, 130, 131] (by decide +kernel) (by decide +kernel)
set_option maxRecDepth 20000 in
theorem gX4_column_X1_metLines : GoodIn wsX4_column (wsV RX4 206 RX1 yX1_metLines wsX1_metLines) := goodIn_app (goodIn_of _ (by decide +kernel)) ggX4_column_X1_metLines
set_option maxRecDepth 20000 in
theorem ggX4_column_X2_settingOf : GoodIn wsX4_column wsX2_settingOf := goodIn_r _ [109, 12, 117] (by decide +kernel) (by decide +kernel)
set_option maxRecDepth 20000 in
theorem gX4_column_X2_settingOf : GoodIn wsX4_column (wsV RX4 48 RX2 yX2_settingOf wsX2_settingOf) := goodIn_app (goodIn_of _ (by decide +kernel)) ggX4_column_X2_settingOf
theorem dX4_column_0 : decode cX4_column 0 = .ok (.iload_n 1, 1) := by decide +kernel
theorem dX4_column_1 : decode cX4_column 1 = .ok (.invokestatic 73, 3) := by decide +kernel
theorem dX4_column_4 : decode cX4_column 4 = .ok (.ifCond .ne 5, 3) := by decide +kernel
theorem dX4_column_7 : decode cX4_column 7 = .ok (.iconst (-1), 1) := by decide +kernel
theorem dX4_column_8 : decode cX4_column 8 = .ok (.ireturn, 1) := by decide +kernel
theorem dX4_column_9 : decode cX4_column 9 = .ok (.iload_n 2, 1) := by decide +kernel
theorem dX4_column_10 : decode cX4_column 10 = .ok (.tableswitch 147 0 9 #[54, 63, 72, 81, 87, 93, 102, 111, 120, 129], 54) := by decide +kernel
theorem dX4_column_64 : decode cX4_column 64 = .ok (.aload_n 0, 1) := by decide +kernel
theorem dX4_column_65 : decode cX4_column 65 = .ok (.getfield 12, 3) := by decide +kernel
theorem dX4_column_68 : decode cX4_column 68 = .ok (.iload_n 1, 1) := by decide +kernel
theorem dX4_column_69 : decode cX4_column 69 = .ok (.invokevirtual 81, 3) := by decide +kernel
theorem dX4_column_72 : decode cX4_column 72 = .ok (.ireturn, 1) := by decide +kernel
theorem dX4_column_73 : decode cX4_column 73 = .ok (.aload_n 0, 1) := by decide +kernel
theorem dX4_column_74 : decode cX4_column 74 = .ok (.getfield 19, 3) := by decide +kernel
theorem dX4_column_77 : decode cX4_column 77 = .ok (.iload_n 1, 1) := by decide +kernel
theorem dX4_column_78 : decode cX4_column 78 = .ok (.invokevirtual 176, 3) := by decide +kernel
theorem dX4_column_81 : decode cX4_column 81 = .ok (.ireturn, 1) := by decide +kernel
theorem dX4_column_82 : decode cX4_column 82 = .ok (.aload_n 0, 1) := by decide +kernel
theorem dX4_column_83 : decode cX4_column 83 = .ok (.getfield 19, 3) := by decide +kernel
theorem dX4_column_86 : decode cX4_column 86 = .ok (.iload_n 1, 1) := by decide +kernel
theorem dX4_column_87 : decode cX4_column 87 = .ok (.invokevirtual 125, 3) := by decide +kernel
theorem dX4_column_90 : decode cX4_column 90 = .ok (.ireturn, 1) := by decide +kernel
theorem dX4_column_91 : decode cX4_column 91 = .ok (.aload_n 0, 1) := by decide +kernel
theorem dX4_column_92 : decode cX4_column 92 = .ok (.iload_n 1, 1) := by decide +kernel
theorem dX4_column_93 : decode cX4_column 93 = .ok (.invokevirtual 191, 3) := by decide +kernel
theorem dX4_column_96 : decode cX4_column 96 = .ok (.ireturn, 1) := by decide +kernel
theorem dX4_column_97 : decode cX4_column 97 = .ok (.aload_n 0, 1) := by decide +kernel
theorem dX4_column_98 : decode cX4_column 98 = .ok (.iload_n 1, 1) := by decide +kernel
theorem dX4_column_99 : decode cX4_column 99 = .ok (.invokevirtual 194, 3) := by decide +kernel
theorem dX4_column_102 : decode cX4_column 102 = .ok (.ireturn, 1) := by decide +kernel
theorem dX4_column_103 : decode cX4_column 103 = .ok (.aload_n 0, 1) := by decide +kernel
theorem dX4_column_104 : decode cX4_column 104 = .ok (.getfield 19, 3) := by decide +kernel
theorem dX4_column_107 : decode cX4_column 107 = .ok (.iload_n 1, 1) := by decide +kernel
theorem dX4_column_108 : decode cX4_column 108 = .ok (.invokevirtual 197, 3) := by decide +kernel
theorem dX4_column_111 : decode cX4_column 111 = .ok (.ireturn, 1) := by decide +kernel
theorem dX4_column_112 : decode cX4_column 112 = .ok (.aload_n 0, 1) := by decide +kernel
theorem dX4_column_113 : decode cX4_column 113 = .ok (.getfield 19, 3) := by decide +kernel
theorem dX4_column_116 : decode cX4_column 116 = .ok (.iload_n 1, 1) := by decide +kernel
theorem dX4_column_117 : decode cX4_column 117 = .ok (.invokevirtual 200, 3) := by decide +kernel
theorem dX4_column_120 : decode cX4_column 120 = .ok (.ireturn, 1) := by decide +kernel
theorem dX4_column_121 : decode cX4_column 121 = .ok (.aload_n 0, 1) := by decide +kernel
theorem dX4_column_122 : decode cX4_column 122 = .ok (.getfield 19, 3) := by decide +kernel
theorem dX4_column_125 : decode cX4_column 125 = .ok (.iload_n 1, 1) := by decide +kernel
theorem dX4_column_126 : decode cX4_column 126 = .ok (.invokevirtual 203, 3) := by decide +kernel
theorem dX4_column_129 : decode cX4_column 129 = .ok (.ireturn, 1) := by decide +kernel
theorem dX4_column_130 : decode cX4_column 130 = .ok (.aload_n 0, 1) := by decide +kernel
theorem dX4_column_131 : decode cX4_column 131 = .ok (.getfield 19, 3) := by decide +kernel
theorem dX4_column_134 : decode cX4_column 134 = .ok (.iload_n 1, 1) := by decide +kernel
theorem dX4_column_135 : decode cX4_column 135 = .ok (.invokevirtual 206, 3) := by decide +kernel
theorem dX4_column_138 : decode cX4_column 138 = .ok (.ireturn, 1) := by decide +kernel
theorem dX4_column_139 : decode cX4_column 139 = .ok (.aload_n 0, 1) := by decide +kernel
theorem dX4_column_140 : decode cX4_column 140 = .ok (.getfield 12, 3) := by decide +kernel
theorem dX4_column_143 : decode cX4_column 143 = .ok (.iconst 0, 1) := by decide +kernel
theorem dX4_column_144 : decode cX4_column 144 = .ok (.invokevirtual 48, 3) := by decide +kernel
theorem dX4_column_147 : decode cX4_column 147 = .ok (.aload_n 0, 1) := by decide +kernel
theorem dX4_column_148 : decode cX4_column 148 = .ok (.getfield 19, 3) := by decide +kernel
theorem dX4_column_151 : decode cX4_column 151 = .ok (.iload_n 1, 1) := by decide +kernel
theorem dX4_column_152 : decode cX4_column 152 = .ok (.invokevirtual 125, 3) := by decide +kernel
theorem dX4_column_155 : decode cX4_column 155 = .ok (.isub, 1) := by decide +kernel
theorem dX4_column_156 : decode cX4_column 156 = .ok (.ireturn, 1) := by decide +kernel
theorem dX4_column_157 : decode cX4_column 157 = .ok (.bipush (-2), 2) := by decide +kernel
theorem dX4_column_159 : decode cX4_column 159 = .ok (.ireturn, 1) := by decide +kernel
set_option maxRecDepth 20000 in
theorem ggX4_shared_X1_sharedBaseline : GoodIn wsX4_shared wsX1_sharedBaseline := goodIn_r _ [6, 7, 8, 9, 10, 5, 11, 12, 13, 14, 15, 16, 17, 18, 19, 20, 21, 22, 23, 24, 25, 26, 27, 28, 29, 30, 31, 32, 33, 34, 35, 51, 52, 53, 54, 55, 56, 57, 58, 59, 60, 61, 62, 63, 64] (by decide +kernel) (by decide +kernel)
set_option maxRecDepth 20000 in
theorem gX4_shared_X1_sharedBaseline : GoodIn wsX4_shared (wsV RX4 209 RX1 yX1_sharedBaseline wsX1_sharedBaseline) := goodIn_app (goodIn_of _ (by decide +kernel)) ggX4_shared_X1_sharedBaseline
set_option maxRecDepth 20000 in
theorem ggX4_shared_X1_columnsAt : GoodIn wsX4_shared wsX1_columnsAt := goodIn_r _ [39, 40, 41, 42, 5, 43, 16, 17, 18, 19, 20, 21, 22, 23, 24, 25, 26, 27, 28, 29, 30, 31, 51, 52, 53, 54, 55, 56, 57, 58, 59, 60, 61, 62, 63, 64] (by decide +kernel) (by decide +kernel)
set_option maxRecDepth 20000 in
theorem gX4_shared_X1_columnsAt : GoodIn wsX4_shared (wsV RX4 212 RX1 yX1_columnsAt wsX1_columnsAt) := goodIn_app (goodIn_of _ (by decide +kernel)) ggX4_shared_X1_columnsAt
theorem dX4_shared_0 : decode cX4_shared 0 = .ok (.iload_n 1, 1) := by decide +kernel
theorem dX4_shared_1 : decode cX4_shared 1 = .ok (.ifCond .lt 12, 3) := by decide +kernel
theorem dX4_shared_4 : decode cX4_shared 4 = .ok (.iload_n 2, 1) := by decide +kernel
theorem dX4_shared_5 : decode cX4_shared 5 = .ok (.ifCond .lt 8, 3) := by decide +kernel
theorem dX4_shared_8 : decode cX4_shared 8 = .ok (.iload_n 2, 1) := by decide +kernel
theorem dX4_shared_9 : decode cX4_shared 9 = .ok (.iconst 1, 1) := by decide +kernel
theorem dX4_shared_10 : decode cX4_shared 10 = .ok (.if_icmp .le 6, 3) := by decide +kernel
theorem dX4_shared_13 : decode cX4_shared 13 = .ok (.bipush (-2), 2) := by decide +kernel
theorem dX4_shared_15 : decode cX4_shared 15 = .ok (.ireturn, 1) := by decide +kernel
theorem dX4_shared_16 : decode cX4_shared 16 = .ok (.aload_n 0, 1) := by decide +kernel
theorem dX4_shared_17 : decode cX4_shared 17 = .ok (.getfield 19, 3) := by decide +kernel
theorem dX4_shared_20 : decode cX4_shared 20 = .ok (.iload_n 1, 1) := by decide +kernel
theorem dX4_shared_21 : decode cX4_shared 21 = .ok (.invokevirtual 209, 3) := by decide +kernel
theorem dX4_shared_24 : decode cX4_shared 24 = .ok (.istore_n 3, 1) := by decide +kernel
theorem dX4_shared_25 : decode cX4_shared 25 = .ok (.iload_n 3, 1) := by decide +kernel
theorem dX4_shared_26 : decode cX4_shared 26 = .ok (.bipush (-5), 2) := by decide +kernel
theorem dX4_shared_28 : decode cX4_shared 28 = .ok (.if_icmp .eq 7, 3) := by decide +kernel
theorem dX4_shared_31 : decode cX4_shared 31 = .ok (.iload_n 2, 1) := by decide +kernel
theorem dX4_shared_32 : decode cX4_shared 32 = .ok (.ifCond .ne 5, 3) := by decide +kernel
theorem dX4_shared_35 : decode cX4_shared 35 = .ok (.iload_n 3, 1) := by decide +kernel
theorem dX4_shared_36 : decode cX4_shared 36 = .ok (.ireturn, 1) := by decide +kernel
theorem dX4_shared_37 : decode cX4_shared 37 = .ok (.aload_n 0, 1) := by decide +kernel
theorem dX4_shared_38 : decode cX4_shared 38 = .ok (.getfield 19, 3) := by decide +kernel
theorem dX4_shared_41 : decode cX4_shared 41 = .ok (.iload_n 3, 1) := by decide +kernel
theorem dX4_shared_42 : decode cX4_shared 42 = .ok (.invokevirtual 212, 3) := by decide +kernel
theorem dX4_shared_45 : decode cX4_shared 45 = .ok (.ireturn, 1) := by decide +kernel
set_option maxRecDepth 20000 in
theorem ggX4_ifStep_X1_layOut : GoodIn wsX4_ifStep wsX1_layOut := goodIn_r _ [7, 8, 9, 10, 11, 12, 13, 14, 15, 16, 17, 18, 19, 20, 21, 22, 23, 24, 25, 26, 27, 28, 29, 30, 31, 6, 32, 33, 34, 35, 36, 37, 38, 39, 40, 41, 42, 43, 44, 45, 46, 47, 48, 49, 50, 51, 52, 53, 54, 55, 56, 57, 58, 59, 60, 61, 62, 63, 64, 65, 66, 67, 68, 69, 70, 71, 72, 73, 74, 75, 76, 77, 78, 79, 80, 81, 82, 83, 84, 85, 86, 87, 88, 89, 129, 130, 131, 132, 133, 134, 135, 136, 137, 138, 139, 140, 141, 142, 143] (by decide +kernel) (by decide +kernel)
set_option maxRecDepth 20000 in
theorem gX4_ifStep_X1_layOut : GoodIn wsX4_ifStep (wsV RX4 52 RX1 yX1_layOut wsX1_layOut) := goodIn_app (goodIn_of _ (by decide +kernel)) ggX4_ifStep_X1_layOut
set_option maxRecDepth 20000 in
theorem ggX4_ifStep_X1_sumOfAllDrifts : GoodIn wsX4_ifStep wsX1_sumOfAllDrifts := goodIn_r _ [93, 94, 95, 96, 6, 97, 75, 76, 77, 78, 13, 26, 27, 28, 98, 99, 100, 101, 73, 79, 80, 81, 102, 103, 104, 105, 9, 57, 58, 59, 60, 11, 61, 62, 63, 64, 129, 130, 131, 132, 133, 134, 135, 136, 137, 138, 139, 140, 141, 142] (by decide +kernel) (by decide +kernel)
set_option maxRecDepth 20000 in
theorem gX4_ifStep_X1_sumOfAllDrifts : GoodIn wsX4_ifStep (wsV RX4 215 RX1 yX1_sumOfAllDrifts wsX1_sumOfAllDrifts) := goodIn_app (goodIn_of _ (by decide +kernel)) ggX4_ifStep_X1_sumOfAllDrifts
set_option maxRecDepth 20000 in
theorem ggX4_ifStep_X1_allLines : GoodIn wsX4_ifStep wsX1_allLines := goodIn_r _ [109, 75, 76, 77, 6, 78, 13, 26, 27, 28, 129, 130, 131, 132, 133, 134, 135, 136, 137, 138, 139, 140, 141, 142] (by decide +kernel) (by decide +kernel)
set_option maxRecDepth 20000 in
theorem gX4_ifStep_X1_allLines : GoodIn wsX4_ifStep (wsV RX4 218 RX1 yX1_allLines wsX1_allLines) := goodIn_app (goodIn_of _ (by decide +kernel)) ggX4_ifStep_X1_allLines
set_option maxRecDepth 20000 in
theorem ggX4_ifStep_X1_allLinesOnGrid : GoodIn wsX4_ifStep wsX1_allLinesOnGrid := goodIn_r _ [113, 114, 115, 116, 6, 117, 75, 76, 77, 78, 13, 26, 27, 28, 98, 99, 100, 101, 73, 79, 80, 81, 118, 119, 120, 121, 9, 102, 103, 104, 105, 57, 58, 59, 60, 11, 61, 62, 63, 64, 129, 130, 131, 132, 133, 134, 135, 136, 137, 138, 139, 140, 141, 142] (by decide +kernel) (by decide +kernel)
set_option maxRecDepth 20000 in
theorem gX4_ifStep_X1_allLinesOnGrid : GoodIn wsX4_ifStep (wsV RX4 221 RX1 yX1_allLinesOnGrid wsX1_allLinesOnGrid) := goodIn_app (goodIn_of _ (by decide +kernel)) ggX4_ifStep_X1_allLinesOnGrid
theorem dX4_ifStep_0 : decode cX4_ifStep 0 = .ok (.iload_n 1, 1) := by decide +kernel
theorem dX4_ifStep_1 : decode cX4_ifStep 1 = .ok (.bipush 20, 2) := by decide +kernel
theorem dX4_ifStep_3 : decode cX4_ifStep 3 = .ok (.if_icmp .lt 19, 3) := by decide +kernel
theorem dX4_ifStep_6 : decode cX4_ifStep 6 = .ok (.iload_n 1, 1) := by decide +kernel
theorem dX4_ifStep_7 : decode cX4_ifStep 7 = .ok (.sipush 500, 3) := by decide +kernel
theorem dX4_ifStep_10 : decode cX4_ifStep 10 = .ok (.if_icmp .gt 12, 3) := by decide +kernel
theorem dX4_ifStep_13 : decode cX4_ifStep 13 = .ok (.iload_n 2, 1) := by decide +kernel
theorem dX4_ifStep_14 : decode cX4_ifStep 14 = .ok (.ifCond .lt 8, 3) := by decide +kernel
theorem dX4_ifStep_17 : decode cX4_ifStep 17 = .ok (.iload_n 2, 1) := by decide +kernel
theorem dX4_ifStep_18 : decode cX4_ifStep 18 = .ok (.iconst 2, 1) := by decide +kernel
theorem dX4_ifStep_19 : decode cX4_ifStep 19 = .ok (.if_icmp .le 6, 3) := by decide +kernel
theorem dX4_ifStep_22 : decode cX4_ifStep 22 = .ok (.bipush (-2), 2) := by decide +kernel
theorem dX4_ifStep_24 : decode cX4_ifStep 24 = .ok (.ireturn, 1) := by decide +kernel
theorem dX4_ifStep_25 : decode cX4_ifStep 25 = .ok (.aload_n 0, 1) := by decide +kernel
theorem dX4_ifStep_26 : decode cX4_ifStep 26 = .ok (.getfield 23, 3) := by decide +kernel
theorem dX4_ifStep_29 : decode cX4_ifStep 29 = .ok (.aload_n 0, 1) := by decide +kernel
theorem dX4_ifStep_30 : decode cX4_ifStep 30 = .ok (.getfield 12, 3) := by decide +kernel
theorem dX4_ifStep_33 : decode cX4_ifStep 33 = .ok (.iload_n 1, 1) := by decide +kernel
theorem dX4_ifStep_34 : decode cX4_ifStep 34 = .ok (.invokevirtual 52, 3) := by decide +kernel
theorem dX4_ifStep_37 : decode cX4_ifStep 37 = .ok (.iload_n 2, 1) := by decide +kernel
theorem dX4_ifStep_38 : decode cX4_ifStep 38 = .ok (.lookupswitch 42 #[(0, 26), (1, 34)], 26) := by decide +kernel
theorem dX4_ifStep_64 : decode cX4_ifStep 64 = .ok (.aload_n 0, 1) := by decide +kernel
theorem dX4_ifStep_65 : decode cX4_ifStep 65 = .ok (.getfield 23, 3) := by decide +kernel
theorem dX4_ifStep_68 : decode cX4_ifStep 68 = .ok (.invokevirtual 215, 3) := by decide +kernel
theorem dX4_ifStep_71 : decode cX4_ifStep 71 = .ok (.ireturn, 1) := by decide +kernel
theorem dX4_ifStep_72 : decode cX4_ifStep 72 = .ok (.aload_n 0, 1) := by decide +kernel
theorem dX4_ifStep_73 : decode cX4_ifStep 73 = .ok (.getfield 23, 3) := by decide +kernel
theorem dX4_ifStep_76 : decode cX4_ifStep 76 = .ok (.invokevirtual 218, 3) := by decide +kernel
theorem dX4_ifStep_79 : decode cX4_ifStep 79 = .ok (.ireturn, 1) := by decide +kernel
theorem dX4_ifStep_80 : decode cX4_ifStep 80 = .ok (.aload_n 0, 1) := by decide +kernel
theorem dX4_ifStep_81 : decode cX4_ifStep 81 = .ok (.getfield 23, 3) := by decide +kernel
theorem dX4_ifStep_84 : decode cX4_ifStep 84 = .ok (.invokevirtual 221, 3) := by decide +kernel
theorem dX4_ifStep_87 : decode cX4_ifStep 87 = .ok (.ireturn, 1) := by decide +kernel
set_option maxRecDepth 20000 in
theorem ggX4_bestStep_X4_sumOfDriftsWith : GoodIn wsX4_bestStep wsX4_sumOfDriftsWith := goodIn_r _ [5, 6, 7, 8, 9, 10, 11, 12, 13, 14, 15, 16, 17, 18, 19, 20, 21, 22, 23, 24, 25, 26, 27, 28, 29, 30, 31, 4, 32, 33, 34, 35, 36, 37, 38, 39, 40, 41, 42, 43, 44, 45, 46, 47, 48, 49, 50, 51, 52, 53, 54, 55, 56, 57, 58, 59, 60, 61, 62, 63, 64, 65, 66, 67, 68, 69, 70, 71, 72, 73, 74, 75, 76, 77, 78, 79, 80, 81, 82, 83, 84, 85, 86, 87, 88, 89, 90, 91, 92, 93, 94, 95, 96, 97, 98, 99, 100, 101, 102, 103, 104, 105, 106, 107, 108, 109, 110, 111, 112, 113, 114, 115, 116, 117, 118, 119, 120, 121, 122, 123, 124, 125, 126, 127, 128, 129, 130, 131] (by decide +kernel) (by decide +kernel)
set_option maxRecDepth 20000 in
theorem gX4_bestStep_X4_sumOfDriftsWith : GoodIn wsX4_bestStep (wsV RX4 224 RX4 yX4_sumOfDriftsWith wsX4_sumOfDriftsWith) := goodIn_app (goodIn_of _ (by decide +kernel)) ggX4_bestStep_X4_sumOfDriftsWith
theorem dX4_bestStep_0 : decode cX4_bestStep 0 = .ok (.iload_n 1, 1) := by decide +kernel
theorem dX4_bestStep_1 : decode cX4_bestStep 1 = .ok (.bipush 20, 2) := by decide +kernel
theorem dX4_bestStep_3 : decode cX4_bestStep 3 = .ok (.if_icmp .lt 15, 3) := by decide +kernel
theorem dX4_bestStep_6 : decode cX4_bestStep 6 = .ok (.iload_n 2, 1) := by decide +kernel
theorem dX4_bestStep_7 : decode cX4_bestStep 7 = .ok (.iload_n 1, 1) := by decide +kernel
theorem dX4_bestStep_8 : decode cX4_bestStep 8 = .ok (.if_icmp .lt 10, 3) := by decide +kernel
theorem dX4_bestStep_11 : decode cX4_bestStep 11 = .ok (.iload_n 2, 1) := by decide +kernel
theorem dX4_bestStep_12 : decode cX4_bestStep 12 = .ok (.sipush 500, 3) := by decide +kernel
theorem dX4_bestStep_15 : decode cX4_bestStep 15 = .ok (.if_icmp .le 6, 3) := by decide +kernel
theorem dX4_bestStep_18 : decode cX4_bestStep 18 = .ok (.bipush (-2), 2) := by decide +kernel
theorem dX4_bestStep_20 : decode cX4_bestStep 20 = .ok (.ireturn, 1) := by decide +kernel
theorem dX4_bestStep_21 : decode cX4_bestStep 21 = .ok (.iload_n 2, 1) := by decide +kernel
theorem dX4_bestStep_22 : decode cX4_bestStep 22 = .ok (.istore_n 3, 1) := by decide +kernel
theorem dX4_bestStep_23 : decode cX4_bestStep 23 = .ok (.aload_n 0, 1) := by decide +kernel
theorem dX4_bestStep_24 : decode cX4_bestStep 24 = .ok (.iload_n 2, 1) := by decide +kernel
theorem dX4_bestStep_25 : decode cX4_bestStep 25 = .ok (.invokevirtual 224, 3) := by decide +kernel
theorem dX4_bestStep_28 : decode cX4_bestStep 28 = .ok (.istore 4, 2) := by decide +kernel
theorem dX4_bestStep_30 : decode cX4_bestStep 30 = .ok (.iload_n 2, 1) := by decide +kernel
theorem dX4_bestStep_31 : decode cX4_bestStep 31 = .ok (.iconst 1, 1) := by decide +kernel
theorem dX4_bestStep_32 : decode cX4_bestStep 32 = .ok (.isub, 1) := by decide +kernel
theorem dX4_bestStep_33 : decode cX4_bestStep 33 = .ok (.istore 5, 2) := by decide +kernel
theorem dX4_bestStep_35 : decode cX4_bestStep 35 = .ok (.iload 5, 2) := by decide +kernel
theorem dX4_bestStep_37 : decode cX4_bestStep 37 = .ok (.iload_n 1, 1) := by decide +kernel
theorem dX4_bestStep_38 : decode cX4_bestStep 38 = .ok (.if_icmp .lt 36, 3) := by decide +kernel
theorem dX4_bestStep_41 : decode cX4_bestStep 41 = .ok (.iload 4, 2) := by decide +kernel
theorem dX4_bestStep_43 : decode cX4_bestStep 43 = .ok (.ifCond .le 31, 3) := by decide +kernel
theorem dX4_bestStep_46 : decode cX4_bestStep 46 = .ok (.aload_n 0, 1) := by decide +kernel
theorem dX4_bestStep_47 : decode cX4_bestStep 47 = .ok (.iload 5, 2) := by decide +kernel
theorem dX4_bestStep_49 : decode cX4_bestStep 49 = .ok (.invokevirtual 224, 3) := by decide +kernel
theorem dX4_bestStep_52 : decode cX4_bestStep 52 = .ok (.istore 6, 2) := by decide +kernel
theorem dX4_bestStep_54 : decode cX4_bestStep 54 = .ok (.iload 6, 2) := by decide +kernel
theorem dX4_bestStep_56 : decode cX4_bestStep 56 = .ok (.iload 4, 2) := by decide +kernel
theorem dX4_bestStep_58 : decode cX4_bestStep 58 = .ok (.if_icmp .ge 10, 3) := by decide +kernel
theorem dX4_bestStep_61 : decode cX4_bestStep 61 = .ok (.iload 6, 2) := by decide +kernel
theorem dX4_bestStep_63 : decode cX4_bestStep 63 = .ok (.istore 4, 2) := by decide +kernel
theorem dX4_bestStep_65 : decode cX4_bestStep 65 = .ok (.iload 5, 2) := by decide +kernel
theorem dX4_bestStep_67 : decode cX4_bestStep 67 = .ok (.istore_n 3, 1) := by decide +kernel
theorem dX4_bestStep_68 : decode cX4_bestStep 68 = .ok (.iinc 5 (-1), 3) := by decide +kernel
theorem dX4_bestStep_71 : decode cX4_bestStep 71 = .ok (.goto (-36), 3) := by decide +kernel
theorem dX4_bestStep_74 : decode cX4_bestStep 74 = .ok (.iload_n 3, 1) := by decide +kernel
theorem dX4_bestStep_75 : decode cX4_bestStep 75 = .ok (.ireturn, 1) := by decide +kernel
set_option maxRecDepth 20000 in
theorem ggX4_count_X2_allBlocks : GoodIn wsX4_count wsX2_allBlocks := goodIn_r _ [9, 10, 11, 12, 8, 13, 14, 15, 16, 17, 131] (by decide +kernel) (by decide +kernel)
set_option maxRecDepth 20000 in
theorem gX4_count_X2_allBlocks : GoodIn wsX4_count (wsV RX4 161 RX2 yX2_allBlocks wsX2_allBlocks) := goodIn_app (goodIn_of _ (by decide +kernel)) ggX4_count_X2_allBlocks
set_option maxRecDepth 20000 in
theorem ggX4_count_X1_allLines : GoodIn wsX4_count wsX1_allLines := goodIn_r _ [22, 23, 24, 25, 21, 26, 27, 15, 16, 17, 132, 133, 134, 135, 136, 137, 138, 139, 140, 141, 142, 143, 144, 145] (by decide +kernel) (by decide +kernel)
set_option maxRecDepth 20000 in
theorem gX4_count_X1_allLines : GoodIn wsX4_count (wsV RX4 218 RX1 yX1_allLines wsX1_allLines) := goodIn_app (goodIn_of _ (by decide +kernel)) ggX4_count_X1_allLines
set_option maxRecDepth 20000 in
theorem ggX4_count_X1_sumOfAllDrifts : GoodIn wsX4_count wsX1_sumOfAllDrifts := goodIn_r _ [31, 32, 33, 34, 21, 35, 23, 24, 25, 26, 27, 15, 16, 17, 36, 37, 38, 39, 40, 41, 42, 43, 44, 45, 46, 47, 48, 49, 50, 51, 52, 53, 54, 55, 56, 57, 132, 133, 134, 135, 136, 137, 138, 139, 140, 141, 142, 143, 144, 145] (by decide +kernel) (by decide +kernel)
set_option maxRecDepth 20000 in
theorem gX4_count_X1_sumOfAllDrifts : GoodIn wsX4_count (wsV RX4 215 RX1 yX1_sumOfAllDrifts wsX1_sumOfAllDrifts) := goodIn_app (goodIn_of _ (by decide +kernel)) ggX4_count_X1_sumOfAllDrifts
set_option maxRecDepth 20000 in
theorem ggX4_count_X4_allUnsetLines : GoodIn wsX4_count wsX4_allUnsetLines := goodIn_r _ [61, 62, 63, 64, 16, 65, 1, 2, 66, 67, 68, 8, 69, 10, 11, 12, 13, 14, 15, 17, 70, 71, 72, 73, 74, 75, 76, 77, 78, 79, 80, 24, 25, 21, 26, 27, 124, 125, 126, 127, 128, 129, 130, 131, 132, 133, 134, 135, 136, 137, 138, 139, 140, 141, 142, 143, 144, 145] (by decide +kernel) (by decide +kernel)
set_option maxRecDepth 20000 in
theorem gX4_count_X4_allUnsetLines : GoodIn wsX4_count (wsV RX4 227 RX4 yX4_allUnsetLines wsX4_allUnsetLines) := goodIn_app (goodIn_of _ (by decide +kernel)) ggX4_count_X4_allUnsetLines
set_option maxRecDepth 20000 in
theorem ggX4_count_X1_overflowingColumns : GoodIn wsX4_count wsX1_overflowingColumns := goodIn_r _ [84, 85, 86, 87, 21, 88, 89, 15, 16, 17, 132, 133, 134, 135, 136, 137, 138, 139, 140, 141, 142, 143, 144, 145] (by decide +kernel) (by decide +kernel)
set_option maxRecDepth 20000 in
theorem gX4_count_X1_overflowingColumns : GoodIn wsX4_count (wsV RX4 230 RX1 yX1_overflowingColumns wsX1_overflowingColumns) := goodIn_app (goodIn_of _ (by decide +kernel)) ggX4_count_X1_overflowingColumns
set_option maxRecDepth 20000 in
theorem ggX4_count_X1_greatestEnd : GoodIn wsX4_count wsX1_greatestEnd := goodIn_r _ [93, 94, 95, 96, 97, 98, 99, 100, 21, 101, 102, 15, 16, 17, 132, 133, 134, 135, 136, 137, 138, 139, 140, 141, 142, 143, 144, 145] (by decide +kernel) (by decide +kernel)
set_option maxRecDepth 20000 in
theorem gX4_count_X1_greatestEnd : GoodIn wsX4_count (wsV RX4 233 RX1 yX1_greatestEnd wsX1_greatestEnd) := goodIn_app (goodIn_of _ (by decide +kernel)) ggX4_count_X1_greatestEnd
set_option maxRecDepth 20000 in
theorem ggX4_count_X1_baselinesOnPage : GoodIn wsX4_count wsX1_baselinesOnPage := goodIn_r _ [106, 48, 107, 49, 50, 51, 21, 52, 53, 132, 133, 134, 135, 136, 137, 138, 139, 140, 141, 142, 143, 144, 145] (by decide +kernel) (by decide +kernel)
set_option maxRecDepth 20000 in
theorem gX4_count_X1_baselinesOnPage : GoodIn wsX4_count (wsV RX4 236 RX1 yX1_baselinesOnPage wsX1_baselinesOnPage) := goodIn_app (goodIn_of _ (by decide +kernel)) ggX4_count_X1_baselinesOnPage
set_option maxRecDepth 20000 in
theorem ggX4_count_X0_states : GoodIn wsX4_count wsX0_states := goodIn_r _ [112, 113, 146, 147] (by decide +kernel) (by decide +kernel)
set_option maxRecDepth 20000 in
theorem gX4_count_X0_states : GoodIn wsX4_count (wsV RX4 151 RX0 yX0_states wsX0_states) := goodIn_app (goodIn_of _ (by decide +kernel)) ggX4_count_X0_states
set_option maxRecDepth 20000 in
theorem ggX4_count_X3_length : GoodIn wsX4_count wsX3_length := goodIn_r _ [118, 119, 148, 149, 150, 151, 152, 153, 154] (by decide +kernel) (by decide +kernel)
set_option maxRecDepth 20000 in
theorem gX4_count_X3_length : GoodIn wsX4_count (wsV RX4 145 RX3 yX3_length wsX3_length) := goodIn_app (goodIn_of _ (by decide +kernel)) ggX4_count_X3_length
set_option maxRecDepth 20000 in
theorem ggX4_count_X2_settingOf : GoodIn wsX4_count wsX2_settingOf := goodIn_r _ [123, 14, 131] (by decide +kernel) (by decide +kernel)
set_option maxRecDepth 20000 in
theorem gX4_count_X2_settingOf : GoodIn wsX4_count (wsV RX4 48 RX2 yX2_settingOf wsX2_settingOf) := goodIn_app (goodIn_of _ (by decide +kernel)) ggX4_count_X2_settingOf
theorem dX4_count_0 : decode cX4_count 0 = .ok (.iload_n 1, 1) := by decide +kernel
theorem dX4_count_1 : decode cX4_count 1 = .ok (.tableswitch 156 0 14 #[75, 83, 91, 99, 104, 112, 120, 128, 136, 156, 144, 144, 144, 144, 144], 75) := by decide +kernel
theorem dX4_count_76 : decode cX4_count 76 = .ok (.aload_n 0, 1) := by decide +kernel
theorem dX4_count_77 : decode cX4_count 77 = .ok (.getfield 12, 3) := by decide +kernel
theorem dX4_count_80 : decode cX4_count 80 = .ok (.invokevirtual 161, 3) := by decide +kernel
theorem dX4_count_83 : decode cX4_count 83 = .ok (.ireturn, 1) := by decide +kernel
theorem dX4_count_84 : decode cX4_count 84 = .ok (.aload_n 0, 1) := by decide +kernel
theorem dX4_count_85 : decode cX4_count 85 = .ok (.getfield 19, 3) := by decide +kernel
theorem dX4_count_88 : decode cX4_count 88 = .ok (.invokevirtual 218, 3) := by decide +kernel
theorem dX4_count_91 : decode cX4_count 91 = .ok (.ireturn, 1) := by decide +kernel
theorem dX4_count_92 : decode cX4_count 92 = .ok (.aload_n 0, 1) := by decide +kernel
theorem dX4_count_93 : decode cX4_count 93 = .ok (.getfield 19, 3) := by decide +kernel
theorem dX4_count_96 : decode cX4_count 96 = .ok (.invokevirtual 215, 3) := by decide +kernel
theorem dX4_count_99 : decode cX4_count 99 = .ok (.ireturn, 1) := by decide +kernel
theorem dX4_count_100 : decode cX4_count 100 = .ok (.aload_n 0, 1) := by decide +kernel
theorem dX4_count_101 : decode cX4_count 101 = .ok (.invokevirtual 227, 3) := by decide +kernel
theorem dX4_count_104 : decode cX4_count 104 = .ok (.ireturn, 1) := by decide +kernel
theorem dX4_count_105 : decode cX4_count 105 = .ok (.aload_n 0, 1) := by decide +kernel
theorem dX4_count_106 : decode cX4_count 106 = .ok (.getfield 19, 3) := by decide +kernel
theorem dX4_count_109 : decode cX4_count 109 = .ok (.invokevirtual 230, 3) := by decide +kernel
theorem dX4_count_112 : decode cX4_count 112 = .ok (.ireturn, 1) := by decide +kernel
theorem dX4_count_113 : decode cX4_count 113 = .ok (.aload_n 0, 1) := by decide +kernel
theorem dX4_count_114 : decode cX4_count 114 = .ok (.getfield 19, 3) := by decide +kernel
theorem dX4_count_117 : decode cX4_count 117 = .ok (.invokevirtual 233, 3) := by decide +kernel
theorem dX4_count_120 : decode cX4_count 120 = .ok (.ireturn, 1) := by decide +kernel
theorem dX4_count_121 : decode cX4_count 121 = .ok (.aload_n 0, 1) := by decide +kernel
theorem dX4_count_122 : decode cX4_count 122 = .ok (.getfield 19, 3) := by decide +kernel
theorem dX4_count_125 : decode cX4_count 125 = .ok (.invokevirtual 236, 3) := by decide +kernel
theorem dX4_count_128 : decode cX4_count 128 = .ok (.ireturn, 1) := by decide +kernel
theorem dX4_count_129 : decode cX4_count 129 = .ok (.aload_n 0, 1) := by decide +kernel
theorem dX4_count_130 : decode cX4_count 130 = .ok (.getfield 29, 3) := by decide +kernel
theorem dX4_count_133 : decode cX4_count 133 = .ok (.invokevirtual 151, 3) := by decide +kernel
theorem dX4_count_136 : decode cX4_count 136 = .ok (.ireturn, 1) := by decide +kernel
theorem dX4_count_137 : decode cX4_count 137 = .ok (.aload_n 0, 1) := by decide +kernel
theorem dX4_count_138 : decode cX4_count 138 = .ok (.getfield 44, 3) := by decide +kernel
theorem dX4_count_141 : decode cX4_count 141 = .ok (.invokevirtual 145, 3) := by decide +kernel
theorem dX4_count_144 : decode cX4_count 144 = .ok (.ireturn, 1) := by decide +kernel
theorem dX4_count_145 : decode cX4_count 145 = .ok (.aload_n 0, 1) := by decide +kernel
theorem dX4_count_146 : decode cX4_count 146 = .ok (.getfield 12, 3) := by decide +kernel
theorem dX4_count_149 : decode cX4_count 149 = .ok (.iload_n 1, 1) := by decide +kernel
theorem dX4_count_150 : decode cX4_count 150 = .ok (.bipush 10, 2) := by decide +kernel
theorem dX4_count_152 : decode cX4_count 152 = .ok (.isub, 1) := by decide +kernel
theorem dX4_count_153 : decode cX4_count 153 = .ok (.invokevirtual 48, 3) := by decide +kernel
theorem dX4_count_156 : decode cX4_count 156 = .ok (.ireturn, 1) := by decide +kernel
theorem dX4_count_157 : decode cX4_count 157 = .ok (.bipush (-2), 2) := by decide +kernel
theorem dX4_count_159 : decode cX4_count 159 = .ok (.ireturn, 1) := by decide +kernel
theorem dX4_isColumn_0 : decode cX4_isColumn 0 = .ok (.iload_n 0, 1) := by decide +kernel
theorem dX4_isColumn_1 : decode cX4_isColumn 1 = .ok (.ifCond .lt 12, 3) := by decide +kernel
theorem dX4_isColumn_4 : decode cX4_isColumn 4 = .ok (.iload_n 0, 1) := by decide +kernel
theorem dX4_isColumn_5 : decode cX4_isColumn 5 = .ok (.iconst 4, 1) := by decide +kernel
theorem dX4_isColumn_6 : decode cX4_isColumn 6 = .ok (.if_icmp .ge 7, 3) := by decide +kernel
theorem dX4_isColumn_9 : decode cX4_isColumn 9 = .ok (.iconst 1, 1) := by decide +kernel
theorem dX4_isColumn_10 : decode cX4_isColumn 10 = .ok (.goto 4, 3) := by decide +kernel
theorem dX4_isColumn_13 : decode cX4_isColumn 13 = .ok (.iconst 0, 1) := by decide +kernel
theorem dX4_isColumn_14 : decode cX4_isColumn 14 = .ok (.ireturn, 1) := by decide +kernel
theorem dX4_isFitting_0 : decode cX4_isFitting 0 = .ok (.iload_n 0, 1) := by decide +kernel
theorem dX4_isFitting_1 : decode cX4_isFitting 1 = .ok (.bipush 40, 2) := by decide +kernel
theorem dX4_isFitting_3 : decode cX4_isFitting 3 = .ok (.if_icmp .lt 12, 3) := by decide +kernel
theorem dX4_isFitting_6 : decode cX4_isFitting 6 = .ok (.iload_n 1, 1) := by decide +kernel
theorem dX4_isFitting_7 : decode cX4_isFitting 7 = .ok (.iload_n 0, 1) := by decide +kernel
theorem dX4_isFitting_8 : decode cX4_isFitting 8 = .ok (.if_icmp .lt 7, 3) := by decide +kernel
theorem dX4_isFitting_11 : decode cX4_isFitting 11 = .ok (.iconst 1, 1) := by decide +kernel
theorem dX4_isFitting_12 : decode cX4_isFitting 12 = .ok (.goto 4, 3) := by decide +kernel
theorem dX4_isFitting_15 : decode cX4_isFitting 15 = .ok (.iconst 0, 1) := by decide +kernel
theorem dX4_isFitting_16 : decode cX4_isFitting 16 = .ok (.ireturn, 1) := by decide +kernel
set_option maxRecDepth 20000 in
theorem ggX4_layOutAgain_X2_settingOf : GoodIn wsX4_layOutAgain wsX2_settingOf := goodIn_r _ [7, 8, 98] (by decide +kernel) (by decide +kernel)
set_option maxRecDepth 20000 in
theorem gX4_layOutAgain_X2_settingOf : GoodIn wsX4_layOutAgain (wsV RX4 48 RX2 yX2_settingOf wsX2_settingOf) := goodIn_app (goodIn_of _ (by decide +kernel)) ggX4_layOutAgain_X2_settingOf
set_option maxRecDepth 20000 in
theorem ggX4_layOutAgain_X1_layOut : GoodIn wsX4_layOutAgain wsX1_layOut := goodIn_r _ [13, 14, 15, 16, 17, 18, 19, 20, 21, 22, 4, 5, 6, 7, 8, 23, 24, 25, 26, 27, 28, 29, 30, 31, 32, 12, 33, 34, 35, 36, 37, 38, 39, 40, 41, 42, 43, 44, 45, 46, 47, 48, 49, 50, 51, 52, 53, 54, 55, 56, 57, 58, 59, 60, 61, 62, 63, 64, 65, 66, 67, 68, 69, 70, 71, 72, 73, 74, 75, 76, 77, 78, 79, 80, 81, 82, 83, 84, 85, 86, 87, 88, 89, 90, 99, 100, 101, 102, 103, 104, 105, 106, 107, 108, 109, 110, 111, 112, 98] (by decide +kernel) (by decide +kernel)
set_option maxRecDepth 20000 in
theorem gX4_layOutAgain_X1_layOut : GoodIn wsX4_layOutAgain (wsV RX4 52 RX1 yX1_layOut wsX1_layOut) := goodIn_app (goodIn_of _ (by decide +kernel)) ggX4_layOutAgain_X1_layOut
theorem dX4_layOutAgain_0 : decode cX4_layOutAgain 0 = .ok (.aload_n 0, 1) := by decide +kernel
theorem dX4_layOutAgain_1 : decode cX4_layOutAgain 1 = .ok (.getfield 19, 3) := by decide +kernel
theorem dX4_layOutAgain_4 : decode cX4_layOutAgain 4 = .ok (.aload_n 0, 1) := by decide +kernel
theorem dX4_layOutAgain_5 : decode cX4_layOutAgain 5 = .ok (.getfield 12, 3) := by decide +kernel
theorem dX4_layOutAgain_8 : decode cX4_layOutAgain 8 = .ok (.aload_n 0, 1) := by decide +kernel
theorem dX4_layOutAgain_9 : decode cX4_layOutAgain 9 = .ok (.getfield 12, 3) := by decide +kernel
theorem dX4_layOutAgain_12 : decode cX4_layOutAgain 12 = .ok (.iconst 2, 1) := by decide +kernel
theorem dX4_layOutAgain_13 : decode cX4_layOutAgain 13 = .ok (.invokevirtual 48, 3) := by decide +kernel
theorem dX4_layOutAgain_16 : decode cX4_layOutAgain 16 = .ok (.invokevirtual 52, 3) := by decide +kernel
theorem dX4_layOutAgain_19 : decode cX4_layOutAgain 19 = .ok (.return_, 1) := by decide +kernel
set_option maxRecDepth 20000 in
theorem ggX4_sumOfDriftsWith_X1_layOut : GoodIn wsX4_sumOfDriftsWith wsX1_layOut := goodIn_r _ [7, 8, 9, 10, 11, 12, 13, 14, 15, 16, 17, 18, 19, 20, 21, 22, 23, 24, 25, 26, 27, 28, 29, 30, 31, 6, 32, 33, 34, 35, 36, 37, 38, 39, 40, 41, 42, 43, 44, 45, 46, 47, 48, 49, 50, 51, 52, 53, 54, 55, 56, 57, 58, 59, 60, 61, 62, 63, 64, 65, 66, 67, 68, 69, 70, 71, 72, 73, 74, 75, 76, 77, 78, 79, 80, 81, 82, 83, 84, 85, 86, 87, 88, 89, 113, 114, 115, 116, 117, 118, 119, 120, 121, 122, 123, 124, 125, 126, 127] (by decide +kernel) (by decide +kernel)
set_option maxRecDepth 20000 in
theorem gX4_sumOfDriftsWith_X1_layOut : GoodIn wsX4_sumOfDriftsWith (wsV RX4 52 RX1 yX1_layOut wsX1_layOut) := goodIn_app (goodIn_of _ (by decide +kernel)) ggX4_sumOfDriftsWith_X1_layOut
set_option maxRecDepth 20000 in
theorem ggX4_sumOfDriftsWith_X1_sumOfAllDrifts : GoodIn wsX4_sumOfDriftsWith wsX1_sumOfAllDrifts := goodIn_r _ [93, 94, 95, 96, 6, 97, 75, 76, 77, 78, 13, 26, 27, 28, 98, 99, 100, 101, 73, 79, 80, 81, 102, 103, 104, 105, 9, 57, 58, 59, 60, 11, 61, 62, 63, 64, 113, 114, 115, 116, 117, 118, 119, 120, 121, 122, 123, 124, 125, 126] (by decide +kernel) (by decide +kernel)
set_option maxRecDepth 20000 in
theorem gX4_sumOfDriftsWith_X1_sumOfAllDrifts : GoodIn wsX4_sumOfDriftsWith (wsV RX4 215 RX1 yX1_sumOfAllDrifts wsX1_sumOfAllDrifts) := goodIn_app (goodIn_of _ (by decide +kernel)) ggX4_sumOfDriftsWith_X1_sumOfAllDrifts
theorem dX4_sumOfDriftsWith_0 : decode cX4_sumOfDriftsWith 0 = .ok (.aload_n 0, 1) := by decide +kernel
theorem dX4_sumOfDriftsWith_1 : decode cX4_sumOfDriftsWith 1 = .ok (.getfield 23, 3) := by decide +kernel
theorem dX4_sumOfDriftsWith_4 : decode cX4_sumOfDriftsWith 4 = .ok (.aload_n 0, 1) := by decide +kernel
theorem dX4_sumOfDriftsWith_5 : decode cX4_sumOfDriftsWith 5 = .ok (.getfield 12, 3) := by decide +kernel
theorem dX4_sumOfDriftsWith_8 : decode cX4_sumOfDriftsWith 8 = .ok (.iload_n 1, 1) := by decide +kernel
theorem dX4_sumOfDriftsWith_9 : decode cX4_sumOfDriftsWith 9 = .ok (.invokevirtual 52, 3) := by decide +kernel
theorem dX4_sumOfDriftsWith_12 : decode cX4_sumOfDriftsWith 12 = .ok (.aload_n 0, 1) := by decide +kernel
theorem dX4_sumOfDriftsWith_13 : decode cX4_sumOfDriftsWith 13 = .ok (.getfield 23, 3) := by decide +kernel
theorem dX4_sumOfDriftsWith_16 : decode cX4_sumOfDriftsWith 16 = .ok (.invokevirtual 215, 3) := by decide +kernel
theorem dX4_sumOfDriftsWith_19 : decode cX4_sumOfDriftsWith 19 = .ok (.ireturn, 1) := by decide +kernel
set_option maxRecDepth 20000 in
theorem ggX4_linesThatStay_X2_fieldOf : GoodIn wsX4_linesThatStay wsX2_fieldOf := goodIn_r _ [11, 12, 13, 14, 10, 15, 16, 17, 18, 19, 20, 21, 42] (by decide +kernel) (by decide +kernel)
set_option maxRecDepth 20000 in
theorem gX4_linesThatStay_X2_fieldOf : GoodIn wsX4_linesThatStay (wsV RX4 117 RX2 yX2_fieldOf wsX2_fieldOf) := goodIn_app (goodIn_of _ (by decide +kernel)) ggX4_linesThatStay_X2_fieldOf
set_option maxRecDepth 20000 in
theorem ggX4_linesThatStay_X2_settingOf : GoodIn wsX4_linesThatStay wsX2_settingOf := goodIn_r _ [25, 12, 42] (by decide +kernel) (by decide +kernel)
set_option maxRecDepth 20000 in
theorem gX4_linesThatStay_X2_settingOf : GoodIn wsX4_linesThatStay (wsV RX4 48 RX2 yX2_settingOf wsX2_settingOf) := goodIn_app (goodIn_of _ (by decide +kernel)) ggX4_linesThatStay_X2_settingOf
set_option maxRecDepth 20000 in
theorem ggX4_linesThatStay_X1_setPartsOf : GoodIn wsX4_linesThatStay wsX1_setPartsOf := goodIn_r _ [30, 31, 32, 33, 29, 34, 16, 17, 18, 43, 44, 45, 46, 47, 48, 49, 50, 51, 52, 53, 54, 55, 56] (by decide +kernel) (by decide +kernel)
set_option maxRecDepth 20000 in
theorem gX4_linesThatStay_X1_setPartsOf : GoodIn wsX4_linesThatStay (wsV RX4 167 RX1 yX1_setPartsOf wsX1_setPartsOf) := goodIn_app (goodIn_of _ (by decide +kernel)) ggX4_linesThatStay_X1_setPartsOf
theorem dX4_linesThatStay_0 : decode cX4_linesThatStay 0 = .ok (.aload_n 0, 1) := by decide +kernel
theorem dX4_linesThatStay_1 : decode cX4_linesThatStay 1 = .ok (.getfield 12, 3) := by decide +kernel
theorem dX4_linesThatStay_4 : decode cX4_linesThatStay 4 = .ok (.iload_n 1, 1) := by decide +kernel
theorem dX4_linesThatStay_5 : decode cX4_linesThatStay 5 = .ok (.iload_n 2, 1) := by decide +kernel
theorem dX4_linesThatStay_6 : decode cX4_linesThatStay 6 = .ok (.iconst 0, 1) := by decide +kernel
theorem dX4_linesThatStay_7 : decode cX4_linesThatStay 7 = .ok (.invokevirtual 117, 3) := by decide +kernel
theorem dX4_linesThatStay_10 : decode cX4_linesThatStay 10 = .ok (.ifCond .eq 5, 3) := by decide +kernel
theorem dX4_linesThatStay_13 : decode cX4_linesThatStay 13 = .ok (.iconst 0, 1) := by decide +kernel
theorem dX4_linesThatStay_14 : decode cX4_linesThatStay 14 = .ok (.ireturn, 1) := by decide +kernel
theorem dX4_linesThatStay_15 : decode cX4_linesThatStay 15 = .ok (.aload_n 0, 1) := by decide +kernel
theorem dX4_linesThatStay_16 : decode cX4_linesThatStay 16 = .ok (.getfield 12, 3) := by decide +kernel
theorem dX4_linesThatStay_19 : decode cX4_linesThatStay 19 = .ok (.iload_n 1, 1) := by decide +kernel
theorem dX4_linesThatStay_20 : decode cX4_linesThatStay 20 = .ok (.iload_n 2, 1) := by decide +kernel
theorem dX4_linesThatStay_21 : decode cX4_linesThatStay 21 = .ok (.iconst 1, 1) := by decide +kernel
theorem dX4_linesThatStay_22 : decode cX4_linesThatStay 22 = .ok (.invokevirtual 117, 3) := by decide +kernel
theorem dX4_linesThatStay_25 : decode cX4_linesThatStay 25 = .ok (.istore_n 3, 1) := by decide +kernel
theorem dX4_linesThatStay_26 : decode cX4_linesThatStay 26 = .ok (.aload_n 0, 1) := by decide +kernel
theorem dX4_linesThatStay_27 : decode cX4_linesThatStay 27 = .ok (.getfield 12, 3) := by decide +kernel
theorem dX4_linesThatStay_30 : decode cX4_linesThatStay 30 = .ok (.iconst 4, 1) := by decide +kernel
theorem dX4_linesThatStay_31 : decode cX4_linesThatStay 31 = .ok (.invokevirtual 48, 3) := by decide +kernel
theorem dX4_linesThatStay_34 : decode cX4_linesThatStay 34 = .ok (.istore 4, 2) := by decide +kernel
theorem dX4_linesThatStay_36 : decode cX4_linesThatStay 36 = .ok (.iload_n 3, 1) := by decide +kernel
theorem dX4_linesThatStay_37 : decode cX4_linesThatStay 37 = .ok (.aload_n 0, 1) := by decide +kernel
theorem dX4_linesThatStay_38 : decode cX4_linesThatStay 38 = .ok (.getfield 19, 3) := by decide +kernel
theorem dX4_linesThatStay_41 : decode cX4_linesThatStay 41 = .ok (.iload_n 1, 1) := by decide +kernel
theorem dX4_linesThatStay_42 : decode cX4_linesThatStay 42 = .ok (.iload_n 2, 1) := by decide +kernel
theorem dX4_linesThatStay_43 : decode cX4_linesThatStay 43 = .ok (.invokevirtual 167, 3) := by decide +kernel
theorem dX4_linesThatStay_46 : decode cX4_linesThatStay 46 = .ok (.isub, 1) := by decide +kernel
theorem dX4_linesThatStay_47 : decode cX4_linesThatStay 47 = .ok (.iload 4, 2) := by decide +kernel
theorem dX4_linesThatStay_49 : decode cX4_linesThatStay 49 = .ok (.invokestatic 239, 3) := by decide +kernel
theorem dX4_linesThatStay_52 : decode cX4_linesThatStay 52 = .ok (.istore 5, 2) := by decide +kernel
theorem dX4_linesThatStay_54 : decode cX4_linesThatStay 54 = .ok (.iload_n 3, 1) := by decide +kernel
theorem dX4_linesThatStay_55 : decode cX4_linesThatStay 55 = .ok (.iload 5, 2) := by decide +kernel
theorem dX4_linesThatStay_57 : decode cX4_linesThatStay 57 = .ok (.isub, 1) := by decide +kernel
theorem dX4_linesThatStay_58 : decode cX4_linesThatStay 58 = .ok (.istore 6, 2) := by decide +kernel
theorem dX4_linesThatStay_60 : decode cX4_linesThatStay 60 = .ok (.iload 6, 2) := by decide +kernel
theorem dX4_linesThatStay_62 : decode cX4_linesThatStay 62 = .ok (.iload 4, 2) := by decide +kernel
theorem dX4_linesThatStay_64 : decode cX4_linesThatStay 64 = .ok (.if_icmp .ge 7, 3) := by decide +kernel
theorem dX4_linesThatStay_67 : decode cX4_linesThatStay 67 = .ok (.iconst 0, 1) := by decide +kernel
theorem dX4_linesThatStay_68 : decode cX4_linesThatStay 68 = .ok (.goto 5, 3) := by decide +kernel
theorem dX4_linesThatStay_71 : decode cX4_linesThatStay 71 = .ok (.iload 6, 2) := by decide +kernel
theorem dX4_linesThatStay_73 : decode cX4_linesThatStay 73 = .ok (.ireturn, 1) := by decide +kernel
set_option maxRecDepth 20000 in
theorem ggX4_raiseSpaces_X4_firstSolid : GoodIn wsX4_raiseSpaces wsX4_firstSolid := goodIn_r _ [11, 1, 12, 13, 14, 15, 16, 17, 18, 10, 19, 20, 21, 22, 23, 24, 25, 26, 27, 28, 29, 30, 31, 32, 33, 34, 35, 36, 37, 38, 39, 40, 41, 42, 43, 73, 74, 75, 76, 77, 78, 79, 80, 81, 82, 83, 84, 85, 86, 87, 88, 89, 90, 91, 92, 93, 94] (by decide +kernel) (by decide +kernel)
set_option maxRecDepth 20000 in
theorem gX4_raiseSpaces_X4_firstSolid : GoodIn wsX4_raiseSpaces (wsV RX4 244 RX4 yX4_firstSolid wsX4_firstSolid) := goodIn_app (goodIn_of _ (by decide +kernel)) ggX4_raiseSpaces_X4_firstSolid
set_option maxRecDepth 20000 in
theorem ggX4_raiseSpaces_X4_lastSolid : GoodIn wsX4_raiseSpaces wsX4_lastSolid := goodIn_r _ [47, 1, 12, 13, 14, 15, 16, 17, 18, 10, 19, 20, 21, 22, 23, 24, 25, 26, 27, 28, 29, 30, 31, 32, 33, 34, 35, 36, 37, 38, 39, 40, 41, 42, 43, 73, 74, 75, 76, 77, 78, 79, 80, 81, 82, 83, 84, 85, 86, 87, 88, 89, 90, 91, 92, 93, 94] (by decide +kernel) (by decide +kernel)
set_option maxRecDepth 20000 in
theorem gX4_raiseSpaces_X4_lastSolid : GoodIn wsX4_raiseSpaces (wsV RX4 247 RX4 yX4_lastSolid wsX4_lastSolid) := goodIn_app (goodIn_of _ (by decide +kernel)) ggX4_raiseSpaces_X4_lastSolid
set_option maxRecDepth 20000 in
theorem ggX4_raiseSpaces_X4_spacesBetween : GoodIn wsX4_raiseSpaces wsX4_spacesBetween := goodIn_r _ [51, 1, 25, 26, 27, 15, 28, 17, 29, 30, 31, 18, 10, 19, 32, 33, 34, 73, 74, 75, 76, 77, 78, 79, 80] (by decide +kernel) (by decide +kernel)
set_option maxRecDepth 20000 in
theorem gX4_raiseSpaces_X4_spacesBetween : GoodIn wsX4_raiseSpaces (wsV RX4 250 RX4 yX4_spacesBetween wsX4_spacesBetween) := goodIn_app (goodIn_of _ (by decide +kernel)) ggX4_raiseSpaces_X4_spacesBetween
set_option maxRecDepth 20000 in
theorem ggX4_raiseSpaces_X2_fieldOf : GoodIn wsX4_raiseSpaces wsX2_fieldOf := goodIn_r _ [28, 17, 29, 30, 15, 31, 18, 10, 19, 32, 33, 34, 80] (by decide +kernel) (by decide +kernel)
set_option maxRecDepth 20000 in
theorem gX4_raiseSpaces_X2_fieldOf : GoodIn wsX4_raiseSpaces (wsV RX4 117 RX2 yX2_fieldOf wsX2_fieldOf) := goodIn_app (goodIn_of _ (by decide +kernel)) ggX4_raiseSpaces_X2_fieldOf
set_option maxRecDepth 20000 in
theorem ggX4_raiseSpaces_X0_record : GoodIn wsX4_raiseSpaces wsX0_record := goodIn_r _ [56, 57, 58, 59, 10, 60, 61, 62, 63, 64, 65, 66, 67, 15, 68, 17, 95, 96, 80] (by decide +kernel) (by decide +kernel)
set_option maxRecDepth 20000 in
theorem gX4_raiseSpaces_X0_record : GoodIn wsX4_raiseSpaces (wsV RX4 62 RX0 yX0_record wsX0_record) := goodIn_app (goodIn_of _ (by decide +kernel)) ggX4_raiseSpaces_X0_record
set_option maxRecDepth 20000 in
theorem ggX4_raiseSpaces_X2_changeField : GoodIn wsX4_raiseSpaces wsX2_changeField := goodIn_r _ [72, 17, 29, 30, 15, 31, 18, 10, 19, 32, 33, 34, 80] (by decide +kernel) (by decide +kernel)
set_option maxRecDepth 20000 in
theorem gX4_raiseSpaces_X2_changeField : GoodIn wsX4_raiseSpaces (wsV RX4 121 RX2 yX2_changeField wsX2_changeField) := goodIn_app (goodIn_of _ (by decide +kernel)) ggX4_raiseSpaces_X2_changeField
theorem dX4_raiseSpaces_0 : decode cX4_raiseSpaces 0 = .ok (.aload_n 0, 1) := by decide +kernel
theorem dX4_raiseSpaces_1 : decode cX4_raiseSpaces 1 = .ok (.iload_n 1, 1) := by decide +kernel
theorem dX4_raiseSpaces_2 : decode cX4_raiseSpaces 2 = .ok (.invokevirtual 244, 3) := by decide +kernel
theorem dX4_raiseSpaces_5 : decode cX4_raiseSpaces 5 = .ok (.istore_n 3, 1) := by decide +kernel
theorem dX4_raiseSpaces_6 : decode cX4_raiseSpaces 6 = .ok (.aload_n 0, 1) := by decide +kernel
theorem dX4_raiseSpaces_7 : decode cX4_raiseSpaces 7 = .ok (.iload_n 1, 1) := by decide +kernel
theorem dX4_raiseSpaces_8 : decode cX4_raiseSpaces 8 = .ok (.invokevirtual 247, 3) := by decide +kernel
theorem dX4_raiseSpaces_11 : decode cX4_raiseSpaces 11 = .ok (.istore 4, 2) := by decide +kernel
theorem dX4_raiseSpaces_13 : decode cX4_raiseSpaces 13 = .ok (.aload_n 0, 1) := by decide +kernel
theorem dX4_raiseSpaces_14 : decode cX4_raiseSpaces 14 = .ok (.iload_n 1, 1) := by decide +kernel
theorem dX4_raiseSpaces_15 : decode cX4_raiseSpaces 15 = .ok (.iload_n 3, 1) := by decide +kernel
theorem dX4_raiseSpaces_16 : decode cX4_raiseSpaces 16 = .ok (.iload 4, 2) := by decide +kernel
theorem dX4_raiseSpaces_18 : decode cX4_raiseSpaces 18 = .ok (.invokevirtual 250, 3) := by decide +kernel
theorem dX4_raiseSpaces_21 : decode cX4_raiseSpaces 21 = .ok (.istore 5, 2) := by decide +kernel
theorem dX4_raiseSpaces_23 : decode cX4_raiseSpaces 23 = .ok (.iload_n 2, 1) := by decide +kernel
theorem dX4_raiseSpaces_24 : decode cX4_raiseSpaces 24 = .ok (.ifCond .le 8, 3) := by decide +kernel
theorem dX4_raiseSpaces_27 : decode cX4_raiseSpaces 27 = .ok (.iload 5, 2) := by decide +kernel
theorem dX4_raiseSpaces_29 : decode cX4_raiseSpaces 29 = .ok (.ifCond .gt 5, 3) := by decide +kernel
theorem dX4_raiseSpaces_32 : decode cX4_raiseSpaces 32 = .ok (.iconst 0, 1) := by decide +kernel
theorem dX4_raiseSpaces_33 : decode cX4_raiseSpaces 33 = .ok (.ireturn, 1) := by decide +kernel
theorem dX4_raiseSpaces_34 : decode cX4_raiseSpaces 34 = .ok (.iload_n 2, 1) := by decide +kernel
theorem dX4_raiseSpaces_35 : decode cX4_raiseSpaces 35 = .ok (.iload 5, 2) := by decide +kernel
theorem dX4_raiseSpaces_37 : decode cX4_raiseSpaces 37 = .ok (.idiv, 1) := by decide +kernel
theorem dX4_raiseSpaces_38 : decode cX4_raiseSpaces 38 = .ok (.istore 6, 2) := by decide +kernel
theorem dX4_raiseSpaces_40 : decode cX4_raiseSpaces 40 = .ok (.iload_n 2, 1) := by decide +kernel
theorem dX4_raiseSpaces_41 : decode cX4_raiseSpaces 41 = .ok (.iload 5, 2) := by decide +kernel
theorem dX4_raiseSpaces_43 : decode cX4_raiseSpaces 43 = .ok (.irem, 1) := by decide +kernel
theorem dX4_raiseSpaces_44 : decode cX4_raiseSpaces 44 = .ok (.istore 7, 2) := by decide +kernel
theorem dX4_raiseSpaces_46 : decode cX4_raiseSpaces 46 = .ok (.iconst 0, 1) := by decide +kernel
theorem dX4_raiseSpaces_47 : decode cX4_raiseSpaces 47 = .ok (.istore 8, 2) := by decide +kernel
theorem dX4_raiseSpaces_49 : decode cX4_raiseSpaces 49 = .ok (.iload_n 3, 1) := by decide +kernel
theorem dX4_raiseSpaces_50 : decode cX4_raiseSpaces 50 = .ok (.iconst 1, 1) := by decide +kernel
theorem dX4_raiseSpaces_51 : decode cX4_raiseSpaces 51 = .ok (.iadd, 1) := by decide +kernel
theorem dX4_raiseSpaces_52 : decode cX4_raiseSpaces 52 = .ok (.istore 9, 2) := by decide +kernel
theorem dX4_raiseSpaces_54 : decode cX4_raiseSpaces 54 = .ok (.iload 9, 2) := by decide +kernel
theorem dX4_raiseSpaces_56 : decode cX4_raiseSpaces 56 = .ok (.iload 4, 2) := by decide +kernel
theorem dX4_raiseSpaces_58 : decode cX4_raiseSpaces 58 = .ok (.if_icmp .ge 106, 3) := by decide +kernel
theorem dX4_raiseSpaces_61 : decode cX4_raiseSpaces 61 = .ok (.aload_n 0, 1) := by decide +kernel
theorem dX4_raiseSpaces_62 : decode cX4_raiseSpaces 62 = .ok (.getfield 12, 3) := by decide +kernel
theorem dX4_raiseSpaces_65 : decode cX4_raiseSpaces 65 = .ok (.iload_n 1, 1) := by decide +kernel
theorem dX4_raiseSpaces_66 : decode cX4_raiseSpaces 66 = .ok (.iload 9, 2) := by decide +kernel
theorem dX4_raiseSpaces_68 : decode cX4_raiseSpaces 68 = .ok (.iconst 0, 1) := by decide +kernel
theorem dX4_raiseSpaces_69 : decode cX4_raiseSpaces 69 = .ok (.invokevirtual 117, 3) := by decide +kernel
theorem dX4_raiseSpaces_72 : decode cX4_raiseSpaces 72 = .ok (.iconst 2, 1) := by decide +kernel
theorem dX4_raiseSpaces_73 : decode cX4_raiseSpaces 73 = .ok (.if_icmp .eq 6, 3) := by decide +kernel
theorem dX4_raiseSpaces_76 : decode cX4_raiseSpaces 76 = .ok (.goto 82, 3) := by decide +kernel
theorem dX4_raiseSpaces_79 : decode cX4_raiseSpaces 79 = .ok (.aload_n 0, 1) := by decide +kernel
theorem dX4_raiseSpaces_80 : decode cX4_raiseSpaces 80 = .ok (.getfield 12, 3) := by decide +kernel
theorem dX4_raiseSpaces_83 : decode cX4_raiseSpaces 83 = .ok (.iload_n 1, 1) := by decide +kernel
theorem dX4_raiseSpaces_84 : decode cX4_raiseSpaces 84 = .ok (.iload 9, 2) := by decide +kernel
theorem dX4_raiseSpaces_86 : decode cX4_raiseSpaces 86 = .ok (.iconst 5, 1) := by decide +kernel
theorem dX4_raiseSpaces_87 : decode cX4_raiseSpaces 87 = .ok (.invokevirtual 117, 3) := by decide +kernel
theorem dX4_raiseSpaces_90 : decode cX4_raiseSpaces 90 = .ok (.istore 10, 2) := by decide +kernel
theorem dX4_raiseSpaces_92 : decode cX4_raiseSpaces 92 = .ok (.iload 10, 2) := by decide +kernel
theorem dX4_raiseSpaces_94 : decode cX4_raiseSpaces 94 = .ok (.iload 6, 2) := by decide +kernel
theorem dX4_raiseSpaces_96 : decode cX4_raiseSpaces 96 = .ok (.iadd, 1) := by decide +kernel
theorem dX4_raiseSpaces_97 : decode cX4_raiseSpaces 97 = .ok (.iload 7, 2) := by decide +kernel
theorem dX4_raiseSpaces_99 : decode cX4_raiseSpaces 99 = .ok (.ifCond .le 7, 3) := by decide +kernel
theorem dX4_raiseSpaces_102 : decode cX4_raiseSpaces 102 = .ok (.iconst 1, 1) := by decide +kernel
theorem dX4_raiseSpaces_103 : decode cX4_raiseSpaces 103 = .ok (.goto 4, 3) := by decide +kernel
theorem dX4_raiseSpaces_106 : decode cX4_raiseSpaces 106 = .ok (.iconst 0, 1) := by decide +kernel
theorem dX4_raiseSpaces_107 : decode cX4_raiseSpaces 107 = .ok (.iadd, 1) := by decide +kernel
theorem dX4_raiseSpaces_108 : decode cX4_raiseSpaces 108 = .ok (.sipush 3000, 3) := by decide +kernel
theorem dX4_raiseSpaces_111 : decode cX4_raiseSpaces 111 = .ok (.invokestatic 253, 3) := by decide +kernel
theorem dX4_raiseSpaces_114 : decode cX4_raiseSpaces 114 = .ok (.istore 11, 2) := by decide +kernel
theorem dX4_raiseSpaces_116 : decode cX4_raiseSpaces 116 = .ok (.iinc 7 (-1), 3) := by decide +kernel
theorem dX4_raiseSpaces_119 : decode cX4_raiseSpaces 119 = .ok (.iload 11, 2) := by decide +kernel
theorem dX4_raiseSpaces_121 : decode cX4_raiseSpaces 121 = .ok (.iload 10, 2) := by decide +kernel
theorem dX4_raiseSpaces_123 : decode cX4_raiseSpaces 123 = .ok (.if_icmp .le 22, 3) := by decide +kernel
theorem dX4_raiseSpaces_126 : decode cX4_raiseSpaces 126 = .ok (.iload 8, 2) := by decide +kernel
theorem dX4_raiseSpaces_128 : decode cX4_raiseSpaces 128 = .ok (.ifCond .ne 17, 3) := by decide +kernel
theorem dX4_raiseSpaces_131 : decode cX4_raiseSpaces 131 = .ok (.aload_n 0, 1) := by decide +kernel
theorem dX4_raiseSpaces_132 : decode cX4_raiseSpaces 132 = .ok (.getfield 29, 3) := by decide +kernel
theorem dX4_raiseSpaces_135 : decode cX4_raiseSpaces 135 = .ok (.aload_n 0, 1) := by decide +kernel
theorem dX4_raiseSpaces_136 : decode cX4_raiseSpaces 136 = .ok (.getfield 12, 3) := by decide +kernel
theorem dX4_raiseSpaces_139 : decode cX4_raiseSpaces 139 = .ok (.invokevirtual 62, 3) := by decide +kernel
theorem dX4_raiseSpaces_142 : decode cX4_raiseSpaces 142 = .ok (.iconst 1, 1) := by decide +kernel
theorem dX4_raiseSpaces_143 : decode cX4_raiseSpaces 143 = .ok (.istore 8, 2) := by decide +kernel
theorem dX4_raiseSpaces_145 : decode cX4_raiseSpaces 145 = .ok (.aload_n 0, 1) := by decide +kernel
theorem dX4_raiseSpaces_146 : decode cX4_raiseSpaces 146 = .ok (.getfield 12, 3) := by decide +kernel
theorem dX4_raiseSpaces_149 : decode cX4_raiseSpaces 149 = .ok (.iload_n 1, 1) := by decide +kernel
theorem dX4_raiseSpaces_150 : decode cX4_raiseSpaces 150 = .ok (.iload 9, 2) := by decide +kernel
theorem dX4_raiseSpaces_152 : decode cX4_raiseSpaces 152 = .ok (.iconst 5, 1) := by decide +kernel
theorem dX4_raiseSpaces_153 : decode cX4_raiseSpaces 153 = .ok (.iload 11, 2) := by decide +kernel
theorem dX4_raiseSpaces_155 : decode cX4_raiseSpaces 155 = .ok (.invokevirtual 121, 3) := by decide +kernel
theorem dX4_raiseSpaces_158 : decode cX4_raiseSpaces 158 = .ok (.iinc 9 1, 3) := by decide +kernel
theorem dX4_raiseSpaces_161 : decode cX4_raiseSpaces 161 = .ok (.goto (-107), 3) := by decide +kernel
theorem dX4_raiseSpaces_164 : decode cX4_raiseSpaces 164 = .ok (.iload 8, 2) := by decide +kernel
theorem dX4_raiseSpaces_166 : decode cX4_raiseSpaces 166 = .ok (.ireturn, 1) := by decide +kernel
set_option maxRecDepth 20000 in
theorem ggX4_firstSolid_X2_blocksOf : GoodIn wsX4_firstSolid wsX2_blocksOf := goodIn_r _ [6, 7, 8, 9, 10, 42] (by decide +kernel) (by decide +kernel)
set_option maxRecDepth 20000 in
theorem gX4_firstSolid_X2_blocksOf : GoodIn wsX4_firstSolid (wsV RX4 81 RX2 yX2_blocksOf wsX2_blocksOf) := goodIn_app (goodIn_of _ (by decide +kernel)) ggX4_firstSolid_X2_blocksOf
set_option maxRecDepth 20000 in
theorem ggX4_firstSolid_X4_isSetSolid : GoodIn wsX4_firstSolid wsX4_isSetSolid := goodIn_r _ [14, 1, 15, 16, 17, 18, 5, 19, 7, 20, 21, 22, 8, 9, 10, 23, 24, 25, 26, 27, 28, 29, 30, 31, 32, 33, 34, 35, 36, 37, 38, 39, 40, 41, 42, 43, 44, 45, 46, 47, 48, 49, 50, 51, 52, 53, 54, 55, 56] (by decide +kernel) (by decide +kernel)
set_option maxRecDepth 20000 in
theorem gX4_firstSolid_X4_isSetSolid : GoodIn wsX4_firstSolid (wsV RX4 256 RX4 yX4_isSetSolid wsX4_isSetSolid) := goodIn_app (goodIn_of _ (by decide +kernel)) ggX4_firstSolid_X4_isSetSolid
theorem dX4_firstSolid_0 : decode cX4_firstSolid 0 = .ok (.aload_n 0, 1) := by decide +kernel
theorem dX4_firstSolid_1 : decode cX4_firstSolid 1 = .ok (.getfield 12, 3) := by decide +kernel
theorem dX4_firstSolid_4 : decode cX4_firstSolid 4 = .ok (.iload_n 1, 1) := by decide +kernel
theorem dX4_firstSolid_5 : decode cX4_firstSolid 5 = .ok (.invokevirtual 81, 3) := by decide +kernel
theorem dX4_firstSolid_8 : decode cX4_firstSolid 8 = .ok (.istore_n 2, 1) := by decide +kernel
theorem dX4_firstSolid_9 : decode cX4_firstSolid 9 = .ok (.iconst 0, 1) := by decide +kernel
theorem dX4_firstSolid_10 : decode cX4_firstSolid 10 = .ok (.istore_n 3, 1) := by decide +kernel
theorem dX4_firstSolid_11 : decode cX4_firstSolid 11 = .ok (.iload_n 3, 1) := by decide +kernel
theorem dX4_firstSolid_12 : decode cX4_firstSolid 12 = .ok (.iload_n 2, 1) := by decide +kernel
theorem dX4_firstSolid_13 : decode cX4_firstSolid 13 = .ok (.if_icmp .ge 20, 3) := by decide +kernel
theorem dX4_firstSolid_16 : decode cX4_firstSolid 16 = .ok (.aload_n 0, 1) := by decide +kernel
theorem dX4_firstSolid_17 : decode cX4_firstSolid 17 = .ok (.iload_n 1, 1) := by decide +kernel
theorem dX4_firstSolid_18 : decode cX4_firstSolid 18 = .ok (.iload_n 3, 1) := by decide +kernel
theorem dX4_firstSolid_19 : decode cX4_firstSolid 19 = .ok (.invokevirtual 256, 3) := by decide +kernel
theorem dX4_firstSolid_22 : decode cX4_firstSolid 22 = .ok (.ifCond .eq 5, 3) := by decide +kernel
theorem dX4_firstSolid_25 : decode cX4_firstSolid 25 = .ok (.iload_n 3, 1) := by decide +kernel
theorem dX4_firstSolid_26 : decode cX4_firstSolid 26 = .ok (.ireturn, 1) := by decide +kernel
theorem dX4_firstSolid_27 : decode cX4_firstSolid 27 = .ok (.iinc 3 1, 3) := by decide +kernel
theorem dX4_firstSolid_30 : decode cX4_firstSolid 30 = .ok (.goto (-19), 3) := by decide +kernel
theorem dX4_firstSolid_33 : decode cX4_firstSolid 33 = .ok (.iload_n 2, 1) := by decide +kernel
theorem dX4_firstSolid_34 : decode cX4_firstSolid 34 = .ok (.ireturn, 1) := by decide +kernel
set_option maxRecDepth 20000 in
theorem ggX4_lastSolid_X2_blocksOf : GoodIn wsX4_lastSolid wsX2_blocksOf := goodIn_r _ [6, 7, 8, 9, 10, 42] (by decide +kernel) (by decide +kernel)
set_option maxRecDepth 20000 in
theorem gX4_lastSolid_X2_blocksOf : GoodIn wsX4_lastSolid (wsV RX4 81 RX2 yX2_blocksOf wsX2_blocksOf) := goodIn_app (goodIn_of _ (by decide +kernel)) ggX4_lastSolid_X2_blocksOf
set_option maxRecDepth 20000 in
theorem ggX4_lastSolid_X4_isSetSolid : GoodIn wsX4_lastSolid wsX4_isSetSolid := goodIn_r _ [14, 1, 15, 16, 17, 18, 5, 19, 7, 20, 21, 22, 8, 9, 10, 23, 24, 25, 26, 27, 28, 29, 30, 31, 32, 33, 34, 35, 36, 37, 38, 39, 40, 41, 42, 43, 44, 45, 46, 47, 48, 49, 50, 51, 52, 53, 54, 55, 56] (by decide +kernel) (by decide +kernel)
set_option maxRecDepth 20000 in
theorem gX4_lastSolid_X4_isSetSolid : GoodIn wsX4_lastSolid (wsV RX4 256 RX4 yX4_isSetSolid wsX4_isSetSolid) := goodIn_app (goodIn_of _ (by decide +kernel)) ggX4_lastSolid_X4_isSetSolid
theorem dX4_lastSolid_0 : decode cX4_lastSolid 0 = .ok (.aload_n 0, 1) := by decide +kernel
theorem dX4_lastSolid_1 : decode cX4_lastSolid 1 = .ok (.getfield 12, 3) := by decide +kernel
theorem dX4_lastSolid_4 : decode cX4_lastSolid 4 = .ok (.iload_n 1, 1) := by decide +kernel
theorem dX4_lastSolid_5 : decode cX4_lastSolid 5 = .ok (.invokevirtual 81, 3) := by decide +kernel
theorem dX4_lastSolid_8 : decode cX4_lastSolid 8 = .ok (.iconst 1, 1) := by decide +kernel
theorem dX4_lastSolid_9 : decode cX4_lastSolid 9 = .ok (.isub, 1) := by decide +kernel
theorem dX4_lastSolid_10 : decode cX4_lastSolid 10 = .ok (.istore_n 2, 1) := by decide +kernel
theorem dX4_lastSolid_11 : decode cX4_lastSolid 11 = .ok (.iload_n 2, 1) := by decide +kernel
theorem dX4_lastSolid_12 : decode cX4_lastSolid 12 = .ok (.ifCond .lt 20, 3) := by decide +kernel
theorem dX4_lastSolid_15 : decode cX4_lastSolid 15 = .ok (.aload_n 0, 1) := by decide +kernel
theorem dX4_lastSolid_16 : decode cX4_lastSolid 16 = .ok (.iload_n 1, 1) := by decide +kernel
theorem dX4_lastSolid_17 : decode cX4_lastSolid 17 = .ok (.iload_n 2, 1) := by decide +kernel
theorem dX4_lastSolid_18 : decode cX4_lastSolid 18 = .ok (.invokevirtual 256, 3) := by decide +kernel
theorem dX4_lastSolid_21 : decode cX4_lastSolid 21 = .ok (.ifCond .eq 5, 3) := by decide +kernel
theorem dX4_lastSolid_24 : decode cX4_lastSolid 24 = .ok (.iload_n 2, 1) := by decide +kernel
theorem dX4_lastSolid_25 : decode cX4_lastSolid 25 = .ok (.ireturn, 1) := by decide +kernel
theorem dX4_lastSolid_26 : decode cX4_lastSolid 26 = .ok (.iinc 2 (-1), 3) := by decide +kernel
theorem dX4_lastSolid_29 : decode cX4_lastSolid 29 = .ok (.goto (-18), 3) := by decide +kernel
theorem dX4_lastSolid_32 : decode cX4_lastSolid 32 = .ok (.iconst (-1), 1) := by decide +kernel
theorem dX4_lastSolid_33 : decode cX4_lastSolid 33 = .ok (.ireturn, 1) := by decide +kernel
set_option maxRecDepth 20000 in
theorem ggX4_isSetSolid_X2_fieldOf : GoodIn wsX4_isSetSolid wsX2_fieldOf := goodIn_r _ [7, 8, 9, 10, 6, 11, 12, 13, 14, 15, 16, 17, 34] (by decide +kernel) (by decide +kernel)
set_option maxRecDepth 20000 in
theorem gX4_isSetSolid_X2_fieldOf : GoodIn wsX4_isSetSolid (wsV RX4 117 RX2 yX2_fieldOf wsX2_fieldOf) := goodIn_app (goodIn_of _ (by decide +kernel)) ggX4_isSetSolid_X2_fieldOf
set_option maxRecDepth 20000 in
theorem ggX4_isSetSolid_X1_setPartsOf : GoodIn wsX4_isSetSolid wsX1_setPartsOf := goodIn_r _ [22, 23, 24, 25, 21, 26, 12, 13, 14, 35, 36, 37, 38, 39, 40, 41, 42, 43, 44, 45, 46, 47, 48] (by decide +kernel) (by decide +kernel)
set_option maxRecDepth 20000 in
theorem gX4_isSetSolid_X1_setPartsOf : GoodIn wsX4_isSetSolid (wsV RX4 167 RX1 yX1_setPartsOf wsX1_setPartsOf) := goodIn_app (goodIn_of _ (by decide +kernel)) ggX4_isSetSolid_X1_setPartsOf
theorem dX4_isSetSolid_0 : decode cX4_isSetSolid 0 = .ok (.aload_n 0, 1) := by decide +kernel
theorem dX4_isSetSolid_1 : decode cX4_isSetSolid 1 = .ok (.getfield 12, 3) := by decide +kernel
theorem dX4_isSetSolid_4 : decode cX4_isSetSolid 4 = .ok (.iload_n 1, 1) := by decide +kernel
theorem dX4_isSetSolid_5 : decode cX4_isSetSolid 5 = .ok (.iload_n 2, 1) := by decide +kernel
theorem dX4_isSetSolid_6 : decode cX4_isSetSolid 6 = .ok (.iconst 0, 1) := by decide +kernel
theorem dX4_isSetSolid_7 : decode cX4_isSetSolid 7 = .ok (.invokevirtual 117, 3) := by decide +kernel
theorem dX4_isSetSolid_10 : decode cX4_isSetSolid 10 = .ok (.iconst 2, 1) := by decide +kernel
theorem dX4_isSetSolid_11 : decode cX4_isSetSolid 11 = .ok (.if_icmp .eq 19, 3) := by decide +kernel
theorem dX4_isSetSolid_14 : decode cX4_isSetSolid 14 = .ok (.aload_n 0, 1) := by decide +kernel
theorem dX4_isSetSolid_15 : decode cX4_isSetSolid 15 = .ok (.getfield 19, 3) := by decide +kernel
theorem dX4_isSetSolid_18 : decode cX4_isSetSolid 18 = .ok (.iload_n 1, 1) := by decide +kernel
theorem dX4_isSetSolid_19 : decode cX4_isSetSolid 19 = .ok (.iload_n 2, 1) := by decide +kernel
theorem dX4_isSetSolid_20 : decode cX4_isSetSolid 20 = .ok (.invokevirtual 167, 3) := by decide +kernel
theorem dX4_isSetSolid_23 : decode cX4_isSetSolid 23 = .ok (.ifCond .le 7, 3) := by decide +kernel
theorem dX4_isSetSolid_26 : decode cX4_isSetSolid 26 = .ok (.iconst 1, 1) := by decide +kernel
theorem dX4_isSetSolid_27 : decode cX4_isSetSolid 27 = .ok (.goto 4, 3) := by decide +kernel
theorem dX4_isSetSolid_30 : decode cX4_isSetSolid 30 = .ok (.iconst 0, 1) := by decide +kernel
theorem dX4_isSetSolid_31 : decode cX4_isSetSolid 31 = .ok (.ireturn, 1) := by decide +kernel
set_option maxRecDepth 20000 in
theorem ggX4_spacesBetween_X2_fieldOf : GoodIn wsX4_spacesBetween wsX2_fieldOf := goodIn_r _ [6, 7, 8, 9, 5, 10, 11, 12, 13, 14, 15, 16, 24] (by decide +kernel) (by decide +kernel)
set_option maxRecDepth 20000 in
theorem gX4_spacesBetween_X2_fieldOf : GoodIn wsX4_spacesBetween (wsV RX4 117 RX2 yX2_fieldOf wsX2_fieldOf) := goodIn_app (goodIn_of _ (by decide +kernel)) ggX4_spacesBetween_X2_fieldOf
theorem dX4_spacesBetween_0 : decode cX4_spacesBetween 0 = .ok (.iconst 0, 1) := by decide +kernel
theorem dX4_spacesBetween_1 : decode cX4_spacesBetween 1 = .ok (.istore 4, 2) := by decide +kernel
theorem dX4_spacesBetween_3 : decode cX4_spacesBetween 3 = .ok (.iload_n 2, 1) := by decide +kernel
theorem dX4_spacesBetween_4 : decode cX4_spacesBetween 4 = .ok (.iconst 1, 1) := by decide +kernel
theorem dX4_spacesBetween_5 : decode cX4_spacesBetween 5 = .ok (.iadd, 1) := by decide +kernel
theorem dX4_spacesBetween_6 : decode cX4_spacesBetween 6 = .ok (.istore 5, 2) := by decide +kernel
theorem dX4_spacesBetween_8 : decode cX4_spacesBetween 8 = .ok (.iload 5, 2) := by decide +kernel
theorem dX4_spacesBetween_10 : decode cX4_spacesBetween 10 = .ok (.iload_n 3, 1) := by decide +kernel
theorem dX4_spacesBetween_11 : decode cX4_spacesBetween 11 = .ok (.if_icmp .ge 27, 3) := by decide +kernel
theorem dX4_spacesBetween_14 : decode cX4_spacesBetween 14 = .ok (.aload_n 0, 1) := by decide +kernel
theorem dX4_spacesBetween_15 : decode cX4_spacesBetween 15 = .ok (.getfield 12, 3) := by decide +kernel
theorem dX4_spacesBetween_18 : decode cX4_spacesBetween 18 = .ok (.iload_n 1, 1) := by decide +kernel
theorem dX4_spacesBetween_19 : decode cX4_spacesBetween 19 = .ok (.iload 5, 2) := by decide +kernel
theorem dX4_spacesBetween_21 : decode cX4_spacesBetween 21 = .ok (.iconst 0, 1) := by decide +kernel
theorem dX4_spacesBetween_22 : decode cX4_spacesBetween 22 = .ok (.invokevirtual 117, 3) := by decide +kernel
theorem dX4_spacesBetween_25 : decode cX4_spacesBetween 25 = .ok (.iconst 2, 1) := by decide +kernel
theorem dX4_spacesBetween_26 : decode cX4_spacesBetween 26 = .ok (.if_icmp .ne 6, 3) := by decide +kernel
theorem dX4_spacesBetween_29 : decode cX4_spacesBetween 29 = .ok (.iinc 4 1, 3) := by decide +kernel
theorem dX4_spacesBetween_32 : decode cX4_spacesBetween 32 = .ok (.iinc 5 1, 3) := by decide +kernel
theorem dX4_spacesBetween_35 : decode cX4_spacesBetween 35 = .ok (.goto (-27), 3) := by decide +kernel
theorem dX4_spacesBetween_38 : decode cX4_spacesBetween 38 = .ok (.iload 4, 2) := by decide +kernel
theorem dX4_spacesBetween_40 : decode cX4_spacesBetween 40 = .ok (.ireturn, 1) := by decide +kernel
set_option maxRecDepth 20000 in
theorem ggX4_unsetLines_X2_paragraphLinesOf : GoodIn wsX4_unsetLines wsX2_paragraphLinesOf := goodIn_r _ [7, 8, 9, 10, 6, 11, 12, 13, 14, 15, 16, 17, 18, 19, 20, 21, 22, 23, 24, 25, 39] (by decide +kernel) (by decide +kernel)
set_option maxRecDepth 20000 in
theorem gX4_unsetLines_X2_paragraphLinesOf : GoodIn wsX4_unsetLines (wsV RX4 259 RX2 yX2_paragraphLinesOf wsX2_paragraphLinesOf) := goodIn_app (goodIn_of _ (by decide +kernel)) ggX4_unsetLines_X2_paragraphLinesOf
set_option maxRecDepth 20000 in
theorem ggX4_unsetLines_X1_linesOf : GoodIn wsX4_unsetLines wsX1_linesOf := goodIn_r _ [30, 31, 13, 14, 15, 40, 41, 42, 43, 44, 45, 46, 47, 48, 49, 50, 51, 52, 53] (by decide +kernel) (by decide +kernel)
set_option maxRecDepth 20000 in
theorem gX4_unsetLines_X1_linesOf : GoodIn wsX4_unsetLines (wsV RX4 176 RX1 yX1_linesOf wsX1_linesOf) := goodIn_app (goodIn_of _ (by decide +kernel)) ggX4_unsetLines_X1_linesOf
theorem dX4_unsetLines_0 : decode cX4_unsetLines 0 = .ok (.aload_n 0, 1) := by decide +kernel
theorem dX4_unsetLines_1 : decode cX4_unsetLines 1 = .ok (.getfield 12, 3) := by decide +kernel
theorem dX4_unsetLines_4 : decode cX4_unsetLines 4 = .ok (.iload_n 1, 1) := by decide +kernel
theorem dX4_unsetLines_5 : decode cX4_unsetLines 5 = .ok (.invokevirtual 259, 3) := by decide +kernel
theorem dX4_unsetLines_8 : decode cX4_unsetLines 8 = .ok (.aload_n 0, 1) := by decide +kernel
theorem dX4_unsetLines_9 : decode cX4_unsetLines 9 = .ok (.getfield 19, 3) := by decide +kernel
theorem dX4_unsetLines_12 : decode cX4_unsetLines 12 = .ok (.iload_n 1, 1) := by decide +kernel
theorem dX4_unsetLines_13 : decode cX4_unsetLines 13 = .ok (.invokevirtual 176, 3) := by decide +kernel
theorem dX4_unsetLines_16 : decode cX4_unsetLines 16 = .ok (.isub, 1) := by decide +kernel
theorem dX4_unsetLines_17 : decode cX4_unsetLines 17 = .ok (.ireturn, 1) := by decide +kernel
set_option maxRecDepth 20000 in
theorem ggX4_allUnsetLines_X4_unsetLines : GoodIn wsX4_allUnsetLines wsX4_unsetLines := goodIn_r _ [5, 6, 7, 8, 9, 10, 11, 12, 13, 14, 15, 16, 17, 18, 4, 19, 20, 21, 22, 23, 24, 25, 26, 27, 28, 29, 30, 31, 32, 33, 34, 35, 36, 37, 38, 39, 40, 41, 42, 43, 44, 45, 46, 47, 48, 49, 50, 51, 52, 53, 54, 55, 56, 57] (by decide +kernel) (by decide +kernel)
set_option maxRecDepth 20000 in
theorem gX4_allUnsetLines_X4_unsetLines : GoodIn wsX4_allUnsetLines (wsV RX4 191 RX4 yX4_unsetLines wsX4_unsetLines) := goodIn_app (goodIn_of _ (by decide +kernel)) ggX4_allUnsetLines_X4_unsetLines
theorem dX4_allUnsetLines_0 : decode cX4_allUnsetLines 0 = .ok (.iconst 0, 1) := by decide +kernel
theorem dX4_allUnsetLines_1 : decode cX4_allUnsetLines 1 = .ok (.istore_n 1, 1) := by decide +kernel
theorem dX4_allUnsetLines_2 : decode cX4_allUnsetLines 2 = .ok (.iconst 0, 1) := by decide +kernel
theorem dX4_allUnsetLines_3 : decode cX4_allUnsetLines 3 = .ok (.istore_n 2, 1) := by decide +kernel
theorem dX4_allUnsetLines_4 : decode cX4_allUnsetLines 4 = .ok (.iload_n 2, 1) := by decide +kernel
theorem dX4_allUnsetLines_5 : decode cX4_allUnsetLines 5 = .ok (.iconst 4, 1) := by decide +kernel
theorem dX4_allUnsetLines_6 : decode cX4_allUnsetLines 6 = .ok (.if_icmp .ge 17, 3) := by decide +kernel
theorem dX4_allUnsetLines_9 : decode cX4_allUnsetLines 9 = .ok (.iload_n 1, 1) := by decide +kernel
theorem dX4_allUnsetLines_10 : decode cX4_allUnsetLines 10 = .ok (.aload_n 0, 1) := by decide +kernel
theorem dX4_allUnsetLines_11 : decode cX4_allUnsetLines 11 = .ok (.iload_n 2, 1) := by decide +kernel
theorem dX4_allUnsetLines_12 : decode cX4_allUnsetLines 12 = .ok (.invokevirtual 191, 3) := by decide +kernel
theorem dX4_allUnsetLines_15 : decode cX4_allUnsetLines 15 = .ok (.iadd, 1) := by decide +kernel
theorem dX4_allUnsetLines_16 : decode cX4_allUnsetLines 16 = .ok (.istore_n 1, 1) := by decide +kernel
theorem dX4_allUnsetLines_17 : decode cX4_allUnsetLines 17 = .ok (.iinc 2 1, 3) := by decide +kernel
theorem dX4_allUnsetLines_20 : decode cX4_allUnsetLines 20 = .ok (.goto (-16), 3) := by decide +kernel
theorem dX4_allUnsetLines_23 : decode cX4_allUnsetLines 23 = .ok (.iload_n 1, 1) := by decide +kernel
theorem dX4_allUnsetLines_24 : decode cX4_allUnsetLines 24 = .ok (.ireturn, 1) := by decide +kernel
set_option maxRecDepth 20000 in
theorem ggX4_unsetBlocks_X2_blocksOf : GoodIn wsX4_unsetBlocks wsX2_blocksOf := goodIn_r _ [7, 8, 9, 10, 11, 28] (by decide +kernel) (by decide +kernel)
set_option maxRecDepth 20000 in
theorem gX4_unsetBlocks_X2_blocksOf : GoodIn wsX4_unsetBlocks (wsV RX4 81 RX2 yX2_blocksOf wsX2_blocksOf) := goodIn_app (goodIn_of _ (by decide +kernel)) ggX4_unsetBlocks_X2_blocksOf
set_option maxRecDepth 20000 in
theorem ggX4_unsetBlocks_X1_setPartsOf : GoodIn wsX4_unsetBlocks wsX1_setPartsOf := goodIn_r _ [16, 17, 18, 19, 15, 20, 9, 10, 11, 29, 30, 31, 32, 33, 34, 35, 36, 37, 38, 39, 40, 41, 42] (by decide +kernel) (by decide +kernel)
set_option maxRecDepth 20000 in
theorem gX4_unsetBlocks_X1_setPartsOf : GoodIn wsX4_unsetBlocks (wsV RX4 167 RX1 yX1_setPartsOf wsX1_setPartsOf) := goodIn_app (goodIn_of _ (by decide +kernel)) ggX4_unsetBlocks_X1_setPartsOf
theorem dX4_unsetBlocks_0 : decode cX4_unsetBlocks 0 = .ok (.iconst 0, 1) := by decide +kernel
theorem dX4_unsetBlocks_1 : decode cX4_unsetBlocks 1 = .ok (.istore_n 2, 1) := by decide +kernel
theorem dX4_unsetBlocks_2 : decode cX4_unsetBlocks 2 = .ok (.iconst 0, 1) := by decide +kernel
theorem dX4_unsetBlocks_3 : decode cX4_unsetBlocks 3 = .ok (.istore_n 3, 1) := by decide +kernel
theorem dX4_unsetBlocks_4 : decode cX4_unsetBlocks 4 = .ok (.iload_n 3, 1) := by decide +kernel
theorem dX4_unsetBlocks_5 : decode cX4_unsetBlocks 5 = .ok (.aload_n 0, 1) := by decide +kernel
theorem dX4_unsetBlocks_6 : decode cX4_unsetBlocks 6 = .ok (.getfield 12, 3) := by decide +kernel
theorem dX4_unsetBlocks_9 : decode cX4_unsetBlocks 9 = .ok (.iload_n 1, 1) := by decide +kernel
theorem dX4_unsetBlocks_10 : decode cX4_unsetBlocks 10 = .ok (.invokevirtual 81, 3) := by decide +kernel
theorem dX4_unsetBlocks_13 : decode cX4_unsetBlocks 13 = .ok (.if_icmp .ge 24, 3) := by decide +kernel
theorem dX4_unsetBlocks_16 : decode cX4_unsetBlocks 16 = .ok (.aload_n 0, 1) := by decide +kernel
theorem dX4_unsetBlocks_17 : decode cX4_unsetBlocks 17 = .ok (.getfield 19, 3) := by decide +kernel
theorem dX4_unsetBlocks_20 : decode cX4_unsetBlocks 20 = .ok (.iload_n 1, 1) := by decide +kernel
theorem dX4_unsetBlocks_21 : decode cX4_unsetBlocks 21 = .ok (.iload_n 3, 1) := by decide +kernel
theorem dX4_unsetBlocks_22 : decode cX4_unsetBlocks 22 = .ok (.invokevirtual 167, 3) := by decide +kernel
theorem dX4_unsetBlocks_25 : decode cX4_unsetBlocks 25 = .ok (.ifCond .ne 6, 3) := by decide +kernel
theorem dX4_unsetBlocks_28 : decode cX4_unsetBlocks 28 = .ok (.iinc 2 1, 3) := by decide +kernel
theorem dX4_unsetBlocks_31 : decode cX4_unsetBlocks 31 = .ok (.iinc 3 1, 3) := by decide +kernel
theorem dX4_unsetBlocks_34 : decode cX4_unsetBlocks 34 = .ok (.goto (-30), 3) := by decide +kernel
theorem dX4_unsetBlocks_37 : decode cX4_unsetBlocks 37 = .ok (.iload_n 2, 1) := by decide +kernel
theorem dX4_unsetBlocks_38 : decode cX4_unsetBlocks 38 = .ok (.ireturn, 1) := by decide +kernel
theorem dX4_writeParagraph_0 : decode cX4_writeParagraph 0 = .ok (.iload_n 1, 1) := by decide +kernel
theorem dX4_writeParagraph_1 : decode cX4_writeParagraph 1 = .ok (.ifCond .lt 12, 3) := by decide +kernel
theorem dX4_writeParagraph_4 : decode cX4_writeParagraph 4 = .ok (.iload_n 1, 1) := by decide +kernel
theorem dX4_writeParagraph_5 : decode cX4_writeParagraph 5 = .ok (.aload_n 0, 1) := by decide +kernel
theorem dX4_writeParagraph_6 : decode cX4_writeParagraph 6 = .ok (.arraylength, 1) := by decide +kernel
theorem dX4_writeParagraph_7 : decode cX4_writeParagraph 7 = .ok (.bipush 6, 2) := by decide +kernel
theorem dX4_writeParagraph_9 : decode cX4_writeParagraph 9 = .ok (.isub, 1) := by decide +kernel
theorem dX4_writeParagraph_10 : decode cX4_writeParagraph 10 = .ok (.if_icmp .le 4, 3) := by decide +kernel
theorem dX4_writeParagraph_13 : decode cX4_writeParagraph 13 = .ok (.return_, 1) := by decide +kernel
theorem dX4_writeParagraph_14 : decode cX4_writeParagraph 14 = .ok (.aload_n 0, 1) := by decide +kernel
theorem dX4_writeParagraph_15 : decode cX4_writeParagraph 15 = .ok (.iload_n 1, 1) := by decide +kernel
theorem dX4_writeParagraph_16 : decode cX4_writeParagraph 16 = .ok (.iconst 0, 1) := by decide +kernel
theorem dX4_writeParagraph_17 : decode cX4_writeParagraph 17 = .ok (.iadd, 1) := by decide +kernel
theorem dX4_writeParagraph_18 : decode cX4_writeParagraph 18 = .ok (.iconst 0, 1) := by decide +kernel
theorem dX4_writeParagraph_19 : decode cX4_writeParagraph 19 = .ok (.iastore, 1) := by decide +kernel
theorem dX4_writeParagraph_20 : decode cX4_writeParagraph 20 = .ok (.aload_n 0, 1) := by decide +kernel
theorem dX4_writeParagraph_21 : decode cX4_writeParagraph 21 = .ok (.iload_n 1, 1) := by decide +kernel
theorem dX4_writeParagraph_22 : decode cX4_writeParagraph 22 = .ok (.iconst 1, 1) := by decide +kernel
theorem dX4_writeParagraph_23 : decode cX4_writeParagraph 23 = .ok (.iadd, 1) := by decide +kernel
theorem dX4_writeParagraph_24 : decode cX4_writeParagraph 24 = .ok (.iload_n 2, 1) := by decide +kernel
theorem dX4_writeParagraph_25 : decode cX4_writeParagraph 25 = .ok (.iastore, 1) := by decide +kernel
theorem dX4_writeParagraph_26 : decode cX4_writeParagraph 26 = .ok (.aload_n 0, 1) := by decide +kernel
theorem dX4_writeParagraph_27 : decode cX4_writeParagraph 27 = .ok (.iload_n 1, 1) := by decide +kernel
theorem dX4_writeParagraph_28 : decode cX4_writeParagraph 28 = .ok (.iconst 2, 1) := by decide +kernel
theorem dX4_writeParagraph_29 : decode cX4_writeParagraph 29 = .ok (.iadd, 1) := by decide +kernel
theorem dX4_writeParagraph_30 : decode cX4_writeParagraph 30 = .ok (.iload_n 3, 1) := by decide +kernel
theorem dX4_writeParagraph_31 : decode cX4_writeParagraph 31 = .ok (.iastore, 1) := by decide +kernel
theorem dX4_writeParagraph_32 : decode cX4_writeParagraph 32 = .ok (.aload_n 0, 1) := by decide +kernel
theorem dX4_writeParagraph_33 : decode cX4_writeParagraph 33 = .ok (.iload_n 1, 1) := by decide +kernel
theorem dX4_writeParagraph_34 : decode cX4_writeParagraph 34 = .ok (.iconst 3, 1) := by decide +kernel
theorem dX4_writeParagraph_35 : decode cX4_writeParagraph 35 = .ok (.iadd, 1) := by decide +kernel
theorem dX4_writeParagraph_36 : decode cX4_writeParagraph 36 = .ok (.iload 4, 2) := by decide +kernel
theorem dX4_writeParagraph_38 : decode cX4_writeParagraph 38 = .ok (.iastore, 1) := by decide +kernel
theorem dX4_writeParagraph_39 : decode cX4_writeParagraph 39 = .ok (.aload_n 0, 1) := by decide +kernel
theorem dX4_writeParagraph_40 : decode cX4_writeParagraph 40 = .ok (.iload_n 1, 1) := by decide +kernel
theorem dX4_writeParagraph_41 : decode cX4_writeParagraph 41 = .ok (.iconst 4, 1) := by decide +kernel
theorem dX4_writeParagraph_42 : decode cX4_writeParagraph 42 = .ok (.iadd, 1) := by decide +kernel
theorem dX4_writeParagraph_43 : decode cX4_writeParagraph 43 = .ok (.iload 5, 2) := by decide +kernel
theorem dX4_writeParagraph_45 : decode cX4_writeParagraph 45 = .ok (.ifCond .eq 7, 3) := by decide +kernel
theorem dX4_writeParagraph_48 : decode cX4_writeParagraph 48 = .ok (.iconst 1, 1) := by decide +kernel
theorem dX4_writeParagraph_49 : decode cX4_writeParagraph 49 = .ok (.goto 4, 3) := by decide +kernel
theorem dX4_writeParagraph_52 : decode cX4_writeParagraph 52 = .ok (.iconst 0, 1) := by decide +kernel
theorem dX4_writeParagraph_53 : decode cX4_writeParagraph 53 = .ok (.iastore, 1) := by decide +kernel
theorem dX4_writeParagraph_54 : decode cX4_writeParagraph 54 = .ok (.aload_n 0, 1) := by decide +kernel
theorem dX4_writeParagraph_55 : decode cX4_writeParagraph 55 = .ok (.iload_n 1, 1) := by decide +kernel
theorem dX4_writeParagraph_56 : decode cX4_writeParagraph 56 = .ok (.iconst 5, 1) := by decide +kernel
theorem dX4_writeParagraph_57 : decode cX4_writeParagraph 57 = .ok (.iadd, 1) := by decide +kernel
theorem dX4_writeParagraph_58 : decode cX4_writeParagraph 58 = .ok (.bipush (-5), 2) := by decide +kernel
theorem dX4_writeParagraph_60 : decode cX4_writeParagraph 60 = .ok (.iastore, 1) := by decide +kernel
theorem dX4_writeParagraph_61 : decode cX4_writeParagraph 61 = .ok (.return_, 1) := by decide +kernel
theorem dX4_writeLineless_0 : decode cX4_writeLineless 0 = .ok (.iload_n 1, 1) := by decide +kernel
theorem dX4_writeLineless_1 : decode cX4_writeLineless 1 = .ok (.ifCond .lt 12, 3) := by decide +kernel
theorem dX4_writeLineless_4 : decode cX4_writeLineless 4 = .ok (.iload_n 1, 1) := by decide +kernel
theorem dX4_writeLineless_5 : decode cX4_writeLineless 5 = .ok (.aload_n 0, 1) := by decide +kernel
theorem dX4_writeLineless_6 : decode cX4_writeLineless 6 = .ok (.arraylength, 1) := by decide +kernel
theorem dX4_writeLineless_7 : decode cX4_writeLineless 7 = .ok (.bipush 6, 2) := by decide +kernel
theorem dX4_writeLineless_9 : decode cX4_writeLineless 9 = .ok (.isub, 1) := by decide +kernel
theorem dX4_writeLineless_10 : decode cX4_writeLineless 10 = .ok (.if_icmp .le 4, 3) := by decide +kernel
theorem dX4_writeLineless_13 : decode cX4_writeLineless 13 = .ok (.return_, 1) := by decide +kernel
theorem dX4_writeLineless_14 : decode cX4_writeLineless 14 = .ok (.aload_n 0, 1) := by decide +kernel
theorem dX4_writeLineless_15 : decode cX4_writeLineless 15 = .ok (.iload_n 1, 1) := by decide +kernel
theorem dX4_writeLineless_16 : decode cX4_writeLineless 16 = .ok (.iconst 0, 1) := by decide +kernel
theorem dX4_writeLineless_17 : decode cX4_writeLineless 17 = .ok (.iadd, 1) := by decide +kernel
theorem dX4_writeLineless_18 : decode cX4_writeLineless 18 = .ok (.iload_n 2, 1) := by decide +kernel
theorem dX4_writeLineless_19 : decode cX4_writeLineless 19 = .ok (.iastore, 1) := by decide +kernel
theorem dX4_writeLineless_20 : decode cX4_writeLineless 20 = .ok (.aload_n 0, 1) := by decide +kernel
theorem dX4_writeLineless_21 : decode cX4_writeLineless 21 = .ok (.iload_n 1, 1) := by decide +kernel
theorem dX4_writeLineless_22 : decode cX4_writeLineless 22 = .ok (.iconst 1, 1) := by decide +kernel
theorem dX4_writeLineless_23 : decode cX4_writeLineless 23 = .ok (.iadd, 1) := by decide +kernel
theorem dX4_writeLineless_24 : decode cX4_writeLineless 24 = .ok (.bipush (-5), 2) := by decide +kernel
theorem dX4_writeLineless_26 : decode cX4_writeLineless 26 = .ok (.iastore, 1) := by decide +kernel
theorem dX4_writeLineless_27 : decode cX4_writeLineless 27 = .ok (.aload_n 0, 1) := by decide +kernel
theorem dX4_writeLineless_28 : decode cX4_writeLineless 28 = .ok (.iload_n 1, 1) := by decide +kernel
theorem dX4_writeLineless_29 : decode cX4_writeLineless 29 = .ok (.iconst 2, 1) := by decide +kernel
theorem dX4_writeLineless_30 : decode cX4_writeLineless 30 = .ok (.iadd, 1) := by decide +kernel
theorem dX4_writeLineless_31 : decode cX4_writeLineless 31 = .ok (.bipush (-5), 2) := by decide +kernel
theorem dX4_writeLineless_33 : decode cX4_writeLineless 33 = .ok (.iastore, 1) := by decide +kernel
theorem dX4_writeLineless_34 : decode cX4_writeLineless 34 = .ok (.aload_n 0, 1) := by decide +kernel
theorem dX4_writeLineless_35 : decode cX4_writeLineless 35 = .ok (.iload_n 1, 1) := by decide +kernel
theorem dX4_writeLineless_36 : decode cX4_writeLineless 36 = .ok (.iconst 3, 1) := by decide +kernel
theorem dX4_writeLineless_37 : decode cX4_writeLineless 37 = .ok (.iadd, 1) := by decide +kernel
theorem dX4_writeLineless_38 : decode cX4_writeLineless 38 = .ok (.bipush (-5), 2) := by decide +kernel
theorem dX4_writeLineless_40 : decode cX4_writeLineless 40 = .ok (.iastore, 1) := by decide +kernel
theorem dX4_writeLineless_41 : decode cX4_writeLineless 41 = .ok (.aload_n 0, 1) := by decide +kernel
theorem dX4_writeLineless_42 : decode cX4_writeLineless 42 = .ok (.iload_n 1, 1) := by decide +kernel
theorem dX4_writeLineless_43 : decode cX4_writeLineless 43 = .ok (.iconst 4, 1) := by decide +kernel
theorem dX4_writeLineless_44 : decode cX4_writeLineless 44 = .ok (.iadd, 1) := by decide +kernel
theorem dX4_writeLineless_45 : decode cX4_writeLineless 45 = .ok (.bipush (-5), 2) := by decide +kernel
theorem dX4_writeLineless_47 : decode cX4_writeLineless 47 = .ok (.iastore, 1) := by decide +kernel
theorem dX4_writeLineless_48 : decode cX4_writeLineless 48 = .ok (.aload_n 0, 1) := by decide +kernel
theorem dX4_writeLineless_49 : decode cX4_writeLineless 49 = .ok (.iload_n 1, 1) := by decide +kernel
theorem dX4_writeLineless_50 : decode cX4_writeLineless 50 = .ok (.iconst 5, 1) := by decide +kernel
theorem dX4_writeLineless_51 : decode cX4_writeLineless 51 = .ok (.iadd, 1) := by decide +kernel
theorem dX4_writeLineless_52 : decode cX4_writeLineless 52 = .ok (.iload_n 3, 1) := by decide +kernel
theorem dX4_writeLineless_53 : decode cX4_writeLineless 53 = .ok (.iastore, 1) := by decide +kernel
theorem dX4_writeLineless_54 : decode cX4_writeLineless 54 = .ok (.return_, 1) := by decide +kernel
theorem dX4_copyCells_0 : decode cX4_copyCells 0 = .ok (.iload 4, 2) := by decide +kernel
theorem dX4_copyCells_2 : decode cX4_copyCells 2 = .ok (.ifCond .lt 29, 3) := by decide +kernel
theorem dX4_copyCells_5 : decode cX4_copyCells 5 = .ok (.iload_n 1, 1) := by decide +kernel
theorem dX4_copyCells_6 : decode cX4_copyCells 6 = .ok (.ifCond .lt 25, 3) := by decide +kernel
theorem dX4_copyCells_9 : decode cX4_copyCells 9 = .ok (.iload_n 3, 1) := by decide +kernel
theorem dX4_copyCells_10 : decode cX4_copyCells 10 = .ok (.ifCond .lt 21, 3) := by decide +kernel
theorem dX4_copyCells_13 : decode cX4_copyCells 13 = .ok (.iload_n 1, 1) := by decide +kernel
theorem dX4_copyCells_14 : decode cX4_copyCells 14 = .ok (.aload_n 0, 1) := by decide +kernel
theorem dX4_copyCells_15 : decode cX4_copyCells 15 = .ok (.arraylength, 1) := by decide +kernel
theorem dX4_copyCells_16 : decode cX4_copyCells 16 = .ok (.iload 4, 2) := by decide +kernel
theorem dX4_copyCells_18 : decode cX4_copyCells 18 = .ok (.isub, 1) := by decide +kernel
theorem dX4_copyCells_19 : decode cX4_copyCells 19 = .ok (.if_icmp .gt 12, 3) := by decide +kernel
theorem dX4_copyCells_22 : decode cX4_copyCells 22 = .ok (.iload_n 3, 1) := by decide +kernel
theorem dX4_copyCells_23 : decode cX4_copyCells 23 = .ok (.aload_n 2, 1) := by decide +kernel
theorem dX4_copyCells_24 : decode cX4_copyCells 24 = .ok (.arraylength, 1) := by decide +kernel
theorem dX4_copyCells_25 : decode cX4_copyCells 25 = .ok (.iload 4, 2) := by decide +kernel
theorem dX4_copyCells_27 : decode cX4_copyCells 27 = .ok (.isub, 1) := by decide +kernel
theorem dX4_copyCells_28 : decode cX4_copyCells 28 = .ok (.if_icmp .le 4, 3) := by decide +kernel
theorem dX4_copyCells_31 : decode cX4_copyCells 31 = .ok (.return_, 1) := by decide +kernel
theorem dX4_copyCells_32 : decode cX4_copyCells 32 = .ok (.aload_n 0, 1) := by decide +kernel
theorem dX4_copyCells_33 : decode cX4_copyCells 33 = .ok (.iload_n 1, 1) := by decide +kernel
theorem dX4_copyCells_34 : decode cX4_copyCells 34 = .ok (.aload_n 2, 1) := by decide +kernel
theorem dX4_copyCells_35 : decode cX4_copyCells 35 = .ok (.iload_n 3, 1) := by decide +kernel
theorem dX4_copyCells_36 : decode cX4_copyCells 36 = .ok (.iload 4, 2) := by decide +kernel
theorem dX4_copyCells_38 : decode cX4_copyCells 38 = .ok (.invokestatic 262, 3) := by decide +kernel
theorem dX4_copyCells_41 : decode cX4_copyCells 41 = .ok (.return_, 1) := by decide +kernel
