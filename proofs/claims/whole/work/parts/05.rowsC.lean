theorem dX5_init_0 : decode cX5_init 0 = .ok (.aload_n 0, 1) := by decide +kernel
theorem dX5_init_1 : decode cX5_init 1 = .ok (.invokespecial 1, 3) := by decide +kernel
theorem dX5_init_4 : decode cX5_init 4 = .ok (.aload_n 0, 1) := by decide +kernel
theorem dX5_init_5 : decode cX5_init 5 = .ok (.sipush 393, 3) := by decide +kernel
theorem dX5_init_8 : decode cX5_init 8 = .ok (.newarray .int, 2) := by decide +kernel
theorem dX5_init_10 : decode cX5_init 10 = .ok (.putfield 7, 3) := by decide +kernel
theorem dX5_init_13 : decode cX5_init 13 = .ok (.aload_n 0, 1) := by decide +kernel
theorem dX5_init_14 : decode cX5_init 14 = .ok (.sipush 393, 3) := by decide +kernel
theorem dX5_init_17 : decode cX5_init 17 = .ok (.newarray .int, 2) := by decide +kernel
theorem dX5_init_19 : decode cX5_init 19 = .ok (.putfield 13, 3) := by decide +kernel
theorem dX5_init_22 : decode cX5_init 22 = .ok (.aload_n 0, 1) := by decide +kernel
theorem dX5_init_23 : decode cX5_init 23 = .ok (.sipush 1572, 3) := by decide +kernel
theorem dX5_init_26 : decode cX5_init 26 = .ok (.newarray .int, 2) := by decide +kernel
theorem dX5_init_28 : decode cX5_init 28 = .ok (.putfield 16, 3) := by decide +kernel
theorem dX5_init_31 : decode cX5_init 31 = .ok (.aload_n 0, 1) := by decide +kernel
theorem dX5_init_32 : decode cX5_init 32 = .ok (.bipush 60, 2) := by decide +kernel
theorem dX5_init_34 : decode cX5_init 34 = .ok (.newarray .int, 2) := by decide +kernel
theorem dX5_init_36 : decode cX5_init 36 = .ok (.putfield 19, 3) := by decide +kernel
theorem dX5_init_39 : decode cX5_init 39 = .ok (.aload_n 0, 1) := by decide +kernel
theorem dX5_init_40 : decode cX5_init 40 = .ok (.sipush 2560, 3) := by decide +kernel
theorem dX5_init_43 : decode cX5_init 43 = .ok (.newarray .int, 2) := by decide +kernel
theorem dX5_init_45 : decode cX5_init 45 = .ok (.putfield 22, 3) := by decide +kernel
theorem dX5_init_48 : decode cX5_init 48 = .ok (.aload_n 0, 1) := by decide +kernel
theorem dX5_init_49 : decode cX5_init 49 = .ok (.sipush 2560, 3) := by decide +kernel
theorem dX5_init_52 : decode cX5_init 52 = .ok (.newarray .int, 2) := by decide +kernel
theorem dX5_init_54 : decode cX5_init 54 = .ok (.putfield 25, 3) := by decide +kernel
theorem dX5_init_57 : decode cX5_init 57 = .ok (.aload_n 0, 1) := by decide +kernel
theorem dX5_init_58 : decode cX5_init 58 = .ok (.iconst 4, 1) := by decide +kernel
theorem dX5_init_59 : decode cX5_init 59 = .ok (.newarray .int, 2) := by decide +kernel
theorem dX5_init_61 : decode cX5_init 61 = .ok (.putfield 28, 3) := by decide +kernel
theorem dX5_init_64 : decode cX5_init 64 = .ok (.aload_n 0, 1) := by decide +kernel
theorem dX5_init_65 : decode cX5_init 65 = .ok (.iconst 4, 1) := by decide +kernel
theorem dX5_init_66 : decode cX5_init 66 = .ok (.newarray .int, 2) := by decide +kernel
theorem dX5_init_68 : decode cX5_init 68 = .ok (.putfield 31, 3) := by decide +kernel
theorem dX5_init_71 : decode cX5_init 71 = .ok (.aload_n 0, 1) := by decide +kernel
theorem dX5_init_72 : decode cX5_init 72 = .ok (.iconst 4, 1) := by decide +kernel
theorem dX5_init_73 : decode cX5_init 73 = .ok (.newarray .int, 2) := by decide +kernel
theorem dX5_init_75 : decode cX5_init 75 = .ok (.putfield 34, 3) := by decide +kernel
theorem dX5_init_78 : decode cX5_init 78 = .ok (.aload_n 0, 1) := by decide +kernel
theorem dX5_init_79 : decode cX5_init 79 = .ok (.bipush 64, 2) := by decide +kernel
theorem dX5_init_81 : decode cX5_init 81 = .ok (.newarray .int, 2) := by decide +kernel
theorem dX5_init_83 : decode cX5_init 83 = .ok (.putfield 37, 3) := by decide +kernel
theorem dX5_init_86 : decode cX5_init 86 = .ok (.aload_n 0, 1) := by decide +kernel
theorem dX5_init_87 : decode cX5_init 87 = .ok (.bipush 64, 2) := by decide +kernel
theorem dX5_init_89 : decode cX5_init 89 = .ok (.newarray .int, 2) := by decide +kernel
theorem dX5_init_91 : decode cX5_init 91 = .ok (.putfield 40, 3) := by decide +kernel
theorem dX5_init_94 : decode cX5_init 94 = .ok (.aload_n 0, 1) := by decide +kernel
theorem dX5_init_95 : decode cX5_init 95 = .ok (.bipush 64, 2) := by decide +kernel
theorem dX5_init_97 : decode cX5_init 97 = .ok (.newarray .int, 2) := by decide +kernel
theorem dX5_init_99 : decode cX5_init 99 = .ok (.putfield 43, 3) := by decide +kernel
theorem dX5_init_102 : decode cX5_init 102 = .ok (.aload_n 0, 1) := by decide +kernel
theorem dX5_init_103 : decode cX5_init 103 = .ok (.getfield 7, 3) := by decide +kernel
theorem dX5_init_106 : decode cX5_init 106 = .ok (.iconst 0, 1) := by decide +kernel
theorem dX5_init_107 : decode cX5_init 107 = .ok (.sipush 6000, 3) := by decide +kernel
theorem dX5_init_110 : decode cX5_init 110 = .ok (.iastore, 1) := by decide +kernel
theorem dX5_init_111 : decode cX5_init 111 = .ok (.aload_n 0, 1) := by decide +kernel
theorem dX5_init_112 : decode cX5_init 112 = .ok (.getfield 7, 3) := by decide +kernel
theorem dX5_init_115 : decode cX5_init 115 = .ok (.iconst 1, 1) := by decide +kernel
theorem dX5_init_116 : decode cX5_init 116 = .ok (.bipush 100, 2) := by decide +kernel
theorem dX5_init_118 : decode cX5_init 118 = .ok (.iastore, 1) := by decide +kernel
theorem dX5_init_119 : decode cX5_init 119 = .ok (.aload_n 0, 1) := by decide +kernel
theorem dX5_init_120 : decode cX5_init 120 = .ok (.getfield 7, 3) := by decide +kernel
theorem dX5_init_123 : decode cX5_init 123 = .ok (.iconst 2, 1) := by decide +kernel
theorem dX5_init_124 : decode cX5_init 124 = .ok (.bipush 120, 2) := by decide +kernel
theorem dX5_init_126 : decode cX5_init 126 = .ok (.iastore, 1) := by decide +kernel
theorem dX5_init_127 : decode cX5_init 127 = .ok (.aload_n 0, 1) := by decide +kernel
theorem dX5_init_128 : decode cX5_init 128 = .ok (.getfield 7, 3) := by decide +kernel
theorem dX5_init_131 : decode cX5_init 131 = .ok (.iconst 3, 1) := by decide +kernel
theorem dX5_init_132 : decode cX5_init 132 = .ok (.iconst 1, 1) := by decide +kernel
theorem dX5_init_133 : decode cX5_init 133 = .ok (.iastore, 1) := by decide +kernel
theorem dX5_init_134 : decode cX5_init 134 = .ok (.aload_n 0, 1) := by decide +kernel
theorem dX5_init_135 : decode cX5_init 135 = .ok (.getfield 7, 3) := by decide +kernel
theorem dX5_init_138 : decode cX5_init 138 = .ok (.iconst 4, 1) := by decide +kernel
theorem dX5_init_139 : decode cX5_init 139 = .ok (.iconst 2, 1) := by decide +kernel
theorem dX5_init_140 : decode cX5_init 140 = .ok (.iastore, 1) := by decide +kernel
theorem dX5_init_141 : decode cX5_init 141 = .ok (.return_, 1) := by decide +kernel
theorem dX5_in_0 : decode cX5_in 0 = .ok (.iload_n 0, 1) := by decide +kernel
theorem dX5_in_1 : decode cX5_in 1 = .ok (.iload_n 1, 1) := by decide +kernel
theorem dX5_in_2 : decode cX5_in 2 = .ok (.if_icmp .lt 12, 3) := by decide +kernel
theorem dX5_in_5 : decode cX5_in 5 = .ok (.iload_n 0, 1) := by decide +kernel
theorem dX5_in_6 : decode cX5_in 6 = .ok (.iload_n 2, 1) := by decide +kernel
theorem dX5_in_7 : decode cX5_in 7 = .ok (.if_icmp .gt 7, 3) := by decide +kernel
theorem dX5_in_10 : decode cX5_in 10 = .ok (.iconst 1, 1) := by decide +kernel
theorem dX5_in_11 : decode cX5_in 11 = .ok (.goto 4, 3) := by decide +kernel
theorem dX5_in_14 : decode cX5_in 14 = .ok (.iconst 0, 1) := by decide +kernel
theorem dX5_in_15 : decode cX5_in 15 = .ok (.ireturn, 1) := by decide +kernel
set_option maxRecDepth 20000 in
theorem ggX5_isColumn_X5_in : GoodIn wsX5_isColumn wsX5_in := goodIn_r _ [4] (by decide +kernel) (by decide +kernel)
set_option maxRecDepth 20000 in
theorem gX5_isColumn_X5_in : GoodIn wsX5_isColumn (va_wsS RX5 46 yX5_in wsX5_in) := goodIn_app (goodIn_of _ (by decide +kernel)) ggX5_isColumn_X5_in
theorem dX5_isColumn_0 : decode cX5_isColumn 0 = .ok (.iload_n 0, 1) := by decide +kernel
theorem dX5_isColumn_1 : decode cX5_isColumn 1 = .ok (.iconst 0, 1) := by decide +kernel
theorem dX5_isColumn_2 : decode cX5_isColumn 2 = .ok (.iconst 3, 1) := by decide +kernel
theorem dX5_isColumn_3 : decode cX5_isColumn 3 = .ok (.invokestatic 46, 3) := by decide +kernel
theorem dX5_isColumn_6 : decode cX5_isColumn 6 = .ok (.ireturn, 1) := by decide +kernel
theorem dX5_record_0 : decode cX5_record 0 = .ok (.aload_n 0, 1) := by decide +kernel
theorem dX5_record_1 : decode cX5_record 1 = .ok (.getfield 50, 3) := by decide +kernel
theorem dX5_record_4 : decode cX5_record 4 = .ok (.iconst 4, 1) := by decide +kernel
theorem dX5_record_5 : decode cX5_record 5 = .ok (.if_icmp .ne 44, 3) := by decide +kernel
theorem dX5_record_8 : decode cX5_record 8 = .ok (.iconst 0, 1) := by decide +kernel
theorem dX5_record_9 : decode cX5_record 9 = .ok (.istore_n 1, 1) := by decide +kernel
theorem dX5_record_10 : decode cX5_record 10 = .ok (.iload_n 1, 1) := by decide +kernel
theorem dX5_record_11 : decode cX5_record 11 = .ok (.sipush 1179, 3) := by decide +kernel
theorem dX5_record_14 : decode cX5_record 14 = .ok (.if_icmp .ge 25, 3) := by decide +kernel
theorem dX5_record_17 : decode cX5_record 17 = .ok (.aload_n 0, 1) := by decide +kernel
theorem dX5_record_18 : decode cX5_record 18 = .ok (.getfield 16, 3) := by decide +kernel
theorem dX5_record_21 : decode cX5_record 21 = .ok (.iload_n 1, 1) := by decide +kernel
theorem dX5_record_22 : decode cX5_record 22 = .ok (.aload_n 0, 1) := by decide +kernel
theorem dX5_record_23 : decode cX5_record 23 = .ok (.getfield 16, 3) := by decide +kernel
theorem dX5_record_26 : decode cX5_record 26 = .ok (.iload_n 1, 1) := by decide +kernel
theorem dX5_record_27 : decode cX5_record 27 = .ok (.sipush 393, 3) := by decide +kernel
theorem dX5_record_30 : decode cX5_record 30 = .ok (.iadd, 1) := by decide +kernel
theorem dX5_record_31 : decode cX5_record 31 = .ok (.iaload, 1) := by decide +kernel
theorem dX5_record_32 : decode cX5_record 32 = .ok (.iastore, 1) := by decide +kernel
theorem dX5_record_33 : decode cX5_record 33 = .ok (.iinc 1 1, 3) := by decide +kernel
theorem dX5_record_36 : decode cX5_record 36 = .ok (.goto (-26), 3) := by decide +kernel
theorem dX5_record_39 : decode cX5_record 39 = .ok (.aload_n 0, 1) := by decide +kernel
theorem dX5_record_40 : decode cX5_record 40 = .ok (.dup, 1) := by decide +kernel
theorem dX5_record_41 : decode cX5_record 41 = .ok (.getfield 50, 3) := by decide +kernel
theorem dX5_record_44 : decode cX5_record 44 = .ok (.iconst 1, 1) := by decide +kernel
theorem dX5_record_45 : decode cX5_record 45 = .ok (.isub, 1) := by decide +kernel
theorem dX5_record_46 : decode cX5_record 46 = .ok (.putfield 50, 3) := by decide +kernel
theorem dX5_record_49 : decode cX5_record 49 = .ok (.iconst 0, 1) := by decide +kernel
theorem dX5_record_50 : decode cX5_record 50 = .ok (.istore_n 1, 1) := by decide +kernel
theorem dX5_record_51 : decode cX5_record 51 = .ok (.iload_n 1, 1) := by decide +kernel
theorem dX5_record_52 : decode cX5_record 52 = .ok (.sipush 393, 3) := by decide +kernel
theorem dX5_record_55 : decode cX5_record 55 = .ok (.if_icmp .ge 30, 3) := by decide +kernel
theorem dX5_record_58 : decode cX5_record 58 = .ok (.aload_n 0, 1) := by decide +kernel
theorem dX5_record_59 : decode cX5_record 59 = .ok (.getfield 16, 3) := by decide +kernel
theorem dX5_record_62 : decode cX5_record 62 = .ok (.sipush 393, 3) := by decide +kernel
theorem dX5_record_65 : decode cX5_record 65 = .ok (.aload_n 0, 1) := by decide +kernel
theorem dX5_record_66 : decode cX5_record 66 = .ok (.getfield 50, 3) := by decide +kernel
theorem dX5_record_69 : decode cX5_record 69 = .ok (.imul, 1) := by decide +kernel
theorem dX5_record_70 : decode cX5_record 70 = .ok (.iload_n 1, 1) := by decide +kernel
theorem dX5_record_71 : decode cX5_record 71 = .ok (.iadd, 1) := by decide +kernel
theorem dX5_record_72 : decode cX5_record 72 = .ok (.aload_n 0, 1) := by decide +kernel
theorem dX5_record_73 : decode cX5_record 73 = .ok (.getfield 7, 3) := by decide +kernel
theorem dX5_record_76 : decode cX5_record 76 = .ok (.iload_n 1, 1) := by decide +kernel
theorem dX5_record_77 : decode cX5_record 77 = .ok (.iaload, 1) := by decide +kernel
theorem dX5_record_78 : decode cX5_record 78 = .ok (.iastore, 1) := by decide +kernel
theorem dX5_record_79 : decode cX5_record 79 = .ok (.iinc 1 1, 3) := by decide +kernel
theorem dX5_record_82 : decode cX5_record 82 = .ok (.goto (-31), 3) := by decide +kernel
theorem dX5_record_85 : decode cX5_record 85 = .ok (.aload_n 0, 1) := by decide +kernel
theorem dX5_record_86 : decode cX5_record 86 = .ok (.dup, 1) := by decide +kernel
theorem dX5_record_87 : decode cX5_record 87 = .ok (.getfield 50, 3) := by decide +kernel
theorem dX5_record_90 : decode cX5_record 90 = .ok (.iconst 1, 1) := by decide +kernel
theorem dX5_record_91 : decode cX5_record 91 = .ok (.iadd, 1) := by decide +kernel
theorem dX5_record_92 : decode cX5_record 92 = .ok (.putfield 50, 3) := by decide +kernel
theorem dX5_record_95 : decode cX5_record 95 = .ok (.return_, 1) := by decide +kernel
theorem dX5_blocks_0 : decode cX5_blocks 0 = .ok (.aload_n 0, 1) := by decide +kernel
theorem dX5_blocks_1 : decode cX5_blocks 1 = .ok (.getfield 7, 3) := by decide +kernel
theorem dX5_blocks_4 : decode cX5_blocks 4 = .ok (.iconst 5, 1) := by decide +kernel
theorem dX5_blocks_5 : decode cX5_blocks 5 = .ok (.bipush 97, 2) := by decide +kernel
theorem dX5_blocks_7 : decode cX5_blocks 7 = .ok (.iload_n 1, 1) := by decide +kernel
theorem dX5_blocks_8 : decode cX5_blocks 8 = .ok (.imul, 1) := by decide +kernel
theorem dX5_blocks_9 : decode cX5_blocks 9 = .ok (.iadd, 1) := by decide +kernel
theorem dX5_blocks_10 : decode cX5_blocks 10 = .ok (.iaload, 1) := by decide +kernel
theorem dX5_blocks_11 : decode cX5_blocks 11 = .ok (.ireturn, 1) := by decide +kernel
theorem dX5_cell_0 : decode cX5_cell 0 = .ok (.iconst 5, 1) := by decide +kernel
theorem dX5_cell_1 : decode cX5_cell 1 = .ok (.bipush 97, 2) := by decide +kernel
theorem dX5_cell_3 : decode cX5_cell 3 = .ok (.iload_n 1, 1) := by decide +kernel
theorem dX5_cell_4 : decode cX5_cell 4 = .ok (.imul, 1) := by decide +kernel
theorem dX5_cell_5 : decode cX5_cell 5 = .ok (.iadd, 1) := by decide +kernel
theorem dX5_cell_6 : decode cX5_cell 6 = .ok (.iconst 1, 1) := by decide +kernel
theorem dX5_cell_7 : decode cX5_cell 7 = .ok (.iadd, 1) := by decide +kernel
theorem dX5_cell_8 : decode cX5_cell 8 = .ok (.bipush 6, 2) := by decide +kernel
theorem dX5_cell_10 : decode cX5_cell 10 = .ok (.iload_n 2, 1) := by decide +kernel
theorem dX5_cell_11 : decode cX5_cell 11 = .ok (.imul, 1) := by decide +kernel
theorem dX5_cell_12 : decode cX5_cell 12 = .ok (.iadd, 1) := by decide +kernel
theorem dX5_cell_13 : decode cX5_cell 13 = .ok (.iload_n 3, 1) := by decide +kernel
theorem dX5_cell_14 : decode cX5_cell 14 = .ok (.iadd, 1) := by decide +kernel
theorem dX5_cell_15 : decode cX5_cell 15 = .ok (.ireturn, 1) := by decide +kernel
set_option maxRecDepth 20000 in
theorem ggX5_of_X5_cell : GoodIn wsX5_of wsX5_cell := goodIn_r _ [6] (by decide +kernel) (by decide +kernel)
set_option maxRecDepth 20000 in
theorem gX5_of_X5_cell : GoodIn wsX5_of (wsV RX5 54 RX5 yX5_cell wsX5_cell) := goodIn_app (goodIn_of _ (by decide +kernel)) ggX5_of_X5_cell
theorem dX5_of_0 : decode cX5_of 0 = .ok (.aload_n 0, 1) := by decide +kernel
theorem dX5_of_1 : decode cX5_of 1 = .ok (.getfield 7, 3) := by decide +kernel
theorem dX5_of_4 : decode cX5_of 4 = .ok (.aload_n 0, 1) := by decide +kernel
theorem dX5_of_5 : decode cX5_of 5 = .ok (.iload_n 1, 1) := by decide +kernel
theorem dX5_of_6 : decode cX5_of 6 = .ok (.iload_n 2, 1) := by decide +kernel
theorem dX5_of_7 : decode cX5_of 7 = .ok (.iload_n 3, 1) := by decide +kernel
theorem dX5_of_8 : decode cX5_of 8 = .ok (.invokevirtual 54, 3) := by decide +kernel
theorem dX5_of_11 : decode cX5_of 11 = .ok (.iaload, 1) := by decide +kernel
theorem dX5_of_12 : decode cX5_of 12 = .ok (.ireturn, 1) := by decide +kernel
set_option maxRecDepth 20000 in
theorem ggX5_isBlock_X5_isColumn : GoodIn wsX5_isBlock wsX5_isColumn := goodIn_r _ [4, 5, 6, 3, 7] (by decide +kernel) (by decide +kernel)
set_option maxRecDepth 20000 in
theorem gX5_isBlock_X5_isColumn : GoodIn wsX5_isBlock (va_wsS RX5 58 yX5_isColumn wsX5_isColumn) := goodIn_app (goodIn_of _ (by decide +kernel)) ggX5_isBlock_X5_isColumn
set_option maxRecDepth 20000 in
theorem ggX5_isBlock_X5_blocks : GoodIn wsX5_isBlock wsX5_blocks := goodIn_r _ [11, 12, 13, 14, 15, 16, 17, 18, 19, 20, 21, 22, 23, 24, 25, 26, 27, 28] (by decide +kernel) (by decide +kernel)
set_option maxRecDepth 20000 in
theorem gX5_isBlock_X5_blocks : GoodIn wsX5_isBlock (wsV RX5 62 RX5 yX5_blocks wsX5_blocks) := goodIn_app (goodIn_of _ (by decide +kernel)) ggX5_isBlock_X5_blocks
set_option maxRecDepth 20000 in
theorem ggX5_isBlock_X5_in : GoodIn wsX5_isBlock wsX5_in := goodIn_r _ [7] (by decide +kernel) (by decide +kernel)
set_option maxRecDepth 20000 in
theorem gX5_isBlock_X5_in : GoodIn wsX5_isBlock (va_wsS RX5 46 yX5_in wsX5_in) := goodIn_app (goodIn_of _ (by decide +kernel)) ggX5_isBlock_X5_in
theorem dX5_isBlock_0 : decode cX5_isBlock 0 = .ok (.iload_n 1, 1) := by decide +kernel
theorem dX5_isBlock_1 : decode cX5_isBlock 1 = .ok (.invokestatic 58, 3) := by decide +kernel
theorem dX5_isBlock_4 : decode cX5_isBlock 4 = .ok (.ifCond .eq 22, 3) := by decide +kernel
theorem dX5_isBlock_7 : decode cX5_isBlock 7 = .ok (.iload_n 2, 1) := by decide +kernel
theorem dX5_isBlock_8 : decode cX5_isBlock 8 = .ok (.iconst 0, 1) := by decide +kernel
theorem dX5_isBlock_9 : decode cX5_isBlock 9 = .ok (.aload_n 0, 1) := by decide +kernel
theorem dX5_isBlock_10 : decode cX5_isBlock 10 = .ok (.iload_n 1, 1) := by decide +kernel
theorem dX5_isBlock_11 : decode cX5_isBlock 11 = .ok (.invokevirtual 62, 3) := by decide +kernel
theorem dX5_isBlock_14 : decode cX5_isBlock 14 = .ok (.iconst 1, 1) := by decide +kernel
theorem dX5_isBlock_15 : decode cX5_isBlock 15 = .ok (.isub, 1) := by decide +kernel
theorem dX5_isBlock_16 : decode cX5_isBlock 16 = .ok (.invokestatic 46, 3) := by decide +kernel
theorem dX5_isBlock_19 : decode cX5_isBlock 19 = .ok (.ifCond .eq 7, 3) := by decide +kernel
theorem dX5_isBlock_22 : decode cX5_isBlock 22 = .ok (.iconst 1, 1) := by decide +kernel
theorem dX5_isBlock_23 : decode cX5_isBlock 23 = .ok (.goto 4, 3) := by decide +kernel
theorem dX5_isBlock_26 : decode cX5_isBlock 26 = .ok (.iconst 0, 1) := by decide +kernel
theorem dX5_isBlock_27 : decode cX5_isBlock 27 = .ok (.ireturn, 1) := by decide +kernel
set_option maxRecDepth 20000 in
theorem ggX5_puts_X5_blocks : GoodIn wsX5_puts wsX5_blocks := goodIn_r _ [6, 1, 11, 12, 13, 14, 15, 16, 17, 18, 19, 20, 21, 22, 23, 24, 25, 26] (by decide +kernel) (by decide +kernel)
set_option maxRecDepth 20000 in
theorem gX5_puts_X5_blocks : GoodIn wsX5_puts (wsV RX5 62 RX5 yX5_blocks wsX5_blocks) := goodIn_app (goodIn_of _ (by decide +kernel)) ggX5_puts_X5_blocks
set_option maxRecDepth 20000 in
theorem ggX5_puts_X5_cell : GoodIn wsX5_puts wsX5_cell := goodIn_r _ [10] (by decide +kernel) (by decide +kernel)
set_option maxRecDepth 20000 in
theorem gX5_puts_X5_cell : GoodIn wsX5_puts (wsV RX5 54 RX5 yX5_cell wsX5_cell) := goodIn_app (goodIn_of _ (by decide +kernel)) ggX5_puts_X5_cell
theorem dX5_puts_0 : decode cX5_puts 0 = .ok (.aload_n 0, 1) := by decide +kernel
theorem dX5_puts_1 : decode cX5_puts 1 = .ok (.iload_n 1, 1) := by decide +kernel
theorem dX5_puts_2 : decode cX5_puts 2 = .ok (.invokevirtual 62, 3) := by decide +kernel
theorem dX5_puts_5 : decode cX5_puts 5 = .ok (.istore 8, 2) := by decide +kernel
theorem dX5_puts_7 : decode cX5_puts 7 = .ok (.aload_n 0, 1) := by decide +kernel
theorem dX5_puts_8 : decode cX5_puts 8 = .ok (.getfield 7, 3) := by decide +kernel
theorem dX5_puts_11 : decode cX5_puts 11 = .ok (.iconst 5, 1) := by decide +kernel
theorem dX5_puts_12 : decode cX5_puts 12 = .ok (.bipush 97, 2) := by decide +kernel
theorem dX5_puts_14 : decode cX5_puts 14 = .ok (.iload_n 1, 1) := by decide +kernel
theorem dX5_puts_15 : decode cX5_puts 15 = .ok (.imul, 1) := by decide +kernel
theorem dX5_puts_16 : decode cX5_puts 16 = .ok (.iadd, 1) := by decide +kernel
theorem dX5_puts_17 : decode cX5_puts 17 = .ok (.iload 8, 2) := by decide +kernel
theorem dX5_puts_19 : decode cX5_puts 19 = .ok (.iconst 1, 1) := by decide +kernel
theorem dX5_puts_20 : decode cX5_puts 20 = .ok (.iadd, 1) := by decide +kernel
theorem dX5_puts_21 : decode cX5_puts 21 = .ok (.iastore, 1) := by decide +kernel
theorem dX5_puts_22 : decode cX5_puts 22 = .ok (.aload_n 0, 1) := by decide +kernel
theorem dX5_puts_23 : decode cX5_puts 23 = .ok (.getfield 7, 3) := by decide +kernel
theorem dX5_puts_26 : decode cX5_puts 26 = .ok (.aload_n 0, 1) := by decide +kernel
theorem dX5_puts_27 : decode cX5_puts 27 = .ok (.iload_n 1, 1) := by decide +kernel
theorem dX5_puts_28 : decode cX5_puts 28 = .ok (.iload 8, 2) := by decide +kernel
theorem dX5_puts_30 : decode cX5_puts 30 = .ok (.iconst 0, 1) := by decide +kernel
theorem dX5_puts_31 : decode cX5_puts 31 = .ok (.invokevirtual 54, 3) := by decide +kernel
theorem dX5_puts_34 : decode cX5_puts 34 = .ok (.iload_n 2, 1) := by decide +kernel
theorem dX5_puts_35 : decode cX5_puts 35 = .ok (.iastore, 1) := by decide +kernel
theorem dX5_puts_36 : decode cX5_puts 36 = .ok (.aload_n 0, 1) := by decide +kernel
theorem dX5_puts_37 : decode cX5_puts 37 = .ok (.getfield 7, 3) := by decide +kernel
theorem dX5_puts_40 : decode cX5_puts 40 = .ok (.aload_n 0, 1) := by decide +kernel
theorem dX5_puts_41 : decode cX5_puts 41 = .ok (.iload_n 1, 1) := by decide +kernel
theorem dX5_puts_42 : decode cX5_puts 42 = .ok (.iload 8, 2) := by decide +kernel
theorem dX5_puts_44 : decode cX5_puts 44 = .ok (.iconst 1, 1) := by decide +kernel
theorem dX5_puts_45 : decode cX5_puts 45 = .ok (.invokevirtual 54, 3) := by decide +kernel
theorem dX5_puts_48 : decode cX5_puts 48 = .ok (.iload_n 3, 1) := by decide +kernel
theorem dX5_puts_49 : decode cX5_puts 49 = .ok (.iastore, 1) := by decide +kernel
theorem dX5_puts_50 : decode cX5_puts 50 = .ok (.aload_n 0, 1) := by decide +kernel
theorem dX5_puts_51 : decode cX5_puts 51 = .ok (.getfield 7, 3) := by decide +kernel
theorem dX5_puts_54 : decode cX5_puts 54 = .ok (.aload_n 0, 1) := by decide +kernel
theorem dX5_puts_55 : decode cX5_puts 55 = .ok (.iload_n 1, 1) := by decide +kernel
theorem dX5_puts_56 : decode cX5_puts 56 = .ok (.iload 8, 2) := by decide +kernel
theorem dX5_puts_58 : decode cX5_puts 58 = .ok (.iconst 2, 1) := by decide +kernel
theorem dX5_puts_59 : decode cX5_puts 59 = .ok (.invokevirtual 54, 3) := by decide +kernel
theorem dX5_puts_62 : decode cX5_puts 62 = .ok (.iload 4, 2) := by decide +kernel
theorem dX5_puts_64 : decode cX5_puts 64 = .ok (.iastore, 1) := by decide +kernel
theorem dX5_puts_65 : decode cX5_puts 65 = .ok (.aload_n 0, 1) := by decide +kernel
theorem dX5_puts_66 : decode cX5_puts 66 = .ok (.getfield 7, 3) := by decide +kernel
theorem dX5_puts_69 : decode cX5_puts 69 = .ok (.aload_n 0, 1) := by decide +kernel
theorem dX5_puts_70 : decode cX5_puts 70 = .ok (.iload_n 1, 1) := by decide +kernel
theorem dX5_puts_71 : decode cX5_puts 71 = .ok (.iload 8, 2) := by decide +kernel
theorem dX5_puts_73 : decode cX5_puts 73 = .ok (.iconst 3, 1) := by decide +kernel
theorem dX5_puts_74 : decode cX5_puts 74 = .ok (.invokevirtual 54, 3) := by decide +kernel
theorem dX5_puts_77 : decode cX5_puts 77 = .ok (.iload 5, 2) := by decide +kernel
theorem dX5_puts_79 : decode cX5_puts 79 = .ok (.iastore, 1) := by decide +kernel
theorem dX5_puts_80 : decode cX5_puts 80 = .ok (.aload_n 0, 1) := by decide +kernel
theorem dX5_puts_81 : decode cX5_puts 81 = .ok (.getfield 7, 3) := by decide +kernel
theorem dX5_puts_84 : decode cX5_puts 84 = .ok (.aload_n 0, 1) := by decide +kernel
theorem dX5_puts_85 : decode cX5_puts 85 = .ok (.iload_n 1, 1) := by decide +kernel
theorem dX5_puts_86 : decode cX5_puts 86 = .ok (.iload 8, 2) := by decide +kernel
theorem dX5_puts_88 : decode cX5_puts 88 = .ok (.iconst 4, 1) := by decide +kernel
theorem dX5_puts_89 : decode cX5_puts 89 = .ok (.invokevirtual 54, 3) := by decide +kernel
theorem dX5_puts_92 : decode cX5_puts 92 = .ok (.iload 6, 2) := by decide +kernel
theorem dX5_puts_94 : decode cX5_puts 94 = .ok (.iastore, 1) := by decide +kernel
theorem dX5_puts_95 : decode cX5_puts 95 = .ok (.aload_n 0, 1) := by decide +kernel
theorem dX5_puts_96 : decode cX5_puts 96 = .ok (.getfield 7, 3) := by decide +kernel
theorem dX5_puts_99 : decode cX5_puts 99 = .ok (.aload_n 0, 1) := by decide +kernel
theorem dX5_puts_100 : decode cX5_puts 100 = .ok (.iload_n 1, 1) := by decide +kernel
theorem dX5_puts_101 : decode cX5_puts 101 = .ok (.iload 8, 2) := by decide +kernel
theorem dX5_puts_103 : decode cX5_puts 103 = .ok (.iconst 5, 1) := by decide +kernel
theorem dX5_puts_104 : decode cX5_puts 104 = .ok (.invokevirtual 54, 3) := by decide +kernel
theorem dX5_puts_107 : decode cX5_puts 107 = .ok (.iload 7, 2) := by decide +kernel
theorem dX5_puts_109 : decode cX5_puts 109 = .ok (.iastore, 1) := by decide +kernel
theorem dX5_puts_110 : decode cX5_puts 110 = .ok (.iload 8, 2) := by decide +kernel
theorem dX5_puts_112 : decode cX5_puts 112 = .ok (.ireturn, 1) := by decide +kernel
set_option maxRecDepth 20000 in
theorem ggX5_all_X5_blocks : GoodIn wsX5_all wsX5_blocks := goodIn_r _ [5, 6, 7, 8, 9, 10, 11, 12, 13, 14, 15, 16, 17, 18, 19, 20, 21, 22] (by decide +kernel) (by decide +kernel)
set_option maxRecDepth 20000 in
theorem gX5_all_X5_blocks : GoodIn wsX5_all (wsV RX5 62 RX5 yX5_blocks wsX5_blocks) := goodIn_app (goodIn_of _ (by decide +kernel)) ggX5_all_X5_blocks
theorem dX5_all_0 : decode cX5_all 0 = .ok (.aload_n 0, 1) := by decide +kernel
theorem dX5_all_1 : decode cX5_all 1 = .ok (.iconst 0, 1) := by decide +kernel
theorem dX5_all_2 : decode cX5_all 2 = .ok (.invokevirtual 62, 3) := by decide +kernel
theorem dX5_all_5 : decode cX5_all 5 = .ok (.aload_n 0, 1) := by decide +kernel
theorem dX5_all_6 : decode cX5_all 6 = .ok (.iconst 1, 1) := by decide +kernel
theorem dX5_all_7 : decode cX5_all 7 = .ok (.invokevirtual 62, 3) := by decide +kernel
theorem dX5_all_10 : decode cX5_all 10 = .ok (.iadd, 1) := by decide +kernel
theorem dX5_all_11 : decode cX5_all 11 = .ok (.aload_n 0, 1) := by decide +kernel
theorem dX5_all_12 : decode cX5_all 12 = .ok (.iconst 2, 1) := by decide +kernel
theorem dX5_all_13 : decode cX5_all 13 = .ok (.invokevirtual 62, 3) := by decide +kernel
theorem dX5_all_16 : decode cX5_all 16 = .ok (.iadd, 1) := by decide +kernel
theorem dX5_all_17 : decode cX5_all 17 = .ok (.aload_n 0, 1) := by decide +kernel
theorem dX5_all_18 : decode cX5_all 18 = .ok (.iconst 3, 1) := by decide +kernel
theorem dX5_all_19 : decode cX5_all 19 = .ok (.invokevirtual 62, 3) := by decide +kernel
theorem dX5_all_22 : decode cX5_all 22 = .ok (.iadd, 1) := by decide +kernel
theorem dX5_all_23 : decode cX5_all 23 = .ok (.ireturn, 1) := by decide +kernel
theorem dX5_next_0 : decode cX5_next 0 = .ok (.iload_n 1, 1) := by decide +kernel
theorem dX5_next_1 : decode cX5_next 1 = .ok (.aload_n 0, 1) := by decide +kernel
theorem dX5_next_2 : decode cX5_next 2 = .ok (.getfield 7, 3) := by decide +kernel
theorem dX5_next_5 : decode cX5_next 5 = .ok (.iconst 1, 1) := by decide +kernel
theorem dX5_next_6 : decode cX5_next 6 = .ok (.iaload, 1) := by decide +kernel
theorem dX5_next_7 : decode cX5_next 7 = .ok (.isub, 1) := by decide +kernel
theorem dX5_next_8 : decode cX5_next 8 = .ok (.istore_n 3, 1) := by decide +kernel
theorem dX5_next_9 : decode cX5_next 9 = .ok (.iload_n 3, 1) := by decide +kernel
theorem dX5_next_10 : decode cX5_next 10 = .ok (.ifCond .gt 12, 3) := by decide +kernel
theorem dX5_next_13 : decode cX5_next 13 = .ok (.aload_n 0, 1) := by decide +kernel
theorem dX5_next_14 : decode cX5_next 14 = .ok (.getfield 7, 3) := by decide +kernel
theorem dX5_next_17 : decode cX5_next 17 = .ok (.iconst 1, 1) := by decide +kernel
theorem dX5_next_18 : decode cX5_next 18 = .ok (.iaload, 1) := by decide +kernel
theorem dX5_next_19 : decode cX5_next 19 = .ok (.goto 19, 3) := by decide +kernel
theorem dX5_next_22 : decode cX5_next 22 = .ok (.aload_n 0, 1) := by decide +kernel
theorem dX5_next_23 : decode cX5_next 23 = .ok (.getfield 7, 3) := by decide +kernel
theorem dX5_next_26 : decode cX5_next 26 = .ok (.iconst 1, 1) := by decide +kernel
theorem dX5_next_27 : decode cX5_next 27 = .ok (.iaload, 1) := by decide +kernel
theorem dX5_next_28 : decode cX5_next 28 = .ok (.iload_n 3, 1) := by decide +kernel
theorem dX5_next_29 : decode cX5_next 29 = .ok (.iload_n 2, 1) := by decide +kernel
theorem dX5_next_30 : decode cX5_next 30 = .ok (.iadd, 1) := by decide +kernel
theorem dX5_next_31 : decode cX5_next 31 = .ok (.iconst 1, 1) := by decide +kernel
theorem dX5_next_32 : decode cX5_next 32 = .ok (.isub, 1) := by decide +kernel
theorem dX5_next_33 : decode cX5_next 33 = .ok (.iload_n 2, 1) := by decide +kernel
theorem dX5_next_34 : decode cX5_next 34 = .ok (.idiv, 1) := by decide +kernel
theorem dX5_next_35 : decode cX5_next 35 = .ok (.iload_n 2, 1) := by decide +kernel
theorem dX5_next_36 : decode cX5_next 36 = .ok (.imul, 1) := by decide +kernel
theorem dX5_next_37 : decode cX5_next 37 = .ok (.iadd, 1) := by decide +kernel
theorem dX5_next_38 : decode cX5_next 38 = .ok (.ireturn, 1) := by decide +kernel
theorem dX5_drift_0 : decode cX5_drift 0 = .ok (.iload_n 1, 1) := by decide +kernel
theorem dX5_drift_1 : decode cX5_drift 1 = .ok (.aload_n 0, 1) := by decide +kernel
theorem dX5_drift_2 : decode cX5_drift 2 = .ok (.getfield 7, 3) := by decide +kernel
theorem dX5_drift_5 : decode cX5_drift 5 = .ok (.iconst 1, 1) := by decide +kernel
theorem dX5_drift_6 : decode cX5_drift 6 = .ok (.iaload, 1) := by decide +kernel
theorem dX5_drift_7 : decode cX5_drift 7 = .ok (.isub, 1) := by decide +kernel
theorem dX5_drift_8 : decode cX5_drift 8 = .ok (.iload_n 2, 1) := by decide +kernel
theorem dX5_drift_9 : decode cX5_drift 9 = .ok (.irem, 1) := by decide +kernel
theorem dX5_drift_10 : decode cX5_drift 10 = .ok (.istore_n 3, 1) := by decide +kernel
theorem dX5_drift_11 : decode cX5_drift 11 = .ok (.iload_n 3, 1) := by decide +kernel
theorem dX5_drift_12 : decode cX5_drift 12 = .ok (.ifCond .ge 9, 3) := by decide +kernel
theorem dX5_drift_15 : decode cX5_drift 15 = .ok (.iload_n 3, 1) := by decide +kernel
theorem dX5_drift_16 : decode cX5_drift 16 = .ok (.iload_n 2, 1) := by decide +kernel
theorem dX5_drift_17 : decode cX5_drift 17 = .ok (.iadd, 1) := by decide +kernel
theorem dX5_drift_18 : decode cX5_drift 18 = .ok (.goto 4, 3) := by decide +kernel
theorem dX5_drift_21 : decode cX5_drift 21 = .ok (.iload_n 3, 1) := by decide +kernel
theorem dX5_drift_22 : decode cX5_drift 22 = .ok (.ireturn, 1) := by decide +kernel
set_option maxRecDepth 20000 in
theorem ggX5_setsLines_X5_of : GoodIn wsX5_setsLines wsX5_of := goodIn_r _ [11, 1, 12, 13, 14, 10, 15, 20, 21, 22, 23, 24, 25, 26, 27, 28, 29, 30, 31, 32, 33, 34, 35] (by decide +kernel) (by decide +kernel)
set_option maxRecDepth 20000 in
theorem gX5_setsLines_X5_of : GoodIn wsX5_setsLines (wsV RX5 66 RX5 yX5_of wsX5_of) := goodIn_app (goodIn_of _ (by decide +kernel)) ggX5_setsLines_X5_of
set_option maxRecDepth 20000 in
theorem ggX5_setsLines_X5_next : GoodIn wsX5_setsLines wsX5_next := goodIn_r _ [19, 1, 20, 21, 22, 23, 24, 25, 26, 27, 28, 29, 30, 31, 32, 33, 34, 35] (by decide +kernel) (by decide +kernel)
set_option maxRecDepth 20000 in
theorem gX5_setsLines_X5_next : GoodIn wsX5_setsLines (wsV RX5 69 RX5 yX5_next wsX5_next) := goodIn_app (goodIn_of _ (by decide +kernel)) ggX5_setsLines_X5_next
theorem dX5_setsLines_0 : decode cX5_setsLines 0 = .ok (.aload_n 0, 1) := by decide +kernel
theorem dX5_setsLines_1 : decode cX5_setsLines 1 = .ok (.iload_n 1, 1) := by decide +kernel
theorem dX5_setsLines_2 : decode cX5_setsLines 2 = .ok (.iload_n 2, 1) := by decide +kernel
theorem dX5_setsLines_3 : decode cX5_setsLines 3 = .ok (.iconst 2, 1) := by decide +kernel
theorem dX5_setsLines_4 : decode cX5_setsLines 4 = .ok (.invokevirtual 66, 3) := by decide +kernel
theorem dX5_setsLines_7 : decode cX5_setsLines 7 = .ok (.istore 5, 2) := by decide +kernel
theorem dX5_setsLines_9 : decode cX5_setsLines 9 = .ok (.iconst 3, 1) := by decide +kernel
theorem dX5_setsLines_10 : decode cX5_setsLines 10 = .ok (.iload 5, 2) := by decide +kernel
theorem dX5_setsLines_12 : decode cX5_setsLines 12 = .ok (.imul, 1) := by decide +kernel
theorem dX5_setsLines_13 : decode cX5_setsLines 13 = .ok (.bipush 10, 2) := by decide +kernel
theorem dX5_setsLines_15 : decode cX5_setsLines 15 = .ok (.idiv, 1) := by decide +kernel
theorem dX5_setsLines_16 : decode cX5_setsLines 16 = .ok (.istore 6, 2) := by decide +kernel
theorem dX5_setsLines_18 : decode cX5_setsLines 18 = .ok (.iload_n 3, 1) := by decide +kernel
theorem dX5_setsLines_19 : decode cX5_setsLines 19 = .ok (.bipush 7, 2) := by decide +kernel
theorem dX5_setsLines_21 : decode cX5_setsLines 21 = .ok (.iload 5, 2) := by decide +kernel
theorem dX5_setsLines_23 : decode cX5_setsLines 23 = .ok (.imul, 1) := by decide +kernel
theorem dX5_setsLines_24 : decode cX5_setsLines 24 = .ok (.bipush 10, 2) := by decide +kernel
theorem dX5_setsLines_26 : decode cX5_setsLines 26 = .ok (.idiv, 1) := by decide +kernel
theorem dX5_setsLines_27 : decode cX5_setsLines 27 = .ok (.iadd, 1) := by decide +kernel
theorem dX5_setsLines_28 : decode cX5_setsLines 28 = .ok (.aload_n 0, 1) := by decide +kernel
theorem dX5_setsLines_29 : decode cX5_setsLines 29 = .ok (.iload_n 1, 1) := by decide +kernel
theorem dX5_setsLines_30 : decode cX5_setsLines 30 = .ok (.iload_n 2, 1) := by decide +kernel
theorem dX5_setsLines_31 : decode cX5_setsLines 31 = .ok (.iconst 3, 1) := by decide +kernel
theorem dX5_setsLines_32 : decode cX5_setsLines 32 = .ok (.invokevirtual 66, 3) := by decide +kernel
theorem dX5_setsLines_35 : decode cX5_setsLines 35 = .ok (.isub, 1) := by decide +kernel
theorem dX5_setsLines_36 : decode cX5_setsLines 36 = .ok (.istore 7, 2) := by decide +kernel
theorem dX5_setsLines_38 : decode cX5_setsLines 38 = .ok (.iload_n 3, 1) := by decide +kernel
theorem dX5_setsLines_39 : decode cX5_setsLines 39 = .ok (.istore 8, 2) := by decide +kernel
theorem dX5_setsLines_41 : decode cX5_setsLines 41 = .ok (.iconst 0, 1) := by decide +kernel
theorem dX5_setsLines_42 : decode cX5_setsLines 42 = .ok (.istore 9, 2) := by decide +kernel
theorem dX5_setsLines_44 : decode cX5_setsLines 44 = .ok (.iload 9, 2) := by decide +kernel
theorem dX5_setsLines_46 : decode cX5_setsLines 46 = .ok (.aload_n 0, 1) := by decide +kernel
theorem dX5_setsLines_47 : decode cX5_setsLines 47 = .ok (.iload_n 1, 1) := by decide +kernel
theorem dX5_setsLines_48 : decode cX5_setsLines 48 = .ok (.iload_n 2, 1) := by decide +kernel
theorem dX5_setsLines_49 : decode cX5_setsLines 49 = .ok (.iconst 1, 1) := by decide +kernel
theorem dX5_setsLines_50 : decode cX5_setsLines 50 = .ok (.invokevirtual 66, 3) := by decide +kernel
theorem dX5_setsLines_53 : decode cX5_setsLines 53 = .ok (.if_icmp .ge 144, 3) := by decide +kernel
theorem dX5_setsLines_56 : decode cX5_setsLines 56 = .ok (.iload 7, 2) := by decide +kernel
theorem dX5_setsLines_58 : decode cX5_setsLines 58 = .ok (.aload_n 0, 1) := by decide +kernel
theorem dX5_setsLines_59 : decode cX5_setsLines 59 = .ok (.iload_n 1, 1) := by decide +kernel
theorem dX5_setsLines_60 : decode cX5_setsLines 60 = .ok (.iload_n 2, 1) := by decide +kernel
theorem dX5_setsLines_61 : decode cX5_setsLines 61 = .ok (.iconst 3, 1) := by decide +kernel
theorem dX5_setsLines_62 : decode cX5_setsLines 62 = .ok (.invokevirtual 66, 3) := by decide +kernel
theorem dX5_setsLines_65 : decode cX5_setsLines 65 = .ok (.iadd, 1) := by decide +kernel
theorem dX5_setsLines_66 : decode cX5_setsLines 66 = .ok (.istore 10, 2) := by decide +kernel
theorem dX5_setsLines_68 : decode cX5_setsLines 68 = .ok (.aload_n 0, 1) := by decide +kernel
theorem dX5_setsLines_69 : decode cX5_setsLines 69 = .ok (.iload_n 1, 1) := by decide +kernel
theorem dX5_setsLines_70 : decode cX5_setsLines 70 = .ok (.iload_n 2, 1) := by decide +kernel
theorem dX5_setsLines_71 : decode cX5_setsLines 71 = .ok (.iconst 4, 1) := by decide +kernel
theorem dX5_setsLines_72 : decode cX5_setsLines 72 = .ok (.invokevirtual 66, 3) := by decide +kernel
theorem dX5_setsLines_75 : decode cX5_setsLines 75 = .ok (.iconst 1, 1) := by decide +kernel
theorem dX5_setsLines_76 : decode cX5_setsLines 76 = .ok (.if_icmp .ne 14, 3) := by decide +kernel
theorem dX5_setsLines_79 : decode cX5_setsLines 79 = .ok (.aload_n 0, 1) := by decide +kernel
theorem dX5_setsLines_80 : decode cX5_setsLines 80 = .ok (.iload 10, 2) := by decide +kernel
theorem dX5_setsLines_82 : decode cX5_setsLines 82 = .ok (.iload 4, 2) := by decide +kernel
theorem dX5_setsLines_84 : decode cX5_setsLines 84 = .ok (.invokevirtual 69, 3) := by decide +kernel
theorem dX5_setsLines_87 : decode cX5_setsLines 87 = .ok (.goto 5, 3) := by decide +kernel
theorem dX5_setsLines_90 : decode cX5_setsLines 90 = .ok (.iload 10, 2) := by decide +kernel
theorem dX5_setsLines_92 : decode cX5_setsLines 92 = .ok (.istore 10, 2) := by decide +kernel
theorem dX5_setsLines_94 : decode cX5_setsLines 94 = .ok (.iload 10, 2) := by decide +kernel
theorem dX5_setsLines_96 : decode cX5_setsLines 96 = .ok (.iload 6, 2) := by decide +kernel
theorem dX5_setsLines_98 : decode cX5_setsLines 98 = .ok (.iadd, 1) := by decide +kernel
theorem dX5_setsLines_99 : decode cX5_setsLines 99 = .ok (.aload_n 0, 1) := by decide +kernel
theorem dX5_setsLines_100 : decode cX5_setsLines 100 = .ok (.getfield 7, 3) := by decide +kernel
theorem dX5_setsLines_103 : decode cX5_setsLines 103 = .ok (.iconst 0, 1) := by decide +kernel
theorem dX5_setsLines_104 : decode cX5_setsLines 104 = .ok (.iaload, 1) := by decide +kernel
theorem dX5_setsLines_105 : decode cX5_setsLines 105 = .ok (.if_icmp .le 13, 3) := by decide +kernel
theorem dX5_setsLines_108 : decode cX5_setsLines 108 = .ok (.aload_n 0, 1) := by decide +kernel
theorem dX5_setsLines_109 : decode cX5_setsLines 109 = .ok (.getfield 34, 3) := by decide +kernel
theorem dX5_setsLines_112 : decode cX5_setsLines 112 = .ok (.iload_n 1, 1) := by decide +kernel
theorem dX5_setsLines_113 : decode cX5_setsLines 113 = .ok (.iload_n 2, 1) := by decide +kernel
theorem dX5_setsLines_114 : decode cX5_setsLines 114 = .ok (.iastore, 1) := by decide +kernel
theorem dX5_setsLines_115 : decode cX5_setsLines 115 = .ok (.iload 8, 2) := by decide +kernel
theorem dX5_setsLines_117 : decode cX5_setsLines 117 = .ok (.ireturn, 1) := by decide +kernel
theorem dX5_setsLines_118 : decode cX5_setsLines 118 = .ok (.aload_n 0, 1) := by decide +kernel
theorem dX5_setsLines_119 : decode cX5_setsLines 119 = .ok (.getfield 22, 3) := by decide +kernel
theorem dX5_setsLines_122 : decode cX5_setsLines 122 = .ok (.sipush 640, 3) := by decide +kernel
theorem dX5_setsLines_125 : decode cX5_setsLines 125 = .ok (.iload_n 1, 1) := by decide +kernel
theorem dX5_setsLines_126 : decode cX5_setsLines 126 = .ok (.imul, 1) := by decide +kernel
theorem dX5_setsLines_127 : decode cX5_setsLines 127 = .ok (.aload_n 0, 1) := by decide +kernel
theorem dX5_setsLines_128 : decode cX5_setsLines 128 = .ok (.getfield 28, 3) := by decide +kernel
theorem dX5_setsLines_131 : decode cX5_setsLines 131 = .ok (.iload_n 1, 1) := by decide +kernel
theorem dX5_setsLines_132 : decode cX5_setsLines 132 = .ok (.iaload, 1) := by decide +kernel
theorem dX5_setsLines_133 : decode cX5_setsLines 133 = .ok (.iadd, 1) := by decide +kernel
theorem dX5_setsLines_134 : decode cX5_setsLines 134 = .ok (.iload 10, 2) := by decide +kernel
theorem dX5_setsLines_136 : decode cX5_setsLines 136 = .ok (.iastore, 1) := by decide +kernel
theorem dX5_setsLines_137 : decode cX5_setsLines 137 = .ok (.aload_n 0, 1) := by decide +kernel
theorem dX5_setsLines_138 : decode cX5_setsLines 138 = .ok (.getfield 25, 3) := by decide +kernel
theorem dX5_setsLines_141 : decode cX5_setsLines 141 = .ok (.sipush 640, 3) := by decide +kernel
theorem dX5_setsLines_144 : decode cX5_setsLines 144 = .ok (.iload_n 1, 1) := by decide +kernel
theorem dX5_setsLines_145 : decode cX5_setsLines 145 = .ok (.imul, 1) := by decide +kernel
theorem dX5_setsLines_146 : decode cX5_setsLines 146 = .ok (.aload_n 0, 1) := by decide +kernel
theorem dX5_setsLines_147 : decode cX5_setsLines 147 = .ok (.getfield 28, 3) := by decide +kernel
theorem dX5_setsLines_150 : decode cX5_setsLines 150 = .ok (.iload_n 1, 1) := by decide +kernel
theorem dX5_setsLines_151 : decode cX5_setsLines 151 = .ok (.iaload, 1) := by decide +kernel
theorem dX5_setsLines_152 : decode cX5_setsLines 152 = .ok (.iadd, 1) := by decide +kernel
theorem dX5_setsLines_153 : decode cX5_setsLines 153 = .ok (.iload_n 2, 1) := by decide +kernel
theorem dX5_setsLines_154 : decode cX5_setsLines 154 = .ok (.iastore, 1) := by decide +kernel
theorem dX5_setsLines_155 : decode cX5_setsLines 155 = .ok (.aload_n 0, 1) := by decide +kernel
theorem dX5_setsLines_156 : decode cX5_setsLines 156 = .ok (.getfield 28, 3) := by decide +kernel
theorem dX5_setsLines_159 : decode cX5_setsLines 159 = .ok (.iload_n 1, 1) := by decide +kernel
theorem dX5_setsLines_160 : decode cX5_setsLines 160 = .ok (.dup2, 1) := by decide +kernel
theorem dX5_setsLines_161 : decode cX5_setsLines 161 = .ok (.iaload, 1) := by decide +kernel
theorem dX5_setsLines_162 : decode cX5_setsLines 162 = .ok (.iconst 1, 1) := by decide +kernel
theorem dX5_setsLines_163 : decode cX5_setsLines 163 = .ok (.iadd, 1) := by decide +kernel
theorem dX5_setsLines_164 : decode cX5_setsLines 164 = .ok (.iastore, 1) := by decide +kernel
theorem dX5_setsLines_165 : decode cX5_setsLines 165 = .ok (.aload_n 0, 1) := by decide +kernel
theorem dX5_setsLines_166 : decode cX5_setsLines 166 = .ok (.getfield 43, 3) := by decide +kernel
theorem dX5_setsLines_169 : decode cX5_setsLines 169 = .ok (.bipush 16, 2) := by decide +kernel
theorem dX5_setsLines_171 : decode cX5_setsLines 171 = .ok (.iload_n 1, 1) := by decide +kernel
theorem dX5_setsLines_172 : decode cX5_setsLines 172 = .ok (.imul, 1) := by decide +kernel
theorem dX5_setsLines_173 : decode cX5_setsLines 173 = .ok (.iload_n 2, 1) := by decide +kernel
theorem dX5_setsLines_174 : decode cX5_setsLines 174 = .ok (.iadd, 1) := by decide +kernel
theorem dX5_setsLines_175 : decode cX5_setsLines 175 = .ok (.dup2, 1) := by decide +kernel
theorem dX5_setsLines_176 : decode cX5_setsLines 176 = .ok (.iaload, 1) := by decide +kernel
theorem dX5_setsLines_177 : decode cX5_setsLines 177 = .ok (.iconst 1, 1) := by decide +kernel
theorem dX5_setsLines_178 : decode cX5_setsLines 178 = .ok (.iadd, 1) := by decide +kernel
theorem dX5_setsLines_179 : decode cX5_setsLines 179 = .ok (.iastore, 1) := by decide +kernel
theorem dX5_setsLines_180 : decode cX5_setsLines 180 = .ok (.iload 10, 2) := by decide +kernel
theorem dX5_setsLines_182 : decode cX5_setsLines 182 = .ok (.iload 6, 2) := by decide +kernel
theorem dX5_setsLines_184 : decode cX5_setsLines 184 = .ok (.iadd, 1) := by decide +kernel
theorem dX5_setsLines_185 : decode cX5_setsLines 185 = .ok (.istore 8, 2) := by decide +kernel
theorem dX5_setsLines_187 : decode cX5_setsLines 187 = .ok (.iload 10, 2) := by decide +kernel
theorem dX5_setsLines_189 : decode cX5_setsLines 189 = .ok (.istore 7, 2) := by decide +kernel
theorem dX5_setsLines_191 : decode cX5_setsLines 191 = .ok (.iinc 9 1, 3) := by decide +kernel
theorem dX5_setsLines_194 : decode cX5_setsLines 194 = .ok (.goto (-150), 3) := by decide +kernel
theorem dX5_setsLines_197 : decode cX5_setsLines 197 = .ok (.iload 8, 2) := by decide +kernel
theorem dX5_setsLines_199 : decode cX5_setsLines 199 = .ok (.ireturn, 1) := by decide +kernel
set_option maxRecDepth 20000 in
theorem ggX5_setsColumn_X5_blocks : GoodIn wsX5_setsColumn wsX5_blocks := goodIn_r _ [12, 5, 31, 32, 33, 34, 35, 36, 37, 38, 39, 40, 41, 42, 43, 44, 45, 46] (by decide +kernel) (by decide +kernel)
set_option maxRecDepth 20000 in
theorem gX5_setsColumn_X5_blocks : GoodIn wsX5_setsColumn (wsV RX5 62 RX5 yX5_blocks wsX5_blocks) := goodIn_app (goodIn_of _ (by decide +kernel)) ggX5_setsColumn_X5_blocks
set_option maxRecDepth 20000 in
theorem ggX5_setsColumn_X5_of : GoodIn wsX5_setsColumn wsX5_of := goodIn_r _ [16, 5, 17, 18, 19, 11, 20, 31, 32, 33, 34, 35, 36, 37, 38, 39, 40, 41, 42, 43, 44, 45, 46] (by decide +kernel) (by decide +kernel)
set_option maxRecDepth 20000 in
theorem gX5_setsColumn_X5_of : GoodIn wsX5_setsColumn (wsV RX5 66 RX5 yX5_of wsX5_of) := goodIn_app (goodIn_of _ (by decide +kernel)) ggX5_setsColumn_X5_of
set_option maxRecDepth 20000 in
theorem ggX5_setsColumn_X5_setsLines : GoodIn wsX5_setsColumn wsX5_setsLines := goodIn_r _ [24, 5, 2, 25, 1, 26, 3, 13, 14, 15, 11, 16, 17, 18, 19, 20, 27, 28, 29, 30, 31, 32, 33, 34, 35, 36, 37, 38, 39, 40, 41, 42, 43, 44, 45, 46] (by decide +kernel) (by decide +kernel)
set_option maxRecDepth 20000 in
theorem gX5_setsColumn_X5_setsLines : GoodIn wsX5_setsColumn (wsV RX5 73 RX5 yX5_setsLines wsX5_setsLines) := goodIn_app (goodIn_of _ (by decide +kernel)) ggX5_setsColumn_X5_setsLines
set_option maxRecDepth 20000 in
theorem ggX5_setsColumn_X5_next : GoodIn wsX5_setsColumn wsX5_next := goodIn_r _ [30, 5, 31, 32, 33, 34, 35, 36, 37, 38, 39, 40, 41, 42, 43, 44, 45, 46] (by decide +kernel) (by decide +kernel)
set_option maxRecDepth 20000 in
theorem gX5_setsColumn_X5_next : GoodIn wsX5_setsColumn (wsV RX5 69 RX5 yX5_next wsX5_next) := goodIn_app (goodIn_of _ (by decide +kernel)) ggX5_setsColumn_X5_next
theorem dX5_setsColumn_0 : decode cX5_setsColumn 0 = .ok (.iconst 0, 1) := by decide +kernel
theorem dX5_setsColumn_1 : decode cX5_setsColumn 1 = .ok (.istore_n 3, 1) := by decide +kernel
theorem dX5_setsColumn_2 : decode cX5_setsColumn 2 = .ok (.aload_n 0, 1) := by decide +kernel
theorem dX5_setsColumn_3 : decode cX5_setsColumn 3 = .ok (.getfield 28, 3) := by decide +kernel
theorem dX5_setsColumn_6 : decode cX5_setsColumn 6 = .ok (.iload_n 1, 1) := by decide +kernel
theorem dX5_setsColumn_7 : decode cX5_setsColumn 7 = .ok (.iconst 0, 1) := by decide +kernel
theorem dX5_setsColumn_8 : decode cX5_setsColumn 8 = .ok (.iastore, 1) := by decide +kernel
theorem dX5_setsColumn_9 : decode cX5_setsColumn 9 = .ok (.aload_n 0, 1) := by decide +kernel
theorem dX5_setsColumn_10 : decode cX5_setsColumn 10 = .ok (.getfield 34, 3) := by decide +kernel
theorem dX5_setsColumn_13 : decode cX5_setsColumn 13 = .ok (.iload_n 1, 1) := by decide +kernel
theorem dX5_setsColumn_14 : decode cX5_setsColumn 14 = .ok (.bipush 16, 2) := by decide +kernel
theorem dX5_setsColumn_16 : decode cX5_setsColumn 16 = .ok (.iastore, 1) := by decide +kernel
theorem dX5_setsColumn_17 : decode cX5_setsColumn 17 = .ok (.iconst 0, 1) := by decide +kernel
theorem dX5_setsColumn_18 : decode cX5_setsColumn 18 = .ok (.istore 4, 2) := by decide +kernel
theorem dX5_setsColumn_20 : decode cX5_setsColumn 20 = .ok (.iload 4, 2) := by decide +kernel
theorem dX5_setsColumn_22 : decode cX5_setsColumn 22 = .ok (.bipush 16, 2) := by decide +kernel
theorem dX5_setsColumn_24 : decode cX5_setsColumn 24 = .ok (.if_icmp .ge 188, 3) := by decide +kernel
theorem dX5_setsColumn_27 : decode cX5_setsColumn 27 = .ok (.bipush 16, 2) := by decide +kernel
theorem dX5_setsColumn_29 : decode cX5_setsColumn 29 = .ok (.iload_n 1, 1) := by decide +kernel
theorem dX5_setsColumn_30 : decode cX5_setsColumn 30 = .ok (.imul, 1) := by decide +kernel
theorem dX5_setsColumn_31 : decode cX5_setsColumn 31 = .ok (.iload 4, 2) := by decide +kernel
theorem dX5_setsColumn_33 : decode cX5_setsColumn 33 = .ok (.iadd, 1) := by decide +kernel
theorem dX5_setsColumn_34 : decode cX5_setsColumn 34 = .ok (.istore 5, 2) := by decide +kernel
theorem dX5_setsColumn_36 : decode cX5_setsColumn 36 = .ok (.aload_n 0, 1) := by decide +kernel
theorem dX5_setsColumn_37 : decode cX5_setsColumn 37 = .ok (.getfield 43, 3) := by decide +kernel
theorem dX5_setsColumn_40 : decode cX5_setsColumn 40 = .ok (.iload 5, 2) := by decide +kernel
theorem dX5_setsColumn_42 : decode cX5_setsColumn 42 = .ok (.iconst 0, 1) := by decide +kernel
theorem dX5_setsColumn_43 : decode cX5_setsColumn 43 = .ok (.iastore, 1) := by decide +kernel
theorem dX5_setsColumn_44 : decode cX5_setsColumn 44 = .ok (.iload 4, 2) := by decide +kernel
theorem dX5_setsColumn_46 : decode cX5_setsColumn 46 = .ok (.aload_n 0, 1) := by decide +kernel
theorem dX5_setsColumn_47 : decode cX5_setsColumn 47 = .ok (.iload_n 1, 1) := by decide +kernel
theorem dX5_setsColumn_48 : decode cX5_setsColumn 48 = .ok (.invokevirtual 62, 3) := by decide +kernel
theorem dX5_setsColumn_51 : decode cX5_setsColumn 51 = .ok (.if_icmp .ge 155, 3) := by decide +kernel
theorem dX5_setsColumn_54 : decode cX5_setsColumn 54 = .ok (.aload_n 0, 1) := by decide +kernel
theorem dX5_setsColumn_55 : decode cX5_setsColumn 55 = .ok (.getfield 34, 3) := by decide +kernel
theorem dX5_setsColumn_58 : decode cX5_setsColumn 58 = .ok (.iload_n 1, 1) := by decide +kernel
theorem dX5_setsColumn_59 : decode cX5_setsColumn 59 = .ok (.iaload, 1) := by decide +kernel
theorem dX5_setsColumn_60 : decode cX5_setsColumn 60 = .ok (.bipush 16, 2) := by decide +kernel
theorem dX5_setsColumn_62 : decode cX5_setsColumn 62 = .ok (.if_icmp .ge 6, 3) := by decide +kernel
theorem dX5_setsColumn_65 : decode cX5_setsColumn 65 = .ok (.goto 141, 3) := by decide +kernel
theorem dX5_setsColumn_68 : decode cX5_setsColumn 68 = .ok (.aload_n 0, 1) := by decide +kernel
theorem dX5_setsColumn_69 : decode cX5_setsColumn 69 = .ok (.getfield 37, 3) := by decide +kernel
theorem dX5_setsColumn_72 : decode cX5_setsColumn 72 = .ok (.iload 5, 2) := by decide +kernel
theorem dX5_setsColumn_74 : decode cX5_setsColumn 74 = .ok (.iload_n 3, 1) := by decide +kernel
theorem dX5_setsColumn_75 : decode cX5_setsColumn 75 = .ok (.iastore, 1) := by decide +kernel
theorem dX5_setsColumn_76 : decode cX5_setsColumn 76 = .ok (.aload_n 0, 1) := by decide +kernel
theorem dX5_setsColumn_77 : decode cX5_setsColumn 77 = .ok (.iload_n 1, 1) := by decide +kernel
theorem dX5_setsColumn_78 : decode cX5_setsColumn 78 = .ok (.iload 4, 2) := by decide +kernel
theorem dX5_setsColumn_80 : decode cX5_setsColumn 80 = .ok (.iconst 0, 1) := by decide +kernel
theorem dX5_setsColumn_81 : decode cX5_setsColumn 81 = .ok (.invokevirtual 66, 3) := by decide +kernel
theorem dX5_setsColumn_84 : decode cX5_setsColumn 84 = .ok (.istore 6, 2) := by decide +kernel
theorem dX5_setsColumn_86 : decode cX5_setsColumn 86 = .ok (.aload_n 0, 1) := by decide +kernel
theorem dX5_setsColumn_87 : decode cX5_setsColumn 87 = .ok (.iload_n 1, 1) := by decide +kernel
theorem dX5_setsColumn_88 : decode cX5_setsColumn 88 = .ok (.iload 4, 2) := by decide +kernel
theorem dX5_setsColumn_90 : decode cX5_setsColumn 90 = .ok (.iconst 5, 1) := by decide +kernel
theorem dX5_setsColumn_91 : decode cX5_setsColumn 91 = .ok (.invokevirtual 66, 3) := by decide +kernel
theorem dX5_setsColumn_94 : decode cX5_setsColumn 94 = .ok (.istore 7, 2) := by decide +kernel
theorem dX5_setsColumn_96 : decode cX5_setsColumn 96 = .ok (.iload 6, 2) := by decide +kernel
theorem dX5_setsColumn_98 : decode cX5_setsColumn 98 = .ok (.ifCond .ne 16, 3) := by decide +kernel
theorem dX5_setsColumn_101 : decode cX5_setsColumn 101 = .ok (.aload_n 0, 1) := by decide +kernel
theorem dX5_setsColumn_102 : decode cX5_setsColumn 102 = .ok (.iload_n 1, 1) := by decide +kernel
theorem dX5_setsColumn_103 : decode cX5_setsColumn 103 = .ok (.iload 4, 2) := by decide +kernel
theorem dX5_setsColumn_105 : decode cX5_setsColumn 105 = .ok (.iload_n 3, 1) := by decide +kernel
theorem dX5_setsColumn_106 : decode cX5_setsColumn 106 = .ok (.iload_n 2, 1) := by decide +kernel
theorem dX5_setsColumn_107 : decode cX5_setsColumn 107 = .ok (.invokevirtual 73, 3) := by decide +kernel
theorem dX5_setsColumn_110 : decode cX5_setsColumn 110 = .ok (.istore_n 3, 1) := by decide +kernel
theorem dX5_setsColumn_111 : decode cX5_setsColumn 111 = .ok (.goto 87, 3) := by decide +kernel
theorem dX5_setsColumn_114 : decode cX5_setsColumn 114 = .ok (.iload 6, 2) := by decide +kernel
theorem dX5_setsColumn_116 : decode cX5_setsColumn 116 = .ok (.iconst 1, 1) := by decide +kernel
theorem dX5_setsColumn_117 : decode cX5_setsColumn 117 = .ok (.if_icmp .ne 27, 3) := by decide +kernel
theorem dX5_setsColumn_120 : decode cX5_setsColumn 120 = .ok (.iload_n 3, 1) := by decide +kernel
theorem dX5_setsColumn_121 : decode cX5_setsColumn 121 = .ok (.iload 7, 2) := by decide +kernel
theorem dX5_setsColumn_123 : decode cX5_setsColumn 123 = .ok (.iadd, 1) := by decide +kernel
theorem dX5_setsColumn_124 : decode cX5_setsColumn 124 = .ok (.aload_n 0, 1) := by decide +kernel
theorem dX5_setsColumn_125 : decode cX5_setsColumn 125 = .ok (.getfield 7, 3) := by decide +kernel
theorem dX5_setsColumn_128 : decode cX5_setsColumn 128 = .ok (.iconst 0, 1) := by decide +kernel
theorem dX5_setsColumn_129 : decode cX5_setsColumn 129 = .ok (.iaload, 1) := by decide +kernel
theorem dX5_setsColumn_130 : decode cX5_setsColumn 130 = .ok (.if_icmp .le 14, 3) := by decide +kernel
theorem dX5_setsColumn_133 : decode cX5_setsColumn 133 = .ok (.aload_n 0, 1) := by decide +kernel
theorem dX5_setsColumn_134 : decode cX5_setsColumn 134 = .ok (.getfield 34, 3) := by decide +kernel
theorem dX5_setsColumn_137 : decode cX5_setsColumn 137 = .ok (.iload_n 1, 1) := by decide +kernel
theorem dX5_setsColumn_138 : decode cX5_setsColumn 138 = .ok (.iload 4, 2) := by decide +kernel
theorem dX5_setsColumn_140 : decode cX5_setsColumn 140 = .ok (.iastore, 1) := by decide +kernel
theorem dX5_setsColumn_141 : decode cX5_setsColumn 141 = .ok (.goto 57, 3) := by decide +kernel
theorem dX5_setsColumn_144 : decode cX5_setsColumn 144 = .ok (.aload_n 0, 1) := by decide +kernel
theorem dX5_setsColumn_145 : decode cX5_setsColumn 145 = .ok (.getfield 43, 3) := by decide +kernel
theorem dX5_setsColumn_148 : decode cX5_setsColumn 148 = .ok (.iload 5, 2) := by decide +kernel
theorem dX5_setsColumn_150 : decode cX5_setsColumn 150 = .ok (.iconst 1, 1) := by decide +kernel
theorem dX5_setsColumn_151 : decode cX5_setsColumn 151 = .ok (.iastore, 1) := by decide +kernel
theorem dX5_setsColumn_152 : decode cX5_setsColumn 152 = .ok (.iload_n 3, 1) := by decide +kernel
theorem dX5_setsColumn_153 : decode cX5_setsColumn 153 = .ok (.iload 6, 2) := by decide +kernel
theorem dX5_setsColumn_155 : decode cX5_setsColumn 155 = .ok (.iconst 2, 1) := by decide +kernel
theorem dX5_setsColumn_156 : decode cX5_setsColumn 156 = .ok (.if_icmp .ne 11, 3) := by decide +kernel
theorem dX5_setsColumn_159 : decode cX5_setsColumn 159 = .ok (.iload_n 3, 1) := by decide +kernel
theorem dX5_setsColumn_160 : decode cX5_setsColumn 160 = .ok (.ifCond .ne 7, 3) := by decide +kernel
theorem dX5_setsColumn_163 : decode cX5_setsColumn 163 = .ok (.iconst 0, 1) := by decide +kernel
theorem dX5_setsColumn_164 : decode cX5_setsColumn 164 = .ok (.goto 5, 3) := by decide +kernel
theorem dX5_setsColumn_167 : decode cX5_setsColumn 167 = .ok (.iload 7, 2) := by decide +kernel
theorem dX5_setsColumn_169 : decode cX5_setsColumn 169 = .ok (.iadd, 1) := by decide +kernel
theorem dX5_setsColumn_170 : decode cX5_setsColumn 170 = .ok (.istore_n 3, 1) := by decide +kernel
theorem dX5_setsColumn_171 : decode cX5_setsColumn 171 = .ok (.iload 6, 2) := by decide +kernel
theorem dX5_setsColumn_173 : decode cX5_setsColumn 173 = .ok (.iconst 1, 1) := by decide +kernel
theorem dX5_setsColumn_174 : decode cX5_setsColumn 174 = .ok (.if_icmp .ne 22, 3) := by decide +kernel
theorem dX5_setsColumn_177 : decode cX5_setsColumn 177 = .ok (.aload_n 0, 1) := by decide +kernel
theorem dX5_setsColumn_178 : decode cX5_setsColumn 178 = .ok (.getfield 7, 3) := by decide +kernel
theorem dX5_setsColumn_181 : decode cX5_setsColumn 181 = .ok (.iconst 3, 1) := by decide +kernel
theorem dX5_setsColumn_182 : decode cX5_setsColumn 182 = .ok (.iaload, 1) := by decide +kernel
theorem dX5_setsColumn_183 : decode cX5_setsColumn 183 = .ok (.iconst 1, 1) := by decide +kernel
theorem dX5_setsColumn_184 : decode cX5_setsColumn 184 = .ok (.if_icmp .ne 12, 3) := by decide +kernel
theorem dX5_setsColumn_187 : decode cX5_setsColumn 187 = .ok (.aload_n 0, 1) := by decide +kernel
theorem dX5_setsColumn_188 : decode cX5_setsColumn 188 = .ok (.iload_n 3, 1) := by decide +kernel
theorem dX5_setsColumn_189 : decode cX5_setsColumn 189 = .ok (.iload_n 2, 1) := by decide +kernel
theorem dX5_setsColumn_190 : decode cX5_setsColumn 190 = .ok (.invokevirtual 69, 3) := by decide +kernel
theorem dX5_setsColumn_193 : decode cX5_setsColumn 193 = .ok (.goto 4, 3) := by decide +kernel
theorem dX5_setsColumn_196 : decode cX5_setsColumn 196 = .ok (.iload_n 3, 1) := by decide +kernel
theorem dX5_setsColumn_197 : decode cX5_setsColumn 197 = .ok (.istore_n 3, 1) := by decide +kernel
theorem dX5_setsColumn_198 : decode cX5_setsColumn 198 = .ok (.aload_n 0, 1) := by decide +kernel
theorem dX5_setsColumn_199 : decode cX5_setsColumn 199 = .ok (.getfield 40, 3) := by decide +kernel
theorem dX5_setsColumn_202 : decode cX5_setsColumn 202 = .ok (.iload 5, 2) := by decide +kernel
theorem dX5_setsColumn_204 : decode cX5_setsColumn 204 = .ok (.iload_n 3, 1) := by decide +kernel
theorem dX5_setsColumn_205 : decode cX5_setsColumn 205 = .ok (.iastore, 1) := by decide +kernel
theorem dX5_setsColumn_206 : decode cX5_setsColumn 206 = .ok (.iinc 4 1, 3) := by decide +kernel
theorem dX5_setsColumn_209 : decode cX5_setsColumn 209 = .ok (.goto (-189), 3) := by decide +kernel
theorem dX5_setsColumn_212 : decode cX5_setsColumn 212 = .ok (.aload_n 0, 1) := by decide +kernel
theorem dX5_setsColumn_213 : decode cX5_setsColumn 213 = .ok (.getfield 31, 3) := by decide +kernel
theorem dX5_setsColumn_216 : decode cX5_setsColumn 216 = .ok (.iload_n 1, 1) := by decide +kernel
theorem dX5_setsColumn_217 : decode cX5_setsColumn 217 = .ok (.iload_n 3, 1) := by decide +kernel
theorem dX5_setsColumn_218 : decode cX5_setsColumn 218 = .ok (.iastore, 1) := by decide +kernel
theorem dX5_setsColumn_219 : decode cX5_setsColumn 219 = .ok (.return_, 1) := by decide +kernel
set_option maxRecDepth 20000 in
theorem ggX5_setsAll_X5_setsColumn : GoodIn wsX5_setsAll wsX5_setsColumn := goodIn_r _ [5, 6, 7, 8, 9, 10, 11, 12, 13, 14, 15, 4, 16, 17, 18, 19, 20, 21, 22, 23, 24, 25, 26, 27, 28, 29, 30, 31, 32, 33, 34, 35, 36, 37, 38, 39, 40, 41, 42, 43, 44, 45, 46, 47, 48, 49, 50] (by decide +kernel) (by decide +kernel)
set_option maxRecDepth 20000 in
theorem gX5_setsAll_X5_setsColumn : GoodIn wsX5_setsAll (wsV RX5 77 RX5 yX5_setsColumn wsX5_setsColumn) := goodIn_app (goodIn_of _ (by decide +kernel)) ggX5_setsAll_X5_setsColumn
theorem dX5_setsAll_0 : decode cX5_setsAll 0 = .ok (.iconst 0, 1) := by decide +kernel
theorem dX5_setsAll_1 : decode cX5_setsAll 1 = .ok (.istore_n 2, 1) := by decide +kernel
theorem dX5_setsAll_2 : decode cX5_setsAll 2 = .ok (.iload_n 2, 1) := by decide +kernel
theorem dX5_setsAll_3 : decode cX5_setsAll 3 = .ok (.iconst 4, 1) := by decide +kernel
theorem dX5_setsAll_4 : decode cX5_setsAll 4 = .ok (.if_icmp .ge 15, 3) := by decide +kernel
theorem dX5_setsAll_7 : decode cX5_setsAll 7 = .ok (.aload_n 0, 1) := by decide +kernel
theorem dX5_setsAll_8 : decode cX5_setsAll 8 = .ok (.iload_n 2, 1) := by decide +kernel
theorem dX5_setsAll_9 : decode cX5_setsAll 9 = .ok (.iload_n 1, 1) := by decide +kernel
theorem dX5_setsAll_10 : decode cX5_setsAll 10 = .ok (.invokevirtual 77, 3) := by decide +kernel
theorem dX5_setsAll_13 : decode cX5_setsAll 13 = .ok (.iinc 2 1, 3) := by decide +kernel
theorem dX5_setsAll_16 : decode cX5_setsAll 16 = .ok (.goto (-14), 3) := by decide +kernel
theorem dX5_setsAll_19 : decode cX5_setsAll 19 = .ok (.return_, 1) := by decide +kernel
set_option maxRecDepth 20000 in
theorem ggX5_sets_X5_setsAll : GoodIn wsX5_sets wsX5_setsAll := goodIn_r _ [6, 7, 8, 9, 5, 10, 11, 12, 13, 14, 1, 15, 16, 17, 18, 19, 20, 21, 22, 23, 24, 25, 26, 27, 28, 29, 30, 31, 32, 33, 34, 35, 36, 37, 38, 39, 40, 41, 42, 43, 44, 45, 46, 47, 48, 49, 50, 51, 52, 53, 54] (by decide +kernel) (by decide +kernel)
set_option maxRecDepth 20000 in
theorem gX5_sets_X5_setsAll : GoodIn wsX5_sets (wsV RX5 81 RX5 yX5_setsAll wsX5_setsAll) := goodIn_app (goodIn_of _ (by decide +kernel)) ggX5_sets_X5_setsAll
theorem dX5_sets_0 : decode cX5_sets 0 = .ok (.aload_n 0, 1) := by decide +kernel
theorem dX5_sets_1 : decode cX5_sets 1 = .ok (.aload_n 0, 1) := by decide +kernel
theorem dX5_sets_2 : decode cX5_sets 2 = .ok (.getfield 7, 3) := by decide +kernel
theorem dX5_sets_5 : decode cX5_sets 5 = .ok (.iconst 2, 1) := by decide +kernel
theorem dX5_sets_6 : decode cX5_sets 6 = .ok (.iaload, 1) := by decide +kernel
theorem dX5_sets_7 : decode cX5_sets 7 = .ok (.invokevirtual 81, 3) := by decide +kernel
theorem dX5_sets_10 : decode cX5_sets 10 = .ok (.return_, 1) := by decide +kernel
set_option maxRecDepth 20000 in
theorem ggX5_drifts_X5_drift : GoodIn wsX5_drifts wsX5_drift := goodIn_r _ [7, 8, 9, 10, 11, 12, 13, 14, 15, 16, 17, 18, 19, 20, 21, 22, 23, 24] (by decide +kernel) (by decide +kernel)
set_option maxRecDepth 20000 in
theorem gX5_drifts_X5_drift : GoodIn wsX5_drifts (wsV RX5 85 RX5 yX5_drift wsX5_drift) := goodIn_app (goodIn_of _ (by decide +kernel)) ggX5_drifts_X5_drift
theorem dX5_drifts_0 : decode cX5_drifts 0 = .ok (.iconst 0, 1) := by decide +kernel
theorem dX5_drifts_1 : decode cX5_drifts 1 = .ok (.istore_n 3, 1) := by decide +kernel
theorem dX5_drifts_2 : decode cX5_drifts 2 = .ok (.iconst 0, 1) := by decide +kernel
theorem dX5_drifts_3 : decode cX5_drifts 3 = .ok (.istore 4, 2) := by decide +kernel
theorem dX5_drifts_5 : decode cX5_drifts 5 = .ok (.iload 4, 2) := by decide +kernel
theorem dX5_drifts_7 : decode cX5_drifts 7 = .ok (.aload_n 0, 1) := by decide +kernel
theorem dX5_drifts_8 : decode cX5_drifts 8 = .ok (.getfield 28, 3) := by decide +kernel
theorem dX5_drifts_11 : decode cX5_drifts 11 = .ok (.iload_n 1, 1) := by decide +kernel
theorem dX5_drifts_12 : decode cX5_drifts 12 = .ok (.iaload, 1) := by decide +kernel
theorem dX5_drifts_13 : decode cX5_drifts 13 = .ok (.if_icmp .ge 30, 3) := by decide +kernel
theorem dX5_drifts_16 : decode cX5_drifts 16 = .ok (.iload_n 3, 1) := by decide +kernel
theorem dX5_drifts_17 : decode cX5_drifts 17 = .ok (.aload_n 0, 1) := by decide +kernel
theorem dX5_drifts_18 : decode cX5_drifts 18 = .ok (.aload_n 0, 1) := by decide +kernel
theorem dX5_drifts_19 : decode cX5_drifts 19 = .ok (.getfield 22, 3) := by decide +kernel
theorem dX5_drifts_22 : decode cX5_drifts 22 = .ok (.sipush 640, 3) := by decide +kernel
theorem dX5_drifts_25 : decode cX5_drifts 25 = .ok (.iload_n 1, 1) := by decide +kernel
theorem dX5_drifts_26 : decode cX5_drifts 26 = .ok (.imul, 1) := by decide +kernel
theorem dX5_drifts_27 : decode cX5_drifts 27 = .ok (.iload 4, 2) := by decide +kernel
theorem dX5_drifts_29 : decode cX5_drifts 29 = .ok (.iadd, 1) := by decide +kernel
theorem dX5_drifts_30 : decode cX5_drifts 30 = .ok (.iaload, 1) := by decide +kernel
theorem dX5_drifts_31 : decode cX5_drifts 31 = .ok (.iload_n 2, 1) := by decide +kernel
theorem dX5_drifts_32 : decode cX5_drifts 32 = .ok (.invokevirtual 85, 3) := by decide +kernel
theorem dX5_drifts_35 : decode cX5_drifts 35 = .ok (.iadd, 1) := by decide +kernel
theorem dX5_drifts_36 : decode cX5_drifts 36 = .ok (.istore_n 3, 1) := by decide +kernel
theorem dX5_drifts_37 : decode cX5_drifts 37 = .ok (.iinc 4 1, 3) := by decide +kernel
theorem dX5_drifts_40 : decode cX5_drifts 40 = .ok (.goto (-35), 3) := by decide +kernel
theorem dX5_drifts_43 : decode cX5_drifts 43 = .ok (.iload_n 3, 1) := by decide +kernel
theorem dX5_drifts_44 : decode cX5_drifts 44 = .ok (.ireturn, 1) := by decide +kernel
set_option maxRecDepth 20000 in
theorem ggX5_has_X5_isColumn : GoodIn wsX5_has wsX5_isColumn := goodIn_r _ [6, 7, 8, 5, 9] (by decide +kernel) (by decide +kernel)
set_option maxRecDepth 20000 in
theorem gX5_has_X5_isColumn : GoodIn wsX5_has (va_wsS RX5 58 yX5_isColumn wsX5_isColumn) := goodIn_app (goodIn_of _ (by decide +kernel)) ggX5_has_X5_isColumn
theorem dX5_has_0 : decode cX5_has 0 = .ok (.iconst 0, 1) := by decide +kernel
theorem dX5_has_1 : decode cX5_has 1 = .ok (.istore_n 3, 1) := by decide +kernel
theorem dX5_has_2 : decode cX5_has 2 = .ok (.iconst 0, 1) := by decide +kernel
theorem dX5_has_3 : decode cX5_has 3 = .ok (.istore 4, 2) := by decide +kernel
theorem dX5_has_5 : decode cX5_has 5 = .ok (.iload_n 1, 1) := by decide +kernel
theorem dX5_has_6 : decode cX5_has 6 = .ok (.invokestatic 58, 3) := by decide +kernel
theorem dX5_has_9 : decode cX5_has 9 = .ok (.ifCond .eq 45, 3) := by decide +kernel
theorem dX5_has_12 : decode cX5_has 12 = .ok (.iload 4, 2) := by decide +kernel
theorem dX5_has_14 : decode cX5_has 14 = .ok (.aload_n 0, 1) := by decide +kernel
theorem dX5_has_15 : decode cX5_has 15 = .ok (.getfield 28, 3) := by decide +kernel
theorem dX5_has_18 : decode cX5_has 18 = .ok (.iload_n 1, 1) := by decide +kernel
theorem dX5_has_19 : decode cX5_has 19 = .ok (.iaload, 1) := by decide +kernel
theorem dX5_has_20 : decode cX5_has 20 = .ok (.if_icmp .ge 34, 3) := by decide +kernel
theorem dX5_has_23 : decode cX5_has 23 = .ok (.iload_n 3, 1) := by decide +kernel
theorem dX5_has_24 : decode cX5_has 24 = .ok (.aload_n 0, 1) := by decide +kernel
theorem dX5_has_25 : decode cX5_has 25 = .ok (.getfield 22, 3) := by decide +kernel
theorem dX5_has_28 : decode cX5_has 28 = .ok (.sipush 640, 3) := by decide +kernel
theorem dX5_has_31 : decode cX5_has 31 = .ok (.iload_n 1, 1) := by decide +kernel
theorem dX5_has_32 : decode cX5_has 32 = .ok (.imul, 1) := by decide +kernel
theorem dX5_has_33 : decode cX5_has 33 = .ok (.iload 4, 2) := by decide +kernel
theorem dX5_has_35 : decode cX5_has 35 = .ok (.iadd, 1) := by decide +kernel
theorem dX5_has_36 : decode cX5_has 36 = .ok (.iaload, 1) := by decide +kernel
theorem dX5_has_37 : decode cX5_has 37 = .ok (.iload_n 2, 1) := by decide +kernel
theorem dX5_has_38 : decode cX5_has 38 = .ok (.if_icmp .ne 7, 3) := by decide +kernel
theorem dX5_has_41 : decode cX5_has 41 = .ok (.iconst 1, 1) := by decide +kernel
theorem dX5_has_42 : decode cX5_has 42 = .ok (.goto 4, 3) := by decide +kernel
theorem dX5_has_45 : decode cX5_has 45 = .ok (.iconst 0, 1) := by decide +kernel
theorem dX5_has_46 : decode cX5_has 46 = .ok (.ior, 1) := by decide +kernel
theorem dX5_has_47 : decode cX5_has 47 = .ok (.istore_n 3, 1) := by decide +kernel
theorem dX5_has_48 : decode cX5_has 48 = .ok (.iinc 4 1, 3) := by decide +kernel
theorem dX5_has_51 : decode cX5_has 51 = .ok (.goto (-46), 3) := by decide +kernel
theorem dX5_has_54 : decode cX5_has 54 = .ok (.iload_n 3, 1) := by decide +kernel
theorem dX5_has_55 : decode cX5_has 55 = .ok (.ireturn, 1) := by decide +kernel
set_option maxRecDepth 20000 in
theorem ggX5_allLines_X5_blocks : GoodIn wsX5_allLines wsX5_blocks := goodIn_r _ [5, 6, 15, 16, 17, 18, 19, 20, 21, 22, 23, 24, 25, 26, 27, 28, 29, 30] (by decide +kernel) (by decide +kernel)
set_option maxRecDepth 20000 in
theorem gX5_allLines_X5_blocks : GoodIn wsX5_allLines (wsV RX5 62 RX5 yX5_blocks wsX5_blocks) := goodIn_app (goodIn_of _ (by decide +kernel)) ggX5_allLines_X5_blocks
set_option maxRecDepth 20000 in
theorem ggX5_allLines_X5_of : GoodIn wsX5_allLines wsX5_of := goodIn_r _ [10, 6, 11, 12, 13, 4, 14, 15, 16, 17, 18, 19, 20, 21, 22, 23, 24, 25, 26, 27, 28, 29, 30] (by decide +kernel) (by decide +kernel)
set_option maxRecDepth 20000 in
theorem gX5_allLines_X5_of : GoodIn wsX5_allLines (wsV RX5 66 RX5 yX5_of wsX5_of) := goodIn_app (goodIn_of _ (by decide +kernel)) ggX5_allLines_X5_of
theorem dX5_allLines_0 : decode cX5_allLines 0 = .ok (.iconst 0, 1) := by decide +kernel
theorem dX5_allLines_1 : decode cX5_allLines 1 = .ok (.istore_n 2, 1) := by decide +kernel
theorem dX5_allLines_2 : decode cX5_allLines 2 = .ok (.iconst 0, 1) := by decide +kernel
theorem dX5_allLines_3 : decode cX5_allLines 3 = .ok (.istore_n 3, 1) := by decide +kernel
theorem dX5_allLines_4 : decode cX5_allLines 4 = .ok (.iload_n 3, 1) := by decide +kernel
theorem dX5_allLines_5 : decode cX5_allLines 5 = .ok (.aload_n 0, 1) := by decide +kernel
theorem dX5_allLines_6 : decode cX5_allLines 6 = .ok (.iload_n 1, 1) := by decide +kernel
theorem dX5_allLines_7 : decode cX5_allLines 7 = .ok (.invokevirtual 62, 3) := by decide +kernel
theorem dX5_allLines_10 : decode cX5_allLines 10 = .ok (.if_icmp .ge 33, 3) := by decide +kernel
theorem dX5_allLines_13 : decode cX5_allLines 13 = .ok (.iload_n 2, 1) := by decide +kernel
theorem dX5_allLines_14 : decode cX5_allLines 14 = .ok (.aload_n 0, 1) := by decide +kernel
theorem dX5_allLines_15 : decode cX5_allLines 15 = .ok (.iload_n 1, 1) := by decide +kernel
theorem dX5_allLines_16 : decode cX5_allLines 16 = .ok (.iload_n 3, 1) := by decide +kernel
theorem dX5_allLines_17 : decode cX5_allLines 17 = .ok (.iconst 0, 1) := by decide +kernel
theorem dX5_allLines_18 : decode cX5_allLines 18 = .ok (.invokevirtual 66, 3) := by decide +kernel
theorem dX5_allLines_21 : decode cX5_allLines 21 = .ok (.ifCond .ne 13, 3) := by decide +kernel
theorem dX5_allLines_24 : decode cX5_allLines 24 = .ok (.aload_n 0, 1) := by decide +kernel
theorem dX5_allLines_25 : decode cX5_allLines 25 = .ok (.iload_n 1, 1) := by decide +kernel
theorem dX5_allLines_26 : decode cX5_allLines 26 = .ok (.iload_n 3, 1) := by decide +kernel
theorem dX5_allLines_27 : decode cX5_allLines 27 = .ok (.iconst 1, 1) := by decide +kernel
theorem dX5_allLines_28 : decode cX5_allLines 28 = .ok (.invokevirtual 66, 3) := by decide +kernel
theorem dX5_allLines_31 : decode cX5_allLines 31 = .ok (.goto 4, 3) := by decide +kernel
theorem dX5_allLines_34 : decode cX5_allLines 34 = .ok (.iconst 0, 1) := by decide +kernel
theorem dX5_allLines_35 : decode cX5_allLines 35 = .ok (.iadd, 1) := by decide +kernel
theorem dX5_allLines_36 : decode cX5_allLines 36 = .ok (.istore_n 2, 1) := by decide +kernel
theorem dX5_allLines_37 : decode cX5_allLines 37 = .ok (.iinc 3 1, 3) := by decide +kernel
theorem dX5_allLines_40 : decode cX5_allLines 40 = .ok (.goto (-36), 3) := by decide +kernel
theorem dX5_allLines_43 : decode cX5_allLines 43 = .ok (.iload_n 2, 1) := by decide +kernel
theorem dX5_allLines_44 : decode cX5_allLines 44 = .ok (.ireturn, 1) := by decide +kernel
set_option maxRecDepth 20000 in
theorem ggX5_set_X5_in : GoodIn wsX5_set wsX5_in := goodIn_r _ [5] (by decide +kernel) (by decide +kernel)
set_option maxRecDepth 20000 in
theorem gX5_set_X5_in : GoodIn wsX5_set (va_wsS RX5 46 yX5_in wsX5_in) := goodIn_app (goodIn_of _ (by decide +kernel)) ggX5_set_X5_in
set_option maxRecDepth 20000 in
theorem ggX5_set_X5_record : GoodIn wsX5_set wsX5_record := goodIn_r _ [9, 10, 11, 1, 12, 13, 14, 15, 16, 17, 18, 19, 20, 21, 22, 23, 24, 25, 26, 27] (by decide +kernel) (by decide +kernel)
set_option maxRecDepth 20000 in
theorem gX5_set_X5_record : GoodIn wsX5_set (wsV RX5 88 RX5 yX5_record wsX5_record) := goodIn_app (goodIn_of _ (by decide +kernel)) ggX5_set_X5_record
theorem dX5_set_0 : decode cX5_set 0 = .ok (.iload_n 1, 1) := by decide +kernel
theorem dX5_set_1 : decode cX5_set 1 = .ok (.ifCond .ne 9, 3) := by decide +kernel
theorem dX5_set_4 : decode cX5_set 4 = .ok (.sipush 200, 3) := by decide +kernel
theorem dX5_set_7 : decode cX5_set 7 = .ok (.goto 23, 3) := by decide +kernel
theorem dX5_set_10 : decode cX5_set 10 = .ok (.iload_n 1, 1) := by decide +kernel
theorem dX5_set_11 : decode cX5_set 11 = .ok (.iconst 2, 1) := by decide +kernel
theorem dX5_set_12 : decode cX5_set 12 = .ok (.if_icmp .ne 8, 3) := by decide +kernel
theorem dX5_set_15 : decode cX5_set 15 = .ok (.bipush 20, 2) := by decide +kernel
theorem dX5_set_17 : decode cX5_set 17 = .ok (.goto 13, 3) := by decide +kernel
theorem dX5_set_20 : decode cX5_set 20 = .ok (.iload_n 1, 1) := by decide +kernel
theorem dX5_set_21 : decode cX5_set 21 = .ok (.iconst 4, 1) := by decide +kernel
theorem dX5_set_22 : decode cX5_set 22 = .ok (.if_icmp .ne 7, 3) := by decide +kernel
theorem dX5_set_25 : decode cX5_set 25 = .ok (.iconst 1, 1) := by decide +kernel
theorem dX5_set_26 : decode cX5_set 26 = .ok (.goto 4, 3) := by decide +kernel
theorem dX5_set_29 : decode cX5_set 29 = .ok (.iconst 0, 1) := by decide +kernel
theorem dX5_set_30 : decode cX5_set 30 = .ok (.istore_n 3, 1) := by decide +kernel
theorem dX5_set_31 : decode cX5_set 31 = .ok (.iload_n 1, 1) := by decide +kernel
theorem dX5_set_32 : decode cX5_set 32 = .ok (.ifCond .ne 9, 3) := by decide +kernel
theorem dX5_set_35 : decode cX5_set 35 = .ok (.sipush 9999, 3) := by decide +kernel
theorem dX5_set_38 : decode cX5_set 38 = .ok (.goto 29, 3) := by decide +kernel
theorem dX5_set_41 : decode cX5_set 41 = .ok (.iload_n 1, 1) := by decide +kernel
theorem dX5_set_42 : decode cX5_set 42 = .ok (.iconst 1, 1) := by decide +kernel
theorem dX5_set_43 : decode cX5_set 43 = .ok (.if_icmp .eq 8, 3) := by decide +kernel
theorem dX5_set_46 : decode cX5_set 46 = .ok (.iload_n 1, 1) := by decide +kernel
theorem dX5_set_47 : decode cX5_set 47 = .ok (.iconst 2, 1) := by decide +kernel
theorem dX5_set_48 : decode cX5_set 48 = .ok (.if_icmp .ne 9, 3) := by decide +kernel
theorem dX5_set_51 : decode cX5_set 51 = .ok (.sipush 500, 3) := by decide +kernel
theorem dX5_set_54 : decode cX5_set 54 = .ok (.goto 13, 3) := by decide +kernel
theorem dX5_set_57 : decode cX5_set 57 = .ok (.iload_n 1, 1) := by decide +kernel
theorem dX5_set_58 : decode cX5_set 58 = .ok (.iconst 3, 1) := by decide +kernel
theorem dX5_set_59 : decode cX5_set 59 = .ok (.if_icmp .ne 7, 3) := by decide +kernel
theorem dX5_set_62 : decode cX5_set 62 = .ok (.iconst 1, 1) := by decide +kernel
theorem dX5_set_63 : decode cX5_set 63 = .ok (.goto 4, 3) := by decide +kernel
theorem dX5_set_66 : decode cX5_set 66 = .ok (.iconst 3, 1) := by decide +kernel
theorem dX5_set_67 : decode cX5_set 67 = .ok (.istore 4, 2) := by decide +kernel
theorem dX5_set_69 : decode cX5_set 69 = .ok (.iload_n 1, 1) := by decide +kernel
theorem dX5_set_70 : decode cX5_set 70 = .ok (.iconst 0, 1) := by decide +kernel
theorem dX5_set_71 : decode cX5_set 71 = .ok (.iconst 4, 1) := by decide +kernel
theorem dX5_set_72 : decode cX5_set 72 = .ok (.invokestatic 46, 3) := by decide +kernel
theorem dX5_set_75 : decode cX5_set 75 = .ok (.ifCond .eq 13, 3) := by decide +kernel
theorem dX5_set_78 : decode cX5_set 78 = .ok (.iload_n 2, 1) := by decide +kernel
theorem dX5_set_79 : decode cX5_set 79 = .ok (.iload_n 3, 1) := by decide +kernel
theorem dX5_set_80 : decode cX5_set 80 = .ok (.iload 4, 2) := by decide +kernel
theorem dX5_set_82 : decode cX5_set 82 = .ok (.invokestatic 46, 3) := by decide +kernel
theorem dX5_set_85 : decode cX5_set 85 = .ok (.ifCond .ne 6, 3) := by decide +kernel
theorem dX5_set_88 : decode cX5_set 88 = .ok (.bipush (-2), 2) := by decide +kernel
theorem dX5_set_90 : decode cX5_set 90 = .ok (.ireturn, 1) := by decide +kernel
theorem dX5_set_91 : decode cX5_set 91 = .ok (.aload_n 0, 1) := by decide +kernel
theorem dX5_set_92 : decode cX5_set 92 = .ok (.getfield 7, 3) := by decide +kernel
theorem dX5_set_95 : decode cX5_set 95 = .ok (.iload_n 1, 1) := by decide +kernel
theorem dX5_set_96 : decode cX5_set 96 = .ok (.iaload, 1) := by decide +kernel
theorem dX5_set_97 : decode cX5_set 97 = .ok (.istore 5, 2) := by decide +kernel
theorem dX5_set_99 : decode cX5_set 99 = .ok (.iload 5, 2) := by decide +kernel
theorem dX5_set_101 : decode cX5_set 101 = .ok (.iload_n 2, 1) := by decide +kernel
theorem dX5_set_102 : decode cX5_set 102 = .ok (.if_icmp .ne 6, 3) := by decide +kernel
theorem dX5_set_105 : decode cX5_set 105 = .ok (.bipush (-5), 2) := by decide +kernel
theorem dX5_set_107 : decode cX5_set 107 = .ok (.ireturn, 1) := by decide +kernel
theorem dX5_set_108 : decode cX5_set 108 = .ok (.aload_n 0, 1) := by decide +kernel
theorem dX5_set_109 : decode cX5_set 109 = .ok (.invokevirtual 88, 3) := by decide +kernel
theorem dX5_set_112 : decode cX5_set 112 = .ok (.aload_n 0, 1) := by decide +kernel
theorem dX5_set_113 : decode cX5_set 113 = .ok (.getfield 7, 3) := by decide +kernel
theorem dX5_set_116 : decode cX5_set 116 = .ok (.iload_n 1, 1) := by decide +kernel
theorem dX5_set_117 : decode cX5_set 117 = .ok (.iload_n 2, 1) := by decide +kernel
theorem dX5_set_118 : decode cX5_set 118 = .ok (.iastore, 1) := by decide +kernel
theorem dX5_set_119 : decode cX5_set 119 = .ok (.iload 5, 2) := by decide +kernel
theorem dX5_set_121 : decode cX5_set 121 = .ok (.ireturn, 1) := by decide +kernel
set_option maxRecDepth 20000 in
theorem ggX5_paragraph_X5_isColumn : GoodIn wsX5_paragraph wsX5_isColumn := goodIn_r _ [4, 5, 6, 3, 7] (by decide +kernel) (by decide +kernel)
set_option maxRecDepth 20000 in
theorem gX5_paragraph_X5_isColumn : GoodIn wsX5_paragraph (va_wsS RX5 58 yX5_isColumn wsX5_isColumn) := goodIn_app (goodIn_of _ (by decide +kernel)) ggX5_paragraph_X5_isColumn
set_option maxRecDepth 20000 in
theorem ggX5_paragraph_X5_in : GoodIn wsX5_paragraph wsX5_in := goodIn_r _ [7] (by decide +kernel) (by decide +kernel)
set_option maxRecDepth 20000 in
theorem gX5_paragraph_X5_in : GoodIn wsX5_paragraph (va_wsS RX5 46 yX5_in wsX5_in) := goodIn_app (goodIn_of _ (by decide +kernel)) ggX5_paragraph_X5_in
set_option maxRecDepth 20000 in
theorem ggX5_paragraph_X5_blocks : GoodIn wsX5_paragraph wsX5_blocks := goodIn_r _ [11, 12, 27, 28, 29, 30, 31, 32, 33, 34, 35, 36, 37, 38, 39, 40, 41, 42] (by decide +kernel) (by decide +kernel)
set_option maxRecDepth 20000 in
theorem gX5_paragraph_X5_blocks : GoodIn wsX5_paragraph (wsV RX5 62 RX5 yX5_blocks wsX5_blocks) := goodIn_app (goodIn_of _ (by decide +kernel)) ggX5_paragraph_X5_blocks
set_option maxRecDepth 20000 in
theorem ggX5_paragraph_X5_record : GoodIn wsX5_paragraph wsX5_record := goodIn_r _ [16, 17, 18, 12, 27, 28, 29, 30, 31, 32, 33, 34, 35, 36, 37, 38, 39, 40, 41, 42] (by decide +kernel) (by decide +kernel)
set_option maxRecDepth 20000 in
theorem gX5_paragraph_X5_record : GoodIn wsX5_paragraph (wsV RX5 88 RX5 yX5_record wsX5_record) := goodIn_app (goodIn_of _ (by decide +kernel)) ggX5_paragraph_X5_record
set_option maxRecDepth 20000 in
theorem ggX5_paragraph_X5_puts : GoodIn wsX5_paragraph wsX5_puts := goodIn_r _ [22, 12, 8, 9, 10, 3, 11, 23, 24, 25, 26, 27, 28, 29, 30, 31, 32, 33, 34, 35, 36, 37, 38, 39, 40, 41, 42] (by decide +kernel) (by decide +kernel)
set_option maxRecDepth 20000 in
theorem gX5_paragraph_X5_puts : GoodIn wsX5_paragraph (wsV RX5 91 RX5 yX5_puts wsX5_puts) := goodIn_app (goodIn_of _ (by decide +kernel)) ggX5_paragraph_X5_puts
theorem dX5_paragraph_0 : decode cX5_paragraph 0 = .ok (.iload_n 1, 1) := by decide +kernel
theorem dX5_paragraph_1 : decode cX5_paragraph 1 = .ok (.invokestatic 58, 3) := by decide +kernel
theorem dX5_paragraph_4 : decode cX5_paragraph 4 = .ok (.ifCond .ne 5, 3) := by decide +kernel
theorem dX5_paragraph_7 : decode cX5_paragraph 7 = .ok (.iconst (-1), 1) := by decide +kernel
theorem dX5_paragraph_8 : decode cX5_paragraph 8 = .ok (.ireturn, 1) := by decide +kernel
theorem dX5_paragraph_9 : decode cX5_paragraph 9 = .ok (.iload_n 2, 1) := by decide +kernel
theorem dX5_paragraph_10 : decode cX5_paragraph 10 = .ok (.iconst 1, 1) := by decide +kernel
theorem dX5_paragraph_11 : decode cX5_paragraph 11 = .ok (.bipush 40, 2) := by decide +kernel
theorem dX5_paragraph_13 : decode cX5_paragraph 13 = .ok (.invokestatic 46, 3) := by decide +kernel
theorem dX5_paragraph_16 : decode cX5_paragraph 16 = .ok (.ifCond .eq 27, 3) := by decide +kernel
theorem dX5_paragraph_19 : decode cX5_paragraph 19 = .ok (.iload_n 3, 1) := by decide +kernel
theorem dX5_paragraph_20 : decode cX5_paragraph 20 = .ok (.bipush 40, 2) := by decide +kernel
theorem dX5_paragraph_22 : decode cX5_paragraph 22 = .ok (.sipush 400, 3) := by decide +kernel
theorem dX5_paragraph_25 : decode cX5_paragraph 25 = .ok (.invokestatic 46, 3) := by decide +kernel
theorem dX5_paragraph_28 : decode cX5_paragraph 28 = .ok (.ifCond .eq 15, 3) := by decide +kernel
theorem dX5_paragraph_31 : decode cX5_paragraph 31 = .ok (.iload 4, 2) := by decide +kernel
theorem dX5_paragraph_33 : decode cX5_paragraph 33 = .ok (.iload_n 3, 1) := by decide +kernel
theorem dX5_paragraph_34 : decode cX5_paragraph 34 = .ok (.sipush 600, 3) := by decide +kernel
theorem dX5_paragraph_37 : decode cX5_paragraph 37 = .ok (.invokestatic 46, 3) := by decide +kernel
theorem dX5_paragraph_40 : decode cX5_paragraph 40 = .ok (.ifCond .ne 6, 3) := by decide +kernel
theorem dX5_paragraph_43 : decode cX5_paragraph 43 = .ok (.bipush (-2), 2) := by decide +kernel
theorem dX5_paragraph_45 : decode cX5_paragraph 45 = .ok (.ireturn, 1) := by decide +kernel
theorem dX5_paragraph_46 : decode cX5_paragraph 46 = .ok (.aload_n 0, 1) := by decide +kernel
theorem dX5_paragraph_47 : decode cX5_paragraph 47 = .ok (.iload_n 1, 1) := by decide +kernel
theorem dX5_paragraph_48 : decode cX5_paragraph 48 = .ok (.invokevirtual 62, 3) := by decide +kernel
theorem dX5_paragraph_51 : decode cX5_paragraph 51 = .ok (.bipush 16, 2) := by decide +kernel
theorem dX5_paragraph_53 : decode cX5_paragraph 53 = .ok (.if_icmp .ne 6, 3) := by decide +kernel
theorem dX5_paragraph_56 : decode cX5_paragraph 56 = .ok (.bipush (-3), 2) := by decide +kernel
theorem dX5_paragraph_58 : decode cX5_paragraph 58 = .ok (.ireturn, 1) := by decide +kernel
theorem dX5_paragraph_59 : decode cX5_paragraph 59 = .ok (.aload_n 0, 1) := by decide +kernel
theorem dX5_paragraph_60 : decode cX5_paragraph 60 = .ok (.invokevirtual 88, 3) := by decide +kernel
theorem dX5_paragraph_63 : decode cX5_paragraph 63 = .ok (.aload_n 0, 1) := by decide +kernel
theorem dX5_paragraph_64 : decode cX5_paragraph 64 = .ok (.iload_n 1, 1) := by decide +kernel
theorem dX5_paragraph_65 : decode cX5_paragraph 65 = .ok (.iconst 0, 1) := by decide +kernel
theorem dX5_paragraph_66 : decode cX5_paragraph 66 = .ok (.iload_n 2, 1) := by decide +kernel
theorem dX5_paragraph_67 : decode cX5_paragraph 67 = .ok (.iload_n 3, 1) := by decide +kernel
theorem dX5_paragraph_68 : decode cX5_paragraph 68 = .ok (.iload 4, 2) := by decide +kernel
theorem dX5_paragraph_70 : decode cX5_paragraph 70 = .ok (.iload 5, 2) := by decide +kernel
theorem dX5_paragraph_72 : decode cX5_paragraph 72 = .ok (.ifCond .eq 7, 3) := by decide +kernel
theorem dX5_paragraph_75 : decode cX5_paragraph 75 = .ok (.iconst 1, 1) := by decide +kernel
theorem dX5_paragraph_76 : decode cX5_paragraph 76 = .ok (.goto 4, 3) := by decide +kernel
theorem dX5_paragraph_79 : decode cX5_paragraph 79 = .ok (.iconst 0, 1) := by decide +kernel
theorem dX5_paragraph_80 : decode cX5_paragraph 80 = .ok (.iconst 0, 1) := by decide +kernel
theorem dX5_paragraph_81 : decode cX5_paragraph 81 = .ok (.invokevirtual 91, 3) := by decide +kernel
theorem dX5_paragraph_84 : decode cX5_paragraph 84 = .ok (.ireturn, 1) := by decide +kernel
set_option maxRecDepth 20000 in
theorem ggX5_put_X5_isColumn : GoodIn wsX5_put wsX5_isColumn := goodIn_r _ [4, 5, 6, 3, 7] (by decide +kernel) (by decide +kernel)
set_option maxRecDepth 20000 in
theorem gX5_put_X5_isColumn : GoodIn wsX5_put (va_wsS RX5 58 yX5_isColumn wsX5_isColumn) := goodIn_app (goodIn_of _ (by decide +kernel)) ggX5_put_X5_isColumn
set_option maxRecDepth 20000 in
theorem ggX5_put_X5_in : GoodIn wsX5_put wsX5_in := goodIn_r _ [7] (by decide +kernel) (by decide +kernel)
set_option maxRecDepth 20000 in
theorem gX5_put_X5_in : GoodIn wsX5_put (va_wsS RX5 46 yX5_in wsX5_in) := goodIn_app (goodIn_of _ (by decide +kernel)) ggX5_put_X5_in
set_option maxRecDepth 20000 in
theorem ggX5_put_X5_blocks : GoodIn wsX5_put wsX5_blocks := goodIn_r _ [11, 12, 27, 28, 29, 30, 31, 32, 33, 34, 35, 36, 37, 38, 39, 40, 41, 42] (by decide +kernel) (by decide +kernel)
set_option maxRecDepth 20000 in
theorem gX5_put_X5_blocks : GoodIn wsX5_put (wsV RX5 62 RX5 yX5_blocks wsX5_blocks) := goodIn_app (goodIn_of _ (by decide +kernel)) ggX5_put_X5_blocks
set_option maxRecDepth 20000 in
theorem ggX5_put_X5_record : GoodIn wsX5_put wsX5_record := goodIn_r _ [16, 17, 18, 12, 27, 28, 29, 30, 31, 32, 33, 34, 35, 36, 37, 38, 39, 40, 41, 42] (by decide +kernel) (by decide +kernel)
set_option maxRecDepth 20000 in
theorem gX5_put_X5_record : GoodIn wsX5_put (wsV RX5 88 RX5 yX5_record wsX5_record) := goodIn_app (goodIn_of _ (by decide +kernel)) ggX5_put_X5_record
set_option maxRecDepth 20000 in
theorem ggX5_put_X5_puts : GoodIn wsX5_put wsX5_puts := goodIn_r _ [22, 12, 8, 9, 10, 3, 11, 23, 24, 25, 26, 27, 28, 29, 30, 31, 32, 33, 34, 35, 36, 37, 38, 39, 40, 41, 42] (by decide +kernel) (by decide +kernel)
set_option maxRecDepth 20000 in
theorem gX5_put_X5_puts : GoodIn wsX5_put (wsV RX5 91 RX5 yX5_puts wsX5_puts) := goodIn_app (goodIn_of _ (by decide +kernel)) ggX5_put_X5_puts
theorem dX5_put_0 : decode cX5_put 0 = .ok (.iload_n 1, 1) := by decide +kernel
theorem dX5_put_1 : decode cX5_put 1 = .ok (.invokestatic 58, 3) := by decide +kernel
theorem dX5_put_4 : decode cX5_put 4 = .ok (.ifCond .ne 5, 3) := by decide +kernel
theorem dX5_put_7 : decode cX5_put 7 = .ok (.iconst (-1), 1) := by decide +kernel
theorem dX5_put_8 : decode cX5_put 8 = .ok (.ireturn, 1) := by decide +kernel
theorem dX5_put_9 : decode cX5_put 9 = .ok (.iload_n 3, 1) := by decide +kernel
theorem dX5_put_10 : decode cX5_put 10 = .ok (.iconst 1, 1) := by decide +kernel
theorem dX5_put_11 : decode cX5_put 11 = .ok (.sipush 3000, 3) := by decide +kernel
theorem dX5_put_14 : decode cX5_put 14 = .ok (.invokestatic 46, 3) := by decide +kernel
theorem dX5_put_17 : decode cX5_put 17 = .ok (.ifCond .ne 6, 3) := by decide +kernel
theorem dX5_put_20 : decode cX5_put 20 = .ok (.bipush (-2), 2) := by decide +kernel
theorem dX5_put_22 : decode cX5_put 22 = .ok (.ireturn, 1) := by decide +kernel
theorem dX5_put_23 : decode cX5_put 23 = .ok (.aload_n 0, 1) := by decide +kernel
theorem dX5_put_24 : decode cX5_put 24 = .ok (.iload_n 1, 1) := by decide +kernel
theorem dX5_put_25 : decode cX5_put 25 = .ok (.invokevirtual 62, 3) := by decide +kernel
theorem dX5_put_28 : decode cX5_put 28 = .ok (.bipush 16, 2) := by decide +kernel
theorem dX5_put_30 : decode cX5_put 30 = .ok (.if_icmp .ne 6, 3) := by decide +kernel
theorem dX5_put_33 : decode cX5_put 33 = .ok (.bipush (-3), 2) := by decide +kernel
theorem dX5_put_35 : decode cX5_put 35 = .ok (.ireturn, 1) := by decide +kernel
theorem dX5_put_36 : decode cX5_put 36 = .ok (.aload_n 0, 1) := by decide +kernel
theorem dX5_put_37 : decode cX5_put 37 = .ok (.invokevirtual 88, 3) := by decide +kernel
theorem dX5_put_40 : decode cX5_put 40 = .ok (.aload_n 0, 1) := by decide +kernel
theorem dX5_put_41 : decode cX5_put 41 = .ok (.iload_n 1, 1) := by decide +kernel
theorem dX5_put_42 : decode cX5_put 42 = .ok (.iload_n 2, 1) := by decide +kernel
theorem dX5_put_43 : decode cX5_put 43 = .ok (.ifCond .eq 7, 3) := by decide +kernel
theorem dX5_put_46 : decode cX5_put 46 = .ok (.iconst 1, 1) := by decide +kernel
theorem dX5_put_47 : decode cX5_put 47 = .ok (.goto 4, 3) := by decide +kernel
theorem dX5_put_50 : decode cX5_put 50 = .ok (.iconst 2, 1) := by decide +kernel
theorem dX5_put_51 : decode cX5_put 51 = .ok (.iconst 0, 1) := by decide +kernel
theorem dX5_put_52 : decode cX5_put 52 = .ok (.iconst 0, 1) := by decide +kernel
theorem dX5_put_53 : decode cX5_put 53 = .ok (.iconst 0, 1) := by decide +kernel
theorem dX5_put_54 : decode cX5_put 54 = .ok (.iconst 0, 1) := by decide +kernel
theorem dX5_put_55 : decode cX5_put 55 = .ok (.iload_n 3, 1) := by decide +kernel
theorem dX5_put_56 : decode cX5_put 56 = .ok (.invokevirtual 91, 3) := by decide +kernel
theorem dX5_put_59 : decode cX5_put 59 = .ok (.ireturn, 1) := by decide +kernel
set_option maxRecDepth 20000 in
theorem ggX5_drops_X5_cell : GoodIn wsX5_drops wsX5_cell := goodIn_r _ [6] (by decide +kernel) (by decide +kernel)
set_option maxRecDepth 20000 in
theorem gX5_drops_X5_cell : GoodIn wsX5_drops (wsV RX5 54 RX5 yX5_cell wsX5_cell) := goodIn_app (goodIn_of _ (by decide +kernel)) ggX5_drops_X5_cell
set_option maxRecDepth 20000 in
theorem ggX5_drops_X5_blocks : GoodIn wsX5_drops wsX5_blocks := goodIn_r _ [10, 1, 11, 12, 13, 14, 15, 16, 17, 18, 19, 20, 21, 22, 23, 24, 25, 26] (by decide +kernel) (by decide +kernel)
set_option maxRecDepth 20000 in
theorem gX5_drops_X5_blocks : GoodIn wsX5_drops (wsV RX5 62 RX5 yX5_blocks wsX5_blocks) := goodIn_app (goodIn_of _ (by decide +kernel)) ggX5_drops_X5_blocks
theorem dX5_drops_0 : decode cX5_drops 0 = .ok (.aload_n 0, 1) := by decide +kernel
theorem dX5_drops_1 : decode cX5_drops 1 = .ok (.getfield 7, 3) := by decide +kernel
theorem dX5_drops_4 : decode cX5_drops 4 = .ok (.iconst 5, 1) := by decide +kernel
theorem dX5_drops_5 : decode cX5_drops 5 = .ok (.bipush 97, 2) := by decide +kernel
theorem dX5_drops_7 : decode cX5_drops 7 = .ok (.iload_n 1, 1) := by decide +kernel
theorem dX5_drops_8 : decode cX5_drops 8 = .ok (.imul, 1) := by decide +kernel
theorem dX5_drops_9 : decode cX5_drops 9 = .ok (.iadd, 1) := by decide +kernel
theorem dX5_drops_10 : decode cX5_drops 10 = .ok (.dup2, 1) := by decide +kernel
theorem dX5_drops_11 : decode cX5_drops 11 = .ok (.iaload, 1) := by decide +kernel
theorem dX5_drops_12 : decode cX5_drops 12 = .ok (.iconst 1, 1) := by decide +kernel
theorem dX5_drops_13 : decode cX5_drops 13 = .ok (.isub, 1) := by decide +kernel
theorem dX5_drops_14 : decode cX5_drops 14 = .ok (.iastore, 1) := by decide +kernel
theorem dX5_drops_15 : decode cX5_drops 15 = .ok (.aload_n 0, 1) := by decide +kernel
theorem dX5_drops_16 : decode cX5_drops 16 = .ok (.iload_n 1, 1) := by decide +kernel
theorem dX5_drops_17 : decode cX5_drops 17 = .ok (.iload_n 2, 1) := by decide +kernel
theorem dX5_drops_18 : decode cX5_drops 18 = .ok (.iconst 0, 1) := by decide +kernel
theorem dX5_drops_19 : decode cX5_drops 19 = .ok (.invokevirtual 54, 3) := by decide +kernel
theorem dX5_drops_22 : decode cX5_drops 22 = .ok (.istore_n 3, 1) := by decide +kernel
theorem dX5_drops_23 : decode cX5_drops 23 = .ok (.iload_n 3, 1) := by decide +kernel
theorem dX5_drops_24 : decode cX5_drops 24 = .ok (.aload_n 0, 1) := by decide +kernel
theorem dX5_drops_25 : decode cX5_drops 25 = .ok (.iload_n 1, 1) := by decide +kernel
theorem dX5_drops_26 : decode cX5_drops 26 = .ok (.aload_n 0, 1) := by decide +kernel
theorem dX5_drops_27 : decode cX5_drops 27 = .ok (.iload_n 1, 1) := by decide +kernel
theorem dX5_drops_28 : decode cX5_drops 28 = .ok (.invokevirtual 62, 3) := by decide +kernel
theorem dX5_drops_31 : decode cX5_drops 31 = .ok (.iconst 0, 1) := by decide +kernel
theorem dX5_drops_32 : decode cX5_drops 32 = .ok (.invokevirtual 54, 3) := by decide +kernel
theorem dX5_drops_35 : decode cX5_drops 35 = .ok (.if_icmp .ge 24, 3) := by decide +kernel
theorem dX5_drops_38 : decode cX5_drops 38 = .ok (.aload_n 0, 1) := by decide +kernel
theorem dX5_drops_39 : decode cX5_drops 39 = .ok (.getfield 7, 3) := by decide +kernel
theorem dX5_drops_42 : decode cX5_drops 42 = .ok (.iload_n 3, 1) := by decide +kernel
theorem dX5_drops_43 : decode cX5_drops 43 = .ok (.aload_n 0, 1) := by decide +kernel
theorem dX5_drops_44 : decode cX5_drops 44 = .ok (.getfield 7, 3) := by decide +kernel
theorem dX5_drops_47 : decode cX5_drops 47 = .ok (.iload_n 3, 1) := by decide +kernel
theorem dX5_drops_48 : decode cX5_drops 48 = .ok (.bipush 6, 2) := by decide +kernel
theorem dX5_drops_50 : decode cX5_drops 50 = .ok (.iadd, 1) := by decide +kernel
theorem dX5_drops_51 : decode cX5_drops 51 = .ok (.iaload, 1) := by decide +kernel
theorem dX5_drops_52 : decode cX5_drops 52 = .ok (.iastore, 1) := by decide +kernel
theorem dX5_drops_53 : decode cX5_drops 53 = .ok (.iinc 3 1, 3) := by decide +kernel
theorem dX5_drops_56 : decode cX5_drops 56 = .ok (.goto (-33), 3) := by decide +kernel
theorem dX5_drops_59 : decode cX5_drops 59 = .ok (.return_, 1) := by decide +kernel
set_option maxRecDepth 20000 in
theorem ggX5_remove_X5_isBlock : GoodIn wsX5_remove wsX5_isBlock := goodIn_r _ [5, 6, 7, 4, 8, 9, 10, 11, 12, 13, 14, 15, 16, 31, 32, 33, 34, 35, 36, 37, 38, 39, 40, 41, 42, 43, 44, 45, 46] (by decide +kernel) (by decide +kernel)
set_option maxRecDepth 20000 in
theorem gX5_remove_X5_isBlock : GoodIn wsX5_remove (wsV RX5 95 RX5 yX5_isBlock wsX5_isBlock) := goodIn_app (goodIn_of _ (by decide +kernel)) ggX5_remove_X5_isBlock
set_option maxRecDepth 20000 in
theorem ggX5_remove_X5_record : GoodIn wsX5_remove wsX5_record := goodIn_r _ [20, 21, 22, 16, 31, 32, 33, 34, 35, 36, 37, 38, 39, 40, 41, 42, 43, 44, 45, 46] (by decide +kernel) (by decide +kernel)
set_option maxRecDepth 20000 in
theorem gX5_remove_X5_record : GoodIn wsX5_remove (wsV RX5 88 RX5 yX5_record wsX5_record) := goodIn_app (goodIn_of _ (by decide +kernel)) ggX5_remove_X5_record
set_option maxRecDepth 20000 in
theorem ggX5_remove_X5_drops : GoodIn wsX5_remove wsX5_drops := goodIn_r _ [26, 16, 27, 28, 29, 4, 30, 12, 13, 14, 15, 31, 32, 33, 34, 35, 36, 37, 38, 39, 40, 41, 42, 43, 44, 45, 46] (by decide +kernel) (by decide +kernel)
set_option maxRecDepth 20000 in
theorem gX5_remove_X5_drops : GoodIn wsX5_remove (wsV RX5 99 RX5 yX5_drops wsX5_drops) := goodIn_app (goodIn_of _ (by decide +kernel)) ggX5_remove_X5_drops
set_option maxRecDepth 20000 in
theorem ggX5_remove_X5_blocks : GoodIn wsX5_remove wsX5_blocks := goodIn_r _ [15, 16, 31, 32, 33, 34, 35, 36, 37, 38, 39, 40, 41, 42, 43, 44, 45, 46] (by decide +kernel) (by decide +kernel)
set_option maxRecDepth 20000 in
theorem gX5_remove_X5_blocks : GoodIn wsX5_remove (wsV RX5 62 RX5 yX5_blocks wsX5_blocks) := goodIn_app (goodIn_of _ (by decide +kernel)) ggX5_remove_X5_blocks
theorem dX5_remove_0 : decode cX5_remove 0 = .ok (.aload_n 0, 1) := by decide +kernel
theorem dX5_remove_1 : decode cX5_remove 1 = .ok (.iload_n 1, 1) := by decide +kernel
theorem dX5_remove_2 : decode cX5_remove 2 = .ok (.iload_n 2, 1) := by decide +kernel
theorem dX5_remove_3 : decode cX5_remove 3 = .ok (.invokevirtual 95, 3) := by decide +kernel
theorem dX5_remove_6 : decode cX5_remove 6 = .ok (.ifCond .ne 5, 3) := by decide +kernel
theorem dX5_remove_9 : decode cX5_remove 9 = .ok (.iconst (-1), 1) := by decide +kernel
theorem dX5_remove_10 : decode cX5_remove 10 = .ok (.ireturn, 1) := by decide +kernel
theorem dX5_remove_11 : decode cX5_remove 11 = .ok (.aload_n 0, 1) := by decide +kernel
theorem dX5_remove_12 : decode cX5_remove 12 = .ok (.invokevirtual 88, 3) := by decide +kernel
theorem dX5_remove_15 : decode cX5_remove 15 = .ok (.aload_n 0, 1) := by decide +kernel
theorem dX5_remove_16 : decode cX5_remove 16 = .ok (.iload_n 1, 1) := by decide +kernel
theorem dX5_remove_17 : decode cX5_remove 17 = .ok (.iload_n 2, 1) := by decide +kernel
theorem dX5_remove_18 : decode cX5_remove 18 = .ok (.invokevirtual 99, 3) := by decide +kernel
theorem dX5_remove_21 : decode cX5_remove 21 = .ok (.aload_n 0, 1) := by decide +kernel
theorem dX5_remove_22 : decode cX5_remove 22 = .ok (.iload_n 1, 1) := by decide +kernel
theorem dX5_remove_23 : decode cX5_remove 23 = .ok (.invokevirtual 62, 3) := by decide +kernel
theorem dX5_remove_26 : decode cX5_remove 26 = .ok (.ireturn, 1) := by decide +kernel
set_option maxRecDepth 20000 in
theorem ggX5_snap_X5_isBlock : GoodIn wsX5_snap wsX5_isBlock := goodIn_r _ [7, 8, 9, 6, 10, 11, 12, 13, 14, 15, 16, 17, 1, 59, 60, 61, 62, 63, 64, 65, 66, 67, 68, 69, 70, 71, 72, 73, 74] (by decide +kernel) (by decide +kernel)
set_option maxRecDepth 20000 in
theorem gX5_snap_X5_isBlock : GoodIn wsX5_snap (wsV RX5 95 RX5 yX5_isBlock wsX5_isBlock) := goodIn_app (goodIn_of _ (by decide +kernel)) ggX5_snap_X5_isBlock
set_option maxRecDepth 20000 in
theorem ggX5_snap_X5_of : GoodIn wsX5_snap wsX5_of := goodIn_r _ [21, 1, 22, 23, 24, 6, 25, 59, 60, 61, 62, 63, 64, 65, 66, 67, 68, 69, 70, 71, 72, 73, 74] (by decide +kernel) (by decide +kernel)
set_option maxRecDepth 20000 in
theorem gX5_snap_X5_of : GoodIn wsX5_snap (wsV RX5 66 RX5 yX5_of wsX5_of) := goodIn_app (goodIn_of _ (by decide +kernel)) ggX5_snap_X5_of
set_option maxRecDepth 20000 in
theorem ggX5_snap_X5_record : GoodIn wsX5_snap wsX5_record := goodIn_r _ [29, 30, 31, 1, 59, 60, 61, 62, 63, 64, 65, 66, 67, 68, 69, 70, 71, 72, 73, 74] (by decide +kernel) (by decide +kernel)
set_option maxRecDepth 20000 in
theorem gX5_snap_X5_record : GoodIn wsX5_snap (wsV RX5 88 RX5 yX5_record wsX5_record) := goodIn_app (goodIn_of _ (by decide +kernel)) ggX5_snap_X5_record
set_option maxRecDepth 20000 in
theorem ggX5_snap_X5_cell : GoodIn wsX5_snap wsX5_cell := goodIn_r _ [25] (by decide +kernel) (by decide +kernel)
set_option maxRecDepth 20000 in
theorem gX5_snap_X5_cell : GoodIn wsX5_snap (wsV RX5 54 RX5 yX5_cell wsX5_cell) := goodIn_app (goodIn_of _ (by decide +kernel)) ggX5_snap_X5_cell
set_option maxRecDepth 20000 in
theorem ggX5_snap_X5_sets : GoodIn wsX5_snap wsX5_sets := goodIn_r _ [35, 1, 36, 37, 38, 6, 39, 40, 41, 42, 43, 44, 45, 46, 47, 48, 2, 14, 15, 16, 17, 18, 19, 20, 21, 22, 23, 24, 25, 49, 50, 51, 52, 53, 54, 55, 56, 57, 58, 59, 60, 61, 62, 63, 64, 65, 66, 67, 68, 69, 70, 71, 72, 73, 74] (by decide +kernel) (by decide +kernel)
set_option maxRecDepth 20000 in
theorem gX5_snap_X5_sets : GoodIn wsX5_snap (wsV RX5 102 RX5 yX5_sets wsX5_sets) := goodIn_app (goodIn_of _ (by decide +kernel)) ggX5_snap_X5_sets
theorem dX5_snap_0 : decode cX5_snap 0 = .ok (.aload_n 0, 1) := by decide +kernel
theorem dX5_snap_1 : decode cX5_snap 1 = .ok (.iload_n 1, 1) := by decide +kernel
theorem dX5_snap_2 : decode cX5_snap 2 = .ok (.iload_n 2, 1) := by decide +kernel
theorem dX5_snap_3 : decode cX5_snap 3 = .ok (.invokevirtual 95, 3) := by decide +kernel
theorem dX5_snap_6 : decode cX5_snap 6 = .ok (.ifCond .ne 5, 3) := by decide +kernel
theorem dX5_snap_9 : decode cX5_snap 9 = .ok (.iconst (-1), 1) := by decide +kernel
theorem dX5_snap_10 : decode cX5_snap 10 = .ok (.ireturn, 1) := by decide +kernel
theorem dX5_snap_11 : decode cX5_snap 11 = .ok (.aload_n 0, 1) := by decide +kernel
theorem dX5_snap_12 : decode cX5_snap 12 = .ok (.iload_n 1, 1) := by decide +kernel
theorem dX5_snap_13 : decode cX5_snap 13 = .ok (.iload_n 2, 1) := by decide +kernel
theorem dX5_snap_14 : decode cX5_snap 14 = .ok (.iconst 0, 1) := by decide +kernel
theorem dX5_snap_15 : decode cX5_snap 15 = .ok (.invokevirtual 66, 3) := by decide +kernel
theorem dX5_snap_18 : decode cX5_snap 18 = .ok (.ifCond .eq 6, 3) := by decide +kernel
theorem dX5_snap_21 : decode cX5_snap 21 = .ok (.bipush (-4), 2) := by decide +kernel
theorem dX5_snap_23 : decode cX5_snap 23 = .ok (.ireturn, 1) := by decide +kernel
theorem dX5_snap_24 : decode cX5_snap 24 = .ok (.aload_n 0, 1) := by decide +kernel
theorem dX5_snap_25 : decode cX5_snap 25 = .ok (.iload_n 1, 1) := by decide +kernel
theorem dX5_snap_26 : decode cX5_snap 26 = .ok (.iload_n 2, 1) := by decide +kernel
theorem dX5_snap_27 : decode cX5_snap 27 = .ok (.iconst 4, 1) := by decide +kernel
theorem dX5_snap_28 : decode cX5_snap 28 = .ok (.invokevirtual 66, 3) := by decide +kernel
theorem dX5_snap_31 : decode cX5_snap 31 = .ok (.iconst 1, 1) := by decide +kernel
theorem dX5_snap_32 : decode cX5_snap 32 = .ok (.if_icmp .ne 7, 3) := by decide +kernel
theorem dX5_snap_35 : decode cX5_snap 35 = .ok (.iconst 1, 1) := by decide +kernel
theorem dX5_snap_36 : decode cX5_snap 36 = .ok (.goto 4, 3) := by decide +kernel
theorem dX5_snap_39 : decode cX5_snap 39 = .ok (.iconst 0, 1) := by decide +kernel
theorem dX5_snap_40 : decode cX5_snap 40 = .ok (.iload_n 3, 1) := by decide +kernel
theorem dX5_snap_41 : decode cX5_snap 41 = .ok (.if_icmp .ne 6, 3) := by decide +kernel
theorem dX5_snap_44 : decode cX5_snap 44 = .ok (.bipush (-5), 2) := by decide +kernel
theorem dX5_snap_46 : decode cX5_snap 46 = .ok (.ireturn, 1) := by decide +kernel
theorem dX5_snap_47 : decode cX5_snap 47 = .ok (.aload_n 0, 1) := by decide +kernel
theorem dX5_snap_48 : decode cX5_snap 48 = .ok (.invokevirtual 88, 3) := by decide +kernel
theorem dX5_snap_51 : decode cX5_snap 51 = .ok (.aload_n 0, 1) := by decide +kernel
theorem dX5_snap_52 : decode cX5_snap 52 = .ok (.getfield 7, 3) := by decide +kernel
theorem dX5_snap_55 : decode cX5_snap 55 = .ok (.aload_n 0, 1) := by decide +kernel
theorem dX5_snap_56 : decode cX5_snap 56 = .ok (.iload_n 1, 1) := by decide +kernel
theorem dX5_snap_57 : decode cX5_snap 57 = .ok (.iload_n 2, 1) := by decide +kernel
theorem dX5_snap_58 : decode cX5_snap 58 = .ok (.iconst 4, 1) := by decide +kernel
theorem dX5_snap_59 : decode cX5_snap 59 = .ok (.invokevirtual 54, 3) := by decide +kernel
theorem dX5_snap_62 : decode cX5_snap 62 = .ok (.iload_n 3, 1) := by decide +kernel
theorem dX5_snap_63 : decode cX5_snap 63 = .ok (.ifCond .eq 7, 3) := by decide +kernel
theorem dX5_snap_66 : decode cX5_snap 66 = .ok (.iconst 1, 1) := by decide +kernel
theorem dX5_snap_67 : decode cX5_snap 67 = .ok (.goto 4, 3) := by decide +kernel
theorem dX5_snap_70 : decode cX5_snap 70 = .ok (.iconst 0, 1) := by decide +kernel
theorem dX5_snap_71 : decode cX5_snap 71 = .ok (.iastore, 1) := by decide +kernel
theorem dX5_snap_72 : decode cX5_snap 72 = .ok (.aload_n 0, 1) := by decide +kernel
theorem dX5_snap_73 : decode cX5_snap 73 = .ok (.invokevirtual 102, 3) := by decide +kernel
theorem dX5_snap_76 : decode cX5_snap 76 = .ok (.aload_n 0, 1) := by decide +kernel
theorem dX5_snap_77 : decode cX5_snap 77 = .ok (.getfield 31, 3) := by decide +kernel
theorem dX5_snap_80 : decode cX5_snap 80 = .ok (.iload_n 1, 1) := by decide +kernel
theorem dX5_snap_81 : decode cX5_snap 81 = .ok (.iaload, 1) := by decide +kernel
theorem dX5_snap_82 : decode cX5_snap 82 = .ok (.ireturn, 1) := by decide +kernel
set_option maxRecDepth 20000 in
theorem ggX5_stays_X5_of : GoodIn wsX5_stays wsX5_of := goodIn_r _ [8, 3, 9, 10, 11, 7, 12, 13, 14, 15, 16, 17, 18, 19, 20, 21, 22, 23, 24, 25, 26, 27, 28] (by decide +kernel) (by decide +kernel)
set_option maxRecDepth 20000 in
theorem gX5_stays_X5_of : GoodIn wsX5_stays (wsV RX5 66 RX5 yX5_of wsX5_of) := goodIn_app (goodIn_of _ (by decide +kernel)) ggX5_stays_X5_of
theorem dX5_stays_0 : decode cX5_stays 0 = .ok (.aload_n 0, 1) := by decide +kernel
theorem dX5_stays_1 : decode cX5_stays 1 = .ok (.getfield 34, 3) := by decide +kernel
theorem dX5_stays_4 : decode cX5_stays 4 = .ok (.iload_n 1, 1) := by decide +kernel
theorem dX5_stays_5 : decode cX5_stays 5 = .ok (.iaload, 1) := by decide +kernel
theorem dX5_stays_6 : decode cX5_stays 6 = .ok (.istore_n 2, 1) := by decide +kernel
theorem dX5_stays_7 : decode cX5_stays 7 = .ok (.aload_n 0, 1) := by decide +kernel
theorem dX5_stays_8 : decode cX5_stays 8 = .ok (.iload_n 1, 1) := by decide +kernel
theorem dX5_stays_9 : decode cX5_stays 9 = .ok (.iload_n 2, 1) := by decide +kernel
theorem dX5_stays_10 : decode cX5_stays 10 = .ok (.iconst 0, 1) := by decide +kernel
theorem dX5_stays_11 : decode cX5_stays 11 = .ok (.invokevirtual 66, 3) := by decide +kernel
theorem dX5_stays_14 : decode cX5_stays 14 = .ok (.ifCond .eq 5, 3) := by decide +kernel
theorem dX5_stays_17 : decode cX5_stays 17 = .ok (.iconst 0, 1) := by decide +kernel
theorem dX5_stays_18 : decode cX5_stays 18 = .ok (.ireturn, 1) := by decide +kernel
theorem dX5_stays_19 : decode cX5_stays 19 = .ok (.aload_n 0, 1) := by decide +kernel
theorem dX5_stays_20 : decode cX5_stays 20 = .ok (.getfield 43, 3) := by decide +kernel
theorem dX5_stays_23 : decode cX5_stays 23 = .ok (.bipush 16, 2) := by decide +kernel
theorem dX5_stays_25 : decode cX5_stays 25 = .ok (.iload_n 1, 1) := by decide +kernel
theorem dX5_stays_26 : decode cX5_stays 26 = .ok (.imul, 1) := by decide +kernel
theorem dX5_stays_27 : decode cX5_stays 27 = .ok (.iload_n 2, 1) := by decide +kernel
theorem dX5_stays_28 : decode cX5_stays 28 = .ok (.iadd, 1) := by decide +kernel
theorem dX5_stays_29 : decode cX5_stays 29 = .ok (.iaload, 1) := by decide +kernel
theorem dX5_stays_30 : decode cX5_stays 30 = .ok (.istore_n 3, 1) := by decide +kernel
theorem dX5_stays_31 : decode cX5_stays 31 = .ok (.aload_n 0, 1) := by decide +kernel
theorem dX5_stays_32 : decode cX5_stays 32 = .ok (.iload_n 1, 1) := by decide +kernel
theorem dX5_stays_33 : decode cX5_stays 33 = .ok (.iload_n 2, 1) := by decide +kernel
theorem dX5_stays_34 : decode cX5_stays 34 = .ok (.iconst 1, 1) := by decide +kernel
theorem dX5_stays_35 : decode cX5_stays 35 = .ok (.invokevirtual 66, 3) := by decide +kernel
theorem dX5_stays_38 : decode cX5_stays 38 = .ok (.aload_n 0, 1) := by decide +kernel
theorem dX5_stays_39 : decode cX5_stays 39 = .ok (.getfield 7, 3) := by decide +kernel
theorem dX5_stays_42 : decode cX5_stays 42 = .ok (.iconst 4, 1) := by decide +kernel
theorem dX5_stays_43 : decode cX5_stays 43 = .ok (.iaload, 1) := by decide +kernel
theorem dX5_stays_44 : decode cX5_stays 44 = .ok (.isub, 1) := by decide +kernel
theorem dX5_stays_45 : decode cX5_stays 45 = .ok (.istore 4, 2) := by decide +kernel
theorem dX5_stays_47 : decode cX5_stays 47 = .ok (.iload_n 3, 1) := by decide +kernel
theorem dX5_stays_48 : decode cX5_stays 48 = .ok (.iload 4, 2) := by decide +kernel
theorem dX5_stays_50 : decode cX5_stays 50 = .ok (.if_icmp .le 8, 3) := by decide +kernel
theorem dX5_stays_53 : decode cX5_stays 53 = .ok (.iload 4, 2) := by decide +kernel
theorem dX5_stays_55 : decode cX5_stays 55 = .ok (.goto 4, 3) := by decide +kernel
theorem dX5_stays_58 : decode cX5_stays 58 = .ok (.iload_n 3, 1) := by decide +kernel
theorem dX5_stays_59 : decode cX5_stays 59 = .ok (.istore_n 3, 1) := by decide +kernel
theorem dX5_stays_60 : decode cX5_stays 60 = .ok (.iload_n 3, 1) := by decide +kernel
theorem dX5_stays_61 : decode cX5_stays 61 = .ok (.aload_n 0, 1) := by decide +kernel
theorem dX5_stays_62 : decode cX5_stays 62 = .ok (.getfield 7, 3) := by decide +kernel
theorem dX5_stays_65 : decode cX5_stays 65 = .ok (.iconst 4, 1) := by decide +kernel
theorem dX5_stays_66 : decode cX5_stays 66 = .ok (.iaload, 1) := by decide +kernel
theorem dX5_stays_67 : decode cX5_stays 67 = .ok (.if_icmp .ge 7, 3) := by decide +kernel
theorem dX5_stays_70 : decode cX5_stays 70 = .ok (.iconst 0, 1) := by decide +kernel
theorem dX5_stays_71 : decode cX5_stays 71 = .ok (.goto 4, 3) := by decide +kernel
theorem dX5_stays_74 : decode cX5_stays 74 = .ok (.iload_n 3, 1) := by decide +kernel
theorem dX5_stays_75 : decode cX5_stays 75 = .ok (.ireturn, 1) := by decide +kernel
set_option maxRecDepth 20000 in
theorem ggX5_flow_X5_isColumn : GoodIn wsX5_flow wsX5_isColumn := goodIn_r _ [6, 7, 8, 5, 9] (by decide +kernel) (by decide +kernel)
set_option maxRecDepth 20000 in
theorem gX5_flow_X5_isColumn : GoodIn wsX5_flow (va_wsS RX5 58 yX5_isColumn wsX5_isColumn) := goodIn_app (goodIn_of _ (by decide +kernel)) ggX5_flow_X5_isColumn
set_option maxRecDepth 20000 in
theorem ggX5_flow_X5_sets : GoodIn wsX5_flow wsX5_sets := goodIn_r _ [13, 2, 14, 15, 16, 5, 17, 18, 19, 20, 21, 22, 1, 23, 24, 25, 26, 27, 28, 29, 30, 31, 32, 33, 34, 35, 36, 37, 38, 39, 40, 41, 42, 43, 44, 45, 46, 47, 48, 59, 60, 61, 62, 63, 64, 65, 66, 67, 68, 69, 70, 71, 72, 73, 74] (by decide +kernel) (by decide +kernel)
set_option maxRecDepth 20000 in
theorem gX5_flow_X5_sets : GoodIn wsX5_flow (wsV RX5 102 RX5 yX5_sets wsX5_sets) := goodIn_app (goodIn_of _ (by decide +kernel)) ggX5_flow_X5_sets
set_option maxRecDepth 20000 in
theorem ggX5_flow_X5_blocks : GoodIn wsX5_flow wsX5_blocks := goodIn_r _ [30, 2, 59, 60, 61, 62, 63, 64, 65, 66, 67, 68, 69, 70, 71, 72, 73, 74] (by decide +kernel) (by decide +kernel)
set_option maxRecDepth 20000 in
theorem gX5_flow_X5_blocks : GoodIn wsX5_flow (wsV RX5 62 RX5 yX5_blocks wsX5_blocks) := goodIn_app (goodIn_of _ (by decide +kernel)) ggX5_flow_X5_blocks
set_option maxRecDepth 20000 in
theorem ggX5_flow_X5_record : GoodIn wsX5_flow wsX5_record := goodIn_r _ [52, 53, 54, 2, 59, 60, 61, 62, 63, 64, 65, 66, 67, 68, 69, 70, 71, 72, 73, 74] (by decide +kernel) (by decide +kernel)
set_option maxRecDepth 20000 in
theorem gX5_flow_X5_record : GoodIn wsX5_flow (wsV RX5 88 RX5 yX5_record wsX5_record) := goodIn_app (goodIn_of _ (by decide +kernel)) ggX5_flow_X5_record
set_option maxRecDepth 20000 in
theorem ggX5_flow_X5_stays : GoodIn wsX5_flow wsX5_stays := goodIn_r _ [58, 1, 23, 2, 31, 32, 33, 5, 34, 35, 36, 37, 38, 59, 60, 61, 62, 63, 64, 65, 66, 67, 68, 69, 70, 71, 72, 73, 74] (by decide +kernel) (by decide +kernel)
set_option maxRecDepth 20000 in
theorem gX5_flow_X5_stays : GoodIn wsX5_flow (wsV RX5 105 RX5 yX5_stays wsX5_stays) := goodIn_app (goodIn_of _ (by decide +kernel)) ggX5_flow_X5_stays
set_option maxRecDepth 20000 in
theorem ggX5_flow_X5_of : GoodIn wsX5_flow wsX5_of := goodIn_r _ [34, 2, 35, 36, 37, 5, 38, 59, 60, 61, 62, 63, 64, 65, 66, 67, 68, 69, 70, 71, 72, 73, 74] (by decide +kernel) (by decide +kernel)
set_option maxRecDepth 20000 in
theorem gX5_flow_X5_of : GoodIn wsX5_flow (wsV RX5 66 RX5 yX5_of wsX5_of) := goodIn_app (goodIn_of _ (by decide +kernel)) ggX5_flow_X5_of
set_option maxRecDepth 20000 in
theorem ggX5_flow_X5_cell : GoodIn wsX5_flow wsX5_cell := goodIn_r _ [38] (by decide +kernel) (by decide +kernel)
set_option maxRecDepth 20000 in
theorem gX5_flow_X5_cell : GoodIn wsX5_flow (wsV RX5 54 RX5 yX5_cell wsX5_cell) := goodIn_app (goodIn_of _ (by decide +kernel)) ggX5_flow_X5_cell
theorem dX5_flow_0 : decode cX5_flow 0 = .ok (.iload_n 1, 1) := by decide +kernel
theorem dX5_flow_1 : decode cX5_flow 1 = .ok (.invokestatic 58, 3) := by decide +kernel
theorem dX5_flow_4 : decode cX5_flow 4 = .ok (.ifCond .ne 5, 3) := by decide +kernel
theorem dX5_flow_7 : decode cX5_flow 7 = .ok (.iconst (-1), 1) := by decide +kernel
theorem dX5_flow_8 : decode cX5_flow 8 = .ok (.ireturn, 1) := by decide +kernel
theorem dX5_flow_9 : decode cX5_flow 9 = .ok (.iload_n 1, 1) := by decide +kernel
theorem dX5_flow_10 : decode cX5_flow 10 = .ok (.iconst 3, 1) := by decide +kernel
theorem dX5_flow_11 : decode cX5_flow 11 = .ok (.if_icmp .ne 6, 3) := by decide +kernel
theorem dX5_flow_14 : decode cX5_flow 14 = .ok (.bipush (-4), 2) := by decide +kernel
theorem dX5_flow_16 : decode cX5_flow 16 = .ok (.ireturn, 1) := by decide +kernel
theorem dX5_flow_17 : decode cX5_flow 17 = .ok (.aload_n 0, 1) := by decide +kernel
theorem dX5_flow_18 : decode cX5_flow 18 = .ok (.invokevirtual 102, 3) := by decide +kernel
theorem dX5_flow_21 : decode cX5_flow 21 = .ok (.aload_n 0, 1) := by decide +kernel
theorem dX5_flow_22 : decode cX5_flow 22 = .ok (.getfield 34, 3) := by decide +kernel
theorem dX5_flow_25 : decode cX5_flow 25 = .ok (.iload_n 1, 1) := by decide +kernel
theorem dX5_flow_26 : decode cX5_flow 26 = .ok (.iaload, 1) := by decide +kernel
theorem dX5_flow_27 : decode cX5_flow 27 = .ok (.istore_n 2, 1) := by decide +kernel
theorem dX5_flow_28 : decode cX5_flow 28 = .ok (.iload_n 2, 1) := by decide +kernel
theorem dX5_flow_29 : decode cX5_flow 29 = .ok (.bipush 16, 2) := by decide +kernel
theorem dX5_flow_31 : decode cX5_flow 31 = .ok (.if_icmp .ne 6, 3) := by decide +kernel
theorem dX5_flow_34 : decode cX5_flow 34 = .ok (.bipush (-5), 2) := by decide +kernel
theorem dX5_flow_36 : decode cX5_flow 36 = .ok (.ireturn, 1) := by decide +kernel
theorem dX5_flow_37 : decode cX5_flow 37 = .ok (.aload_n 0, 1) := by decide +kernel
theorem dX5_flow_38 : decode cX5_flow 38 = .ok (.iload_n 1, 1) := by decide +kernel
theorem dX5_flow_39 : decode cX5_flow 39 = .ok (.invokevirtual 62, 3) := by decide +kernel
theorem dX5_flow_42 : decode cX5_flow 42 = .ok (.iload_n 2, 1) := by decide +kernel
theorem dX5_flow_43 : decode cX5_flow 43 = .ok (.isub, 1) := by decide +kernel
theorem dX5_flow_44 : decode cX5_flow 44 = .ok (.istore_n 3, 1) := by decide +kernel
theorem dX5_flow_45 : decode cX5_flow 45 = .ok (.aload_n 0, 1) := by decide +kernel
theorem dX5_flow_46 : decode cX5_flow 46 = .ok (.iload_n 1, 1) := by decide +kernel
theorem dX5_flow_47 : decode cX5_flow 47 = .ok (.iconst 1, 1) := by decide +kernel
theorem dX5_flow_48 : decode cX5_flow 48 = .ok (.iadd, 1) := by decide +kernel
theorem dX5_flow_49 : decode cX5_flow 49 = .ok (.invokevirtual 62, 3) := by decide +kernel
theorem dX5_flow_52 : decode cX5_flow 52 = .ok (.istore 4, 2) := by decide +kernel
theorem dX5_flow_54 : decode cX5_flow 54 = .ok (.iload 4, 2) := by decide +kernel
theorem dX5_flow_56 : decode cX5_flow 56 = .ok (.iload_n 3, 1) := by decide +kernel
theorem dX5_flow_57 : decode cX5_flow 57 = .ok (.iadd, 1) := by decide +kernel
theorem dX5_flow_58 : decode cX5_flow 58 = .ok (.bipush 16, 2) := by decide +kernel
theorem dX5_flow_60 : decode cX5_flow 60 = .ok (.if_icmp .le 6, 3) := by decide +kernel
theorem dX5_flow_63 : decode cX5_flow 63 = .ok (.bipush (-3), 2) := by decide +kernel
theorem dX5_flow_65 : decode cX5_flow 65 = .ok (.ireturn, 1) := by decide +kernel
theorem dX5_flow_66 : decode cX5_flow 66 = .ok (.aload_n 0, 1) := by decide +kernel
theorem dX5_flow_67 : decode cX5_flow 67 = .ok (.invokevirtual 88, 3) := by decide +kernel
theorem dX5_flow_70 : decode cX5_flow 70 = .ok (.aload_n 0, 1) := by decide +kernel
theorem dX5_flow_71 : decode cX5_flow 71 = .ok (.iload_n 1, 1) := by decide +kernel
theorem dX5_flow_72 : decode cX5_flow 72 = .ok (.invokevirtual 105, 3) := by decide +kernel
theorem dX5_flow_75 : decode cX5_flow 75 = .ok (.istore 5, 2) := by decide +kernel
theorem dX5_flow_77 : decode cX5_flow 77 = .ok (.aload_n 0, 1) := by decide +kernel
theorem dX5_flow_78 : decode cX5_flow 78 = .ok (.iload_n 1, 1) := by decide +kernel
theorem dX5_flow_79 : decode cX5_flow 79 = .ok (.iload_n 2, 1) := by decide +kernel
theorem dX5_flow_80 : decode cX5_flow 80 = .ok (.iconst 1, 1) := by decide +kernel
theorem dX5_flow_81 : decode cX5_flow 81 = .ok (.invokevirtual 66, 3) := by decide +kernel
theorem dX5_flow_84 : decode cX5_flow 84 = .ok (.iload 5, 2) := by decide +kernel
theorem dX5_flow_86 : decode cX5_flow 86 = .ok (.isub, 1) := by decide +kernel
theorem dX5_flow_87 : decode cX5_flow 87 = .ok (.istore 6, 2) := by decide +kernel
theorem dX5_flow_89 : decode cX5_flow 89 = .ok (.aload_n 0, 1) := by decide +kernel
theorem dX5_flow_90 : decode cX5_flow 90 = .ok (.getfield 7, 3) := by decide +kernel
theorem dX5_flow_93 : decode cX5_flow 93 = .ok (.iconst 5, 1) := by decide +kernel
theorem dX5_flow_94 : decode cX5_flow 94 = .ok (.bipush 97, 2) := by decide +kernel
theorem dX5_flow_96 : decode cX5_flow 96 = .ok (.iload_n 1, 1) := by decide +kernel
theorem dX5_flow_97 : decode cX5_flow 97 = .ok (.iconst 1, 1) := by decide +kernel
theorem dX5_flow_98 : decode cX5_flow 98 = .ok (.iadd, 1) := by decide +kernel
theorem dX5_flow_99 : decode cX5_flow 99 = .ok (.imul, 1) := by decide +kernel
theorem dX5_flow_100 : decode cX5_flow 100 = .ok (.iadd, 1) := by decide +kernel
theorem dX5_flow_101 : decode cX5_flow 101 = .ok (.iload 4, 2) := by decide +kernel
theorem dX5_flow_103 : decode cX5_flow 103 = .ok (.iload_n 3, 1) := by decide +kernel
theorem dX5_flow_104 : decode cX5_flow 104 = .ok (.iadd, 1) := by decide +kernel
theorem dX5_flow_105 : decode cX5_flow 105 = .ok (.iastore, 1) := by decide +kernel
theorem dX5_flow_106 : decode cX5_flow 106 = .ok (.bipush 6, 2) := by decide +kernel
theorem dX5_flow_108 : decode cX5_flow 108 = .ok (.iload 4, 2) := by decide +kernel
theorem dX5_flow_110 : decode cX5_flow 110 = .ok (.imul, 1) := by decide +kernel
theorem dX5_flow_111 : decode cX5_flow 111 = .ok (.iconst 1, 1) := by decide +kernel
theorem dX5_flow_112 : decode cX5_flow 112 = .ok (.isub, 1) := by decide +kernel
theorem dX5_flow_113 : decode cX5_flow 113 = .ok (.istore 7, 2) := by decide +kernel
theorem dX5_flow_115 : decode cX5_flow 115 = .ok (.iload 7, 2) := by decide +kernel
theorem dX5_flow_117 : decode cX5_flow 117 = .ok (.ifCond .lt 43, 3) := by decide +kernel
theorem dX5_flow_120 : decode cX5_flow 120 = .ok (.aload_n 0, 1) := by decide +kernel
theorem dX5_flow_121 : decode cX5_flow 121 = .ok (.getfield 7, 3) := by decide +kernel
theorem dX5_flow_124 : decode cX5_flow 124 = .ok (.aload_n 0, 1) := by decide +kernel
theorem dX5_flow_125 : decode cX5_flow 125 = .ok (.iload_n 1, 1) := by decide +kernel
theorem dX5_flow_126 : decode cX5_flow 126 = .ok (.iconst 1, 1) := by decide +kernel
theorem dX5_flow_127 : decode cX5_flow 127 = .ok (.iadd, 1) := by decide +kernel
theorem dX5_flow_128 : decode cX5_flow 128 = .ok (.iload_n 3, 1) := by decide +kernel
theorem dX5_flow_129 : decode cX5_flow 129 = .ok (.iconst 0, 1) := by decide +kernel
theorem dX5_flow_130 : decode cX5_flow 130 = .ok (.invokevirtual 54, 3) := by decide +kernel
theorem dX5_flow_133 : decode cX5_flow 133 = .ok (.iload 7, 2) := by decide +kernel
theorem dX5_flow_135 : decode cX5_flow 135 = .ok (.iadd, 1) := by decide +kernel
theorem dX5_flow_136 : decode cX5_flow 136 = .ok (.aload_n 0, 1) := by decide +kernel
theorem dX5_flow_137 : decode cX5_flow 137 = .ok (.getfield 7, 3) := by decide +kernel
theorem dX5_flow_140 : decode cX5_flow 140 = .ok (.aload_n 0, 1) := by decide +kernel
theorem dX5_flow_141 : decode cX5_flow 141 = .ok (.iload_n 1, 1) := by decide +kernel
theorem dX5_flow_142 : decode cX5_flow 142 = .ok (.iconst 1, 1) := by decide +kernel
theorem dX5_flow_143 : decode cX5_flow 143 = .ok (.iadd, 1) := by decide +kernel
theorem dX5_flow_144 : decode cX5_flow 144 = .ok (.iconst 0, 1) := by decide +kernel
theorem dX5_flow_145 : decode cX5_flow 145 = .ok (.iconst 0, 1) := by decide +kernel
theorem dX5_flow_146 : decode cX5_flow 146 = .ok (.invokevirtual 54, 3) := by decide +kernel
theorem dX5_flow_149 : decode cX5_flow 149 = .ok (.iload 7, 2) := by decide +kernel
theorem dX5_flow_151 : decode cX5_flow 151 = .ok (.iadd, 1) := by decide +kernel
theorem dX5_flow_152 : decode cX5_flow 152 = .ok (.iaload, 1) := by decide +kernel
theorem dX5_flow_153 : decode cX5_flow 153 = .ok (.iastore, 1) := by decide +kernel
theorem dX5_flow_154 : decode cX5_flow 154 = .ok (.iinc 7 (-1), 3) := by decide +kernel
theorem dX5_flow_157 : decode cX5_flow 157 = .ok (.goto (-42), 3) := by decide +kernel
theorem dX5_flow_160 : decode cX5_flow 160 = .ok (.iconst 0, 1) := by decide +kernel
theorem dX5_flow_161 : decode cX5_flow 161 = .ok (.istore 7, 2) := by decide +kernel
theorem dX5_flow_163 : decode cX5_flow 163 = .ok (.iload 7, 2) := by decide +kernel
theorem dX5_flow_165 : decode cX5_flow 165 = .ok (.bipush 6, 2) := by decide +kernel
theorem dX5_flow_167 : decode cX5_flow 167 = .ok (.iload_n 3, 1) := by decide +kernel
theorem dX5_flow_168 : decode cX5_flow 168 = .ok (.imul, 1) := by decide +kernel
theorem dX5_flow_169 : decode cX5_flow 169 = .ok (.if_icmp .ge 41, 3) := by decide +kernel
theorem dX5_flow_172 : decode cX5_flow 172 = .ok (.aload_n 0, 1) := by decide +kernel
theorem dX5_flow_173 : decode cX5_flow 173 = .ok (.getfield 7, 3) := by decide +kernel
theorem dX5_flow_176 : decode cX5_flow 176 = .ok (.aload_n 0, 1) := by decide +kernel
theorem dX5_flow_177 : decode cX5_flow 177 = .ok (.iload_n 1, 1) := by decide +kernel
theorem dX5_flow_178 : decode cX5_flow 178 = .ok (.iconst 1, 1) := by decide +kernel
theorem dX5_flow_179 : decode cX5_flow 179 = .ok (.iadd, 1) := by decide +kernel
theorem dX5_flow_180 : decode cX5_flow 180 = .ok (.iconst 0, 1) := by decide +kernel
theorem dX5_flow_181 : decode cX5_flow 181 = .ok (.iconst 0, 1) := by decide +kernel
theorem dX5_flow_182 : decode cX5_flow 182 = .ok (.invokevirtual 54, 3) := by decide +kernel
theorem dX5_flow_185 : decode cX5_flow 185 = .ok (.iload 7, 2) := by decide +kernel
theorem dX5_flow_187 : decode cX5_flow 187 = .ok (.iadd, 1) := by decide +kernel
theorem dX5_flow_188 : decode cX5_flow 188 = .ok (.aload_n 0, 1) := by decide +kernel
theorem dX5_flow_189 : decode cX5_flow 189 = .ok (.getfield 7, 3) := by decide +kernel
theorem dX5_flow_192 : decode cX5_flow 192 = .ok (.aload_n 0, 1) := by decide +kernel
theorem dX5_flow_193 : decode cX5_flow 193 = .ok (.iload_n 1, 1) := by decide +kernel
theorem dX5_flow_194 : decode cX5_flow 194 = .ok (.iload_n 2, 1) := by decide +kernel
theorem dX5_flow_195 : decode cX5_flow 195 = .ok (.iconst 0, 1) := by decide +kernel
theorem dX5_flow_196 : decode cX5_flow 196 = .ok (.invokevirtual 54, 3) := by decide +kernel
theorem dX5_flow_199 : decode cX5_flow 199 = .ok (.iload 7, 2) := by decide +kernel
theorem dX5_flow_201 : decode cX5_flow 201 = .ok (.iadd, 1) := by decide +kernel
theorem dX5_flow_202 : decode cX5_flow 202 = .ok (.iaload, 1) := by decide +kernel
theorem dX5_flow_203 : decode cX5_flow 203 = .ok (.iastore, 1) := by decide +kernel
theorem dX5_flow_204 : decode cX5_flow 204 = .ok (.iinc 7 1, 3) := by decide +kernel
theorem dX5_flow_207 : decode cX5_flow 207 = .ok (.goto (-44), 3) := by decide +kernel
theorem dX5_flow_210 : decode cX5_flow 210 = .ok (.aload_n 0, 1) := by decide +kernel
theorem dX5_flow_211 : decode cX5_flow 211 = .ok (.getfield 7, 3) := by decide +kernel
theorem dX5_flow_214 : decode cX5_flow 214 = .ok (.iconst 5, 1) := by decide +kernel
theorem dX5_flow_215 : decode cX5_flow 215 = .ok (.bipush 97, 2) := by decide +kernel
theorem dX5_flow_217 : decode cX5_flow 217 = .ok (.iload_n 1, 1) := by decide +kernel
theorem dX5_flow_218 : decode cX5_flow 218 = .ok (.imul, 1) := by decide +kernel
theorem dX5_flow_219 : decode cX5_flow 219 = .ok (.iadd, 1) := by decide +kernel
theorem dX5_flow_220 : decode cX5_flow 220 = .ok (.iload 5, 2) := by decide +kernel
theorem dX5_flow_222 : decode cX5_flow 222 = .ok (.ifCond .le 9, 3) := by decide +kernel
theorem dX5_flow_225 : decode cX5_flow 225 = .ok (.iload_n 2, 1) := by decide +kernel
theorem dX5_flow_226 : decode cX5_flow 226 = .ok (.iconst 1, 1) := by decide +kernel
theorem dX5_flow_227 : decode cX5_flow 227 = .ok (.iadd, 1) := by decide +kernel
theorem dX5_flow_228 : decode cX5_flow 228 = .ok (.goto 4, 3) := by decide +kernel
theorem dX5_flow_231 : decode cX5_flow 231 = .ok (.iload_n 2, 1) := by decide +kernel
theorem dX5_flow_232 : decode cX5_flow 232 = .ok (.iastore, 1) := by decide +kernel
theorem dX5_flow_233 : decode cX5_flow 233 = .ok (.iload 5, 2) := by decide +kernel
theorem dX5_flow_235 : decode cX5_flow 235 = .ok (.ifCond .le 33, 3) := by decide +kernel
theorem dX5_flow_238 : decode cX5_flow 238 = .ok (.aload_n 0, 1) := by decide +kernel
theorem dX5_flow_239 : decode cX5_flow 239 = .ok (.getfield 7, 3) := by decide +kernel
theorem dX5_flow_242 : decode cX5_flow 242 = .ok (.aload_n 0, 1) := by decide +kernel
theorem dX5_flow_243 : decode cX5_flow 243 = .ok (.iload_n 1, 1) := by decide +kernel
theorem dX5_flow_244 : decode cX5_flow 244 = .ok (.iload_n 2, 1) := by decide +kernel
theorem dX5_flow_245 : decode cX5_flow 245 = .ok (.iconst 1, 1) := by decide +kernel
theorem dX5_flow_246 : decode cX5_flow 246 = .ok (.invokevirtual 54, 3) := by decide +kernel
theorem dX5_flow_249 : decode cX5_flow 249 = .ok (.iload 5, 2) := by decide +kernel
theorem dX5_flow_251 : decode cX5_flow 251 = .ok (.iastore, 1) := by decide +kernel
theorem dX5_flow_252 : decode cX5_flow 252 = .ok (.aload_n 0, 1) := by decide +kernel
theorem dX5_flow_253 : decode cX5_flow 253 = .ok (.getfield 7, 3) := by decide +kernel
theorem dX5_flow_256 : decode cX5_flow 256 = .ok (.aload_n 0, 1) := by decide +kernel
theorem dX5_flow_257 : decode cX5_flow 257 = .ok (.iload_n 1, 1) := by decide +kernel
theorem dX5_flow_258 : decode cX5_flow 258 = .ok (.iconst 1, 1) := by decide +kernel
theorem dX5_flow_259 : decode cX5_flow 259 = .ok (.iadd, 1) := by decide +kernel
theorem dX5_flow_260 : decode cX5_flow 260 = .ok (.iconst 0, 1) := by decide +kernel
theorem dX5_flow_261 : decode cX5_flow 261 = .ok (.iconst 1, 1) := by decide +kernel
theorem dX5_flow_262 : decode cX5_flow 262 = .ok (.invokevirtual 54, 3) := by decide +kernel
theorem dX5_flow_265 : decode cX5_flow 265 = .ok (.iload 6, 2) := by decide +kernel
theorem dX5_flow_267 : decode cX5_flow 267 = .ok (.iastore, 1) := by decide +kernel
theorem dX5_flow_268 : decode cX5_flow 268 = .ok (.iload_n 3, 1) := by decide +kernel
theorem dX5_flow_269 : decode cX5_flow 269 = .ok (.ireturn, 1) := by decide +kernel
set_option maxRecDepth 20000 in
theorem ggX5_isFirm_X5_of : GoodIn wsX5_isFirm wsX5_of := goodIn_r _ [6, 7, 8, 9, 10, 5, 11, 12, 13, 14, 15, 16, 17, 18, 19, 20, 21, 22, 23, 24, 25, 26, 27] (by decide +kernel) (by decide +kernel)
set_option maxRecDepth 20000 in
theorem gX5_isFirm_X5_of : GoodIn wsX5_isFirm (wsV RX5 66 RX5 yX5_of wsX5_of) := goodIn_app (goodIn_of _ (by decide +kernel)) ggX5_isFirm_X5_of
theorem dX5_isFirm_0 : decode cX5_isFirm 0 = .ok (.aload_n 0, 1) := by decide +kernel
theorem dX5_isFirm_1 : decode cX5_isFirm 1 = .ok (.iload_n 1, 1) := by decide +kernel
theorem dX5_isFirm_2 : decode cX5_isFirm 2 = .ok (.iload_n 2, 1) := by decide +kernel
theorem dX5_isFirm_3 : decode cX5_isFirm 3 = .ok (.iconst 0, 1) := by decide +kernel
theorem dX5_isFirm_4 : decode cX5_isFirm 4 = .ok (.invokevirtual 66, 3) := by decide +kernel
theorem dX5_isFirm_7 : decode cX5_isFirm 7 = .ok (.iconst 2, 1) := by decide +kernel
theorem dX5_isFirm_8 : decode cX5_isFirm 8 = .ok (.if_icmp .eq 21, 3) := by decide +kernel
theorem dX5_isFirm_11 : decode cX5_isFirm 11 = .ok (.aload_n 0, 1) := by decide +kernel
theorem dX5_isFirm_12 : decode cX5_isFirm 12 = .ok (.getfield 43, 3) := by decide +kernel
theorem dX5_isFirm_15 : decode cX5_isFirm 15 = .ok (.bipush 16, 2) := by decide +kernel
theorem dX5_isFirm_17 : decode cX5_isFirm 17 = .ok (.iload_n 1, 1) := by decide +kernel
theorem dX5_isFirm_18 : decode cX5_isFirm 18 = .ok (.imul, 1) := by decide +kernel
theorem dX5_isFirm_19 : decode cX5_isFirm 19 = .ok (.iload_n 2, 1) := by decide +kernel
theorem dX5_isFirm_20 : decode cX5_isFirm 20 = .ok (.iadd, 1) := by decide +kernel
theorem dX5_isFirm_21 : decode cX5_isFirm 21 = .ok (.iaload, 1) := by decide +kernel
theorem dX5_isFirm_22 : decode cX5_isFirm 22 = .ok (.ifCond .le 7, 3) := by decide +kernel
theorem dX5_isFirm_25 : decode cX5_isFirm 25 = .ok (.iconst 1, 1) := by decide +kernel
theorem dX5_isFirm_26 : decode cX5_isFirm 26 = .ok (.goto 4, 3) := by decide +kernel
theorem dX5_isFirm_29 : decode cX5_isFirm 29 = .ok (.iconst 0, 1) := by decide +kernel
theorem dX5_isFirm_30 : decode cX5_isFirm 30 = .ok (.ireturn, 1) := by decide +kernel
set_option maxRecDepth 20000 in
theorem ggX5_isBetween_X5_blocks : GoodIn wsX5_isBetween wsX5_blocks := goodIn_r _ [5, 6, 20, 21, 22, 23, 24, 25, 26, 27, 28, 29, 30, 31, 32, 33, 34, 35] (by decide +kernel) (by decide +kernel)
set_option maxRecDepth 20000 in
theorem gX5_isBetween_X5_blocks : GoodIn wsX5_isBetween (wsV RX5 62 RX5 yX5_blocks wsX5_blocks) := goodIn_app (goodIn_of _ (by decide +kernel)) ggX5_isBetween_X5_blocks
set_option maxRecDepth 20000 in
theorem ggX5_isBetween_X5_isFirm : GoodIn wsX5_isBetween wsX5_isFirm := goodIn_r _ [10, 11, 12, 13, 14, 4, 15, 6, 16, 17, 18, 19, 20, 21, 22, 23, 24, 25, 26, 27, 28, 29, 30, 31, 32, 33, 34, 35] (by decide +kernel) (by decide +kernel)
set_option maxRecDepth 20000 in
theorem gX5_isBetween_X5_isFirm : GoodIn wsX5_isBetween (wsV RX5 108 RX5 yX5_isFirm wsX5_isFirm) := goodIn_app (goodIn_of _ (by decide +kernel)) ggX5_isBetween_X5_isFirm
set_option maxRecDepth 20000 in
theorem ggX5_isBetween_X5_of : GoodIn wsX5_isBetween wsX5_of := goodIn_r _ [15, 6, 16, 17, 18, 4, 19, 20, 21, 22, 23, 24, 25, 26, 27, 28, 29, 30, 31, 32, 33, 34, 35] (by decide +kernel) (by decide +kernel)
set_option maxRecDepth 20000 in
theorem gX5_isBetween_X5_of : GoodIn wsX5_isBetween (wsV RX5 66 RX5 yX5_of wsX5_of) := goodIn_app (goodIn_of _ (by decide +kernel)) ggX5_isBetween_X5_of
theorem dX5_isBetween_0 : decode cX5_isBetween 0 = .ok (.iconst 0, 1) := by decide +kernel
theorem dX5_isBetween_1 : decode cX5_isBetween 1 = .ok (.istore_n 3, 1) := by decide +kernel
theorem dX5_isBetween_2 : decode cX5_isBetween 2 = .ok (.iconst 0, 1) := by decide +kernel
theorem dX5_isBetween_3 : decode cX5_isBetween 3 = .ok (.istore 4, 2) := by decide +kernel
theorem dX5_isBetween_5 : decode cX5_isBetween 5 = .ok (.iconst 0, 1) := by decide +kernel
theorem dX5_isBetween_6 : decode cX5_isBetween 6 = .ok (.istore 5, 2) := by decide +kernel
theorem dX5_isBetween_8 : decode cX5_isBetween 8 = .ok (.iload 5, 2) := by decide +kernel
theorem dX5_isBetween_10 : decode cX5_isBetween 10 = .ok (.aload_n 0, 1) := by decide +kernel
theorem dX5_isBetween_11 : decode cX5_isBetween 11 = .ok (.iload_n 1, 1) := by decide +kernel
theorem dX5_isBetween_12 : decode cX5_isBetween 12 = .ok (.invokevirtual 62, 3) := by decide +kernel
theorem dX5_isBetween_15 : decode cX5_isBetween 15 = .ok (.if_icmp .ge 59, 3) := by decide +kernel
theorem dX5_isBetween_18 : decode cX5_isBetween 18 = .ok (.iload_n 3, 1) := by decide +kernel
theorem dX5_isBetween_19 : decode cX5_isBetween 19 = .ok (.iload 5, 2) := by decide +kernel
theorem dX5_isBetween_21 : decode cX5_isBetween 21 = .ok (.iload_n 2, 1) := by decide +kernel
theorem dX5_isBetween_22 : decode cX5_isBetween 22 = .ok (.if_icmp .ge 17, 3) := by decide +kernel
theorem dX5_isBetween_25 : decode cX5_isBetween 25 = .ok (.aload_n 0, 1) := by decide +kernel
theorem dX5_isBetween_26 : decode cX5_isBetween 26 = .ok (.iload_n 1, 1) := by decide +kernel
theorem dX5_isBetween_27 : decode cX5_isBetween 27 = .ok (.iload 5, 2) := by decide +kernel
theorem dX5_isBetween_29 : decode cX5_isBetween 29 = .ok (.invokevirtual 108, 3) := by decide +kernel
theorem dX5_isBetween_32 : decode cX5_isBetween 32 = .ok (.ifCond .eq 7, 3) := by decide +kernel
theorem dX5_isBetween_35 : decode cX5_isBetween 35 = .ok (.iconst 1, 1) := by decide +kernel
theorem dX5_isBetween_36 : decode cX5_isBetween 36 = .ok (.goto 4, 3) := by decide +kernel
theorem dX5_isBetween_39 : decode cX5_isBetween 39 = .ok (.iconst 0, 1) := by decide +kernel
theorem dX5_isBetween_40 : decode cX5_isBetween 40 = .ok (.ior, 1) := by decide +kernel
theorem dX5_isBetween_41 : decode cX5_isBetween 41 = .ok (.istore_n 3, 1) := by decide +kernel
theorem dX5_isBetween_42 : decode cX5_isBetween 42 = .ok (.iload 4, 2) := by decide +kernel
theorem dX5_isBetween_44 : decode cX5_isBetween 44 = .ok (.iload 5, 2) := by decide +kernel
theorem dX5_isBetween_46 : decode cX5_isBetween 46 = .ok (.iload_n 2, 1) := by decide +kernel
theorem dX5_isBetween_47 : decode cX5_isBetween 47 = .ok (.if_icmp .le 17, 3) := by decide +kernel
theorem dX5_isBetween_50 : decode cX5_isBetween 50 = .ok (.aload_n 0, 1) := by decide +kernel
theorem dX5_isBetween_51 : decode cX5_isBetween 51 = .ok (.iload_n 1, 1) := by decide +kernel
theorem dX5_isBetween_52 : decode cX5_isBetween 52 = .ok (.iload 5, 2) := by decide +kernel
theorem dX5_isBetween_54 : decode cX5_isBetween 54 = .ok (.invokevirtual 108, 3) := by decide +kernel
theorem dX5_isBetween_57 : decode cX5_isBetween 57 = .ok (.ifCond .eq 7, 3) := by decide +kernel
theorem dX5_isBetween_60 : decode cX5_isBetween 60 = .ok (.iconst 1, 1) := by decide +kernel
theorem dX5_isBetween_61 : decode cX5_isBetween 61 = .ok (.goto 4, 3) := by decide +kernel
theorem dX5_isBetween_64 : decode cX5_isBetween 64 = .ok (.iconst 0, 1) := by decide +kernel
theorem dX5_isBetween_65 : decode cX5_isBetween 65 = .ok (.ior, 1) := by decide +kernel
theorem dX5_isBetween_66 : decode cX5_isBetween 66 = .ok (.istore 4, 2) := by decide +kernel
theorem dX5_isBetween_68 : decode cX5_isBetween 68 = .ok (.iinc 5 1, 3) := by decide +kernel
theorem dX5_isBetween_71 : decode cX5_isBetween 71 = .ok (.goto (-63), 3) := by decide +kernel
theorem dX5_isBetween_74 : decode cX5_isBetween 74 = .ok (.aload_n 0, 1) := by decide +kernel
theorem dX5_isBetween_75 : decode cX5_isBetween 75 = .ok (.iload_n 1, 1) := by decide +kernel
theorem dX5_isBetween_76 : decode cX5_isBetween 76 = .ok (.iload_n 2, 1) := by decide +kernel
theorem dX5_isBetween_77 : decode cX5_isBetween 77 = .ok (.iconst 0, 1) := by decide +kernel
theorem dX5_isBetween_78 : decode cX5_isBetween 78 = .ok (.invokevirtual 66, 3) := by decide +kernel
theorem dX5_isBetween_81 : decode cX5_isBetween 81 = .ok (.iconst 2, 1) := by decide +kernel
theorem dX5_isBetween_82 : decode cX5_isBetween 82 = .ok (.if_icmp .ne 16, 3) := by decide +kernel
theorem dX5_isBetween_85 : decode cX5_isBetween 85 = .ok (.iload_n 3, 1) := by decide +kernel
theorem dX5_isBetween_86 : decode cX5_isBetween 86 = .ok (.ifCond .eq 12, 3) := by decide +kernel
theorem dX5_isBetween_89 : decode cX5_isBetween 89 = .ok (.iload 4, 2) := by decide +kernel
theorem dX5_isBetween_91 : decode cX5_isBetween 91 = .ok (.ifCond .eq 7, 3) := by decide +kernel
theorem dX5_isBetween_94 : decode cX5_isBetween 94 = .ok (.iconst 1, 1) := by decide +kernel
theorem dX5_isBetween_95 : decode cX5_isBetween 95 = .ok (.goto 4, 3) := by decide +kernel
theorem dX5_isBetween_98 : decode cX5_isBetween 98 = .ok (.iconst 0, 1) := by decide +kernel
theorem dX5_isBetween_99 : decode cX5_isBetween 99 = .ok (.ireturn, 1) := by decide +kernel
set_option maxRecDepth 20000 in
theorem ggX5_spread_X5_isColumn : GoodIn wsX5_spread wsX5_isColumn := goodIn_r _ [6, 7, 8, 5, 9] (by decide +kernel) (by decide +kernel)
set_option maxRecDepth 20000 in
theorem gX5_spread_X5_isColumn : GoodIn wsX5_spread (va_wsS RX5 58 yX5_isColumn wsX5_isColumn) := goodIn_app (goodIn_of _ (by decide +kernel)) ggX5_spread_X5_isColumn
set_option maxRecDepth 20000 in
theorem ggX5_spread_X5_in : GoodIn wsX5_spread wsX5_in := goodIn_r _ [9] (by decide +kernel) (by decide +kernel)
set_option maxRecDepth 20000 in
theorem gX5_spread_X5_in : GoodIn wsX5_spread (va_wsS RX5 46 yX5_in wsX5_in) := goodIn_app (goodIn_of _ (by decide +kernel)) ggX5_spread_X5_in
set_option maxRecDepth 20000 in
theorem ggX5_spread_X5_sets : GoodIn wsX5_spread wsX5_sets := goodIn_r _ [13, 2, 14, 15, 16, 5, 17, 18, 19, 20, 21, 22, 23, 24, 25, 26, 1, 27, 28, 29, 30, 31, 32, 33, 34, 35, 36, 37, 38, 39, 40, 41, 42, 43, 44, 45, 46, 47, 48, 63, 64, 65, 66, 67, 68, 69, 70, 71, 72, 73, 74, 75, 76, 77, 78] (by decide +kernel) (by decide +kernel)
set_option maxRecDepth 20000 in
theorem gX5_spread_X5_sets : GoodIn wsX5_spread (wsV RX5 102 RX5 yX5_sets wsX5_sets) := goodIn_app (goodIn_of _ (by decide +kernel)) ggX5_spread_X5_sets
set_option maxRecDepth 20000 in
theorem ggX5_spread_X5_blocks : GoodIn wsX5_spread wsX5_blocks := goodIn_r _ [30, 2, 63, 64, 65, 66, 67, 68, 69, 70, 71, 72, 73, 74, 75, 76, 77, 78] (by decide +kernel) (by decide +kernel)
set_option maxRecDepth 20000 in
theorem gX5_spread_X5_blocks : GoodIn wsX5_spread (wsV RX5 62 RX5 yX5_blocks wsX5_blocks) := goodIn_app (goodIn_of _ (by decide +kernel)) ggX5_spread_X5_blocks
set_option maxRecDepth 20000 in
theorem ggX5_spread_X5_isBetween : GoodIn wsX5_spread wsX5_isBetween := goodIn_r _ [52, 27, 28, 29, 5, 30, 2, 53, 54, 55, 56, 24, 31, 32, 33, 34, 35, 36, 37, 38, 63, 64, 65, 66, 67, 68, 69, 70, 71, 72, 73, 74, 75, 76, 77, 78] (by decide +kernel) (by decide +kernel)
set_option maxRecDepth 20000 in
theorem gX5_spread_X5_isBetween : GoodIn wsX5_spread (wsV RX5 111 RX5 yX5_isBetween wsX5_isBetween) := goodIn_app (goodIn_of _ (by decide +kernel)) ggX5_spread_X5_isBetween
set_option maxRecDepth 20000 in
theorem ggX5_spread_X5_of : GoodIn wsX5_spread wsX5_of := goodIn_r _ [34, 2, 35, 36, 37, 5, 38, 63, 64, 65, 66, 67, 68, 69, 70, 71, 72, 73, 74, 75, 76, 77, 78] (by decide +kernel) (by decide +kernel)
set_option maxRecDepth 20000 in
theorem gX5_spread_X5_of : GoodIn wsX5_spread (wsV RX5 66 RX5 yX5_of wsX5_of) := goodIn_app (goodIn_of _ (by decide +kernel)) ggX5_spread_X5_of
set_option maxRecDepth 20000 in
theorem ggX5_spread_X5_record : GoodIn wsX5_spread wsX5_record := goodIn_r _ [60, 61, 62, 2, 63, 64, 65, 66, 67, 68, 69, 70, 71, 72, 73, 74, 75, 76, 77, 78] (by decide +kernel) (by decide +kernel)
set_option maxRecDepth 20000 in
theorem gX5_spread_X5_record : GoodIn wsX5_spread (wsV RX5 88 RX5 yX5_record wsX5_record) := goodIn_app (goodIn_of _ (by decide +kernel)) ggX5_spread_X5_record
set_option maxRecDepth 20000 in
theorem ggX5_spread_X5_cell : GoodIn wsX5_spread wsX5_cell := goodIn_r _ [38] (by decide +kernel) (by decide +kernel)
set_option maxRecDepth 20000 in
theorem gX5_spread_X5_cell : GoodIn wsX5_spread (wsV RX5 54 RX5 yX5_cell wsX5_cell) := goodIn_app (goodIn_of _ (by decide +kernel)) ggX5_spread_X5_cell
theorem dX5_spread_0 : decode cX5_spread 0 = .ok (.iload_n 1, 1) := by decide +kernel
theorem dX5_spread_1 : decode cX5_spread 1 = .ok (.invokestatic 58, 3) := by decide +kernel
theorem dX5_spread_4 : decode cX5_spread 4 = .ok (.ifCond .ne 5, 3) := by decide +kernel
theorem dX5_spread_7 : decode cX5_spread 7 = .ok (.iconst (-1), 1) := by decide +kernel
theorem dX5_spread_8 : decode cX5_spread 8 = .ok (.ireturn, 1) := by decide +kernel
theorem dX5_spread_9 : decode cX5_spread 9 = .ok (.iload_n 2, 1) := by decide +kernel
theorem dX5_spread_10 : decode cX5_spread 10 = .ok (.iconst 1, 1) := by decide +kernel
theorem dX5_spread_11 : decode cX5_spread 11 = .ok (.sipush 9999, 3) := by decide +kernel
theorem dX5_spread_14 : decode cX5_spread 14 = .ok (.invokestatic 46, 3) := by decide +kernel
theorem dX5_spread_17 : decode cX5_spread 17 = .ok (.ifCond .ne 6, 3) := by decide +kernel
theorem dX5_spread_20 : decode cX5_spread 20 = .ok (.bipush (-2), 2) := by decide +kernel
theorem dX5_spread_22 : decode cX5_spread 22 = .ok (.ireturn, 1) := by decide +kernel
theorem dX5_spread_23 : decode cX5_spread 23 = .ok (.aload_n 0, 1) := by decide +kernel
theorem dX5_spread_24 : decode cX5_spread 24 = .ok (.invokevirtual 102, 3) := by decide +kernel
theorem dX5_spread_27 : decode cX5_spread 27 = .ok (.iload_n 2, 1) := by decide +kernel
