theorem dX3_takeSample_40 : decode cX3_takeSample 40 = .ok (.aload_n 0, 1) := by decide +kernel
theorem dX3_takeSample_41 : decode cX3_takeSample 41 = .ok (.getfield 10, 3) := by decide +kernel
theorem dX3_takeSample_44 : decode cX3_takeSample 44 = .ok (.getfield 139, 3) := by decide +kernel
theorem dX3_takeSample_47 : decode cX3_takeSample 47 = .ok (.invokevirtual 168, 3) := by decide +kernel
theorem dX3_takeSample_50 : decode cX3_takeSample 50 = .ok (.iinc 3 1, 3) := by decide +kernel
theorem dX3_takeSample_53 : decode cX3_takeSample 53 = .ok (.goto (-42), 3) := by decide +kernel
theorem dX3_takeSample_56 : decode cX3_takeSample 56 = .ok (.return_, 1) := by decide +kernel
theorem dX4_init_0 : decode cX4_init 0 = .ok (.aload_n 0, 1) := by decide +kernel
theorem dX4_init_1 : decode cX4_init 1 = .ok (.invokespecial 1, 3) := by decide +kernel
theorem dX4_init_4 : decode cX4_init 4 = .ok (.aload_n 0, 1) := by decide +kernel
theorem dX4_init_5 : decode cX4_init 5 = .ok (.bipush 8, 2) := by decide +kernel
theorem dX4_init_7 : decode cX4_init 7 = .ok (.newarray .int, 2) := by decide +kernel
theorem dX4_init_9 : decode cX4_init 9 = .ok (.putfield 7, 3) := by decide +kernel
theorem dX4_init_12 : decode cX4_init 12 = .ok (.aload_n 0, 1) := by decide +kernel
theorem dX4_init_13 : decode cX4_init 13 = .ok (.bipush 8, 2) := by decide +kernel
theorem dX4_init_15 : decode cX4_init 15 = .ok (.newarray .int, 2) := by decide +kernel
theorem dX4_init_17 : decode cX4_init 17 = .ok (.putfield 13, 3) := by decide +kernel
theorem dX4_init_20 : decode cX4_init 20 = .ok (.aload_n 0, 1) := by decide +kernel
theorem dX4_init_21 : decode cX4_init 21 = .ok (.bipush 16, 2) := by decide +kernel
theorem dX4_init_23 : decode cX4_init 23 = .ok (.newarray .int, 2) := by decide +kernel
theorem dX4_init_25 : decode cX4_init 25 = .ok (.putfield 16, 3) := by decide +kernel
theorem dX4_init_28 : decode cX4_init 28 = .ok (.aload_n 0, 1) := by decide +kernel
theorem dX4_init_29 : decode cX4_init 29 = .ok (.bipush 16, 2) := by decide +kernel
theorem dX4_init_31 : decode cX4_init 31 = .ok (.newarray .int, 2) := by decide +kernel
theorem dX4_init_33 : decode cX4_init 33 = .ok (.putfield 19, 3) := by decide +kernel
theorem dX4_init_36 : decode cX4_init 36 = .ok (.aload_n 0, 1) := by decide +kernel
theorem dX4_init_37 : decode cX4_init 37 = .ok (.bipush 16, 2) := by decide +kernel
theorem dX4_init_39 : decode cX4_init 39 = .ok (.newarray .double, 2) := by decide +kernel
theorem dX4_init_41 : decode cX4_init 41 = .ok (.putfield 22, 3) := by decide +kernel
theorem dX4_init_44 : decode cX4_init 44 = .ok (.aload_n 0, 1) := by decide +kernel
theorem dX4_init_45 : decode cX4_init 45 = .ok (.bipush 6, 2) := by decide +kernel
theorem dX4_init_47 : decode cX4_init 47 = .ok (.newarray .int, 2) := by decide +kernel
theorem dX4_init_49 : decode cX4_init 49 = .ok (.putfield 26, 3) := by decide +kernel
theorem dX4_init_52 : decode cX4_init 52 = .ok (.aload_n 0, 1) := by decide +kernel
theorem dX4_init_53 : decode cX4_init 53 = .ok (.bipush 6, 2) := by decide +kernel
theorem dX4_init_55 : decode cX4_init 55 = .ok (.newarray .int, 2) := by decide +kernel
theorem dX4_init_57 : decode cX4_init 57 = .ok (.putfield 29, 3) := by decide +kernel
theorem dX4_init_60 : decode cX4_init 60 = .ok (.aload_n 0, 1) := by decide +kernel
theorem dX4_init_61 : decode cX4_init 61 = .ok (.bipush 6, 2) := by decide +kernel
theorem dX4_init_63 : decode cX4_init 63 = .ok (.newarray .int, 2) := by decide +kernel
theorem dX4_init_65 : decode cX4_init 65 = .ok (.putfield 32, 3) := by decide +kernel
theorem dX4_init_68 : decode cX4_init 68 = .ok (.aload_n 0, 1) := by decide +kernel
theorem dX4_init_69 : decode cX4_init 69 = .ok (.bipush 6, 2) := by decide +kernel
theorem dX4_init_71 : decode cX4_init 71 = .ok (.newarray .int, 2) := by decide +kernel
theorem dX4_init_73 : decode cX4_init 73 = .ok (.putfield 35, 3) := by decide +kernel
theorem dX4_init_76 : decode cX4_init 76 = .ok (.aload_n 0, 1) := by decide +kernel
theorem dX4_init_77 : decode cX4_init 77 = .ok (.bipush 6, 2) := by decide +kernel
theorem dX4_init_79 : decode cX4_init 79 = .ok (.newarray .int, 2) := by decide +kernel
theorem dX4_init_81 : decode cX4_init 81 = .ok (.putfield 38, 3) := by decide +kernel
theorem dX4_init_84 : decode cX4_init 84 = .ok (.aload_n 0, 1) := by decide +kernel
theorem dX4_init_85 : decode cX4_init 85 = .ok (.bipush 6, 2) := by decide +kernel
theorem dX4_init_87 : decode cX4_init 87 = .ok (.newarray .int, 2) := by decide +kernel
theorem dX4_init_89 : decode cX4_init 89 = .ok (.putfield 41, 3) := by decide +kernel
theorem dX4_init_92 : decode cX4_init 92 = .ok (.aload_n 0, 1) := by decide +kernel
theorem dX4_init_93 : decode cX4_init 93 = .ok (.bipush 6, 2) := by decide +kernel
theorem dX4_init_95 : decode cX4_init 95 = .ok (.newarray .int, 2) := by decide +kernel
theorem dX4_init_97 : decode cX4_init 97 = .ok (.putfield 44, 3) := by decide +kernel
theorem dX4_init_100 : decode cX4_init 100 = .ok (.aload_n 0, 1) := by decide +kernel
theorem dX4_init_101 : decode cX4_init 101 = .ok (.bipush 6, 2) := by decide +kernel
theorem dX4_init_103 : decode cX4_init 103 = .ok (.newarray .int, 2) := by decide +kernel
theorem dX4_init_105 : decode cX4_init 105 = .ok (.putfield 47, 3) := by decide +kernel
theorem dX4_init_108 : decode cX4_init 108 = .ok (.aload_n 0, 1) := by decide +kernel
theorem dX4_init_109 : decode cX4_init 109 = .ok (.bipush 6, 2) := by decide +kernel
theorem dX4_init_111 : decode cX4_init 111 = .ok (.newarray .int, 2) := by decide +kernel
theorem dX4_init_113 : decode cX4_init 113 = .ok (.putfield 50, 3) := by decide +kernel
theorem dX4_init_116 : decode cX4_init 116 = .ok (.aload_n 0, 1) := by decide +kernel
theorem dX4_init_117 : decode cX4_init 117 = .ok (.bipush 48, 2) := by decide +kernel
theorem dX4_init_119 : decode cX4_init 119 = .ok (.newarray .double, 2) := by decide +kernel
theorem dX4_init_121 : decode cX4_init 121 = .ok (.putfield 53, 3) := by decide +kernel
theorem dX4_init_124 : decode cX4_init 124 = .ok (.aload_n 0, 1) := by decide +kernel
theorem dX4_init_125 : decode cX4_init 125 = .ok (.bipush 6, 2) := by decide +kernel
theorem dX4_init_127 : decode cX4_init 127 = .ok (.newarray .double, 2) := by decide +kernel
theorem dX4_init_129 : decode cX4_init 129 = .ok (.putfield 56, 3) := by decide +kernel
theorem dX4_init_132 : decode cX4_init 132 = .ok (.aload_n 0, 1) := by decide +kernel
theorem dX4_init_133 : decode cX4_init 133 = .ok (.bipush 6, 2) := by decide +kernel
theorem dX4_init_135 : decode cX4_init 135 = .ok (.newarray .double, 2) := by decide +kernel
theorem dX4_init_137 : decode cX4_init 137 = .ok (.putfield 59, 3) := by decide +kernel
theorem dX4_init_140 : decode cX4_init 140 = .ok (.aload_n 0, 1) := by decide +kernel
theorem dX4_init_141 : decode cX4_init 141 = .ok (.bipush 96, 2) := by decide +kernel
theorem dX4_init_143 : decode cX4_init 143 = .ok (.newarray .double, 2) := by decide +kernel
theorem dX4_init_145 : decode cX4_init 145 = .ok (.putfield 62, 3) := by decide +kernel
theorem dX4_init_148 : decode cX4_init 148 = .ok (.aload_n 0, 1) := by decide +kernel
theorem dX4_init_149 : decode cX4_init 149 = .ok (.bipush 96, 2) := by decide +kernel
theorem dX4_init_151 : decode cX4_init 151 = .ok (.newarray .double, 2) := by decide +kernel
theorem dX4_init_153 : decode cX4_init 153 = .ok (.putfield 65, 3) := by decide +kernel
theorem dX4_init_156 : decode cX4_init 156 = .ok (.aload_n 0, 1) := by decide +kernel
theorem dX4_init_157 : decode cX4_init 157 = .ok (.iconst 4, 1) := by decide +kernel
theorem dX4_init_158 : decode cX4_init 158 = .ok (.newarray .double, 2) := by decide +kernel
theorem dX4_init_160 : decode cX4_init 160 = .ok (.putfield 68, 3) := by decide +kernel
theorem dX4_init_163 : decode cX4_init 163 = .ok (.return_, 1) := by decide +kernel
theorem dX4_thrown_0 : decode cX4_thrown 0 = .ok (.aload_n 0, 1) := by decide +kernel
theorem dX4_thrown_1 : decode cX4_thrown 1 = .ok (.getfield 71, 3) := by decide +kernel
theorem dX4_thrown_4 : decode cX4_thrown 4 = .ok (.ireturn, 1) := by decide +kernel
theorem dX4_goesWell_0 : decode cX4_goesWell 0 = .ok (.aload_n 0, 1) := by decide +kernel
theorem dX4_goesWell_1 : decode cX4_goesWell 1 = .ok (.iload_n 1, 1) := by decide +kernel
theorem dX4_goesWell_2 : decode cX4_goesWell 2 = .ok (.putfield 71, 3) := by decide +kernel
theorem dX4_goesWell_5 : decode cX4_goesWell 5 = .ok (.iload_n 1, 1) := by decide +kernel
theorem dX4_goesWell_6 : decode cX4_goesWell 6 = .ok (.ifCond .ne 7, 3) := by decide +kernel
theorem dX4_goesWell_9 : decode cX4_goesWell 9 = .ok (.iconst 1, 1) := by decide +kernel
theorem dX4_goesWell_10 : decode cX4_goesWell 10 = .ok (.goto 4, 3) := by decide +kernel
theorem dX4_goesWell_13 : decode cX4_goesWell 13 = .ok (.iconst 0, 1) := by decide +kernel
theorem dX4_goesWell_14 : decode cX4_goesWell 14 = .ok (.ireturn, 1) := by decide +kernel
theorem dX4_in_0 : decode cX4_in 0 = .ok (.iload_n 0, 1) := by decide +kernel
theorem dX4_in_1 : decode cX4_in 1 = .ok (.iload_n 1, 1) := by decide +kernel
theorem dX4_in_2 : decode cX4_in 2 = .ok (.if_icmp .lt 12, 3) := by decide +kernel
theorem dX4_in_5 : decode cX4_in 5 = .ok (.iload_n 0, 1) := by decide +kernel
theorem dX4_in_6 : decode cX4_in 6 = .ok (.iload_n 2, 1) := by decide +kernel
theorem dX4_in_7 : decode cX4_in 7 = .ok (.if_icmp .gt 7, 3) := by decide +kernel
theorem dX4_in_10 : decode cX4_in 10 = .ok (.iconst 1, 1) := by decide +kernel
theorem dX4_in_11 : decode cX4_in 11 = .ok (.goto 4, 3) := by decide +kernel
theorem dX4_in_14 : decode cX4_in 14 = .ok (.iconst 0, 1) := by decide +kernel
theorem dX4_in_15 : decode cX4_in 15 = .ok (.ireturn, 1) := by decide +kernel
set_option maxRecDepth 20000 in
theorem ggX4_isFilter_X4_in : GoodIn wsX4_isFilter wsX4_in := goodIn_r _ [5] (by decide +kernel) (by decide +kernel)
set_option maxRecDepth 20000 in
theorem gX4_isFilter_X4_in : GoodIn wsX4_isFilter (va_wsS RX4 78 yX4_in wsX4_in) := goodIn_app (goodIn_of _ (by decide +kernel)) ggX4_isFilter_X4_in
theorem dX4_isFilter_0 : decode cX4_isFilter 0 = .ok (.iload_n 1, 1) := by decide +kernel
theorem dX4_isFilter_1 : decode cX4_isFilter 1 = .ok (.iconst 0, 1) := by decide +kernel
theorem dX4_isFilter_2 : decode cX4_isFilter 2 = .ok (.aload_n 0, 1) := by decide +kernel
theorem dX4_isFilter_3 : decode cX4_isFilter 3 = .ok (.getfield 75, 3) := by decide +kernel
theorem dX4_isFilter_6 : decode cX4_isFilter 6 = .ok (.iconst 1, 1) := by decide +kernel
theorem dX4_isFilter_7 : decode cX4_isFilter 7 = .ok (.isub, 1) := by decide +kernel
theorem dX4_isFilter_8 : decode cX4_isFilter 8 = .ok (.invokestatic 78, 3) := by decide +kernel
theorem dX4_isFilter_11 : decode cX4_isFilter 11 = .ok (.ireturn, 1) := by decide +kernel
theorem dX4_size_0 : decode cX4_size 0 = .ok (.dload_n 0, 1) := by decide +kernel
theorem dX4_size_1 : decode cX4_size 1 = .ok (.dconst 0, 1) := by decide +kernel
theorem dX4_size_2 : decode cX4_size 2 = .ok (.dcmp .g, 1) := by decide +kernel
theorem dX4_size_3 : decode cX4_size 3 = .ok (.ifCond .ge 9, 3) := by decide +kernel
theorem dX4_size_6 : decode cX4_size 6 = .ok (.dconst 0, 1) := by decide +kernel
theorem dX4_size_7 : decode cX4_size 7 = .ok (.dload_n 0, 1) := by decide +kernel
theorem dX4_size_8 : decode cX4_size 8 = .ok (.dsub, 1) := by decide +kernel
theorem dX4_size_9 : decode cX4_size 9 = .ok (.goto 4, 3) := by decide +kernel
theorem dX4_size_12 : decode cX4_size 12 = .ok (.dload_n 0, 1) := by decide +kernel
theorem dX4_size_13 : decode cX4_size 13 = .ok (.dreturn, 1) := by decide +kernel
set_option maxRecDepth 20000 in
theorem ggX4_path_X4_in : GoodIn wsX4_path wsX4_in := goodIn_r _ [5] (by decide +kernel) (by decide +kernel)
set_option maxRecDepth 20000 in
theorem gX4_path_X4_in : GoodIn wsX4_path (va_wsS RX4 78 yX4_in wsX4_in) := goodIn_app (goodIn_of _ (by decide +kernel)) ggX4_path_X4_in
set_option maxRecDepth 20000 in
theorem ggX4_path_X4_goesWell : GoodIn wsX4_path wsX4_goesWell := goodIn_r _ [9, 10, 11, 12, 13, 14, 15, 16, 17, 18, 19, 20, 21, 22, 23, 24, 25, 26, 27, 28, 29, 30, 31, 32, 33, 34] (by decide +kernel) (by decide +kernel)
set_option maxRecDepth 20000 in
theorem gX4_path_X4_goesWell : GoodIn wsX4_path (wsV RX4 82 RX4 yX4_goesWell wsX4_goesWell) := goodIn_app (goodIn_of _ (by decide +kernel)) ggX4_path_X4_goesWell
theorem dX4_path_0 : decode cX4_path 0 = .ok (.iload_n 1, 1) := by decide +kernel
theorem dX4_path_1 : decode cX4_path 1 = .ok (.iconst 0, 1) := by decide +kernel
theorem dX4_path_2 : decode cX4_path 2 = .ok (.bipush 7, 2) := by decide +kernel
theorem dX4_path_4 : decode cX4_path 4 = .ok (.invokestatic 78, 3) := by decide +kernel
theorem dX4_path_7 : decode cX4_path 7 = .ok (.istore_n 3, 1) := by decide +kernel
theorem dX4_path_8 : decode cX4_path 8 = .ok (.aload_n 0, 1) := by decide +kernel
theorem dX4_path_9 : decode cX4_path 9 = .ok (.iload_n 3, 1) := by decide +kernel
theorem dX4_path_10 : decode cX4_path 10 = .ok (.ifCond .ne 7, 3) := by decide +kernel
theorem dX4_path_13 : decode cX4_path 13 = .ok (.iconst 1, 1) := by decide +kernel
theorem dX4_path_14 : decode cX4_path 14 = .ok (.goto 21, 3) := by decide +kernel
theorem dX4_path_17 : decode cX4_path 17 = .ok (.iload_n 2, 1) := by decide +kernel
theorem dX4_path_18 : decode cX4_path 18 = .ok (.sipush (-1000), 3) := by decide +kernel
theorem dX4_path_21 : decode cX4_path 21 = .ok (.sipush 1000, 3) := by decide +kernel
theorem dX4_path_24 : decode cX4_path 24 = .ok (.invokestatic 78, 3) := by decide +kernel
theorem dX4_path_27 : decode cX4_path 27 = .ok (.ifCond .eq 7, 3) := by decide +kernel
theorem dX4_path_30 : decode cX4_path 30 = .ok (.iconst 0, 1) := by decide +kernel
theorem dX4_path_31 : decode cX4_path 31 = .ok (.goto 4, 3) := by decide +kernel
theorem dX4_path_34 : decode cX4_path 34 = .ok (.iconst 2, 1) := by decide +kernel
theorem dX4_path_35 : decode cX4_path 35 = .ok (.invokevirtual 82, 3) := by decide +kernel
theorem dX4_path_38 : decode cX4_path 38 = .ok (.ifCond .ne 5, 3) := by decide +kernel
theorem dX4_path_41 : decode cX4_path 41 = .ok (.iconst 0, 1) := by decide +kernel
theorem dX4_path_42 : decode cX4_path 42 = .ok (.ireturn, 1) := by decide +kernel
theorem dX4_path_43 : decode cX4_path 43 = .ok (.aload_n 0, 1) := by decide +kernel
theorem dX4_path_44 : decode cX4_path 44 = .ok (.getfield 7, 3) := by decide +kernel
theorem dX4_path_47 : decode cX4_path 47 = .ok (.iload_n 1, 1) := by decide +kernel
theorem dX4_path_48 : decode cX4_path 48 = .ok (.iaload, 1) := by decide +kernel
theorem dX4_path_49 : decode cX4_path 49 = .ok (.istore 4, 2) := by decide +kernel
theorem dX4_path_51 : decode cX4_path 51 = .ok (.aload_n 0, 1) := by decide +kernel
theorem dX4_path_52 : decode cX4_path 52 = .ok (.getfield 7, 3) := by decide +kernel
theorem dX4_path_55 : decode cX4_path 55 = .ok (.iload_n 1, 1) := by decide +kernel
theorem dX4_path_56 : decode cX4_path 56 = .ok (.iload_n 2, 1) := by decide +kernel
theorem dX4_path_57 : decode cX4_path 57 = .ok (.iastore, 1) := by decide +kernel
theorem dX4_path_58 : decode cX4_path 58 = .ok (.iload 4, 2) := by decide +kernel
theorem dX4_path_60 : decode cX4_path 60 = .ok (.ireturn, 1) := by decide +kernel
set_option maxRecDepth 20000 in
theorem ggX4_isStep_X4_in : GoodIn wsX4_isStep wsX4_in := goodIn_r _ [4] (by decide +kernel) (by decide +kernel)
set_option maxRecDepth 20000 in
theorem gX4_isStep_X4_in : GoodIn wsX4_isStep (va_wsS RX4 78 yX4_in wsX4_in) := goodIn_app (goodIn_of _ (by decide +kernel)) ggX4_isStep_X4_in
theorem dX4_isStep_0 : decode cX4_isStep 0 = .ok (.iload_n 0, 1) := by decide +kernel
theorem dX4_isStep_1 : decode cX4_isStep 1 = .ok (.iconst 3, 1) := by decide +kernel
theorem dX4_isStep_2 : decode cX4_isStep 2 = .ok (.if_icmp .ne 16, 3) := by decide +kernel
theorem dX4_isStep_5 : decode cX4_isStep 5 = .ok (.iload_n 1, 1) := by decide +kernel
theorem dX4_isStep_6 : decode cX4_isStep 6 = .ok (.sipush 500, 3) := by decide +kernel
theorem dX4_isStep_9 : decode cX4_isStep 9 = .ok (.sipush 1000, 3) := by decide +kernel
theorem dX4_isStep_12 : decode cX4_isStep 12 = .ok (.invokestatic 78, 3) := by decide +kernel
theorem dX4_isStep_15 : decode cX4_isStep 15 = .ok (.goto 11, 3) := by decide +kernel
theorem dX4_isStep_18 : decode cX4_isStep 18 = .ok (.iload_n 1, 1) := by decide +kernel
theorem dX4_isStep_19 : decode cX4_isStep 19 = .ok (.iconst 1, 1) := by decide +kernel
theorem dX4_isStep_20 : decode cX4_isStep 20 = .ok (.sipush 2000, 3) := by decide +kernel
theorem dX4_isStep_23 : decode cX4_isStep 23 = .ok (.invokestatic 78, 3) := by decide +kernel
theorem dX4_isStep_26 : decode cX4_isStep 26 = .ok (.ireturn, 1) := by decide +kernel
set_option maxRecDepth 20000 in
theorem ggX4_filter_X4_in : GoodIn wsX4_filter wsX4_in := goodIn_r _ [8] (by decide +kernel) (by decide +kernel)
set_option maxRecDepth 20000 in
theorem gX4_filter_X4_in : GoodIn wsX4_filter (va_wsS RX4 78 yX4_in wsX4_in) := goodIn_app (goodIn_of _ (by decide +kernel)) ggX4_filter_X4_in
set_option maxRecDepth 20000 in
theorem ggX4_filter_X4_isStep : GoodIn wsX4_filter wsX4_isStep := goodIn_r _ [11, 5, 6, 7, 8] (by decide +kernel) (by decide +kernel)
set_option maxRecDepth 20000 in
theorem gX4_filter_X4_isStep : GoodIn wsX4_filter (va_wsS RX4 86 yX4_isStep wsX4_isStep) := goodIn_app (goodIn_of _ (by decide +kernel)) ggX4_filter_X4_isStep
set_option maxRecDepth 20000 in
theorem ggX4_filter_X4_goesWell : GoodIn wsX4_filter wsX4_goesWell := goodIn_r _ [15, 16, 23, 24, 25, 26, 27, 28, 29, 30, 31, 32, 33, 34, 35, 36, 37, 38, 39, 40, 41, 42, 43, 44, 45, 46] (by decide +kernel) (by decide +kernel)
set_option maxRecDepth 20000 in
theorem gX4_filter_X4_goesWell : GoodIn wsX4_filter (wsV RX4 82 RX4 yX4_goesWell wsX4_goesWell) := goodIn_app (goodIn_of _ (by decide +kernel)) ggX4_filter_X4_goesWell
set_option maxRecDepth 20000 in
theorem ggX4_filter_X4_reset : GoodIn wsX4_filter wsX4_reset := goodIn_r _ [20, 21, 22, 23, 24, 25, 26, 27, 28, 29, 30, 31, 32, 33, 34, 35, 36, 37, 38, 39, 40, 41, 42, 43, 44, 45, 46] (by decide +kernel) (by decide +kernel)
set_option maxRecDepth 20000 in
theorem gX4_filter_X4_reset : GoodIn wsX4_filter (wsV RX4 90 RX4 yX4_reset wsX4_reset) := goodIn_app (goodIn_of _ (by decide +kernel)) ggX4_filter_X4_reset
theorem dX4_filter_0 : decode cX4_filter 0 = .ok (.iload_n 1, 1) := by decide +kernel
theorem dX4_filter_1 : decode cX4_filter 1 = .ok (.iconst 0, 1) := by decide +kernel
theorem dX4_filter_2 : decode cX4_filter 2 = .ok (.iconst 3, 1) := by decide +kernel
theorem dX4_filter_3 : decode cX4_filter 3 = .ok (.invokestatic 78, 3) := by decide +kernel
theorem dX4_filter_6 : decode cX4_filter 6 = .ok (.ifCond .eq 34, 3) := by decide +kernel
theorem dX4_filter_9 : decode cX4_filter 9 = .ok (.iload_n 2, 1) := by decide +kernel
theorem dX4_filter_10 : decode cX4_filter 10 = .ok (.iconst 1, 1) := by decide +kernel
theorem dX4_filter_11 : decode cX4_filter 11 = .ok (.iload_n 1, 1) := by decide +kernel
theorem dX4_filter_12 : decode cX4_filter 12 = .ok (.iconst 3, 1) := by decide +kernel
theorem dX4_filter_13 : decode cX4_filter 13 = .ok (.if_icmp .ne 7, 3) := by decide +kernel
theorem dX4_filter_16 : decode cX4_filter 16 = .ok (.iconst 4, 1) := by decide +kernel
theorem dX4_filter_17 : decode cX4_filter 17 = .ok (.goto 5, 3) := by decide +kernel
theorem dX4_filter_20 : decode cX4_filter 20 = .ok (.bipush 8, 2) := by decide +kernel
theorem dX4_filter_22 : decode cX4_filter 22 = .ok (.invokestatic 78, 3) := by decide +kernel
theorem dX4_filter_25 : decode cX4_filter 25 = .ok (.ifCond .eq 15, 3) := by decide +kernel
theorem dX4_filter_28 : decode cX4_filter 28 = .ok (.iload_n 1, 1) := by decide +kernel
theorem dX4_filter_29 : decode cX4_filter 29 = .ok (.iload_n 3, 1) := by decide +kernel
theorem dX4_filter_30 : decode cX4_filter 30 = .ok (.invokestatic 86, 3) := by decide +kernel
theorem dX4_filter_33 : decode cX4_filter 33 = .ok (.ifCond .eq 7, 3) := by decide +kernel
theorem dX4_filter_36 : decode cX4_filter 36 = .ok (.iconst 1, 1) := by decide +kernel
theorem dX4_filter_37 : decode cX4_filter 37 = .ok (.goto 4, 3) := by decide +kernel
theorem dX4_filter_40 : decode cX4_filter 40 = .ok (.iconst 0, 1) := by decide +kernel
theorem dX4_filter_41 : decode cX4_filter 41 = .ok (.istore 4, 2) := by decide +kernel
theorem dX4_filter_43 : decode cX4_filter 43 = .ok (.aload_n 0, 1) := by decide +kernel
theorem dX4_filter_44 : decode cX4_filter 44 = .ok (.iload 4, 2) := by decide +kernel
theorem dX4_filter_46 : decode cX4_filter 46 = .ok (.ifCond .ne 7, 3) := by decide +kernel
theorem dX4_filter_49 : decode cX4_filter 49 = .ok (.iconst 1, 1) := by decide +kernel
theorem dX4_filter_50 : decode cX4_filter 50 = .ok (.goto 17, 3) := by decide +kernel
theorem dX4_filter_53 : decode cX4_filter 53 = .ok (.aload_n 0, 1) := by decide +kernel
theorem dX4_filter_54 : decode cX4_filter 54 = .ok (.getfield 75, 3) := by decide +kernel
theorem dX4_filter_57 : decode cX4_filter 57 = .ok (.bipush 6, 2) := by decide +kernel
theorem dX4_filter_59 : decode cX4_filter 59 = .ok (.if_icmp .ne 7, 3) := by decide +kernel
theorem dX4_filter_62 : decode cX4_filter 62 = .ok (.iconst 2, 1) := by decide +kernel
theorem dX4_filter_63 : decode cX4_filter 63 = .ok (.goto 4, 3) := by decide +kernel
theorem dX4_filter_66 : decode cX4_filter 66 = .ok (.iconst 0, 1) := by decide +kernel
theorem dX4_filter_67 : decode cX4_filter 67 = .ok (.invokevirtual 82, 3) := by decide +kernel
theorem dX4_filter_70 : decode cX4_filter 70 = .ok (.ifCond .ne 5, 3) := by decide +kernel
theorem dX4_filter_73 : decode cX4_filter 73 = .ok (.iconst 0, 1) := by decide +kernel
theorem dX4_filter_74 : decode cX4_filter 74 = .ok (.ireturn, 1) := by decide +kernel
theorem dX4_filter_75 : decode cX4_filter 75 = .ok (.aload_n 0, 1) := by decide +kernel
theorem dX4_filter_76 : decode cX4_filter 76 = .ok (.getfield 26, 3) := by decide +kernel
theorem dX4_filter_79 : decode cX4_filter 79 = .ok (.aload_n 0, 1) := by decide +kernel
theorem dX4_filter_80 : decode cX4_filter 80 = .ok (.getfield 75, 3) := by decide +kernel
theorem dX4_filter_83 : decode cX4_filter 83 = .ok (.iload_n 1, 1) := by decide +kernel
theorem dX4_filter_84 : decode cX4_filter 84 = .ok (.iastore, 1) := by decide +kernel
theorem dX4_filter_85 : decode cX4_filter 85 = .ok (.aload_n 0, 1) := by decide +kernel
theorem dX4_filter_86 : decode cX4_filter 86 = .ok (.getfield 29, 3) := by decide +kernel
theorem dX4_filter_89 : decode cX4_filter 89 = .ok (.aload_n 0, 1) := by decide +kernel
theorem dX4_filter_90 : decode cX4_filter 90 = .ok (.getfield 75, 3) := by decide +kernel
theorem dX4_filter_93 : decode cX4_filter 93 = .ok (.iload_n 2, 1) := by decide +kernel
theorem dX4_filter_94 : decode cX4_filter 94 = .ok (.iastore, 1) := by decide +kernel
theorem dX4_filter_95 : decode cX4_filter 95 = .ok (.aload_n 0, 1) := by decide +kernel
theorem dX4_filter_96 : decode cX4_filter 96 = .ok (.getfield 32, 3) := by decide +kernel
theorem dX4_filter_99 : decode cX4_filter 99 = .ok (.aload_n 0, 1) := by decide +kernel
theorem dX4_filter_100 : decode cX4_filter 100 = .ok (.getfield 75, 3) := by decide +kernel
theorem dX4_filter_103 : decode cX4_filter 103 = .ok (.iload_n 3, 1) := by decide +kernel
theorem dX4_filter_104 : decode cX4_filter 104 = .ok (.iastore, 1) := by decide +kernel
theorem dX4_filter_105 : decode cX4_filter 105 = .ok (.aload_n 0, 1) := by decide +kernel
theorem dX4_filter_106 : decode cX4_filter 106 = .ok (.aload_n 0, 1) := by decide +kernel
theorem dX4_filter_107 : decode cX4_filter 107 = .ok (.getfield 75, 3) := by decide +kernel
theorem dX4_filter_110 : decode cX4_filter 110 = .ok (.invokevirtual 90, 3) := by decide +kernel
theorem dX4_filter_113 : decode cX4_filter 113 = .ok (.aload_n 0, 1) := by decide +kernel
theorem dX4_filter_114 : decode cX4_filter 114 = .ok (.dup, 1) := by decide +kernel
theorem dX4_filter_115 : decode cX4_filter 115 = .ok (.getfield 75, 3) := by decide +kernel
theorem dX4_filter_118 : decode cX4_filter 118 = .ok (.iconst 1, 1) := by decide +kernel
theorem dX4_filter_119 : decode cX4_filter 119 = .ok (.iadd, 1) := by decide +kernel
theorem dX4_filter_120 : decode cX4_filter 120 = .ok (.putfield 75, 3) := by decide +kernel
theorem dX4_filter_123 : decode cX4_filter 123 = .ok (.aload_n 0, 1) := by decide +kernel
theorem dX4_filter_124 : decode cX4_filter 124 = .ok (.getfield 75, 3) := by decide +kernel
theorem dX4_filter_127 : decode cX4_filter 127 = .ok (.iconst 1, 1) := by decide +kernel
theorem dX4_filter_128 : decode cX4_filter 128 = .ok (.isub, 1) := by decide +kernel
theorem dX4_filter_129 : decode cX4_filter 129 = .ok (.ireturn, 1) := by decide +kernel
set_option maxRecDepth 20000 in
theorem ggX4_step_X4_isFilter : GoodIn wsX4_step wsX4_isFilter := goodIn_r _ [7, 8, 9, 10, 6, 11, 20, 21, 22, 23, 24, 25, 26, 27, 28, 29, 30, 31, 32, 33, 34, 35, 36, 37, 38, 39, 40, 41, 42, 43] (by decide +kernel) (by decide +kernel)
set_option maxRecDepth 20000 in
theorem gX4_step_X4_isFilter : GoodIn wsX4_step (wsV RX4 94 RX4 yX4_isFilter wsX4_isFilter) := goodIn_app (goodIn_of _ (by decide +kernel)) ggX4_step_X4_isFilter
set_option maxRecDepth 20000 in
theorem ggX4_step_X4_isStep : GoodIn wsX4_step wsX4_isStep := goodIn_r _ [14, 9, 10, 6, 11] (by decide +kernel) (by decide +kernel)
set_option maxRecDepth 20000 in
theorem gX4_step_X4_isStep : GoodIn wsX4_step (va_wsS RX4 86 yX4_isStep wsX4_isStep) := goodIn_app (goodIn_of _ (by decide +kernel)) ggX4_step_X4_isStep
set_option maxRecDepth 20000 in
theorem ggX4_step_X4_goesWell : GoodIn wsX4_step wsX4_goesWell := goodIn_r _ [18, 19, 20, 21, 22, 23, 24, 25, 26, 27, 28, 29, 30, 31, 32, 33, 34, 35, 36, 37, 38, 39, 40, 41, 42, 43] (by decide +kernel) (by decide +kernel)
set_option maxRecDepth 20000 in
theorem gX4_step_X4_goesWell : GoodIn wsX4_step (wsV RX4 82 RX4 yX4_goesWell wsX4_goesWell) := goodIn_app (goodIn_of _ (by decide +kernel)) ggX4_step_X4_goesWell
theorem dX4_step_0 : decode cX4_step 0 = .ok (.aload_n 0, 1) := by decide +kernel
theorem dX4_step_1 : decode cX4_step 1 = .ok (.iload_n 1, 1) := by decide +kernel
theorem dX4_step_2 : decode cX4_step 2 = .ok (.invokevirtual 94, 3) := by decide +kernel
theorem dX4_step_5 : decode cX4_step 5 = .ok (.istore_n 3, 1) := by decide +kernel
theorem dX4_step_6 : decode cX4_step 6 = .ok (.aload_n 0, 1) := by decide +kernel
theorem dX4_step_7 : decode cX4_step 7 = .ok (.iload_n 3, 1) := by decide +kernel
theorem dX4_step_8 : decode cX4_step 8 = .ok (.ifCond .ne 7, 3) := by decide +kernel
theorem dX4_step_11 : decode cX4_step 11 = .ok (.iconst 1, 1) := by decide +kernel
theorem dX4_step_12 : decode cX4_step 12 = .ok (.goto 21, 3) := by decide +kernel
theorem dX4_step_15 : decode cX4_step 15 = .ok (.aload_n 0, 1) := by decide +kernel
theorem dX4_step_16 : decode cX4_step 16 = .ok (.getfield 26, 3) := by decide +kernel
theorem dX4_step_19 : decode cX4_step 19 = .ok (.iload_n 1, 1) := by decide +kernel
theorem dX4_step_20 : decode cX4_step 20 = .ok (.iaload, 1) := by decide +kernel
theorem dX4_step_21 : decode cX4_step 21 = .ok (.iload_n 2, 1) := by decide +kernel
theorem dX4_step_22 : decode cX4_step 22 = .ok (.invokestatic 86, 3) := by decide +kernel
theorem dX4_step_25 : decode cX4_step 25 = .ok (.ifCond .eq 7, 3) := by decide +kernel
theorem dX4_step_28 : decode cX4_step 28 = .ok (.iconst 0, 1) := by decide +kernel
theorem dX4_step_29 : decode cX4_step 29 = .ok (.goto 4, 3) := by decide +kernel
theorem dX4_step_32 : decode cX4_step 32 = .ok (.iconst 2, 1) := by decide +kernel
theorem dX4_step_33 : decode cX4_step 33 = .ok (.invokevirtual 82, 3) := by decide +kernel
theorem dX4_step_36 : decode cX4_step 36 = .ok (.ifCond .ne 5, 3) := by decide +kernel
theorem dX4_step_39 : decode cX4_step 39 = .ok (.iconst 0, 1) := by decide +kernel
theorem dX4_step_40 : decode cX4_step 40 = .ok (.ireturn, 1) := by decide +kernel
theorem dX4_step_41 : decode cX4_step 41 = .ok (.aload_n 0, 1) := by decide +kernel
theorem dX4_step_42 : decode cX4_step 42 = .ok (.getfield 32, 3) := by decide +kernel
theorem dX4_step_45 : decode cX4_step 45 = .ok (.iload_n 1, 1) := by decide +kernel
theorem dX4_step_46 : decode cX4_step 46 = .ok (.iaload, 1) := by decide +kernel
theorem dX4_step_47 : decode cX4_step 47 = .ok (.istore 4, 2) := by decide +kernel
theorem dX4_step_49 : decode cX4_step 49 = .ok (.aload_n 0, 1) := by decide +kernel
theorem dX4_step_50 : decode cX4_step 50 = .ok (.getfield 32, 3) := by decide +kernel
theorem dX4_step_53 : decode cX4_step 53 = .ok (.iload_n 1, 1) := by decide +kernel
theorem dX4_step_54 : decode cX4_step 54 = .ok (.iload_n 2, 1) := by decide +kernel
theorem dX4_step_55 : decode cX4_step 55 = .ok (.iastore, 1) := by decide +kernel
theorem dX4_step_56 : decode cX4_step 56 = .ok (.iload 4, 2) := by decide +kernel
theorem dX4_step_58 : decode cX4_step 58 = .ok (.ireturn, 1) := by decide +kernel
set_option maxRecDepth 20000 in
theorem ggX4_watch_X4_isFilter : GoodIn wsX4_watch wsX4_isFilter := goodIn_r _ [7, 8, 9, 10, 6, 11, 17, 18, 19, 20, 21, 22, 23, 24, 25, 26, 27, 28, 29, 30, 31, 32, 33, 34, 35, 36, 37, 38, 39, 40] (by decide +kernel) (by decide +kernel)
set_option maxRecDepth 20000 in
theorem gX4_watch_X4_isFilter : GoodIn wsX4_watch (wsV RX4 94 RX4 yX4_isFilter wsX4_isFilter) := goodIn_app (goodIn_of _ (by decide +kernel)) ggX4_watch_X4_isFilter
set_option maxRecDepth 20000 in
theorem ggX4_watch_X4_in : GoodIn wsX4_watch wsX4_in := goodIn_r _ [11] (by decide +kernel) (by decide +kernel)
set_option maxRecDepth 20000 in
theorem gX4_watch_X4_in : GoodIn wsX4_watch (va_wsS RX4 78 yX4_in wsX4_in) := goodIn_app (goodIn_of _ (by decide +kernel)) ggX4_watch_X4_in
set_option maxRecDepth 20000 in
theorem ggX4_watch_X4_goesWell : GoodIn wsX4_watch wsX4_goesWell := goodIn_r _ [15, 16, 17, 18, 19, 20, 21, 22, 23, 24, 25, 26, 27, 28, 29, 30, 31, 32, 33, 34, 35, 36, 37, 38, 39, 40] (by decide +kernel) (by decide +kernel)
set_option maxRecDepth 20000 in
theorem gX4_watch_X4_goesWell : GoodIn wsX4_watch (wsV RX4 82 RX4 yX4_goesWell wsX4_goesWell) := goodIn_app (goodIn_of _ (by decide +kernel)) ggX4_watch_X4_goesWell
theorem dX4_watch_0 : decode cX4_watch 0 = .ok (.aload_n 0, 1) := by decide +kernel
theorem dX4_watch_1 : decode cX4_watch 1 = .ok (.iload_n 1, 1) := by decide +kernel
theorem dX4_watch_2 : decode cX4_watch 2 = .ok (.invokevirtual 94, 3) := by decide +kernel
theorem dX4_watch_5 : decode cX4_watch 5 = .ok (.istore 4, 2) := by decide +kernel
theorem dX4_watch_7 : decode cX4_watch 7 = .ok (.aload_n 0, 1) := by decide +kernel
theorem dX4_watch_8 : decode cX4_watch 8 = .ok (.iload 4, 2) := by decide +kernel
theorem dX4_watch_10 : decode cX4_watch 10 = .ok (.ifCond .ne 7, 3) := by decide +kernel
theorem dX4_watch_13 : decode cX4_watch 13 = .ok (.iconst 1, 1) := by decide +kernel
theorem dX4_watch_14 : decode cX4_watch 14 = .ok (.goto 29, 3) := by decide +kernel
theorem dX4_watch_17 : decode cX4_watch 17 = .ok (.iload_n 2, 1) := by decide +kernel
theorem dX4_watch_18 : decode cX4_watch 18 = .ok (.iconst 0, 1) := by decide +kernel
theorem dX4_watch_19 : decode cX4_watch 19 = .ok (.sipush 1000, 3) := by decide +kernel
theorem dX4_watch_22 : decode cX4_watch 22 = .ok (.invokestatic 78, 3) := by decide +kernel
theorem dX4_watch_25 : decode cX4_watch 25 = .ok (.ifCond .eq 17, 3) := by decide +kernel
theorem dX4_watch_28 : decode cX4_watch 28 = .ok (.iload_n 3, 1) := by decide +kernel
theorem dX4_watch_29 : decode cX4_watch 29 = .ok (.iconst 0, 1) := by decide +kernel
theorem dX4_watch_30 : decode cX4_watch 30 = .ok (.bipush 20, 2) := by decide +kernel
theorem dX4_watch_32 : decode cX4_watch 32 = .ok (.invokestatic 78, 3) := by decide +kernel
theorem dX4_watch_35 : decode cX4_watch 35 = .ok (.ifCond .eq 7, 3) := by decide +kernel
theorem dX4_watch_38 : decode cX4_watch 38 = .ok (.iconst 0, 1) := by decide +kernel
theorem dX4_watch_39 : decode cX4_watch 39 = .ok (.goto 4, 3) := by decide +kernel
theorem dX4_watch_42 : decode cX4_watch 42 = .ok (.iconst 2, 1) := by decide +kernel
theorem dX4_watch_43 : decode cX4_watch 43 = .ok (.invokevirtual 82, 3) := by decide +kernel
theorem dX4_watch_46 : decode cX4_watch 46 = .ok (.ifCond .eq 17, 3) := by decide +kernel
theorem dX4_watch_49 : decode cX4_watch 49 = .ok (.aload_n 0, 1) := by decide +kernel
theorem dX4_watch_50 : decode cX4_watch 50 = .ok (.getfield 35, 3) := by decide +kernel
theorem dX4_watch_53 : decode cX4_watch 53 = .ok (.iload_n 1, 1) := by decide +kernel
theorem dX4_watch_54 : decode cX4_watch 54 = .ok (.iload_n 2, 1) := by decide +kernel
theorem dX4_watch_55 : decode cX4_watch 55 = .ok (.iastore, 1) := by decide +kernel
theorem dX4_watch_56 : decode cX4_watch 56 = .ok (.aload_n 0, 1) := by decide +kernel
theorem dX4_watch_57 : decode cX4_watch 57 = .ok (.getfield 38, 3) := by decide +kernel
theorem dX4_watch_60 : decode cX4_watch 60 = .ok (.iload_n 1, 1) := by decide +kernel
theorem dX4_watch_61 : decode cX4_watch 61 = .ok (.iload_n 3, 1) := by decide +kernel
theorem dX4_watch_62 : decode cX4_watch 62 = .ok (.iastore, 1) := by decide +kernel
theorem dX4_watch_63 : decode cX4_watch 63 = .ok (.return_, 1) := by decide +kernel
theorem dX4_reset_0 : decode cX4_reset 0 = .ok (.iconst 0, 1) := by decide +kernel
theorem dX4_reset_1 : decode cX4_reset 1 = .ok (.istore_n 2, 1) := by decide +kernel
theorem dX4_reset_2 : decode cX4_reset 2 = .ok (.iload_n 2, 1) := by decide +kernel
theorem dX4_reset_3 : decode cX4_reset 3 = .ok (.iconst 4, 1) := by decide +kernel
theorem dX4_reset_4 : decode cX4_reset 4 = .ok (.if_icmp .ge 49, 3) := by decide +kernel
theorem dX4_reset_7 : decode cX4_reset 7 = .ok (.iconst 0, 1) := by decide +kernel
theorem dX4_reset_8 : decode cX4_reset 8 = .ok (.istore_n 3, 1) := by decide +kernel
theorem dX4_reset_9 : decode cX4_reset 9 = .ok (.iload_n 3, 1) := by decide +kernel
theorem dX4_reset_10 : decode cX4_reset 10 = .ok (.iconst 4, 1) := by decide +kernel
theorem dX4_reset_11 : decode cX4_reset 11 = .ok (.if_icmp .ge 36, 3) := by decide +kernel
theorem dX4_reset_14 : decode cX4_reset 14 = .ok (.aload_n 0, 1) := by decide +kernel
theorem dX4_reset_15 : decode cX4_reset 15 = .ok (.getfield 65, 3) := by decide +kernel
theorem dX4_reset_18 : decode cX4_reset 18 = .ok (.bipush 16, 2) := by decide +kernel
theorem dX4_reset_20 : decode cX4_reset 20 = .ok (.iload_n 1, 1) := by decide +kernel
theorem dX4_reset_21 : decode cX4_reset 21 = .ok (.imul, 1) := by decide +kernel
theorem dX4_reset_22 : decode cX4_reset 22 = .ok (.iconst 4, 1) := by decide +kernel
theorem dX4_reset_23 : decode cX4_reset 23 = .ok (.iload_n 2, 1) := by decide +kernel
theorem dX4_reset_24 : decode cX4_reset 24 = .ok (.imul, 1) := by decide +kernel
theorem dX4_reset_25 : decode cX4_reset 25 = .ok (.iadd, 1) := by decide +kernel
theorem dX4_reset_26 : decode cX4_reset 26 = .ok (.iload_n 3, 1) := by decide +kernel
theorem dX4_reset_27 : decode cX4_reset 27 = .ok (.iadd, 1) := by decide +kernel
theorem dX4_reset_28 : decode cX4_reset 28 = .ok (.iload_n 2, 1) := by decide +kernel
theorem dX4_reset_29 : decode cX4_reset 29 = .ok (.iload_n 3, 1) := by decide +kernel
theorem dX4_reset_30 : decode cX4_reset 30 = .ok (.if_icmp .ne 9, 3) := by decide +kernel
theorem dX4_reset_33 : decode cX4_reset 33 = .ok (.ldc2_w 97, 3) := by decide +kernel
theorem dX4_reset_36 : decode cX4_reset 36 = .ok (.goto 4, 3) := by decide +kernel
theorem dX4_reset_39 : decode cX4_reset 39 = .ok (.dconst 0, 1) := by decide +kernel
theorem dX4_reset_40 : decode cX4_reset 40 = .ok (.dastore, 1) := by decide +kernel
theorem dX4_reset_41 : decode cX4_reset 41 = .ok (.iinc 3 1, 3) := by decide +kernel
theorem dX4_reset_44 : decode cX4_reset 44 = .ok (.goto (-35), 3) := by decide +kernel
theorem dX4_reset_47 : decode cX4_reset 47 = .ok (.iinc 2 1, 3) := by decide +kernel
theorem dX4_reset_50 : decode cX4_reset 50 = .ok (.goto (-48), 3) := by decide +kernel
theorem dX4_reset_53 : decode cX4_reset 53 = .ok (.return_, 1) := by decide +kernel
set_option maxRecDepth 20000 in
theorem ggX4_begin_X4_isFilter : GoodIn wsX4_begin wsX4_isFilter := goodIn_r _ [12, 13, 14, 15, 11, 16, 28, 29, 30, 31, 32, 33, 34, 35, 36, 37, 38, 39, 40, 41, 42, 43, 44, 45, 46, 47, 48, 49, 50, 51] (by decide +kernel) (by decide +kernel)
set_option maxRecDepth 20000 in
theorem gX4_begin_X4_isFilter : GoodIn wsX4_begin (wsV RX4 94 RX4 yX4_isFilter wsX4_isFilter) := goodIn_app (goodIn_of _ (by decide +kernel)) ggX4_begin_X4_isFilter
set_option maxRecDepth 20000 in
theorem ggX4_begin_X4_goesWell : GoodIn wsX4_begin wsX4_goesWell := goodIn_r _ [20, 21, 28, 29, 30, 31, 32, 33, 34, 35, 36, 37, 38, 39, 40, 41, 42, 43, 44, 45, 46, 47, 48, 49, 50, 51] (by decide +kernel) (by decide +kernel)
set_option maxRecDepth 20000 in
theorem gX4_begin_X4_goesWell : GoodIn wsX4_begin (wsV RX4 82 RX4 yX4_goesWell wsX4_goesWell) := goodIn_app (goodIn_of _ (by decide +kernel)) ggX4_begin_X4_goesWell
set_option maxRecDepth 20000 in
theorem ggX4_begin_X4_reset : GoodIn wsX4_begin wsX4_reset := goodIn_r _ [25, 26, 27, 28, 29, 30, 31, 32, 33, 34, 35, 36, 37, 38, 39, 40, 41, 42, 43, 44, 45, 46, 47, 48, 49, 50, 51] (by decide +kernel) (by decide +kernel)
set_option maxRecDepth 20000 in
theorem gX4_begin_X4_reset : GoodIn wsX4_begin (wsV RX4 90 RX4 yX4_reset wsX4_reset) := goodIn_app (goodIn_of _ (by decide +kernel)) ggX4_begin_X4_reset
theorem dX4_begin_0 : decode cX4_begin 0 = .ok (.aload_n 0, 1) := by decide +kernel
theorem dX4_begin_1 : decode cX4_begin 1 = .ok (.aload_n 0, 1) := by decide +kernel
theorem dX4_begin_2 : decode cX4_begin 2 = .ok (.iload_n 1, 1) := by decide +kernel
theorem dX4_begin_3 : decode cX4_begin 3 = .ok (.invokevirtual 94, 3) := by decide +kernel
theorem dX4_begin_6 : decode cX4_begin 6 = .ok (.ifCond .eq 7, 3) := by decide +kernel
theorem dX4_begin_9 : decode cX4_begin 9 = .ok (.iconst 0, 1) := by decide +kernel
theorem dX4_begin_10 : decode cX4_begin 10 = .ok (.goto 4, 3) := by decide +kernel
theorem dX4_begin_13 : decode cX4_begin 13 = .ok (.iconst 1, 1) := by decide +kernel
theorem dX4_begin_14 : decode cX4_begin 14 = .ok (.invokevirtual 82, 3) := by decide +kernel
theorem dX4_begin_17 : decode cX4_begin 17 = .ok (.ifCond .ne 4, 3) := by decide +kernel
theorem dX4_begin_20 : decode cX4_begin 20 = .ok (.return_, 1) := by decide +kernel
theorem dX4_begin_21 : decode cX4_begin 21 = .ok (.iconst 0, 1) := by decide +kernel
theorem dX4_begin_22 : decode cX4_begin 22 = .ok (.istore_n 2, 1) := by decide +kernel
theorem dX4_begin_23 : decode cX4_begin 23 = .ok (.iload_n 2, 1) := by decide +kernel
theorem dX4_begin_24 : decode cX4_begin 24 = .ok (.bipush 8, 2) := by decide +kernel
theorem dX4_begin_26 : decode cX4_begin 26 = .ok (.if_icmp .ge 21, 3) := by decide +kernel
theorem dX4_begin_29 : decode cX4_begin 29 = .ok (.aload_n 0, 1) := by decide +kernel
theorem dX4_begin_30 : decode cX4_begin 30 = .ok (.getfield 53, 3) := by decide +kernel
theorem dX4_begin_33 : decode cX4_begin 33 = .ok (.bipush 8, 2) := by decide +kernel
theorem dX4_begin_35 : decode cX4_begin 35 = .ok (.iload_n 1, 1) := by decide +kernel
theorem dX4_begin_36 : decode cX4_begin 36 = .ok (.imul, 1) := by decide +kernel
theorem dX4_begin_37 : decode cX4_begin 37 = .ok (.iload_n 2, 1) := by decide +kernel
theorem dX4_begin_38 : decode cX4_begin 38 = .ok (.iadd, 1) := by decide +kernel
theorem dX4_begin_39 : decode cX4_begin 39 = .ok (.dconst 0, 1) := by decide +kernel
theorem dX4_begin_40 : decode cX4_begin 40 = .ok (.dastore, 1) := by decide +kernel
theorem dX4_begin_41 : decode cX4_begin 41 = .ok (.iinc 2 1, 3) := by decide +kernel
theorem dX4_begin_44 : decode cX4_begin 44 = .ok (.goto (-21), 3) := by decide +kernel
theorem dX4_begin_47 : decode cX4_begin 47 = .ok (.aload_n 0, 1) := by decide +kernel
theorem dX4_begin_48 : decode cX4_begin 48 = .ok (.iload_n 1, 1) := by decide +kernel
theorem dX4_begin_49 : decode cX4_begin 49 = .ok (.invokevirtual 90, 3) := by decide +kernel
theorem dX4_begin_52 : decode cX4_begin 52 = .ok (.aload_n 0, 1) := by decide +kernel
theorem dX4_begin_53 : decode cX4_begin 53 = .ok (.getfield 41, 3) := by decide +kernel
theorem dX4_begin_56 : decode cX4_begin 56 = .ok (.iload_n 1, 1) := by decide +kernel
theorem dX4_begin_57 : decode cX4_begin 57 = .ok (.iconst 0, 1) := by decide +kernel
theorem dX4_begin_58 : decode cX4_begin 58 = .ok (.iastore, 1) := by decide +kernel
theorem dX4_begin_59 : decode cX4_begin 59 = .ok (.aload_n 0, 1) := by decide +kernel
theorem dX4_begin_60 : decode cX4_begin 60 = .ok (.getfield 44, 3) := by decide +kernel
theorem dX4_begin_63 : decode cX4_begin 63 = .ok (.iload_n 1, 1) := by decide +kernel
theorem dX4_begin_64 : decode cX4_begin 64 = .ok (.iconst 0, 1) := by decide +kernel
theorem dX4_begin_65 : decode cX4_begin 65 = .ok (.iastore, 1) := by decide +kernel
theorem dX4_begin_66 : decode cX4_begin 66 = .ok (.aload_n 0, 1) := by decide +kernel
theorem dX4_begin_67 : decode cX4_begin 67 = .ok (.getfield 47, 3) := by decide +kernel
theorem dX4_begin_70 : decode cX4_begin 70 = .ok (.iload_n 1, 1) := by decide +kernel
theorem dX4_begin_71 : decode cX4_begin 71 = .ok (.iconst 0, 1) := by decide +kernel
theorem dX4_begin_72 : decode cX4_begin 72 = .ok (.iastore, 1) := by decide +kernel
theorem dX4_begin_73 : decode cX4_begin 73 = .ok (.aload_n 0, 1) := by decide +kernel
theorem dX4_begin_74 : decode cX4_begin 74 = .ok (.getfield 50, 3) := by decide +kernel
theorem dX4_begin_77 : decode cX4_begin 77 = .ok (.iload_n 1, 1) := by decide +kernel
theorem dX4_begin_78 : decode cX4_begin 78 = .ok (.iconst 0, 1) := by decide +kernel
theorem dX4_begin_79 : decode cX4_begin 79 = .ok (.iastore, 1) := by decide +kernel
theorem dX4_begin_80 : decode cX4_begin 80 = .ok (.aload_n 0, 1) := by decide +kernel
theorem dX4_begin_81 : decode cX4_begin 81 = .ok (.getfield 56, 3) := by decide +kernel
theorem dX4_begin_84 : decode cX4_begin 84 = .ok (.iload_n 1, 1) := by decide +kernel
theorem dX4_begin_85 : decode cX4_begin 85 = .ok (.dconst 0, 1) := by decide +kernel
theorem dX4_begin_86 : decode cX4_begin 86 = .ok (.dastore, 1) := by decide +kernel
theorem dX4_begin_87 : decode cX4_begin 87 = .ok (.aload_n 0, 1) := by decide +kernel
theorem dX4_begin_88 : decode cX4_begin 88 = .ok (.getfield 59, 3) := by decide +kernel
theorem dX4_begin_91 : decode cX4_begin 91 = .ok (.iload_n 1, 1) := by decide +kernel
theorem dX4_begin_92 : decode cX4_begin 92 = .ok (.dconst 0, 1) := by decide +kernel
theorem dX4_begin_93 : decode cX4_begin 93 = .ok (.dastore, 1) := by decide +kernel
theorem dX4_begin_94 : decode cX4_begin 94 = .ok (.return_, 1) := by decide +kernel
theorem dX4_learn_0 : decode cX4_learn 0 = .ok (.aload_n 0, 1) := by decide +kernel
theorem dX4_learn_1 : decode cX4_learn 1 = .ok (.getfield 53, 3) := by decide +kernel
theorem dX4_learn_4 : decode cX4_learn 4 = .ok (.bipush 8, 2) := by decide +kernel
theorem dX4_learn_6 : decode cX4_learn 6 = .ok (.iload_n 1, 1) := by decide +kernel
theorem dX4_learn_7 : decode cX4_learn 7 = .ok (.imul, 1) := by decide +kernel
theorem dX4_learn_8 : decode cX4_learn 8 = .ok (.iload_n 2, 1) := by decide +kernel
theorem dX4_learn_9 : decode cX4_learn 9 = .ok (.iadd, 1) := by decide +kernel
theorem dX4_learn_10 : decode cX4_learn 10 = .ok (.daload, 1) := by decide +kernel
theorem dX4_learn_11 : decode cX4_learn 11 = .ok (.dload_n 3, 1) := by decide +kernel
theorem dX4_learn_12 : decode cX4_learn 12 = .ok (.dadd, 1) := by decide +kernel
theorem dX4_learn_13 : decode cX4_learn 13 = .ok (.dstore 5, 2) := by decide +kernel
theorem dX4_learn_15 : decode cX4_learn 15 = .ok (.aload_n 0, 1) := by decide +kernel
theorem dX4_learn_16 : decode cX4_learn 16 = .ok (.getfield 53, 3) := by decide +kernel
theorem dX4_learn_19 : decode cX4_learn 19 = .ok (.bipush 8, 2) := by decide +kernel
theorem dX4_learn_21 : decode cX4_learn 21 = .ok (.iload_n 1, 1) := by decide +kernel
theorem dX4_learn_22 : decode cX4_learn 22 = .ok (.imul, 1) := by decide +kernel
theorem dX4_learn_23 : decode cX4_learn 23 = .ok (.iload_n 2, 1) := by decide +kernel
theorem dX4_learn_24 : decode cX4_learn 24 = .ok (.iadd, 1) := by decide +kernel
theorem dX4_learn_25 : decode cX4_learn 25 = .ok (.dload 5, 2) := by decide +kernel
theorem dX4_learn_27 : decode cX4_learn 27 = .ok (.ldc2_w 99, 3) := by decide +kernel
theorem dX4_learn_30 : decode cX4_learn 30 = .ok (.dcmp .l, 1) := by decide +kernel
theorem dX4_learn_31 : decode cX4_learn 31 = .ok (.ifCond .le 9, 3) := by decide +kernel
theorem dX4_learn_34 : decode cX4_learn 34 = .ok (.ldc2_w 99, 3) := by decide +kernel
theorem dX4_learn_37 : decode cX4_learn 37 = .ok (.goto 20, 3) := by decide +kernel
theorem dX4_learn_40 : decode cX4_learn 40 = .ok (.dload 5, 2) := by decide +kernel
theorem dX4_learn_42 : decode cX4_learn 42 = .ok (.ldc2_w 101, 3) := by decide +kernel
theorem dX4_learn_45 : decode cX4_learn 45 = .ok (.dcmp .g, 1) := by decide +kernel
theorem dX4_learn_46 : decode cX4_learn 46 = .ok (.ifCond .ge 9, 3) := by decide +kernel
theorem dX4_learn_49 : decode cX4_learn 49 = .ok (.ldc2_w 101, 3) := by decide +kernel
theorem dX4_learn_52 : decode cX4_learn 52 = .ok (.goto 5, 3) := by decide +kernel
theorem dX4_learn_55 : decode cX4_learn 55 = .ok (.dload 5, 2) := by decide +kernel
theorem dX4_learn_57 : decode cX4_learn 57 = .ok (.dastore, 1) := by decide +kernel
theorem dX4_learn_58 : decode cX4_learn 58 = .ok (.return_, 1) := by decide +kernel
set_option maxRecDepth 20000 in
theorem ggX4_learnRecursively_X4_reset : GoodIn wsX4_learnRecursively wsX4_reset := goodIn_r _ [15, 5, 16, 24, 25, 26, 27, 28, 29, 30, 31, 32, 33, 34, 35, 36, 37, 38, 39, 40, 41, 42, 43, 44, 45, 46, 47] (by decide +kernel) (by decide +kernel)
set_option maxRecDepth 20000 in
theorem gX4_learnRecursively_X4_reset : GoodIn wsX4_learnRecursively (wsV RX4 90 RX4 yX4_reset wsX4_reset) := goodIn_app (goodIn_of _ (by decide +kernel)) ggX4_learnRecursively_X4_reset
set_option maxRecDepth 20000 in
theorem ggX4_learnRecursively_X4_learn : GoodIn wsX4_learnRecursively wsX4_learn := goodIn_r _ [20, 21, 22, 23, 24, 25, 26, 27, 28, 29, 30, 31, 32, 33, 34, 35, 36, 37, 38, 39, 40, 41, 42, 43, 44, 45, 46, 47] (by decide +kernel) (by decide +kernel)
set_option maxRecDepth 20000 in
theorem gX4_learnRecursively_X4_learn : GoodIn wsX4_learnRecursively (wsV RX4 107 RX4 yX4_learn wsX4_learn) := goodIn_app (goodIn_of _ (by decide +kernel)) ggX4_learnRecursively_X4_learn
theorem dX4_learnRecursively_0 : decode cX4_learnRecursively 0 = .ok (.aload_n 0, 1) := by decide +kernel
theorem dX4_learnRecursively_1 : decode cX4_learnRecursively 1 = .ok (.getfield 29, 3) := by decide +kernel
theorem dX4_learnRecursively_4 : decode cX4_learnRecursively 4 = .ok (.iload_n 1, 1) := by decide +kernel
theorem dX4_learnRecursively_5 : decode cX4_learnRecursively 5 = .ok (.iaload, 1) := by decide +kernel
theorem dX4_learnRecursively_6 : decode cX4_learnRecursively 6 = .ok (.istore_n 2, 1) := by decide +kernel
theorem dX4_learnRecursively_7 : decode cX4_learnRecursively 7 = .ok (.aload_n 0, 1) := by decide +kernel
theorem dX4_learnRecursively_8 : decode cX4_learnRecursively 8 = .ok (.getfield 32, 3) := by decide +kernel
theorem dX4_learnRecursively_11 : decode cX4_learnRecursively 11 = .ok (.iload_n 1, 1) := by decide +kernel
theorem dX4_learnRecursively_12 : decode cX4_learnRecursively 12 = .ok (.iaload, 1) := by decide +kernel
theorem dX4_learnRecursively_13 : decode cX4_learnRecursively 13 = .ok (.i2d, 1) := by decide +kernel
theorem dX4_learnRecursively_14 : decode cX4_learnRecursively 14 = .ok (.ldc2_w 103, 3) := by decide +kernel
theorem dX4_learnRecursively_17 : decode cX4_learnRecursively 17 = .ok (.ddiv, 1) := by decide +kernel
theorem dX4_learnRecursively_18 : decode cX4_learnRecursively 18 = .ok (.dstore_n 3, 1) := by decide +kernel
theorem dX4_learnRecursively_19 : decode cX4_learnRecursively 19 = .ok (.dload_n 3, 1) := by decide +kernel
theorem dX4_learnRecursively_20 : decode cX4_learnRecursively 20 = .ok (.dstore 5, 2) := by decide +kernel
theorem dX4_learnRecursively_22 : decode cX4_learnRecursively 22 = .ok (.iconst 0, 1) := by decide +kernel
theorem dX4_learnRecursively_23 : decode cX4_learnRecursively 23 = .ok (.istore 7, 2) := by decide +kernel
theorem dX4_learnRecursively_25 : decode cX4_learnRecursively 25 = .ok (.iload 7, 2) := by decide +kernel
theorem dX4_learnRecursively_27 : decode cX4_learnRecursively 27 = .ok (.iload_n 2, 1) := by decide +kernel
theorem dX4_learnRecursively_28 : decode cX4_learnRecursively 28 = .ok (.if_icmp .ge 68, 3) := by decide +kernel
theorem dX4_learnRecursively_31 : decode cX4_learnRecursively 31 = .ok (.aload_n 0, 1) := by decide +kernel
theorem dX4_learnRecursively_32 : decode cX4_learnRecursively 32 = .ok (.getfield 68, 3) := by decide +kernel
theorem dX4_learnRecursively_35 : decode cX4_learnRecursively 35 = .ok (.iload 7, 2) := by decide +kernel
theorem dX4_learnRecursively_37 : decode cX4_learnRecursively 37 = .ok (.dconst 0, 1) := by decide +kernel
theorem dX4_learnRecursively_38 : decode cX4_learnRecursively 38 = .ok (.dastore, 1) := by decide +kernel
theorem dX4_learnRecursively_39 : decode cX4_learnRecursively 39 = .ok (.iconst 0, 1) := by decide +kernel
theorem dX4_learnRecursively_40 : decode cX4_learnRecursively 40 = .ok (.istore 8, 2) := by decide +kernel
theorem dX4_learnRecursively_42 : decode cX4_learnRecursively 42 = .ok (.iload 8, 2) := by decide +kernel
theorem dX4_learnRecursively_44 : decode cX4_learnRecursively 44 = .ok (.iload_n 2, 1) := by decide +kernel
theorem dX4_learnRecursively_45 : decode cX4_learnRecursively 45 = .ok (.if_icmp .ge 45, 3) := by decide +kernel
theorem dX4_learnRecursively_48 : decode cX4_learnRecursively 48 = .ok (.aload_n 0, 1) := by decide +kernel
theorem dX4_learnRecursively_49 : decode cX4_learnRecursively 49 = .ok (.getfield 68, 3) := by decide +kernel
theorem dX4_learnRecursively_52 : decode cX4_learnRecursively 52 = .ok (.iload 7, 2) := by decide +kernel
theorem dX4_learnRecursively_54 : decode cX4_learnRecursively 54 = .ok (.dup2, 1) := by decide +kernel
theorem dX4_learnRecursively_55 : decode cX4_learnRecursively 55 = .ok (.daload, 1) := by decide +kernel
theorem dX4_learnRecursively_56 : decode cX4_learnRecursively 56 = .ok (.aload_n 0, 1) := by decide +kernel
theorem dX4_learnRecursively_57 : decode cX4_learnRecursively 57 = .ok (.getfield 65, 3) := by decide +kernel
theorem dX4_learnRecursively_60 : decode cX4_learnRecursively 60 = .ok (.bipush 16, 2) := by decide +kernel
theorem dX4_learnRecursively_62 : decode cX4_learnRecursively 62 = .ok (.iload_n 1, 1) := by decide +kernel
theorem dX4_learnRecursively_63 : decode cX4_learnRecursively 63 = .ok (.imul, 1) := by decide +kernel
theorem dX4_learnRecursively_64 : decode cX4_learnRecursively 64 = .ok (.iconst 4, 1) := by decide +kernel
theorem dX4_learnRecursively_65 : decode cX4_learnRecursively 65 = .ok (.iload 7, 2) := by decide +kernel
theorem dX4_learnRecursively_67 : decode cX4_learnRecursively 67 = .ok (.imul, 1) := by decide +kernel
theorem dX4_learnRecursively_68 : decode cX4_learnRecursively 68 = .ok (.iadd, 1) := by decide +kernel
theorem dX4_learnRecursively_69 : decode cX4_learnRecursively 69 = .ok (.iload 8, 2) := by decide +kernel
theorem dX4_learnRecursively_71 : decode cX4_learnRecursively 71 = .ok (.iadd, 1) := by decide +kernel
theorem dX4_learnRecursively_72 : decode cX4_learnRecursively 72 = .ok (.daload, 1) := by decide +kernel
theorem dX4_learnRecursively_73 : decode cX4_learnRecursively 73 = .ok (.aload_n 0, 1) := by decide +kernel
theorem dX4_learnRecursively_74 : decode cX4_learnRecursively 74 = .ok (.getfield 13, 3) := by decide +kernel
theorem dX4_learnRecursively_77 : decode cX4_learnRecursively 77 = .ok (.iload 8, 2) := by decide +kernel
theorem dX4_learnRecursively_79 : decode cX4_learnRecursively 79 = .ok (.iaload, 1) := by decide +kernel
theorem dX4_learnRecursively_80 : decode cX4_learnRecursively 80 = .ok (.i2d, 1) := by decide +kernel
theorem dX4_learnRecursively_81 : decode cX4_learnRecursively 81 = .ok (.dmul, 1) := by decide +kernel
theorem dX4_learnRecursively_82 : decode cX4_learnRecursively 82 = .ok (.dadd, 1) := by decide +kernel
theorem dX4_learnRecursively_83 : decode cX4_learnRecursively 83 = .ok (.dastore, 1) := by decide +kernel
theorem dX4_learnRecursively_84 : decode cX4_learnRecursively 84 = .ok (.iinc 8 1, 3) := by decide +kernel
theorem dX4_learnRecursively_87 : decode cX4_learnRecursively 87 = .ok (.goto (-45), 3) := by decide +kernel
theorem dX4_learnRecursively_90 : decode cX4_learnRecursively 90 = .ok (.iinc 7 1, 3) := by decide +kernel
theorem dX4_learnRecursively_93 : decode cX4_learnRecursively 93 = .ok (.goto (-68), 3) := by decide +kernel
theorem dX4_learnRecursively_96 : decode cX4_learnRecursively 96 = .ok (.iconst 0, 1) := by decide +kernel
theorem dX4_learnRecursively_97 : decode cX4_learnRecursively 97 = .ok (.istore 7, 2) := by decide +kernel
theorem dX4_learnRecursively_99 : decode cX4_learnRecursively 99 = .ok (.iload 7, 2) := by decide +kernel
theorem dX4_learnRecursively_101 : decode cX4_learnRecursively 101 = .ok (.iload_n 2, 1) := by decide +kernel
theorem dX4_learnRecursively_102 : decode cX4_learnRecursively 102 = .ok (.if_icmp .ge 30, 3) := by decide +kernel
theorem dX4_learnRecursively_105 : decode cX4_learnRecursively 105 = .ok (.dload 5, 2) := by decide +kernel
theorem dX4_learnRecursively_107 : decode cX4_learnRecursively 107 = .ok (.aload_n 0, 1) := by decide +kernel
theorem dX4_learnRecursively_108 : decode cX4_learnRecursively 108 = .ok (.getfield 13, 3) := by decide +kernel
theorem dX4_learnRecursively_111 : decode cX4_learnRecursively 111 = .ok (.iload 7, 2) := by decide +kernel
theorem dX4_learnRecursively_113 : decode cX4_learnRecursively 113 = .ok (.iaload, 1) := by decide +kernel
theorem dX4_learnRecursively_114 : decode cX4_learnRecursively 114 = .ok (.i2d, 1) := by decide +kernel
theorem dX4_learnRecursively_115 : decode cX4_learnRecursively 115 = .ok (.aload_n 0, 1) := by decide +kernel
theorem dX4_learnRecursively_116 : decode cX4_learnRecursively 116 = .ok (.getfield 68, 3) := by decide +kernel
theorem dX4_learnRecursively_119 : decode cX4_learnRecursively 119 = .ok (.iload 7, 2) := by decide +kernel
theorem dX4_learnRecursively_121 : decode cX4_learnRecursively 121 = .ok (.daload, 1) := by decide +kernel
theorem dX4_learnRecursively_122 : decode cX4_learnRecursively 122 = .ok (.dmul, 1) := by decide +kernel
theorem dX4_learnRecursively_123 : decode cX4_learnRecursively 123 = .ok (.dadd, 1) := by decide +kernel
theorem dX4_learnRecursively_124 : decode cX4_learnRecursively 124 = .ok (.dstore 5, 2) := by decide +kernel
theorem dX4_learnRecursively_126 : decode cX4_learnRecursively 126 = .ok (.iinc 7 1, 3) := by decide +kernel
theorem dX4_learnRecursively_129 : decode cX4_learnRecursively 129 = .ok (.goto (-30), 3) := by decide +kernel
theorem dX4_learnRecursively_132 : decode cX4_learnRecursively 132 = .ok (.dload 5, 2) := by decide +kernel
theorem dX4_learnRecursively_134 : decode cX4_learnRecursively 134 = .ok (.ldc2_w 105, 3) := by decide +kernel
theorem dX4_learnRecursively_137 : decode cX4_learnRecursively 137 = .ok (.dcmp .g, 1) := by decide +kernel
theorem dX4_learnRecursively_138 : decode cX4_learnRecursively 138 = .ok (.ifCond .ge 19, 3) := by decide +kernel
theorem dX4_learnRecursively_141 : decode cX4_learnRecursively 141 = .ok (.aload_n 0, 1) := by decide +kernel
theorem dX4_learnRecursively_142 : decode cX4_learnRecursively 142 = .ok (.iload_n 1, 1) := by decide +kernel
theorem dX4_learnRecursively_143 : decode cX4_learnRecursively 143 = .ok (.invokevirtual 90, 3) := by decide +kernel
theorem dX4_learnRecursively_146 : decode cX4_learnRecursively 146 = .ok (.aload_n 0, 1) := by decide +kernel
theorem dX4_learnRecursively_147 : decode cX4_learnRecursively 147 = .ok (.getfield 50, 3) := by decide +kernel
theorem dX4_learnRecursively_150 : decode cX4_learnRecursively 150 = .ok (.iload_n 1, 1) := by decide +kernel
theorem dX4_learnRecursively_151 : decode cX4_learnRecursively 151 = .ok (.dup2, 1) := by decide +kernel
theorem dX4_learnRecursively_152 : decode cX4_learnRecursively 152 = .ok (.iaload, 1) := by decide +kernel
theorem dX4_learnRecursively_153 : decode cX4_learnRecursively 153 = .ok (.iconst 1, 1) := by decide +kernel
theorem dX4_learnRecursively_154 : decode cX4_learnRecursively 154 = .ok (.iadd, 1) := by decide +kernel
theorem dX4_learnRecursively_155 : decode cX4_learnRecursively 155 = .ok (.iastore, 1) := by decide +kernel
theorem dX4_learnRecursively_156 : decode cX4_learnRecursively 156 = .ok (.return_, 1) := by decide +kernel
theorem dX4_learnRecursively_157 : decode cX4_learnRecursively 157 = .ok (.iconst 0, 1) := by decide +kernel
theorem dX4_learnRecursively_158 : decode cX4_learnRecursively 158 = .ok (.istore 7, 2) := by decide +kernel
theorem dX4_learnRecursively_160 : decode cX4_learnRecursively 160 = .ok (.iconst 0, 1) := by decide +kernel
theorem dX4_learnRecursively_161 : decode cX4_learnRecursively 161 = .ok (.istore 8, 2) := by decide +kernel
theorem dX4_learnRecursively_163 : decode cX4_learnRecursively 163 = .ok (.iload 8, 2) := by decide +kernel
theorem dX4_learnRecursively_165 : decode cX4_learnRecursively 165 = .ok (.iload_n 2, 1) := by decide +kernel
theorem dX4_learnRecursively_166 : decode cX4_learnRecursively 166 = .ok (.if_icmp .ge 137, 3) := by decide +kernel
theorem dX4_learnRecursively_169 : decode cX4_learnRecursively 169 = .ok (.aload_n 0, 1) := by decide +kernel
theorem dX4_learnRecursively_170 : decode cX4_learnRecursively 170 = .ok (.getfield 68, 3) := by decide +kernel
theorem dX4_learnRecursively_173 : decode cX4_learnRecursively 173 = .ok (.iload 8, 2) := by decide +kernel
theorem dX4_learnRecursively_175 : decode cX4_learnRecursively 175 = .ok (.daload, 1) := by decide +kernel
theorem dX4_learnRecursively_176 : decode cX4_learnRecursively 176 = .ok (.dload 5, 2) := by decide +kernel
theorem dX4_learnRecursively_178 : decode cX4_learnRecursively 178 = .ok (.ddiv, 1) := by decide +kernel
theorem dX4_learnRecursively_179 : decode cX4_learnRecursively 179 = .ok (.dstore 9, 2) := by decide +kernel
theorem dX4_learnRecursively_181 : decode cX4_learnRecursively 181 = .ok (.aload_n 0, 1) := by decide +kernel
theorem dX4_learnRecursively_182 : decode cX4_learnRecursively 182 = .ok (.iload_n 1, 1) := by decide +kernel
theorem dX4_learnRecursively_183 : decode cX4_learnRecursively 183 = .ok (.iload 8, 2) := by decide +kernel
theorem dX4_learnRecursively_185 : decode cX4_learnRecursively 185 = .ok (.dload 9, 2) := by decide +kernel
theorem dX4_learnRecursively_187 : decode cX4_learnRecursively 187 = .ok (.aload_n 0, 1) := by decide +kernel
theorem dX4_learnRecursively_188 : decode cX4_learnRecursively 188 = .ok (.getfield 59, 3) := by decide +kernel
theorem dX4_learnRecursively_191 : decode cX4_learnRecursively 191 = .ok (.iload_n 1, 1) := by decide +kernel
theorem dX4_learnRecursively_192 : decode cX4_learnRecursively 192 = .ok (.daload, 1) := by decide +kernel
theorem dX4_learnRecursively_193 : decode cX4_learnRecursively 193 = .ok (.dmul, 1) := by decide +kernel
theorem dX4_learnRecursively_194 : decode cX4_learnRecursively 194 = .ok (.invokevirtual 107, 3) := by decide +kernel
theorem dX4_learnRecursively_197 : decode cX4_learnRecursively 197 = .ok (.iconst 0, 1) := by decide +kernel
theorem dX4_learnRecursively_198 : decode cX4_learnRecursively 198 = .ok (.istore 11, 2) := by decide +kernel
theorem dX4_learnRecursively_200 : decode cX4_learnRecursively 200 = .ok (.iload 11, 2) := by decide +kernel
theorem dX4_learnRecursively_202 : decode cX4_learnRecursively 202 = .ok (.iload_n 2, 1) := by decide +kernel
theorem dX4_learnRecursively_203 : decode cX4_learnRecursively 203 = .ok (.if_icmp .ge 50, 3) := by decide +kernel
theorem dX4_learnRecursively_206 : decode cX4_learnRecursively 206 = .ok (.bipush 16, 2) := by decide +kernel
theorem dX4_learnRecursively_208 : decode cX4_learnRecursively 208 = .ok (.iload_n 1, 1) := by decide +kernel
theorem dX4_learnRecursively_209 : decode cX4_learnRecursively 209 = .ok (.imul, 1) := by decide +kernel
theorem dX4_learnRecursively_210 : decode cX4_learnRecursively 210 = .ok (.iconst 4, 1) := by decide +kernel
theorem dX4_learnRecursively_211 : decode cX4_learnRecursively 211 = .ok (.iload 8, 2) := by decide +kernel
theorem dX4_learnRecursively_213 : decode cX4_learnRecursively 213 = .ok (.imul, 1) := by decide +kernel
theorem dX4_learnRecursively_214 : decode cX4_learnRecursively 214 = .ok (.iadd, 1) := by decide +kernel
theorem dX4_learnRecursively_215 : decode cX4_learnRecursively 215 = .ok (.iload 11, 2) := by decide +kernel
theorem dX4_learnRecursively_217 : decode cX4_learnRecursively 217 = .ok (.iadd, 1) := by decide +kernel
theorem dX4_learnRecursively_218 : decode cX4_learnRecursively 218 = .ok (.istore 12, 2) := by decide +kernel
theorem dX4_learnRecursively_220 : decode cX4_learnRecursively 220 = .ok (.aload_n 0, 1) := by decide +kernel
theorem dX4_learnRecursively_221 : decode cX4_learnRecursively 221 = .ok (.getfield 65, 3) := by decide +kernel
theorem dX4_learnRecursively_224 : decode cX4_learnRecursively 224 = .ok (.iload 12, 2) := by decide +kernel
theorem dX4_learnRecursively_226 : decode cX4_learnRecursively 226 = .ok (.aload_n 0, 1) := by decide +kernel
theorem dX4_learnRecursively_227 : decode cX4_learnRecursively 227 = .ok (.getfield 65, 3) := by decide +kernel
theorem dX4_learnRecursively_230 : decode cX4_learnRecursively 230 = .ok (.iload 12, 2) := by decide +kernel
theorem dX4_learnRecursively_232 : decode cX4_learnRecursively 232 = .ok (.daload, 1) := by decide +kernel
theorem dX4_learnRecursively_233 : decode cX4_learnRecursively 233 = .ok (.dload 9, 2) := by decide +kernel
theorem dX4_learnRecursively_235 : decode cX4_learnRecursively 235 = .ok (.aload_n 0, 1) := by decide +kernel
theorem dX4_learnRecursively_236 : decode cX4_learnRecursively 236 = .ok (.getfield 68, 3) := by decide +kernel
theorem dX4_learnRecursively_239 : decode cX4_learnRecursively 239 = .ok (.iload 11, 2) := by decide +kernel
theorem dX4_learnRecursively_241 : decode cX4_learnRecursively 241 = .ok (.daload, 1) := by decide +kernel
theorem dX4_learnRecursively_242 : decode cX4_learnRecursively 242 = .ok (.dmul, 1) := by decide +kernel
theorem dX4_learnRecursively_243 : decode cX4_learnRecursively 243 = .ok (.dsub, 1) := by decide +kernel
theorem dX4_learnRecursively_244 : decode cX4_learnRecursively 244 = .ok (.dload_n 3, 1) := by decide +kernel
theorem dX4_learnRecursively_245 : decode cX4_learnRecursively 245 = .ok (.ddiv, 1) := by decide +kernel
theorem dX4_learnRecursively_246 : decode cX4_learnRecursively 246 = .ok (.dastore, 1) := by decide +kernel
theorem dX4_learnRecursively_247 : decode cX4_learnRecursively 247 = .ok (.iinc 11 1, 3) := by decide +kernel
theorem dX4_learnRecursively_250 : decode cX4_learnRecursively 250 = .ok (.goto (-50), 3) := by decide +kernel
theorem dX4_learnRecursively_253 : decode cX4_learnRecursively 253 = .ok (.aload_n 0, 1) := by decide +kernel
theorem dX4_learnRecursively_254 : decode cX4_learnRecursively 254 = .ok (.getfield 65, 3) := by decide +kernel
theorem dX4_learnRecursively_257 : decode cX4_learnRecursively 257 = .ok (.bipush 16, 2) := by decide +kernel
theorem dX4_learnRecursively_259 : decode cX4_learnRecursively 259 = .ok (.iload_n 1, 1) := by decide +kernel
theorem dX4_learnRecursively_260 : decode cX4_learnRecursively 260 = .ok (.imul, 1) := by decide +kernel
theorem dX4_learnRecursively_261 : decode cX4_learnRecursively 261 = .ok (.iconst 5, 1) := by decide +kernel
theorem dX4_learnRecursively_262 : decode cX4_learnRecursively 262 = .ok (.iload 8, 2) := by decide +kernel
theorem dX4_learnRecursively_264 : decode cX4_learnRecursively 264 = .ok (.imul, 1) := by decide +kernel
theorem dX4_learnRecursively_265 : decode cX4_learnRecursively 265 = .ok (.iadd, 1) := by decide +kernel
theorem dX4_learnRecursively_266 : decode cX4_learnRecursively 266 = .ok (.daload, 1) := by decide +kernel
theorem dX4_learnRecursively_267 : decode cX4_learnRecursively 267 = .ok (.dstore 11, 2) := by decide +kernel
theorem dX4_learnRecursively_269 : decode cX4_learnRecursively 269 = .ok (.iload 7, 2) := by decide +kernel
theorem dX4_learnRecursively_271 : decode cX4_learnRecursively 271 = .ok (.ifCond .ne 19, 3) := by decide +kernel
theorem dX4_learnRecursively_274 : decode cX4_learnRecursively 274 = .ok (.dload 11, 2) := by decide +kernel
theorem dX4_learnRecursively_276 : decode cX4_learnRecursively 276 = .ok (.ldc2_w 111, 3) := by decide +kernel
theorem dX4_learnRecursively_279 : decode cX4_learnRecursively 279 = .ok (.dcmp .l, 1) := by decide +kernel
theorem dX4_learnRecursively_280 : decode cX4_learnRecursively 280 = .ok (.ifCond .gt 10, 3) := by decide +kernel
theorem dX4_learnRecursively_283 : decode cX4_learnRecursively 283 = .ok (.dload 11, 2) := by decide +kernel
theorem dX4_learnRecursively_285 : decode cX4_learnRecursively 285 = .ok (.dconst 0, 1) := by decide +kernel
theorem dX4_learnRecursively_286 : decode cX4_learnRecursively 286 = .ok (.dcmp .g, 1) := by decide +kernel
theorem dX4_learnRecursively_287 : decode cX4_learnRecursively 287 = .ok (.ifCond .ge 7, 3) := by decide +kernel
theorem dX4_learnRecursively_290 : decode cX4_learnRecursively 290 = .ok (.iconst 1, 1) := by decide +kernel
theorem dX4_learnRecursively_291 : decode cX4_learnRecursively 291 = .ok (.goto 4, 3) := by decide +kernel
theorem dX4_learnRecursively_294 : decode cX4_learnRecursively 294 = .ok (.iconst 0, 1) := by decide +kernel
theorem dX4_learnRecursively_295 : decode cX4_learnRecursively 295 = .ok (.istore 7, 2) := by decide +kernel
theorem dX4_learnRecursively_297 : decode cX4_learnRecursively 297 = .ok (.iinc 8 1, 3) := by decide +kernel
theorem dX4_learnRecursively_300 : decode cX4_learnRecursively 300 = .ok (.goto (-137), 3) := by decide +kernel
theorem dX4_learnRecursively_303 : decode cX4_learnRecursively 303 = .ok (.iload 7, 2) := by decide +kernel
theorem dX4_learnRecursively_305 : decode cX4_learnRecursively 305 = .ok (.ifCond .eq 18, 3) := by decide +kernel
theorem dX4_learnRecursively_308 : decode cX4_learnRecursively 308 = .ok (.aload_n 0, 1) := by decide +kernel
theorem dX4_learnRecursively_309 : decode cX4_learnRecursively 309 = .ok (.iload_n 1, 1) := by decide +kernel
theorem dX4_learnRecursively_310 : decode cX4_learnRecursively 310 = .ok (.invokevirtual 90, 3) := by decide +kernel
theorem dX4_learnRecursively_313 : decode cX4_learnRecursively 313 = .ok (.aload_n 0, 1) := by decide +kernel
theorem dX4_learnRecursively_314 : decode cX4_learnRecursively 314 = .ok (.getfield 50, 3) := by decide +kernel
theorem dX4_learnRecursively_317 : decode cX4_learnRecursively 317 = .ok (.iload_n 1, 1) := by decide +kernel
theorem dX4_learnRecursively_318 : decode cX4_learnRecursively 318 = .ok (.dup2, 1) := by decide +kernel
theorem dX4_learnRecursively_319 : decode cX4_learnRecursively 319 = .ok (.iaload, 1) := by decide +kernel
theorem dX4_learnRecursively_320 : decode cX4_learnRecursively 320 = .ok (.iconst 1, 1) := by decide +kernel
theorem dX4_learnRecursively_321 : decode cX4_learnRecursively 321 = .ok (.iadd, 1) := by decide +kernel
theorem dX4_learnRecursively_322 : decode cX4_learnRecursively 322 = .ok (.iastore, 1) := by decide +kernel
theorem dX4_learnRecursively_323 : decode cX4_learnRecursively 323 = .ok (.return_, 1) := by decide +kernel
set_option maxRecDepth 20000 in
theorem ggX4_learnAll_X4_learn : GoodIn wsX4_learnAll wsX4_learn := goodIn_r _ [11, 12, 13, 14, 15, 16, 17, 18, 19, 20, 21, 22, 23, 24, 25, 26, 27, 28, 29, 30, 31, 32, 33, 34, 35, 36, 37, 38] (by decide +kernel) (by decide +kernel)
set_option maxRecDepth 20000 in
theorem gX4_learnAll_X4_learn : GoodIn wsX4_learnAll (wsV RX4 107 RX4 yX4_learn wsX4_learn) := goodIn_app (goodIn_of _ (by decide +kernel)) ggX4_learnAll_X4_learn
theorem dX4_learnAll_0 : decode cX4_learnAll 0 = .ok (.aload_n 0, 1) := by decide +kernel
theorem dX4_learnAll_1 : decode cX4_learnAll 1 = .ok (.getfield 32, 3) := by decide +kernel
theorem dX4_learnAll_4 : decode cX4_learnAll 4 = .ok (.iload_n 1, 1) := by decide +kernel
theorem dX4_learnAll_5 : decode cX4_learnAll 5 = .ok (.iaload, 1) := by decide +kernel
theorem dX4_learnAll_6 : decode cX4_learnAll 6 = .ok (.i2d, 1) := by decide +kernel
theorem dX4_learnAll_7 : decode cX4_learnAll 7 = .ok (.ldc2_w 103, 3) := by decide +kernel
theorem dX4_learnAll_10 : decode cX4_learnAll 10 = .ok (.ddiv, 1) := by decide +kernel
theorem dX4_learnAll_11 : decode cX4_learnAll 11 = .ok (.dstore_n 2, 1) := by decide +kernel
theorem dX4_learnAll_12 : decode cX4_learnAll 12 = .ok (.dconst 1, 1) := by decide +kernel
theorem dX4_learnAll_13 : decode cX4_learnAll 13 = .ok (.dstore 4, 2) := by decide +kernel
theorem dX4_learnAll_15 : decode cX4_learnAll 15 = .ok (.iconst 0, 1) := by decide +kernel
theorem dX4_learnAll_16 : decode cX4_learnAll 16 = .ok (.istore 6, 2) := by decide +kernel
theorem dX4_learnAll_18 : decode cX4_learnAll 18 = .ok (.iload 6, 2) := by decide +kernel
theorem dX4_learnAll_20 : decode cX4_learnAll 20 = .ok (.aload_n 0, 1) := by decide +kernel
theorem dX4_learnAll_21 : decode cX4_learnAll 21 = .ok (.getfield 29, 3) := by decide +kernel
theorem dX4_learnAll_24 : decode cX4_learnAll 24 = .ok (.iload_n 1, 1) := by decide +kernel
theorem dX4_learnAll_25 : decode cX4_learnAll 25 = .ok (.iaload, 1) := by decide +kernel
theorem dX4_learnAll_26 : decode cX4_learnAll 26 = .ok (.if_icmp .ge 31, 3) := by decide +kernel
theorem dX4_learnAll_29 : decode cX4_learnAll 29 = .ok (.dload 4, 2) := by decide +kernel
theorem dX4_learnAll_31 : decode cX4_learnAll 31 = .ok (.aload_n 0, 1) := by decide +kernel
theorem dX4_learnAll_32 : decode cX4_learnAll 32 = .ok (.getfield 13, 3) := by decide +kernel
theorem dX4_learnAll_35 : decode cX4_learnAll 35 = .ok (.iload 6, 2) := by decide +kernel
theorem dX4_learnAll_37 : decode cX4_learnAll 37 = .ok (.iaload, 1) := by decide +kernel
theorem dX4_learnAll_38 : decode cX4_learnAll 38 = .ok (.i2d, 1) := by decide +kernel
theorem dX4_learnAll_39 : decode cX4_learnAll 39 = .ok (.aload_n 0, 1) := by decide +kernel
theorem dX4_learnAll_40 : decode cX4_learnAll 40 = .ok (.getfield 13, 3) := by decide +kernel
theorem dX4_learnAll_43 : decode cX4_learnAll 43 = .ok (.iload 6, 2) := by decide +kernel
theorem dX4_learnAll_45 : decode cX4_learnAll 45 = .ok (.iaload, 1) := by decide +kernel
theorem dX4_learnAll_46 : decode cX4_learnAll 46 = .ok (.i2d, 1) := by decide +kernel
theorem dX4_learnAll_47 : decode cX4_learnAll 47 = .ok (.dmul, 1) := by decide +kernel
theorem dX4_learnAll_48 : decode cX4_learnAll 48 = .ok (.dadd, 1) := by decide +kernel
theorem dX4_learnAll_49 : decode cX4_learnAll 49 = .ok (.dstore 4, 2) := by decide +kernel
theorem dX4_learnAll_51 : decode cX4_learnAll 51 = .ok (.iinc 6 1, 3) := by decide +kernel
theorem dX4_learnAll_54 : decode cX4_learnAll 54 = .ok (.goto (-36), 3) := by decide +kernel
theorem dX4_learnAll_57 : decode cX4_learnAll 57 = .ok (.iconst 0, 1) := by decide +kernel
theorem dX4_learnAll_58 : decode cX4_learnAll 58 = .ok (.istore 6, 2) := by decide +kernel
theorem dX4_learnAll_60 : decode cX4_learnAll 60 = .ok (.iload 6, 2) := by decide +kernel
theorem dX4_learnAll_62 : decode cX4_learnAll 62 = .ok (.aload_n 0, 1) := by decide +kernel
theorem dX4_learnAll_63 : decode cX4_learnAll 63 = .ok (.getfield 29, 3) := by decide +kernel
theorem dX4_learnAll_66 : decode cX4_learnAll 66 = .ok (.iload_n 1, 1) := by decide +kernel
theorem dX4_learnAll_67 : decode cX4_learnAll 67 = .ok (.iaload, 1) := by decide +kernel
theorem dX4_learnAll_68 : decode cX4_learnAll 68 = .ok (.if_icmp .ge 143, 3) := by decide +kernel
theorem dX4_learnAll_71 : decode cX4_learnAll 71 = .ok (.aload_n 0, 1) := by decide +kernel
theorem dX4_learnAll_72 : decode cX4_learnAll 72 = .ok (.getfield 26, 3) := by decide +kernel
theorem dX4_learnAll_75 : decode cX4_learnAll 75 = .ok (.iload_n 1, 1) := by decide +kernel
theorem dX4_learnAll_76 : decode cX4_learnAll 76 = .ok (.iaload, 1) := by decide +kernel
theorem dX4_learnAll_77 : decode cX4_learnAll 77 = .ok (.ifCond .ne 30, 3) := by decide +kernel
theorem dX4_learnAll_80 : decode cX4_learnAll 80 = .ok (.aload_n 0, 1) := by decide +kernel
theorem dX4_learnAll_81 : decode cX4_learnAll 81 = .ok (.iload_n 1, 1) := by decide +kernel
theorem dX4_learnAll_82 : decode cX4_learnAll 82 = .ok (.iload 6, 2) := by decide +kernel
theorem dX4_learnAll_84 : decode cX4_learnAll 84 = .ok (.dload_n 2, 1) := by decide +kernel
theorem dX4_learnAll_85 : decode cX4_learnAll 85 = .ok (.aload_n 0, 1) := by decide +kernel
theorem dX4_learnAll_86 : decode cX4_learnAll 86 = .ok (.getfield 59, 3) := by decide +kernel
theorem dX4_learnAll_89 : decode cX4_learnAll 89 = .ok (.iload_n 1, 1) := by decide +kernel
theorem dX4_learnAll_90 : decode cX4_learnAll 90 = .ok (.daload, 1) := by decide +kernel
theorem dX4_learnAll_91 : decode cX4_learnAll 91 = .ok (.dmul, 1) := by decide +kernel
theorem dX4_learnAll_92 : decode cX4_learnAll 92 = .ok (.aload_n 0, 1) := by decide +kernel
theorem dX4_learnAll_93 : decode cX4_learnAll 93 = .ok (.getfield 13, 3) := by decide +kernel
theorem dX4_learnAll_96 : decode cX4_learnAll 96 = .ok (.iload 6, 2) := by decide +kernel
theorem dX4_learnAll_98 : decode cX4_learnAll 98 = .ok (.iaload, 1) := by decide +kernel
theorem dX4_learnAll_99 : decode cX4_learnAll 99 = .ok (.i2d, 1) := by decide +kernel
theorem dX4_learnAll_100 : decode cX4_learnAll 100 = .ok (.dmul, 1) := by decide +kernel
theorem dX4_learnAll_101 : decode cX4_learnAll 101 = .ok (.invokevirtual 107, 3) := by decide +kernel
theorem dX4_learnAll_104 : decode cX4_learnAll 104 = .ok (.goto 101, 3) := by decide +kernel
theorem dX4_learnAll_107 : decode cX4_learnAll 107 = .ok (.aload_n 0, 1) := by decide +kernel
theorem dX4_learnAll_108 : decode cX4_learnAll 108 = .ok (.getfield 26, 3) := by decide +kernel
theorem dX4_learnAll_111 : decode cX4_learnAll 111 = .ok (.iload_n 1, 1) := by decide +kernel
theorem dX4_learnAll_112 : decode cX4_learnAll 112 = .ok (.iaload, 1) := by decide +kernel
theorem dX4_learnAll_113 : decode cX4_learnAll 113 = .ok (.iconst 1, 1) := by decide +kernel
theorem dX4_learnAll_114 : decode cX4_learnAll 114 = .ok (.if_icmp .ne 33, 3) := by decide +kernel
theorem dX4_learnAll_117 : decode cX4_learnAll 117 = .ok (.aload_n 0, 1) := by decide +kernel
theorem dX4_learnAll_118 : decode cX4_learnAll 118 = .ok (.iload_n 1, 1) := by decide +kernel
theorem dX4_learnAll_119 : decode cX4_learnAll 119 = .ok (.iload 6, 2) := by decide +kernel
theorem dX4_learnAll_121 : decode cX4_learnAll 121 = .ok (.dload_n 2, 1) := by decide +kernel
theorem dX4_learnAll_122 : decode cX4_learnAll 122 = .ok (.aload_n 0, 1) := by decide +kernel
theorem dX4_learnAll_123 : decode cX4_learnAll 123 = .ok (.getfield 59, 3) := by decide +kernel
theorem dX4_learnAll_126 : decode cX4_learnAll 126 = .ok (.iload_n 1, 1) := by decide +kernel
theorem dX4_learnAll_127 : decode cX4_learnAll 127 = .ok (.daload, 1) := by decide +kernel
theorem dX4_learnAll_128 : decode cX4_learnAll 128 = .ok (.dmul, 1) := by decide +kernel
theorem dX4_learnAll_129 : decode cX4_learnAll 129 = .ok (.aload_n 0, 1) := by decide +kernel
theorem dX4_learnAll_130 : decode cX4_learnAll 130 = .ok (.getfield 13, 3) := by decide +kernel
theorem dX4_learnAll_133 : decode cX4_learnAll 133 = .ok (.iload 6, 2) := by decide +kernel
theorem dX4_learnAll_135 : decode cX4_learnAll 135 = .ok (.iaload, 1) := by decide +kernel
theorem dX4_learnAll_136 : decode cX4_learnAll 136 = .ok (.i2d, 1) := by decide +kernel
theorem dX4_learnAll_137 : decode cX4_learnAll 137 = .ok (.dmul, 1) := by decide +kernel
theorem dX4_learnAll_138 : decode cX4_learnAll 138 = .ok (.dload 4, 2) := by decide +kernel
theorem dX4_learnAll_140 : decode cX4_learnAll 140 = .ok (.ddiv, 1) := by decide +kernel
theorem dX4_learnAll_141 : decode cX4_learnAll 141 = .ok (.invokevirtual 107, 3) := by decide +kernel
theorem dX4_learnAll_144 : decode cX4_learnAll 144 = .ok (.goto 61, 3) := by decide +kernel
theorem dX4_learnAll_147 : decode cX4_learnAll 147 = .ok (.aload_n 0, 1) := by decide +kernel
theorem dX4_learnAll_148 : decode cX4_learnAll 148 = .ok (.iload_n 1, 1) := by decide +kernel
theorem dX4_learnAll_149 : decode cX4_learnAll 149 = .ok (.iload 6, 2) := by decide +kernel
theorem dX4_learnAll_151 : decode cX4_learnAll 151 = .ok (.aload_n 0, 1) := by decide +kernel
theorem dX4_learnAll_152 : decode cX4_learnAll 152 = .ok (.getfield 59, 3) := by decide +kernel
theorem dX4_learnAll_155 : decode cX4_learnAll 155 = .ok (.iload_n 1, 1) := by decide +kernel
theorem dX4_learnAll_156 : decode cX4_learnAll 156 = .ok (.daload, 1) := by decide +kernel
theorem dX4_learnAll_157 : decode cX4_learnAll 157 = .ok (.dconst 0, 1) := by decide +kernel
theorem dX4_learnAll_158 : decode cX4_learnAll 158 = .ok (.dcmp .l, 1) := by decide +kernel
theorem dX4_learnAll_159 : decode cX4_learnAll 159 = .ok (.ifCond .le 16, 3) := by decide +kernel
theorem dX4_learnAll_162 : decode cX4_learnAll 162 = .ok (.dload_n 2, 1) := by decide +kernel
theorem dX4_learnAll_163 : decode cX4_learnAll 163 = .ok (.aload_n 0, 1) := by decide +kernel
theorem dX4_learnAll_164 : decode cX4_learnAll 164 = .ok (.getfield 13, 3) := by decide +kernel
theorem dX4_learnAll_167 : decode cX4_learnAll 167 = .ok (.iload 6, 2) := by decide +kernel
theorem dX4_learnAll_169 : decode cX4_learnAll 169 = .ok (.iaload, 1) := by decide +kernel
theorem dX4_learnAll_170 : decode cX4_learnAll 170 = .ok (.i2d, 1) := by decide +kernel
theorem dX4_learnAll_171 : decode cX4_learnAll 171 = .ok (.dmul, 1) := by decide +kernel
theorem dX4_learnAll_172 : decode cX4_learnAll 172 = .ok (.goto 30, 3) := by decide +kernel
theorem dX4_learnAll_175 : decode cX4_learnAll 175 = .ok (.aload_n 0, 1) := by decide +kernel
theorem dX4_learnAll_176 : decode cX4_learnAll 176 = .ok (.getfield 59, 3) := by decide +kernel
theorem dX4_learnAll_179 : decode cX4_learnAll 179 = .ok (.iload_n 1, 1) := by decide +kernel
theorem dX4_learnAll_180 : decode cX4_learnAll 180 = .ok (.daload, 1) := by decide +kernel
theorem dX4_learnAll_181 : decode cX4_learnAll 181 = .ok (.dconst 0, 1) := by decide +kernel
theorem dX4_learnAll_182 : decode cX4_learnAll 182 = .ok (.dcmp .g, 1) := by decide +kernel
theorem dX4_learnAll_183 : decode cX4_learnAll 183 = .ok (.ifCond .ge 18, 3) := by decide +kernel
theorem dX4_learnAll_186 : decode cX4_learnAll 186 = .ok (.dconst 0, 1) := by decide +kernel
theorem dX4_learnAll_187 : decode cX4_learnAll 187 = .ok (.dload_n 2, 1) := by decide +kernel
theorem dX4_learnAll_188 : decode cX4_learnAll 188 = .ok (.aload_n 0, 1) := by decide +kernel
theorem dX4_learnAll_189 : decode cX4_learnAll 189 = .ok (.getfield 13, 3) := by decide +kernel
theorem dX4_learnAll_192 : decode cX4_learnAll 192 = .ok (.iload 6, 2) := by decide +kernel
theorem dX4_learnAll_194 : decode cX4_learnAll 194 = .ok (.iaload, 1) := by decide +kernel
theorem dX4_learnAll_195 : decode cX4_learnAll 195 = .ok (.i2d, 1) := by decide +kernel
theorem dX4_learnAll_196 : decode cX4_learnAll 196 = .ok (.dmul, 1) := by decide +kernel
theorem dX4_learnAll_197 : decode cX4_learnAll 197 = .ok (.dsub, 1) := by decide +kernel
theorem dX4_learnAll_198 : decode cX4_learnAll 198 = .ok (.goto 4, 3) := by decide +kernel
theorem dX4_learnAll_201 : decode cX4_learnAll 201 = .ok (.dconst 0, 1) := by decide +kernel
theorem dX4_learnAll_202 : decode cX4_learnAll 202 = .ok (.invokevirtual 107, 3) := by decide +kernel
theorem dX4_learnAll_205 : decode cX4_learnAll 205 = .ok (.iinc 6 1, 3) := by decide +kernel
theorem dX4_learnAll_208 : decode cX4_learnAll 208 = .ok (.goto (-148), 3) := by decide +kernel
theorem dX4_learnAll_211 : decode cX4_learnAll 211 = .ok (.return_, 1) := by decide +kernel
set_option maxRecDepth 20000 in
theorem ggX4_isLoud_X4_size : GoodIn wsX4_isLoud wsX4_size := goodIn_r _ [9] (by decide +kernel) (by decide +kernel)
set_option maxRecDepth 20000 in
theorem gX4_isLoud_X4_size : GoodIn wsX4_isLoud (va_wsS RX4 117 yX4_size wsX4_size) := goodIn_app (goodIn_of _ (by decide +kernel)) ggX4_isLoud_X4_size
theorem dX4_isLoud_0 : decode cX4_isLoud 0 = .ok (.iconst 0, 1) := by decide +kernel
theorem dX4_isLoud_1 : decode cX4_isLoud 1 = .ok (.istore_n 2, 1) := by decide +kernel
theorem dX4_isLoud_2 : decode cX4_isLoud 2 = .ok (.iconst 0, 1) := by decide +kernel
theorem dX4_isLoud_3 : decode cX4_isLoud 3 = .ok (.istore_n 3, 1) := by decide +kernel
theorem dX4_isLoud_4 : decode cX4_isLoud 4 = .ok (.iload_n 3, 1) := by decide +kernel
theorem dX4_isLoud_5 : decode cX4_isLoud 5 = .ok (.aload_n 0, 1) := by decide +kernel
theorem dX4_isLoud_6 : decode cX4_isLoud 6 = .ok (.getfield 29, 3) := by decide +kernel
theorem dX4_isLoud_9 : decode cX4_isLoud 9 = .ok (.iload_n 1, 1) := by decide +kernel
theorem dX4_isLoud_10 : decode cX4_isLoud 10 = .ok (.iaload, 1) := by decide +kernel
theorem dX4_isLoud_11 : decode cX4_isLoud 11 = .ok (.if_icmp .ge 49, 3) := by decide +kernel
theorem dX4_isLoud_14 : decode cX4_isLoud 14 = .ok (.aload_n 0, 1) := by decide +kernel
theorem dX4_isLoud_15 : decode cX4_isLoud 15 = .ok (.getfield 13, 3) := by decide +kernel
theorem dX4_isLoud_18 : decode cX4_isLoud 18 = .ok (.iload_n 3, 1) := by decide +kernel
theorem dX4_isLoud_19 : decode cX4_isLoud 19 = .ok (.iaload, 1) := by decide +kernel
theorem dX4_isLoud_20 : decode cX4_isLoud 20 = .ok (.ifCond .ge 13, 3) := by decide +kernel
theorem dX4_isLoud_23 : decode cX4_isLoud 23 = .ok (.aload_n 0, 1) := by decide +kernel
theorem dX4_isLoud_24 : decode cX4_isLoud 24 = .ok (.getfield 13, 3) := by decide +kernel
theorem dX4_isLoud_27 : decode cX4_isLoud 27 = .ok (.iload_n 3, 1) := by decide +kernel
theorem dX4_isLoud_28 : decode cX4_isLoud 28 = .ok (.iaload, 1) := by decide +kernel
theorem dX4_isLoud_29 : decode cX4_isLoud 29 = .ok (.ineg, 1) := by decide +kernel
theorem dX4_isLoud_30 : decode cX4_isLoud 30 = .ok (.goto 9, 3) := by decide +kernel
theorem dX4_isLoud_33 : decode cX4_isLoud 33 = .ok (.aload_n 0, 1) := by decide +kernel
theorem dX4_isLoud_34 : decode cX4_isLoud 34 = .ok (.getfield 13, 3) := by decide +kernel
theorem dX4_isLoud_37 : decode cX4_isLoud 37 = .ok (.iload_n 3, 1) := by decide +kernel
theorem dX4_isLoud_38 : decode cX4_isLoud 38 = .ok (.iaload, 1) := by decide +kernel
theorem dX4_isLoud_39 : decode cX4_isLoud 39 = .ok (.istore 4, 2) := by decide +kernel
theorem dX4_isLoud_41 : decode cX4_isLoud 41 = .ok (.iload 4, 2) := by decide +kernel
theorem dX4_isLoud_43 : decode cX4_isLoud 43 = .ok (.iload_n 2, 1) := by decide +kernel
theorem dX4_isLoud_44 : decode cX4_isLoud 44 = .ok (.if_icmp .le 8, 3) := by decide +kernel
theorem dX4_isLoud_47 : decode cX4_isLoud 47 = .ok (.iload 4, 2) := by decide +kernel
theorem dX4_isLoud_49 : decode cX4_isLoud 49 = .ok (.goto 4, 3) := by decide +kernel
theorem dX4_isLoud_52 : decode cX4_isLoud 52 = .ok (.iload_n 2, 1) := by decide +kernel
theorem dX4_isLoud_53 : decode cX4_isLoud 53 = .ok (.istore_n 2, 1) := by decide +kernel
theorem dX4_isLoud_54 : decode cX4_isLoud 54 = .ok (.iinc 3 1, 3) := by decide +kernel
theorem dX4_isLoud_57 : decode cX4_isLoud 57 = .ok (.goto (-53), 3) := by decide +kernel
theorem dX4_isLoud_60 : decode cX4_isLoud 60 = .ok (.aload_n 0, 1) := by decide +kernel
theorem dX4_isLoud_61 : decode cX4_isLoud 61 = .ok (.getfield 35, 3) := by decide +kernel
theorem dX4_isLoud_64 : decode cX4_isLoud 64 = .ok (.iload_n 1, 1) := by decide +kernel
theorem dX4_isLoud_65 : decode cX4_isLoud 65 = .ok (.iaload, 1) := by decide +kernel
theorem dX4_isLoud_66 : decode cX4_isLoud 66 = .ok (.ifCond .le 32, 3) := by decide +kernel
theorem dX4_isLoud_69 : decode cX4_isLoud 69 = .ok (.aload_n 0, 1) := by decide +kernel
theorem dX4_isLoud_70 : decode cX4_isLoud 70 = .ok (.getfield 113, 3) := by decide +kernel
theorem dX4_isLoud_73 : decode cX4_isLoud 73 = .ok (.invokestatic 117, 3) := by decide +kernel
theorem dX4_isLoud_76 : decode cX4_isLoud 76 = .ok (.aload_n 0, 1) := by decide +kernel
theorem dX4_isLoud_77 : decode cX4_isLoud 77 = .ok (.getfield 35, 3) := by decide +kernel
theorem dX4_isLoud_80 : decode cX4_isLoud 80 = .ok (.iload_n 1, 1) := by decide +kernel
theorem dX4_isLoud_81 : decode cX4_isLoud 81 = .ok (.iaload, 1) := by decide +kernel
