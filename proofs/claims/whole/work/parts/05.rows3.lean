theorem dX4_isLoud_82 : decode cX4_isLoud 82 = .ok (.i2d, 1) := by decide +kernel
theorem dX4_isLoud_83 : decode cX4_isLoud 83 = .ok (.ldc2_w 97, 3) := by decide +kernel
theorem dX4_isLoud_86 : decode cX4_isLoud 86 = .ok (.ddiv, 1) := by decide +kernel
theorem dX4_isLoud_87 : decode cX4_isLoud 87 = .ok (.iload_n 2, 1) := by decide +kernel
theorem dX4_isLoud_88 : decode cX4_isLoud 88 = .ok (.i2d, 1) := by decide +kernel
theorem dX4_isLoud_89 : decode cX4_isLoud 89 = .ok (.dmul, 1) := by decide +kernel
theorem dX4_isLoud_90 : decode cX4_isLoud 90 = .ok (.dcmp .l, 1) := by decide +kernel
theorem dX4_isLoud_91 : decode cX4_isLoud 91 = .ok (.ifCond .le 7, 3) := by decide +kernel
theorem dX4_isLoud_94 : decode cX4_isLoud 94 = .ok (.iconst 1, 1) := by decide +kernel
theorem dX4_isLoud_95 : decode cX4_isLoud 95 = .ok (.goto 4, 3) := by decide +kernel
theorem dX4_isLoud_98 : decode cX4_isLoud 98 = .ok (.iconst 0, 1) := by decide +kernel
theorem dX4_isLoud_99 : decode cX4_isLoud 99 = .ok (.ireturn, 1) := by decide +kernel
set_option maxRecDepth 20000 in
theorem ggX4_hear_X4_isLoud : GoodIn wsX4_hear wsX4_isLoud := goodIn_r _ [17, 1, 3, 18, 6, 19, 20, 21, 16, 22, 48, 49, 50, 51, 52, 53, 54, 55, 56, 57, 58, 59, 60, 61, 62, 63, 64, 65, 66, 67, 68, 69, 70, 71] (by decide +kernel) (by decide +kernel)
set_option maxRecDepth 20000 in
theorem gX4_hear_X4_isLoud : GoodIn wsX4_hear (wsV RX4 121 RX4 yX4_isLoud wsX4_isLoud) := goodIn_app (goodIn_of _ (by decide +kernel)) ggX4_hear_X4_isLoud
set_option maxRecDepth 20000 in
theorem ggX4_hear_X4_learnRecursively : GoodIn wsX4_hear wsX4_learnRecursively := goodIn_r _ [26, 1, 27, 28, 29, 30, 3, 31, 32, 5, 33, 34, 35, 36, 16, 37, 19, 38, 39, 40, 41, 2, 42, 43, 48, 49, 50, 51, 52, 53, 54, 55, 56, 57, 58, 59, 60, 61, 62, 63, 64, 65, 66, 67, 68, 69, 70, 71] (by decide +kernel) (by decide +kernel)
set_option maxRecDepth 20000 in
theorem gX4_hear_X4_learnRecursively : GoodIn wsX4_hear (wsV RX4 124 RX4 yX4_learnRecursively wsX4_learnRecursively) := goodIn_app (goodIn_of _ (by decide +kernel)) ggX4_hear_X4_learnRecursively
set_option maxRecDepth 20000 in
theorem ggX4_hear_X4_learnAll : GoodIn wsX4_hear wsX4_learnAll := goodIn_r _ [47, 27, 28, 1, 3, 12, 5, 38, 39, 40, 16, 41, 2, 42, 43, 48, 49, 50, 51, 52, 53, 54, 55, 56, 57, 58, 59, 60, 61, 62, 63, 64, 65, 66, 67, 68, 69, 70, 71] (by decide +kernel) (by decide +kernel)
set_option maxRecDepth 20000 in
theorem gX4_hear_X4_learnAll : GoodIn wsX4_hear (wsV RX4 127 RX4 yX4_learnAll wsX4_learnAll) := goodIn_app (goodIn_of _ (by decide +kernel)) ggX4_hear_X4_learnAll
theorem dX4_hear_0 : decode cX4_hear 0 = .ok (.dconst 0, 1) := by decide +kernel
theorem dX4_hear_1 : decode cX4_hear 1 = .ok (.dstore_n 2, 1) := by decide +kernel
theorem dX4_hear_2 : decode cX4_hear 2 = .ok (.iconst 0, 1) := by decide +kernel
theorem dX4_hear_3 : decode cX4_hear 3 = .ok (.istore 4, 2) := by decide +kernel
theorem dX4_hear_5 : decode cX4_hear 5 = .ok (.iload 4, 2) := by decide +kernel
theorem dX4_hear_7 : decode cX4_hear 7 = .ok (.aload_n 0, 1) := by decide +kernel
theorem dX4_hear_8 : decode cX4_hear 8 = .ok (.getfield 29, 3) := by decide +kernel
theorem dX4_hear_11 : decode cX4_hear 11 = .ok (.iload_n 1, 1) := by decide +kernel
theorem dX4_hear_12 : decode cX4_hear 12 = .ok (.iaload, 1) := by decide +kernel
theorem dX4_hear_13 : decode cX4_hear 13 = .ok (.if_icmp .ge 33, 3) := by decide +kernel
theorem dX4_hear_16 : decode cX4_hear 16 = .ok (.dload_n 2, 1) := by decide +kernel
theorem dX4_hear_17 : decode cX4_hear 17 = .ok (.aload_n 0, 1) := by decide +kernel
theorem dX4_hear_18 : decode cX4_hear 18 = .ok (.getfield 53, 3) := by decide +kernel
theorem dX4_hear_21 : decode cX4_hear 21 = .ok (.bipush 8, 2) := by decide +kernel
theorem dX4_hear_23 : decode cX4_hear 23 = .ok (.iload_n 1, 1) := by decide +kernel
theorem dX4_hear_24 : decode cX4_hear 24 = .ok (.imul, 1) := by decide +kernel
theorem dX4_hear_25 : decode cX4_hear 25 = .ok (.iload 4, 2) := by decide +kernel
theorem dX4_hear_27 : decode cX4_hear 27 = .ok (.iadd, 1) := by decide +kernel
theorem dX4_hear_28 : decode cX4_hear 28 = .ok (.daload, 1) := by decide +kernel
theorem dX4_hear_29 : decode cX4_hear 29 = .ok (.aload_n 0, 1) := by decide +kernel
theorem dX4_hear_30 : decode cX4_hear 30 = .ok (.getfield 13, 3) := by decide +kernel
theorem dX4_hear_33 : decode cX4_hear 33 = .ok (.iload 4, 2) := by decide +kernel
theorem dX4_hear_35 : decode cX4_hear 35 = .ok (.iaload, 1) := by decide +kernel
theorem dX4_hear_36 : decode cX4_hear 36 = .ok (.i2d, 1) := by decide +kernel
theorem dX4_hear_37 : decode cX4_hear 37 = .ok (.dmul, 1) := by decide +kernel
theorem dX4_hear_38 : decode cX4_hear 38 = .ok (.dadd, 1) := by decide +kernel
theorem dX4_hear_39 : decode cX4_hear 39 = .ok (.dstore_n 2, 1) := by decide +kernel
theorem dX4_hear_40 : decode cX4_hear 40 = .ok (.iinc 4 1, 3) := by decide +kernel
theorem dX4_hear_43 : decode cX4_hear 43 = .ok (.goto (-38), 3) := by decide +kernel
theorem dX4_hear_46 : decode cX4_hear 46 = .ok (.aload_n 0, 1) := by decide +kernel
theorem dX4_hear_47 : decode cX4_hear 47 = .ok (.getfield 56, 3) := by decide +kernel
theorem dX4_hear_50 : decode cX4_hear 50 = .ok (.iload_n 1, 1) := by decide +kernel
theorem dX4_hear_51 : decode cX4_hear 51 = .ok (.dload_n 2, 1) := by decide +kernel
theorem dX4_hear_52 : decode cX4_hear 52 = .ok (.dastore, 1) := by decide +kernel
theorem dX4_hear_53 : decode cX4_hear 53 = .ok (.aload_n 0, 1) := by decide +kernel
theorem dX4_hear_54 : decode cX4_hear 54 = .ok (.getfield 59, 3) := by decide +kernel
theorem dX4_hear_57 : decode cX4_hear 57 = .ok (.iload_n 1, 1) := by decide +kernel
theorem dX4_hear_58 : decode cX4_hear 58 = .ok (.aload_n 0, 1) := by decide +kernel
theorem dX4_hear_59 : decode cX4_hear 59 = .ok (.getfield 113, 3) := by decide +kernel
theorem dX4_hear_62 : decode cX4_hear 62 = .ok (.dload_n 2, 1) := by decide +kernel
theorem dX4_hear_63 : decode cX4_hear 63 = .ok (.dsub, 1) := by decide +kernel
theorem dX4_hear_64 : decode cX4_hear 64 = .ok (.dastore, 1) := by decide +kernel
theorem dX4_hear_65 : decode cX4_hear 65 = .ok (.aload_n 0, 1) := by decide +kernel
theorem dX4_hear_66 : decode cX4_hear 66 = .ok (.getfield 62, 3) := by decide +kernel
theorem dX4_hear_69 : decode cX4_hear 69 = .ok (.bipush 16, 2) := by decide +kernel
theorem dX4_hear_71 : decode cX4_hear 71 = .ok (.iload_n 1, 1) := by decide +kernel
theorem dX4_hear_72 : decode cX4_hear 72 = .ok (.imul, 1) := by decide +kernel
theorem dX4_hear_73 : decode cX4_hear 73 = .ok (.aload_n 0, 1) := by decide +kernel
theorem dX4_hear_74 : decode cX4_hear 74 = .ok (.getfield 44, 3) := by decide +kernel
theorem dX4_hear_77 : decode cX4_hear 77 = .ok (.iload_n 1, 1) := by decide +kernel
theorem dX4_hear_78 : decode cX4_hear 78 = .ok (.iaload, 1) := by decide +kernel
theorem dX4_hear_79 : decode cX4_hear 79 = .ok (.bipush 16, 2) := by decide +kernel
theorem dX4_hear_81 : decode cX4_hear 81 = .ok (.irem, 1) := by decide +kernel
theorem dX4_hear_82 : decode cX4_hear 82 = .ok (.iadd, 1) := by decide +kernel
theorem dX4_hear_83 : decode cX4_hear 83 = .ok (.aload_n 0, 1) := by decide +kernel
theorem dX4_hear_84 : decode cX4_hear 84 = .ok (.getfield 59, 3) := by decide +kernel
theorem dX4_hear_87 : decode cX4_hear 87 = .ok (.iload_n 1, 1) := by decide +kernel
theorem dX4_hear_88 : decode cX4_hear 88 = .ok (.daload, 1) := by decide +kernel
theorem dX4_hear_89 : decode cX4_hear 89 = .ok (.dastore, 1) := by decide +kernel
theorem dX4_hear_90 : decode cX4_hear 90 = .ok (.aload_n 0, 1) := by decide +kernel
theorem dX4_hear_91 : decode cX4_hear 91 = .ok (.getfield 44, 3) := by decide +kernel
theorem dX4_hear_94 : decode cX4_hear 94 = .ok (.iload_n 1, 1) := by decide +kernel
theorem dX4_hear_95 : decode cX4_hear 95 = .ok (.dup2, 1) := by decide +kernel
theorem dX4_hear_96 : decode cX4_hear 96 = .ok (.iaload, 1) := by decide +kernel
theorem dX4_hear_97 : decode cX4_hear 97 = .ok (.iconst 1, 1) := by decide +kernel
theorem dX4_hear_98 : decode cX4_hear 98 = .ok (.iadd, 1) := by decide +kernel
theorem dX4_hear_99 : decode cX4_hear 99 = .ok (.iastore, 1) := by decide +kernel
theorem dX4_hear_100 : decode cX4_hear 100 = .ok (.aload_n 0, 1) := by decide +kernel
theorem dX4_hear_101 : decode cX4_hear 101 = .ok (.iload_n 1, 1) := by decide +kernel
theorem dX4_hear_102 : decode cX4_hear 102 = .ok (.invokevirtual 121, 3) := by decide +kernel
theorem dX4_hear_105 : decode cX4_hear 105 = .ok (.istore 4, 2) := by decide +kernel
theorem dX4_hear_107 : decode cX4_hear 107 = .ok (.iload 4, 2) := by decide +kernel
theorem dX4_hear_109 : decode cX4_hear 109 = .ok (.ifCond .ne 12, 3) := by decide +kernel
theorem dX4_hear_112 : decode cX4_hear 112 = .ok (.aload_n 0, 1) := by decide +kernel
theorem dX4_hear_113 : decode cX4_hear 113 = .ok (.getfield 41, 3) := by decide +kernel
theorem dX4_hear_116 : decode cX4_hear 116 = .ok (.iload_n 1, 1) := by decide +kernel
theorem dX4_hear_117 : decode cX4_hear 117 = .ok (.iaload, 1) := by decide +kernel
theorem dX4_hear_118 : decode cX4_hear 118 = .ok (.ifCond .le 7, 3) := by decide +kernel
theorem dX4_hear_121 : decode cX4_hear 121 = .ok (.iconst 1, 1) := by decide +kernel
theorem dX4_hear_122 : decode cX4_hear 122 = .ok (.goto 4, 3) := by decide +kernel
theorem dX4_hear_125 : decode cX4_hear 125 = .ok (.iconst 0, 1) := by decide +kernel
theorem dX4_hear_126 : decode cX4_hear 126 = .ok (.istore 5, 2) := by decide +kernel
theorem dX4_hear_128 : decode cX4_hear 128 = .ok (.aload_n 0, 1) := by decide +kernel
theorem dX4_hear_129 : decode cX4_hear 129 = .ok (.getfield 41, 3) := by decide +kernel
theorem dX4_hear_132 : decode cX4_hear 132 = .ok (.iload_n 1, 1) := by decide +kernel
theorem dX4_hear_133 : decode cX4_hear 133 = .ok (.iload 4, 2) := by decide +kernel
theorem dX4_hear_135 : decode cX4_hear 135 = .ok (.ifCond .eq 12, 3) := by decide +kernel
theorem dX4_hear_138 : decode cX4_hear 138 = .ok (.aload_n 0, 1) := by decide +kernel
theorem dX4_hear_139 : decode cX4_hear 139 = .ok (.getfield 38, 3) := by decide +kernel
theorem dX4_hear_142 : decode cX4_hear 142 = .ok (.iload_n 1, 1) := by decide +kernel
theorem dX4_hear_143 : decode cX4_hear 143 = .ok (.iaload, 1) := by decide +kernel
theorem dX4_hear_144 : decode cX4_hear 144 = .ok (.goto 24, 3) := by decide +kernel
theorem dX4_hear_147 : decode cX4_hear 147 = .ok (.aload_n 0, 1) := by decide +kernel
theorem dX4_hear_148 : decode cX4_hear 148 = .ok (.getfield 41, 3) := by decide +kernel
theorem dX4_hear_151 : decode cX4_hear 151 = .ok (.iload_n 1, 1) := by decide +kernel
theorem dX4_hear_152 : decode cX4_hear 152 = .ok (.iaload, 1) := by decide +kernel
theorem dX4_hear_153 : decode cX4_hear 153 = .ok (.ifCond .le 14, 3) := by decide +kernel
theorem dX4_hear_156 : decode cX4_hear 156 = .ok (.aload_n 0, 1) := by decide +kernel
theorem dX4_hear_157 : decode cX4_hear 157 = .ok (.getfield 41, 3) := by decide +kernel
theorem dX4_hear_160 : decode cX4_hear 160 = .ok (.iload_n 1, 1) := by decide +kernel
theorem dX4_hear_161 : decode cX4_hear 161 = .ok (.iaload, 1) := by decide +kernel
theorem dX4_hear_162 : decode cX4_hear 162 = .ok (.iconst 1, 1) := by decide +kernel
theorem dX4_hear_163 : decode cX4_hear 163 = .ok (.isub, 1) := by decide +kernel
theorem dX4_hear_164 : decode cX4_hear 164 = .ok (.goto 4, 3) := by decide +kernel
theorem dX4_hear_167 : decode cX4_hear 167 = .ok (.iconst 0, 1) := by decide +kernel
theorem dX4_hear_168 : decode cX4_hear 168 = .ok (.iastore, 1) := by decide +kernel
theorem dX4_hear_169 : decode cX4_hear 169 = .ok (.iload 5, 2) := by decide +kernel
theorem dX4_hear_171 : decode cX4_hear 171 = .ok (.ifCond .eq 16, 3) := by decide +kernel
theorem dX4_hear_174 : decode cX4_hear 174 = .ok (.aload_n 0, 1) := by decide +kernel
theorem dX4_hear_175 : decode cX4_hear 175 = .ok (.getfield 47, 3) := by decide +kernel
theorem dX4_hear_178 : decode cX4_hear 178 = .ok (.iload_n 1, 1) := by decide +kernel
theorem dX4_hear_179 : decode cX4_hear 179 = .ok (.dup2, 1) := by decide +kernel
theorem dX4_hear_180 : decode cX4_hear 180 = .ok (.iaload, 1) := by decide +kernel
theorem dX4_hear_181 : decode cX4_hear 181 = .ok (.iconst 1, 1) := by decide +kernel
theorem dX4_hear_182 : decode cX4_hear 182 = .ok (.iadd, 1) := by decide +kernel
theorem dX4_hear_183 : decode cX4_hear 183 = .ok (.iastore, 1) := by decide +kernel
theorem dX4_hear_184 : decode cX4_hear 184 = .ok (.goto 26, 3) := by decide +kernel
theorem dX4_hear_187 : decode cX4_hear 187 = .ok (.aload_n 0, 1) := by decide +kernel
theorem dX4_hear_188 : decode cX4_hear 188 = .ok (.getfield 26, 3) := by decide +kernel
theorem dX4_hear_191 : decode cX4_hear 191 = .ok (.iload_n 1, 1) := by decide +kernel
theorem dX4_hear_192 : decode cX4_hear 192 = .ok (.iaload, 1) := by decide +kernel
theorem dX4_hear_193 : decode cX4_hear 193 = .ok (.iconst 3, 1) := by decide +kernel
theorem dX4_hear_194 : decode cX4_hear 194 = .ok (.if_icmp .ne 11, 3) := by decide +kernel
theorem dX4_hear_197 : decode cX4_hear 197 = .ok (.aload_n 0, 1) := by decide +kernel
theorem dX4_hear_198 : decode cX4_hear 198 = .ok (.iload_n 1, 1) := by decide +kernel
theorem dX4_hear_199 : decode cX4_hear 199 = .ok (.invokevirtual 124, 3) := by decide +kernel
theorem dX4_hear_202 : decode cX4_hear 202 = .ok (.goto 8, 3) := by decide +kernel
theorem dX4_hear_205 : decode cX4_hear 205 = .ok (.aload_n 0, 1) := by decide +kernel
theorem dX4_hear_206 : decode cX4_hear 206 = .ok (.iload_n 1, 1) := by decide +kernel
theorem dX4_hear_207 : decode cX4_hear 207 = .ok (.invokevirtual 127, 3) := by decide +kernel
theorem dX4_hear_210 : decode cX4_hear 210 = .ok (.return_, 1) := by decide +kernel
set_option maxRecDepth 20000 in
theorem ggX4_sample_X4_hear : GoodIn wsX4_sample wsX4_hear := goodIn_r _ [14, 15, 16, 1, 17, 18, 4, 19, 20, 21, 22, 23, 24, 25, 26, 27, 13, 28, 29, 3, 30, 31, 32, 33, 34, 35, 36, 37, 38, 39, 40, 41, 42, 43, 44, 45, 46, 47, 48, 49, 50, 51, 52, 53, 54, 55, 56, 57, 58, 59, 60, 61, 62, 63, 64, 65, 66, 67, 68, 69, 70, 71, 72, 73, 74, 75, 76, 77, 78, 79, 80, 81] (by decide +kernel) (by decide +kernel)
set_option maxRecDepth 20000 in
theorem gX4_sample_X4_hear : GoodIn wsX4_sample (wsV RX4 133 RX4 yX4_hear wsX4_hear) := goodIn_app (goodIn_of _ (by decide +kernel)) ggX4_sample_X4_hear
theorem dX4_sample_0 : decode cX4_sample 0 = .ok (.bipush 7, 2) := by decide +kernel
theorem dX4_sample_2 : decode cX4_sample 2 = .ok (.istore_n 3, 1) := by decide +kernel
theorem dX4_sample_3 : decode cX4_sample 3 = .ok (.iload_n 3, 1) := by decide +kernel
theorem dX4_sample_4 : decode cX4_sample 4 = .ok (.ifCond .le 23, 3) := by decide +kernel
theorem dX4_sample_7 : decode cX4_sample 7 = .ok (.aload_n 0, 1) := by decide +kernel
theorem dX4_sample_8 : decode cX4_sample 8 = .ok (.getfield 13, 3) := by decide +kernel
theorem dX4_sample_11 : decode cX4_sample 11 = .ok (.iload_n 3, 1) := by decide +kernel
theorem dX4_sample_12 : decode cX4_sample 12 = .ok (.aload_n 0, 1) := by decide +kernel
theorem dX4_sample_13 : decode cX4_sample 13 = .ok (.getfield 13, 3) := by decide +kernel
theorem dX4_sample_16 : decode cX4_sample 16 = .ok (.iload_n 3, 1) := by decide +kernel
theorem dX4_sample_17 : decode cX4_sample 17 = .ok (.iconst 1, 1) := by decide +kernel
theorem dX4_sample_18 : decode cX4_sample 18 = .ok (.isub, 1) := by decide +kernel
theorem dX4_sample_19 : decode cX4_sample 19 = .ok (.iaload, 1) := by decide +kernel
theorem dX4_sample_20 : decode cX4_sample 20 = .ok (.iastore, 1) := by decide +kernel
theorem dX4_sample_21 : decode cX4_sample 21 = .ok (.iinc 3 (-1), 3) := by decide +kernel
theorem dX4_sample_24 : decode cX4_sample 24 = .ok (.goto (-21), 3) := by decide +kernel
theorem dX4_sample_27 : decode cX4_sample 27 = .ok (.aload_n 0, 1) := by decide +kernel
theorem dX4_sample_28 : decode cX4_sample 28 = .ok (.getfield 13, 3) := by decide +kernel
theorem dX4_sample_31 : decode cX4_sample 31 = .ok (.iconst 0, 1) := by decide +kernel
theorem dX4_sample_32 : decode cX4_sample 32 = .ok (.iload_n 1, 1) := by decide +kernel
theorem dX4_sample_33 : decode cX4_sample 33 = .ok (.iastore, 1) := by decide +kernel
theorem dX4_sample_34 : decode cX4_sample 34 = .ok (.iload_n 2, 1) := by decide +kernel
theorem dX4_sample_35 : decode cX4_sample 35 = .ok (.i2d, 1) := by decide +kernel
theorem dX4_sample_36 : decode cX4_sample 36 = .ok (.dstore_n 3, 1) := by decide +kernel
theorem dX4_sample_37 : decode cX4_sample 37 = .ok (.iconst 0, 1) := by decide +kernel
theorem dX4_sample_38 : decode cX4_sample 38 = .ok (.istore 5, 2) := by decide +kernel
theorem dX4_sample_40 : decode cX4_sample 40 = .ok (.iload 5, 2) := by decide +kernel
theorem dX4_sample_42 : decode cX4_sample 42 = .ok (.bipush 8, 2) := by decide +kernel
theorem dX4_sample_44 : decode cX4_sample 44 = .ok (.if_icmp .ge 33, 3) := by decide +kernel
theorem dX4_sample_47 : decode cX4_sample 47 = .ok (.dload_n 3, 1) := by decide +kernel
theorem dX4_sample_48 : decode cX4_sample 48 = .ok (.aload_n 0, 1) := by decide +kernel
theorem dX4_sample_49 : decode cX4_sample 49 = .ok (.getfield 7, 3) := by decide +kernel
theorem dX4_sample_52 : decode cX4_sample 52 = .ok (.iload 5, 2) := by decide +kernel
theorem dX4_sample_54 : decode cX4_sample 54 = .ok (.iaload, 1) := by decide +kernel
theorem dX4_sample_55 : decode cX4_sample 55 = .ok (.i2d, 1) := by decide +kernel
theorem dX4_sample_56 : decode cX4_sample 56 = .ok (.ldc2_w 97, 3) := by decide +kernel
theorem dX4_sample_59 : decode cX4_sample 59 = .ok (.ddiv, 1) := by decide +kernel
theorem dX4_sample_60 : decode cX4_sample 60 = .ok (.aload_n 0, 1) := by decide +kernel
theorem dX4_sample_61 : decode cX4_sample 61 = .ok (.getfield 13, 3) := by decide +kernel
theorem dX4_sample_64 : decode cX4_sample 64 = .ok (.iload 5, 2) := by decide +kernel
theorem dX4_sample_66 : decode cX4_sample 66 = .ok (.iaload, 1) := by decide +kernel
theorem dX4_sample_67 : decode cX4_sample 67 = .ok (.i2d, 1) := by decide +kernel
theorem dX4_sample_68 : decode cX4_sample 68 = .ok (.dmul, 1) := by decide +kernel
theorem dX4_sample_69 : decode cX4_sample 69 = .ok (.dadd, 1) := by decide +kernel
theorem dX4_sample_70 : decode cX4_sample 70 = .ok (.dstore_n 3, 1) := by decide +kernel
theorem dX4_sample_71 : decode cX4_sample 71 = .ok (.iinc 5 1, 3) := by decide +kernel
theorem dX4_sample_74 : decode cX4_sample 74 = .ok (.goto (-34), 3) := by decide +kernel
theorem dX4_sample_77 : decode cX4_sample 77 = .ok (.aload_n 0, 1) := by decide +kernel
theorem dX4_sample_78 : decode cX4_sample 78 = .ok (.dload_n 3, 1) := by decide +kernel
theorem dX4_sample_79 : decode cX4_sample 79 = .ok (.putfield 113, 3) := by decide +kernel
theorem dX4_sample_82 : decode cX4_sample 82 = .ok (.aload_n 0, 1) := by decide +kernel
theorem dX4_sample_83 : decode cX4_sample 83 = .ok (.getfield 16, 3) := by decide +kernel
theorem dX4_sample_86 : decode cX4_sample 86 = .ok (.aload_n 0, 1) := by decide +kernel
theorem dX4_sample_87 : decode cX4_sample 87 = .ok (.getfield 130, 3) := by decide +kernel
theorem dX4_sample_90 : decode cX4_sample 90 = .ok (.bipush 16, 2) := by decide +kernel
theorem dX4_sample_92 : decode cX4_sample 92 = .ok (.irem, 1) := by decide +kernel
theorem dX4_sample_93 : decode cX4_sample 93 = .ok (.aload_n 0, 1) := by decide +kernel
theorem dX4_sample_94 : decode cX4_sample 94 = .ok (.getfield 13, 3) := by decide +kernel
theorem dX4_sample_97 : decode cX4_sample 97 = .ok (.iconst 0, 1) := by decide +kernel
theorem dX4_sample_98 : decode cX4_sample 98 = .ok (.iaload, 1) := by decide +kernel
theorem dX4_sample_99 : decode cX4_sample 99 = .ok (.iastore, 1) := by decide +kernel
theorem dX4_sample_100 : decode cX4_sample 100 = .ok (.aload_n 0, 1) := by decide +kernel
theorem dX4_sample_101 : decode cX4_sample 101 = .ok (.getfield 19, 3) := by decide +kernel
theorem dX4_sample_104 : decode cX4_sample 104 = .ok (.aload_n 0, 1) := by decide +kernel
theorem dX4_sample_105 : decode cX4_sample 105 = .ok (.getfield 130, 3) := by decide +kernel
theorem dX4_sample_108 : decode cX4_sample 108 = .ok (.bipush 16, 2) := by decide +kernel
theorem dX4_sample_110 : decode cX4_sample 110 = .ok (.irem, 1) := by decide +kernel
theorem dX4_sample_111 : decode cX4_sample 111 = .ok (.aload_n 0, 1) := by decide +kernel
theorem dX4_sample_112 : decode cX4_sample 112 = .ok (.getfield 13, 3) := by decide +kernel
theorem dX4_sample_115 : decode cX4_sample 115 = .ok (.iconst 1, 1) := by decide +kernel
theorem dX4_sample_116 : decode cX4_sample 116 = .ok (.iaload, 1) := by decide +kernel
theorem dX4_sample_117 : decode cX4_sample 117 = .ok (.iastore, 1) := by decide +kernel
theorem dX4_sample_118 : decode cX4_sample 118 = .ok (.aload_n 0, 1) := by decide +kernel
theorem dX4_sample_119 : decode cX4_sample 119 = .ok (.getfield 22, 3) := by decide +kernel
theorem dX4_sample_122 : decode cX4_sample 122 = .ok (.aload_n 0, 1) := by decide +kernel
theorem dX4_sample_123 : decode cX4_sample 123 = .ok (.getfield 130, 3) := by decide +kernel
theorem dX4_sample_126 : decode cX4_sample 126 = .ok (.bipush 16, 2) := by decide +kernel
theorem dX4_sample_128 : decode cX4_sample 128 = .ok (.irem, 1) := by decide +kernel
theorem dX4_sample_129 : decode cX4_sample 129 = .ok (.dload_n 3, 1) := by decide +kernel
theorem dX4_sample_130 : decode cX4_sample 130 = .ok (.dastore, 1) := by decide +kernel
theorem dX4_sample_131 : decode cX4_sample 131 = .ok (.aload_n 0, 1) := by decide +kernel
theorem dX4_sample_132 : decode cX4_sample 132 = .ok (.dup, 1) := by decide +kernel
theorem dX4_sample_133 : decode cX4_sample 133 = .ok (.getfield 130, 3) := by decide +kernel
theorem dX4_sample_136 : decode cX4_sample 136 = .ok (.iconst 1, 1) := by decide +kernel
theorem dX4_sample_137 : decode cX4_sample 137 = .ok (.iadd, 1) := by decide +kernel
theorem dX4_sample_138 : decode cX4_sample 138 = .ok (.putfield 130, 3) := by decide +kernel
theorem dX4_sample_141 : decode cX4_sample 141 = .ok (.iconst 0, 1) := by decide +kernel
theorem dX4_sample_142 : decode cX4_sample 142 = .ok (.istore 5, 2) := by decide +kernel
theorem dX4_sample_144 : decode cX4_sample 144 = .ok (.iload 5, 2) := by decide +kernel
theorem dX4_sample_146 : decode cX4_sample 146 = .ok (.aload_n 0, 1) := by decide +kernel
theorem dX4_sample_147 : decode cX4_sample 147 = .ok (.getfield 75, 3) := by decide +kernel
theorem dX4_sample_150 : decode cX4_sample 150 = .ok (.if_icmp .ge 15, 3) := by decide +kernel
theorem dX4_sample_153 : decode cX4_sample 153 = .ok (.aload_n 0, 1) := by decide +kernel
theorem dX4_sample_154 : decode cX4_sample 154 = .ok (.iload 5, 2) := by decide +kernel
theorem dX4_sample_156 : decode cX4_sample 156 = .ok (.invokevirtual 133, 3) := by decide +kernel
theorem dX4_sample_159 : decode cX4_sample 159 = .ok (.iinc 5 1, 3) := by decide +kernel
theorem dX4_sample_162 : decode cX4_sample 162 = .ok (.goto (-18), 3) := by decide +kernel
theorem dX4_sample_165 : decode cX4_sample 165 = .ok (.return_, 1) := by decide +kernel
set_option maxRecDepth 20000 in
theorem ggX4_feed_X4_in : GoodIn wsX4_feed wsX4_in := goodIn_r _ [5] (by decide +kernel) (by decide +kernel)
set_option maxRecDepth 20000 in
theorem gX4_feed_X4_in : GoodIn wsX4_feed (va_wsS RX4 78 yX4_in wsX4_in) := goodIn_app (goodIn_of _ (by decide +kernel)) ggX4_feed_X4_in
set_option maxRecDepth 20000 in
theorem ggX4_feed_X4_goesWell : GoodIn wsX4_feed wsX4_goesWell := goodIn_r _ [9, 10, 70, 71, 72, 73, 74, 75, 76, 77, 78, 79, 80, 81, 82, 83, 84, 85, 86, 87, 88, 89, 90, 91, 92, 93] (by decide +kernel) (by decide +kernel)
set_option maxRecDepth 20000 in
theorem gX4_feed_X4_goesWell : GoodIn wsX4_feed (wsV RX4 82 RX4 yX4_goesWell wsX4_goesWell) := goodIn_app (goodIn_of _ (by decide +kernel)) ggX4_feed_X4_goesWell
set_option maxRecDepth 20000 in
theorem ggX4_feed_X4_sample : GoodIn wsX4_feed wsX4_sample := goodIn_r _ [14, 15, 16, 17, 18, 19, 1, 20, 21, 22, 23, 24, 25, 4, 26, 27, 28, 29, 30, 31, 32, 33, 34, 35, 36, 37, 38, 39, 40, 41, 42, 43, 44, 45, 46, 47, 48, 49, 50, 51, 52, 53, 54, 55, 56, 57, 58, 59, 60, 61, 62, 63, 64, 65, 66, 67, 68, 69, 70, 71, 72, 73, 74, 75, 76, 77, 78, 79, 80, 81, 82, 83, 84, 85, 86, 87, 88, 89, 90, 91, 92, 93] (by decide +kernel) (by decide +kernel)
set_option maxRecDepth 20000 in
theorem gX4_feed_X4_sample : GoodIn wsX4_feed (wsV RX4 136 RX4 yX4_sample wsX4_sample) := goodIn_app (goodIn_of _ (by decide +kernel)) ggX4_feed_X4_sample
theorem dX4_feed_0 : decode cX4_feed 0 = .ok (.iload_n 1, 1) := by decide +kernel
theorem dX4_feed_1 : decode cX4_feed 1 = .ok (.sipush (-1000), 3) := by decide +kernel
theorem dX4_feed_4 : decode cX4_feed 4 = .ok (.sipush 1000, 3) := by decide +kernel
theorem dX4_feed_7 : decode cX4_feed 7 = .ok (.invokestatic 78, 3) := by decide +kernel
theorem dX4_feed_10 : decode cX4_feed 10 = .ok (.ifCond .eq 20, 3) := by decide +kernel
theorem dX4_feed_13 : decode cX4_feed 13 = .ok (.iload_n 2, 1) := by decide +kernel
theorem dX4_feed_14 : decode cX4_feed 14 = .ok (.sipush (-1000), 3) := by decide +kernel
theorem dX4_feed_17 : decode cX4_feed 17 = .ok (.sipush 1000, 3) := by decide +kernel
theorem dX4_feed_20 : decode cX4_feed 20 = .ok (.invokestatic 78, 3) := by decide +kernel
theorem dX4_feed_23 : decode cX4_feed 23 = .ok (.ifCond .eq 7, 3) := by decide +kernel
theorem dX4_feed_26 : decode cX4_feed 26 = .ok (.iconst 1, 1) := by decide +kernel
theorem dX4_feed_27 : decode cX4_feed 27 = .ok (.goto 4, 3) := by decide +kernel
theorem dX4_feed_30 : decode cX4_feed 30 = .ok (.iconst 0, 1) := by decide +kernel
theorem dX4_feed_31 : decode cX4_feed 31 = .ok (.istore_n 3, 1) := by decide +kernel
theorem dX4_feed_32 : decode cX4_feed 32 = .ok (.aload_n 0, 1) := by decide +kernel
theorem dX4_feed_33 : decode cX4_feed 33 = .ok (.iload_n 3, 1) := by decide +kernel
theorem dX4_feed_34 : decode cX4_feed 34 = .ok (.ifCond .ne 7, 3) := by decide +kernel
theorem dX4_feed_37 : decode cX4_feed 37 = .ok (.iconst 1, 1) := by decide +kernel
theorem dX4_feed_38 : decode cX4_feed 38 = .ok (.goto 18, 3) := by decide +kernel
theorem dX4_feed_41 : decode cX4_feed 41 = .ok (.aload_n 0, 1) := by decide +kernel
theorem dX4_feed_42 : decode cX4_feed 42 = .ok (.getfield 130, 3) := by decide +kernel
theorem dX4_feed_45 : decode cX4_feed 45 = .ok (.sipush 2000, 3) := by decide +kernel
theorem dX4_feed_48 : decode cX4_feed 48 = .ok (.if_icmp .ne 7, 3) := by decide +kernel
theorem dX4_feed_51 : decode cX4_feed 51 = .ok (.iconst 2, 1) := by decide +kernel
theorem dX4_feed_52 : decode cX4_feed 52 = .ok (.goto 4, 3) := by decide +kernel
theorem dX4_feed_55 : decode cX4_feed 55 = .ok (.iconst 0, 1) := by decide +kernel
theorem dX4_feed_56 : decode cX4_feed 56 = .ok (.invokevirtual 82, 3) := by decide +kernel
theorem dX4_feed_59 : decode cX4_feed 59 = .ok (.ifCond .ne 5, 3) := by decide +kernel
theorem dX4_feed_62 : decode cX4_feed 62 = .ok (.iconst 0, 1) := by decide +kernel
theorem dX4_feed_63 : decode cX4_feed 63 = .ok (.ireturn, 1) := by decide +kernel
theorem dX4_feed_64 : decode cX4_feed 64 = .ok (.aload_n 0, 1) := by decide +kernel
theorem dX4_feed_65 : decode cX4_feed 65 = .ok (.iload_n 1, 1) := by decide +kernel
theorem dX4_feed_66 : decode cX4_feed 66 = .ok (.iload_n 2, 1) := by decide +kernel
theorem dX4_feed_67 : decode cX4_feed 67 = .ok (.invokevirtual 136, 3) := by decide +kernel
theorem dX4_feed_70 : decode cX4_feed 70 = .ok (.aload_n 0, 1) := by decide +kernel
theorem dX4_feed_71 : decode cX4_feed 71 = .ok (.getfield 130, 3) := by decide +kernel
theorem dX4_feed_74 : decode cX4_feed 74 = .ok (.ireturn, 1) := by decide +kernel
set_option maxRecDepth 20000 in
theorem ggX4_script_X4_in : GoodIn wsX4_script wsX4_in := goodIn_r _ [5] (by decide +kernel) (by decide +kernel)
set_option maxRecDepth 20000 in
theorem gX4_script_X4_in : GoodIn wsX4_script (va_wsS RX4 78 yX4_in wsX4_in) := goodIn_app (goodIn_of _ (by decide +kernel)) ggX4_script_X4_in
set_option maxRecDepth 20000 in
theorem ggX4_script_X4_goesWell : GoodIn wsX4_script wsX4_goesWell := goodIn_r _ [9, 10, 70, 71, 72, 73, 74, 75, 76, 77, 78, 79, 80, 81, 82, 83, 84, 85, 86, 87, 88, 89, 90, 91, 92, 93] (by decide +kernel) (by decide +kernel)
set_option maxRecDepth 20000 in
theorem gX4_script_X4_goesWell : GoodIn wsX4_script (wsV RX4 82 RX4 yX4_goesWell wsX4_goesWell) := goodIn_app (goodIn_of _ (by decide +kernel)) ggX4_script_X4_goesWell
set_option maxRecDepth 20000 in
theorem ggX4_script_X4_sample : GoodIn wsX4_script wsX4_sample := goodIn_r _ [14, 15, 16, 17, 18, 19, 1, 20, 21, 22, 23, 24, 25, 4, 26, 27, 28, 29, 30, 31, 32, 33, 34, 35, 36, 37, 38, 39, 40, 41, 42, 43, 44, 45, 46, 47, 48, 49, 50, 51, 52, 53, 54, 55, 56, 57, 58, 59, 60, 61, 62, 63, 64, 65, 66, 67, 68, 69, 70, 71, 72, 73, 74, 75, 76, 77, 78, 79, 80, 81, 82, 83, 84, 85, 86, 87, 88, 89, 90, 91, 92, 93] (by decide +kernel) (by decide +kernel)
set_option maxRecDepth 20000 in
theorem gX4_script_X4_sample : GoodIn wsX4_script (wsV RX4 136 RX4 yX4_sample wsX4_sample) := goodIn_app (goodIn_of _ (by decide +kernel)) ggX4_script_X4_sample
theorem dX4_script_0 : decode cX4_script 0 = .ok (.iload_n 1, 1) := by decide +kernel
theorem dX4_script_1 : decode cX4_script 1 = .ok (.iconst 0, 1) := by decide +kernel
theorem dX4_script_2 : decode cX4_script 2 = .ok (.sipush 2000, 3) := by decide +kernel
theorem dX4_script_5 : decode cX4_script 5 = .ok (.invokestatic 78, 3) := by decide +kernel
theorem dX4_script_8 : decode cX4_script 8 = .ok (.ifCond .eq 17, 3) := by decide +kernel
theorem dX4_script_11 : decode cX4_script 11 = .ok (.iload_n 2, 1) := by decide +kernel
theorem dX4_script_12 : decode cX4_script 12 = .ok (.iconst 1, 1) := by decide +kernel
theorem dX4_script_13 : decode cX4_script 13 = .ok (.bipush 100, 2) := by decide +kernel
theorem dX4_script_15 : decode cX4_script 15 = .ok (.invokestatic 78, 3) := by decide +kernel
theorem dX4_script_18 : decode cX4_script 18 = .ok (.ifCond .eq 7, 3) := by decide +kernel
theorem dX4_script_21 : decode cX4_script 21 = .ok (.iconst 1, 1) := by decide +kernel
theorem dX4_script_22 : decode cX4_script 22 = .ok (.goto 4, 3) := by decide +kernel
theorem dX4_script_25 : decode cX4_script 25 = .ok (.iconst 0, 1) := by decide +kernel
theorem dX4_script_26 : decode cX4_script 26 = .ok (.istore_n 3, 1) := by decide +kernel
theorem dX4_script_27 : decode cX4_script 27 = .ok (.aload_n 0, 1) := by decide +kernel
theorem dX4_script_28 : decode cX4_script 28 = .ok (.iload_n 3, 1) := by decide +kernel
theorem dX4_script_29 : decode cX4_script 29 = .ok (.ifCond .ne 7, 3) := by decide +kernel
theorem dX4_script_32 : decode cX4_script 32 = .ok (.iconst 1, 1) := by decide +kernel
theorem dX4_script_33 : decode cX4_script 33 = .ok (.goto 20, 3) := by decide +kernel
theorem dX4_script_36 : decode cX4_script 36 = .ok (.aload_n 0, 1) := by decide +kernel
theorem dX4_script_37 : decode cX4_script 37 = .ok (.getfield 130, 3) := by decide +kernel
theorem dX4_script_40 : decode cX4_script 40 = .ok (.iload_n 2, 1) := by decide +kernel
theorem dX4_script_41 : decode cX4_script 41 = .ok (.iadd, 1) := by decide +kernel
theorem dX4_script_42 : decode cX4_script 42 = .ok (.sipush 2000, 3) := by decide +kernel
theorem dX4_script_45 : decode cX4_script 45 = .ok (.if_icmp .le 7, 3) := by decide +kernel
theorem dX4_script_48 : decode cX4_script 48 = .ok (.iconst 2, 1) := by decide +kernel
theorem dX4_script_49 : decode cX4_script 49 = .ok (.goto 4, 3) := by decide +kernel
theorem dX4_script_52 : decode cX4_script 52 = .ok (.iconst 0, 1) := by decide +kernel
theorem dX4_script_53 : decode cX4_script 53 = .ok (.invokevirtual 82, 3) := by decide +kernel
theorem dX4_script_56 : decode cX4_script 56 = .ok (.ifCond .ne 5, 3) := by decide +kernel
theorem dX4_script_59 : decode cX4_script 59 = .ok (.iconst 0, 1) := by decide +kernel
theorem dX4_script_60 : decode cX4_script 60 = .ok (.ireturn, 1) := by decide +kernel
theorem dX4_script_61 : decode cX4_script 61 = .ok (.iload_n 1, 1) := by decide +kernel
theorem dX4_script_62 : decode cX4_script 62 = .ok (.istore 4, 2) := by decide +kernel
theorem dX4_script_64 : decode cX4_script 64 = .ok (.iconst 0, 1) := by decide +kernel
theorem dX4_script_65 : decode cX4_script 65 = .ok (.istore 5, 2) := by decide +kernel
theorem dX4_script_67 : decode cX4_script 67 = .ok (.iload 5, 2) := by decide +kernel
theorem dX4_script_69 : decode cX4_script 69 = .ok (.iload_n 2, 1) := by decide +kernel
theorem dX4_script_70 : decode cX4_script 70 = .ok (.if_icmp .ge 35, 3) := by decide +kernel
theorem dX4_script_73 : decode cX4_script 73 = .ok (.bipush 7, 2) := by decide +kernel
theorem dX4_script_75 : decode cX4_script 75 = .ok (.iload 4, 2) := by decide +kernel
theorem dX4_script_77 : decode cX4_script 77 = .ok (.imul, 1) := by decide +kernel
theorem dX4_script_78 : decode cX4_script 78 = .ok (.sipush 1001, 3) := by decide +kernel
theorem dX4_script_81 : decode cX4_script 81 = .ok (.iadd, 1) := by decide +kernel
theorem dX4_script_82 : decode cX4_script 82 = .ok (.sipush 2001, 3) := by decide +kernel
theorem dX4_script_85 : decode cX4_script 85 = .ok (.irem, 1) := by decide +kernel
theorem dX4_script_86 : decode cX4_script 86 = .ok (.istore 4, 2) := by decide +kernel
theorem dX4_script_88 : decode cX4_script 88 = .ok (.aload_n 0, 1) := by decide +kernel
theorem dX4_script_89 : decode cX4_script 89 = .ok (.iload 4, 2) := by decide +kernel
theorem dX4_script_91 : decode cX4_script 91 = .ok (.sipush 1000, 3) := by decide +kernel
theorem dX4_script_94 : decode cX4_script 94 = .ok (.isub, 1) := by decide +kernel
theorem dX4_script_95 : decode cX4_script 95 = .ok (.iconst 0, 1) := by decide +kernel
theorem dX4_script_96 : decode cX4_script 96 = .ok (.invokevirtual 136, 3) := by decide +kernel
theorem dX4_script_99 : decode cX4_script 99 = .ok (.iinc 5 1, 3) := by decide +kernel
theorem dX4_script_102 : decode cX4_script 102 = .ok (.goto (-35), 3) := by decide +kernel
theorem dX4_script_105 : decode cX4_script 105 = .ok (.iload 4, 2) := by decide +kernel
theorem dX4_script_107 : decode cX4_script 107 = .ok (.ireturn, 1) := by decide +kernel
set_option maxRecDepth 20000 in
theorem ggX4_weight_X4_isFilter : GoodIn wsX4_weight wsX4_isFilter := goodIn_r _ [7, 8, 9, 10, 6, 11, 17, 18, 19, 20, 21, 22, 23, 24, 25, 26, 27, 28, 29, 30, 31, 32, 33, 34, 35, 36, 37, 38, 39, 40] (by decide +kernel) (by decide +kernel)
set_option maxRecDepth 20000 in
theorem gX4_weight_X4_isFilter : GoodIn wsX4_weight (wsV RX4 94 RX4 yX4_isFilter wsX4_isFilter) := goodIn_app (goodIn_of _ (by decide +kernel)) ggX4_weight_X4_isFilter
set_option maxRecDepth 20000 in
theorem ggX4_weight_X4_in : GoodIn wsX4_weight wsX4_in := goodIn_r _ [11] (by decide +kernel) (by decide +kernel)
set_option maxRecDepth 20000 in
theorem gX4_weight_X4_in : GoodIn wsX4_weight (va_wsS RX4 78 yX4_in wsX4_in) := goodIn_app (goodIn_of _ (by decide +kernel)) ggX4_weight_X4_in
set_option maxRecDepth 20000 in
theorem ggX4_weight_X4_goesWell : GoodIn wsX4_weight wsX4_goesWell := goodIn_r _ [15, 16, 17, 18, 19, 20, 21, 22, 23, 24, 25, 26, 27, 28, 29, 30, 31, 32, 33, 34, 35, 36, 37, 38, 39, 40] (by decide +kernel) (by decide +kernel)
set_option maxRecDepth 20000 in
theorem gX4_weight_X4_goesWell : GoodIn wsX4_weight (wsV RX4 82 RX4 yX4_goesWell wsX4_goesWell) := goodIn_app (goodIn_of _ (by decide +kernel)) ggX4_weight_X4_goesWell
theorem dX4_weight_0 : decode cX4_weight 0 = .ok (.aload_n 0, 1) := by decide +kernel
theorem dX4_weight_1 : decode cX4_weight 1 = .ok (.aload_n 0, 1) := by decide +kernel
theorem dX4_weight_2 : decode cX4_weight 2 = .ok (.iload_n 1, 1) := by decide +kernel
theorem dX4_weight_3 : decode cX4_weight 3 = .ok (.invokevirtual 94, 3) := by decide +kernel
theorem dX4_weight_6 : decode cX4_weight 6 = .ok (.ifCond .eq 23, 3) := by decide +kernel
theorem dX4_weight_9 : decode cX4_weight 9 = .ok (.iload_n 2, 1) := by decide +kernel
theorem dX4_weight_10 : decode cX4_weight 10 = .ok (.iconst 0, 1) := by decide +kernel
theorem dX4_weight_11 : decode cX4_weight 11 = .ok (.aload_n 0, 1) := by decide +kernel
theorem dX4_weight_12 : decode cX4_weight 12 = .ok (.getfield 29, 3) := by decide +kernel
theorem dX4_weight_15 : decode cX4_weight 15 = .ok (.iload_n 1, 1) := by decide +kernel
theorem dX4_weight_16 : decode cX4_weight 16 = .ok (.iaload, 1) := by decide +kernel
theorem dX4_weight_17 : decode cX4_weight 17 = .ok (.iconst 1, 1) := by decide +kernel
theorem dX4_weight_18 : decode cX4_weight 18 = .ok (.isub, 1) := by decide +kernel
theorem dX4_weight_19 : decode cX4_weight 19 = .ok (.invokestatic 78, 3) := by decide +kernel
theorem dX4_weight_22 : decode cX4_weight 22 = .ok (.ifCond .eq 7, 3) := by decide +kernel
theorem dX4_weight_25 : decode cX4_weight 25 = .ok (.iconst 0, 1) := by decide +kernel
theorem dX4_weight_26 : decode cX4_weight 26 = .ok (.goto 4, 3) := by decide +kernel
theorem dX4_weight_29 : decode cX4_weight 29 = .ok (.iconst 1, 1) := by decide +kernel
theorem dX4_weight_30 : decode cX4_weight 30 = .ok (.invokevirtual 82, 3) := by decide +kernel
theorem dX4_weight_33 : decode cX4_weight 33 = .ok (.ifCond .eq 17, 3) := by decide +kernel
theorem dX4_weight_36 : decode cX4_weight 36 = .ok (.aload_n 0, 1) := by decide +kernel
theorem dX4_weight_37 : decode cX4_weight 37 = .ok (.getfield 53, 3) := by decide +kernel
theorem dX4_weight_40 : decode cX4_weight 40 = .ok (.bipush 8, 2) := by decide +kernel
theorem dX4_weight_42 : decode cX4_weight 42 = .ok (.iload_n 1, 1) := by decide +kernel
theorem dX4_weight_43 : decode cX4_weight 43 = .ok (.imul, 1) := by decide +kernel
theorem dX4_weight_44 : decode cX4_weight 44 = .ok (.iload_n 2, 1) := by decide +kernel
theorem dX4_weight_45 : decode cX4_weight 45 = .ok (.iadd, 1) := by decide +kernel
theorem dX4_weight_46 : decode cX4_weight 46 = .ok (.daload, 1) := by decide +kernel
theorem dX4_weight_47 : decode cX4_weight 47 = .ok (.goto 4, 3) := by decide +kernel
theorem dX4_weight_50 : decode cX4_weight 50 = .ok (.dconst 0, 1) := by decide +kernel
theorem dX4_weight_51 : decode cX4_weight 51 = .ok (.dreturn, 1) := by decide +kernel
theorem dX4_offBy_0 : decode cX4_offBy 0 = .ok (.dconst 0, 1) := by decide +kernel
theorem dX4_offBy_1 : decode cX4_offBy 1 = .ok (.dstore_n 2, 1) := by decide +kernel
theorem dX4_offBy_2 : decode cX4_offBy 2 = .ok (.iconst 0, 1) := by decide +kernel
theorem dX4_offBy_3 : decode cX4_offBy 3 = .ok (.istore 4, 2) := by decide +kernel
theorem dX4_offBy_5 : decode cX4_offBy 5 = .ok (.iload 4, 2) := by decide +kernel
theorem dX4_offBy_7 : decode cX4_offBy 7 = .ok (.aload_n 0, 1) := by decide +kernel
theorem dX4_offBy_8 : decode cX4_offBy 8 = .ok (.getfield 29, 3) := by decide +kernel
theorem dX4_offBy_11 : decode cX4_offBy 11 = .ok (.iload_n 1, 1) := by decide +kernel
theorem dX4_offBy_12 : decode cX4_offBy 12 = .ok (.iaload, 1) := by decide +kernel
theorem dX4_offBy_13 : decode cX4_offBy 13 = .ok (.if_icmp .ge 44, 3) := by decide +kernel
theorem dX4_offBy_16 : decode cX4_offBy 16 = .ok (.aload_n 0, 1) := by decide +kernel
theorem dX4_offBy_17 : decode cX4_offBy 17 = .ok (.getfield 53, 3) := by decide +kernel
theorem dX4_offBy_20 : decode cX4_offBy 20 = .ok (.bipush 8, 2) := by decide +kernel
theorem dX4_offBy_22 : decode cX4_offBy 22 = .ok (.iload_n 1, 1) := by decide +kernel
theorem dX4_offBy_23 : decode cX4_offBy 23 = .ok (.imul, 1) := by decide +kernel
theorem dX4_offBy_24 : decode cX4_offBy 24 = .ok (.iload 4, 2) := by decide +kernel
theorem dX4_offBy_26 : decode cX4_offBy 26 = .ok (.iadd, 1) := by decide +kernel
theorem dX4_offBy_27 : decode cX4_offBy 27 = .ok (.daload, 1) := by decide +kernel
theorem dX4_offBy_28 : decode cX4_offBy 28 = .ok (.aload_n 0, 1) := by decide +kernel
theorem dX4_offBy_29 : decode cX4_offBy 29 = .ok (.getfield 7, 3) := by decide +kernel
theorem dX4_offBy_32 : decode cX4_offBy 32 = .ok (.iload 4, 2) := by decide +kernel
theorem dX4_offBy_34 : decode cX4_offBy 34 = .ok (.iaload, 1) := by decide +kernel
theorem dX4_offBy_35 : decode cX4_offBy 35 = .ok (.i2d, 1) := by decide +kernel
theorem dX4_offBy_36 : decode cX4_offBy 36 = .ok (.ldc2_w 97, 3) := by decide +kernel
theorem dX4_offBy_39 : decode cX4_offBy 39 = .ok (.ddiv, 1) := by decide +kernel
theorem dX4_offBy_40 : decode cX4_offBy 40 = .ok (.dsub, 1) := by decide +kernel
theorem dX4_offBy_41 : decode cX4_offBy 41 = .ok (.dstore 5, 2) := by decide +kernel
theorem dX4_offBy_43 : decode cX4_offBy 43 = .ok (.dload_n 2, 1) := by decide +kernel
theorem dX4_offBy_44 : decode cX4_offBy 44 = .ok (.dload 5, 2) := by decide +kernel
theorem dX4_offBy_46 : decode cX4_offBy 46 = .ok (.dload 5, 2) := by decide +kernel
theorem dX4_offBy_48 : decode cX4_offBy 48 = .ok (.dmul, 1) := by decide +kernel
theorem dX4_offBy_49 : decode cX4_offBy 49 = .ok (.dadd, 1) := by decide +kernel
theorem dX4_offBy_50 : decode cX4_offBy 50 = .ok (.dstore_n 2, 1) := by decide +kernel
theorem dX4_offBy_51 : decode cX4_offBy 51 = .ok (.iinc 4 1, 3) := by decide +kernel
theorem dX4_offBy_54 : decode cX4_offBy 54 = .ok (.goto (-49), 3) := by decide +kernel
theorem dX4_offBy_57 : decode cX4_offBy 57 = .ok (.dload_n 2, 1) := by decide +kernel
theorem dX4_offBy_58 : decode cX4_offBy 58 = .ok (.dreturn, 1) := by decide +kernel
theorem dX4_power_0 : decode cX4_power 0 = .ok (.aload_n 0, 1) := by decide +kernel
theorem dX4_power_1 : decode cX4_power 1 = .ok (.getfield 44, 3) := by decide +kernel
theorem dX4_power_4 : decode cX4_power 4 = .ok (.iload_n 1, 1) := by decide +kernel
theorem dX4_power_5 : decode cX4_power 5 = .ok (.iaload, 1) := by decide +kernel
theorem dX4_power_6 : decode cX4_power 6 = .ok (.bipush 16, 2) := by decide +kernel
theorem dX4_power_8 : decode cX4_power 8 = .ok (.if_icmp .ge 12, 3) := by decide +kernel
theorem dX4_power_11 : decode cX4_power 11 = .ok (.aload_n 0, 1) := by decide +kernel
theorem dX4_power_12 : decode cX4_power 12 = .ok (.getfield 44, 3) := by decide +kernel
theorem dX4_power_15 : decode cX4_power 15 = .ok (.iload_n 1, 1) := by decide +kernel
theorem dX4_power_16 : decode cX4_power 16 = .ok (.iaload, 1) := by decide +kernel
theorem dX4_power_17 : decode cX4_power 17 = .ok (.goto 5, 3) := by decide +kernel
theorem dX4_power_20 : decode cX4_power 20 = .ok (.bipush 16, 2) := by decide +kernel
theorem dX4_power_22 : decode cX4_power 22 = .ok (.istore_n 2, 1) := by decide +kernel
theorem dX4_power_23 : decode cX4_power 23 = .ok (.dconst 0, 1) := by decide +kernel
theorem dX4_power_24 : decode cX4_power 24 = .ok (.dstore_n 3, 1) := by decide +kernel
theorem dX4_power_25 : decode cX4_power 25 = .ok (.aload_n 0, 1) := by decide +kernel
theorem dX4_power_26 : decode cX4_power 26 = .ok (.getfield 44, 3) := by decide +kernel
theorem dX4_power_29 : decode cX4_power 29 = .ok (.iload_n 1, 1) := by decide +kernel
theorem dX4_power_30 : decode cX4_power 30 = .ok (.iaload, 1) := by decide +kernel
theorem dX4_power_31 : decode cX4_power 31 = .ok (.iload_n 2, 1) := by decide +kernel
theorem dX4_power_32 : decode cX4_power 32 = .ok (.isub, 1) := by decide +kernel
theorem dX4_power_33 : decode cX4_power 33 = .ok (.istore 5, 2) := by decide +kernel
theorem dX4_power_35 : decode cX4_power 35 = .ok (.iload 5, 2) := by decide +kernel
theorem dX4_power_37 : decode cX4_power 37 = .ok (.aload_n 0, 1) := by decide +kernel
theorem dX4_power_38 : decode cX4_power 38 = .ok (.getfield 44, 3) := by decide +kernel
theorem dX4_power_41 : decode cX4_power 41 = .ok (.iload_n 1, 1) := by decide +kernel
theorem dX4_power_42 : decode cX4_power 42 = .ok (.iaload, 1) := by decide +kernel
theorem dX4_power_43 : decode cX4_power 43 = .ok (.if_icmp .ge 34, 3) := by decide +kernel
theorem dX4_power_46 : decode cX4_power 46 = .ok (.aload_n 0, 1) := by decide +kernel
theorem dX4_power_47 : decode cX4_power 47 = .ok (.getfield 62, 3) := by decide +kernel
theorem dX4_power_50 : decode cX4_power 50 = .ok (.bipush 16, 2) := by decide +kernel
theorem dX4_power_52 : decode cX4_power 52 = .ok (.iload_n 1, 1) := by decide +kernel
theorem dX4_power_53 : decode cX4_power 53 = .ok (.imul, 1) := by decide +kernel
theorem dX4_power_54 : decode cX4_power 54 = .ok (.iload 5, 2) := by decide +kernel
theorem dX4_power_56 : decode cX4_power 56 = .ok (.bipush 16, 2) := by decide +kernel
theorem dX4_power_58 : decode cX4_power 58 = .ok (.irem, 1) := by decide +kernel
theorem dX4_power_59 : decode cX4_power 59 = .ok (.iadd, 1) := by decide +kernel
theorem dX4_power_60 : decode cX4_power 60 = .ok (.daload, 1) := by decide +kernel
theorem dX4_power_61 : decode cX4_power 61 = .ok (.dstore 6, 2) := by decide +kernel
theorem dX4_power_63 : decode cX4_power 63 = .ok (.dload_n 3, 1) := by decide +kernel
theorem dX4_power_64 : decode cX4_power 64 = .ok (.dload 6, 2) := by decide +kernel
theorem dX4_power_66 : decode cX4_power 66 = .ok (.dload 6, 2) := by decide +kernel
theorem dX4_power_68 : decode cX4_power 68 = .ok (.dmul, 1) := by decide +kernel
theorem dX4_power_69 : decode cX4_power 69 = .ok (.dadd, 1) := by decide +kernel
theorem dX4_power_70 : decode cX4_power 70 = .ok (.dstore_n 3, 1) := by decide +kernel
theorem dX4_power_71 : decode cX4_power 71 = .ok (.iinc 5 1, 3) := by decide +kernel
theorem dX4_power_74 : decode cX4_power 74 = .ok (.goto (-39), 3) := by decide +kernel
theorem dX4_power_77 : decode cX4_power 77 = .ok (.iload_n 2, 1) := by decide +kernel
theorem dX4_power_78 : decode cX4_power 78 = .ok (.ifCond .ne 7, 3) := by decide +kernel
theorem dX4_power_81 : decode cX4_power 81 = .ok (.dconst 0, 1) := by decide +kernel
theorem dX4_power_82 : decode cX4_power 82 = .ok (.goto 7, 3) := by decide +kernel
theorem dX4_power_85 : decode cX4_power 85 = .ok (.dload_n 3, 1) := by decide +kernel
theorem dX4_power_86 : decode cX4_power 86 = .ok (.iload_n 2, 1) := by decide +kernel
theorem dX4_power_87 : decode cX4_power 87 = .ok (.i2d, 1) := by decide +kernel
theorem dX4_power_88 : decode cX4_power 88 = .ok (.ddiv, 1) := by decide +kernel
theorem dX4_power_89 : decode cX4_power 89 = .ok (.dreturn, 1) := by decide +kernel
set_option maxRecDepth 20000 in
theorem ggX4_of_X4_isFilter : GoodIn wsX4_of wsX4_isFilter := goodIn_r _ [7, 8, 9, 10, 6, 11, 31, 32, 33, 34, 35, 36, 37, 38, 39, 40, 41, 42, 43, 44, 45, 46, 47, 48, 49, 50, 51, 52, 53, 54] (by decide +kernel) (by decide +kernel)
set_option maxRecDepth 20000 in
theorem gX4_of_X4_isFilter : GoodIn wsX4_of (wsV RX4 94 RX4 yX4_isFilter wsX4_isFilter) := goodIn_app (goodIn_of _ (by decide +kernel)) ggX4_of_X4_isFilter
set_option maxRecDepth 20000 in
theorem ggX4_of_X4_in : GoodIn wsX4_of wsX4_in := goodIn_r _ [11] (by decide +kernel) (by decide +kernel)
set_option maxRecDepth 20000 in
theorem gX4_of_X4_in : GoodIn wsX4_of (va_wsS RX4 78 yX4_in wsX4_in) := goodIn_app (goodIn_of _ (by decide +kernel)) ggX4_of_X4_in
set_option maxRecDepth 20000 in
theorem ggX4_of_X4_goesWell : GoodIn wsX4_of wsX4_goesWell := goodIn_r _ [15, 16, 31, 32, 33, 34, 35, 36, 37, 38, 39, 40, 41, 42, 43, 44, 45, 46, 47, 48, 49, 50, 51, 52, 53, 54] (by decide +kernel) (by decide +kernel)
set_option maxRecDepth 20000 in
theorem gX4_of_X4_goesWell : GoodIn wsX4_of (wsV RX4 82 RX4 yX4_goesWell wsX4_goesWell) := goodIn_app (goodIn_of _ (by decide +kernel)) ggX4_of_X4_goesWell
set_option maxRecDepth 20000 in
theorem ggX4_of_X4_offBy : GoodIn wsX4_of wsX4_offBy := goodIn_r _ [20, 21, 22, 23, 24, 31, 32, 33, 34, 35, 36, 37, 38, 39, 40, 41, 42, 43, 44, 45, 46, 47, 48, 49, 50, 51, 52, 53, 54] (by decide +kernel) (by decide +kernel)
set_option maxRecDepth 20000 in
theorem gX4_of_X4_offBy : GoodIn wsX4_of (wsV RX4 140 RX4 yX4_offBy wsX4_offBy) := goodIn_app (goodIn_of _ (by decide +kernel)) ggX4_of_X4_offBy
set_option maxRecDepth 20000 in
theorem ggX4_of_X4_power : GoodIn wsX4_of wsX4_power := goodIn_r _ [28, 29, 30, 31, 32, 33, 34, 35, 36, 37, 38, 39, 40, 41, 42, 43, 44, 45, 46, 47, 48, 49, 50, 51, 52, 53, 54] (by decide +kernel) (by decide +kernel)
set_option maxRecDepth 20000 in
theorem gX4_of_X4_power : GoodIn wsX4_of (wsV RX4 144 RX4 yX4_power wsX4_power) := goodIn_app (goodIn_of _ (by decide +kernel)) ggX4_of_X4_power
theorem dX4_of_0 : decode cX4_of 0 = .ok (.aload_n 0, 1) := by decide +kernel
theorem dX4_of_1 : decode cX4_of 1 = .ok (.iload_n 1, 1) := by decide +kernel
theorem dX4_of_2 : decode cX4_of 2 = .ok (.invokevirtual 94, 3) := by decide +kernel
theorem dX4_of_5 : decode cX4_of 5 = .ok (.istore_n 3, 1) := by decide +kernel
theorem dX4_of_6 : decode cX4_of 6 = .ok (.aload_n 0, 1) := by decide +kernel
theorem dX4_of_7 : decode cX4_of 7 = .ok (.iload_n 3, 1) := by decide +kernel
theorem dX4_of_8 : decode cX4_of 8 = .ok (.ifCond .ne 7, 3) := by decide +kernel
theorem dX4_of_11 : decode cX4_of 11 = .ok (.iconst 1, 1) := by decide +kernel
theorem dX4_of_12 : decode cX4_of 12 = .ok (.goto 17, 3) := by decide +kernel
theorem dX4_of_15 : decode cX4_of 15 = .ok (.iload_n 2, 1) := by decide +kernel
theorem dX4_of_16 : decode cX4_of 16 = .ok (.iconst 0, 1) := by decide +kernel
theorem dX4_of_17 : decode cX4_of 17 = .ok (.iconst 3, 1) := by decide +kernel
theorem dX4_of_18 : decode cX4_of 18 = .ok (.invokestatic 78, 3) := by decide +kernel
theorem dX4_of_21 : decode cX4_of 21 = .ok (.ifCond .eq 7, 3) := by decide +kernel
theorem dX4_of_24 : decode cX4_of 24 = .ok (.iconst 0, 1) := by decide +kernel
theorem dX4_of_25 : decode cX4_of 25 = .ok (.goto 4, 3) := by decide +kernel
theorem dX4_of_28 : decode cX4_of 28 = .ok (.iconst 2, 1) := by decide +kernel
theorem dX4_of_29 : decode cX4_of 29 = .ok (.invokevirtual 82, 3) := by decide +kernel
theorem dX4_of_32 : decode cX4_of 32 = .ok (.ifCond .ne 5, 3) := by decide +kernel
theorem dX4_of_35 : decode cX4_of 35 = .ok (.dconst 0, 1) := by decide +kernel
theorem dX4_of_36 : decode cX4_of 36 = .ok (.dreturn, 1) := by decide +kernel
theorem dX4_of_37 : decode cX4_of 37 = .ok (.iload_n 2, 1) := by decide +kernel
theorem dX4_of_38 : decode cX4_of 38 = .ok (.ifCond .ne 12, 3) := by decide +kernel
theorem dX4_of_41 : decode cX4_of 41 = .ok (.aload_n 0, 1) := by decide +kernel
theorem dX4_of_42 : decode cX4_of 42 = .ok (.getfield 56, 3) := by decide +kernel
theorem dX4_of_45 : decode cX4_of 45 = .ok (.iload_n 1, 1) := by decide +kernel
theorem dX4_of_46 : decode cX4_of 46 = .ok (.daload, 1) := by decide +kernel
theorem dX4_of_47 : decode cX4_of 47 = .ok (.goto 35, 3) := by decide +kernel
theorem dX4_of_50 : decode cX4_of 50 = .ok (.iload_n 2, 1) := by decide +kernel
theorem dX4_of_51 : decode cX4_of 51 = .ok (.iconst 1, 1) := by decide +kernel
theorem dX4_of_52 : decode cX4_of 52 = .ok (.if_icmp .ne 12, 3) := by decide +kernel
theorem dX4_of_55 : decode cX4_of 55 = .ok (.aload_n 0, 1) := by decide +kernel
theorem dX4_of_56 : decode cX4_of 56 = .ok (.getfield 59, 3) := by decide +kernel
theorem dX4_of_59 : decode cX4_of 59 = .ok (.iload_n 1, 1) := by decide +kernel
theorem dX4_of_60 : decode cX4_of 60 = .ok (.daload, 1) := by decide +kernel
theorem dX4_of_61 : decode cX4_of 61 = .ok (.goto 21, 3) := by decide +kernel
theorem dX4_of_64 : decode cX4_of 64 = .ok (.iload_n 2, 1) := by decide +kernel
theorem dX4_of_65 : decode cX4_of 65 = .ok (.iconst 2, 1) := by decide +kernel
theorem dX4_of_66 : decode cX4_of 66 = .ok (.if_icmp .ne 11, 3) := by decide +kernel
theorem dX4_of_69 : decode cX4_of 69 = .ok (.aload_n 0, 1) := by decide +kernel
theorem dX4_of_70 : decode cX4_of 70 = .ok (.iload_n 1, 1) := by decide +kernel
theorem dX4_of_71 : decode cX4_of 71 = .ok (.invokevirtual 140, 3) := by decide +kernel
theorem dX4_of_74 : decode cX4_of 74 = .ok (.goto 8, 3) := by decide +kernel
theorem dX4_of_77 : decode cX4_of 77 = .ok (.aload_n 0, 1) := by decide +kernel
theorem dX4_of_78 : decode cX4_of 78 = .ok (.iload_n 1, 1) := by decide +kernel
theorem dX4_of_79 : decode cX4_of 79 = .ok (.invokevirtual 144, 3) := by decide +kernel
theorem dX4_of_82 : decode cX4_of 82 = .ok (.dreturn, 1) := by decide +kernel
set_option maxRecDepth 20000 in
theorem ggX4_count_X4_isFilter : GoodIn wsX4_count wsX4_isFilter := goodIn_r _ [9, 10, 11, 12, 8, 13, 19, 20, 21, 22, 23, 24, 25, 26, 27, 28, 29, 30, 31, 32, 33, 34, 35, 36, 37, 38, 39, 40, 41, 42] (by decide +kernel) (by decide +kernel)
set_option maxRecDepth 20000 in
theorem gX4_count_X4_isFilter : GoodIn wsX4_count (wsV RX4 94 RX4 yX4_isFilter wsX4_isFilter) := goodIn_app (goodIn_of _ (by decide +kernel)) ggX4_count_X4_isFilter
set_option maxRecDepth 20000 in
theorem ggX4_count_X4_in : GoodIn wsX4_count wsX4_in := goodIn_r _ [13] (by decide +kernel) (by decide +kernel)
set_option maxRecDepth 20000 in
theorem gX4_count_X4_in : GoodIn wsX4_count (va_wsS RX4 78 yX4_in wsX4_in) := goodIn_app (goodIn_of _ (by decide +kernel)) ggX4_count_X4_in
set_option maxRecDepth 20000 in
theorem ggX4_count_X4_goesWell : GoodIn wsX4_count wsX4_goesWell := goodIn_r _ [17, 18, 19, 20, 21, 22, 23, 24, 25, 26, 27, 28, 29, 30, 31, 32, 33, 34, 35, 36, 37, 38, 39, 40, 41, 42] (by decide +kernel) (by decide +kernel)
set_option maxRecDepth 20000 in
theorem gX4_count_X4_goesWell : GoodIn wsX4_count (wsV RX4 82 RX4 yX4_goesWell wsX4_goesWell) := goodIn_app (goodIn_of _ (by decide +kernel)) ggX4_count_X4_goesWell
theorem dX4_count_0 : decode cX4_count 0 = .ok (.aload_n 0, 1) := by decide +kernel
theorem dX4_count_1 : decode cX4_count 1 = .ok (.iload_n 1, 1) := by decide +kernel
theorem dX4_count_2 : decode cX4_count 2 = .ok (.invokevirtual 94, 3) := by decide +kernel
theorem dX4_count_5 : decode cX4_count 5 = .ok (.istore_n 3, 1) := by decide +kernel
theorem dX4_count_6 : decode cX4_count 6 = .ok (.aload_n 0, 1) := by decide +kernel
theorem dX4_count_7 : decode cX4_count 7 = .ok (.iload_n 3, 1) := by decide +kernel
theorem dX4_count_8 : decode cX4_count 8 = .ok (.ifCond .ne 7, 3) := by decide +kernel
theorem dX4_count_11 : decode cX4_count 11 = .ok (.iconst 1, 1) := by decide +kernel
theorem dX4_count_12 : decode cX4_count 12 = .ok (.goto 17, 3) := by decide +kernel
theorem dX4_count_15 : decode cX4_count 15 = .ok (.iload_n 2, 1) := by decide +kernel
theorem dX4_count_16 : decode cX4_count 16 = .ok (.iconst 0, 1) := by decide +kernel
theorem dX4_count_17 : decode cX4_count 17 = .ok (.iconst 3, 1) := by decide +kernel
theorem dX4_count_18 : decode cX4_count 18 = .ok (.invokestatic 78, 3) := by decide +kernel
theorem dX4_count_21 : decode cX4_count 21 = .ok (.ifCond .eq 7, 3) := by decide +kernel
theorem dX4_count_24 : decode cX4_count 24 = .ok (.iconst 0, 1) := by decide +kernel
theorem dX4_count_25 : decode cX4_count 25 = .ok (.goto 4, 3) := by decide +kernel
theorem dX4_count_28 : decode cX4_count 28 = .ok (.iconst 2, 1) := by decide +kernel
theorem dX4_count_29 : decode cX4_count 29 = .ok (.invokevirtual 82, 3) := by decide +kernel
theorem dX4_count_32 : decode cX4_count 32 = .ok (.ifCond .ne 5, 3) := by decide +kernel
theorem dX4_count_35 : decode cX4_count 35 = .ok (.iconst 0, 1) := by decide +kernel
theorem dX4_count_36 : decode cX4_count 36 = .ok (.ireturn, 1) := by decide +kernel
theorem dX4_count_37 : decode cX4_count 37 = .ok (.iload_n 2, 1) := by decide +kernel
theorem dX4_count_38 : decode cX4_count 38 = .ok (.ifCond .ne 12, 3) := by decide +kernel
theorem dX4_count_41 : decode cX4_count 41 = .ok (.aload_n 0, 1) := by decide +kernel
theorem dX4_count_42 : decode cX4_count 42 = .ok (.getfield 44, 3) := by decide +kernel
theorem dX4_count_45 : decode cX4_count 45 = .ok (.iload_n 1, 1) := by decide +kernel
theorem dX4_count_46 : decode cX4_count 46 = .ok (.iaload, 1) := by decide +kernel
theorem dX4_count_47 : decode cX4_count 47 = .ok (.goto 37, 3) := by decide +kernel
theorem dX4_count_50 : decode cX4_count 50 = .ok (.iload_n 2, 1) := by decide +kernel
theorem dX4_count_51 : decode cX4_count 51 = .ok (.iconst 1, 1) := by decide +kernel
theorem dX4_count_52 : decode cX4_count 52 = .ok (.if_icmp .ne 12, 3) := by decide +kernel
theorem dX4_count_55 : decode cX4_count 55 = .ok (.aload_n 0, 1) := by decide +kernel
theorem dX4_count_56 : decode cX4_count 56 = .ok (.getfield 47, 3) := by decide +kernel
theorem dX4_count_59 : decode cX4_count 59 = .ok (.iload_n 1, 1) := by decide +kernel
theorem dX4_count_60 : decode cX4_count 60 = .ok (.iaload, 1) := by decide +kernel
theorem dX4_count_61 : decode cX4_count 61 = .ok (.goto 23, 3) := by decide +kernel
theorem dX4_count_64 : decode cX4_count 64 = .ok (.iload_n 2, 1) := by decide +kernel
theorem dX4_count_65 : decode cX4_count 65 = .ok (.iconst 2, 1) := by decide +kernel
theorem dX4_count_66 : decode cX4_count 66 = .ok (.if_icmp .ne 12, 3) := by decide +kernel
theorem dX4_count_69 : decode cX4_count 69 = .ok (.aload_n 0, 1) := by decide +kernel
theorem dX4_count_70 : decode cX4_count 70 = .ok (.getfield 50, 3) := by decide +kernel
theorem dX4_count_73 : decode cX4_count 73 = .ok (.iload_n 1, 1) := by decide +kernel
theorem dX4_count_74 : decode cX4_count 74 = .ok (.iaload, 1) := by decide +kernel
theorem dX4_count_75 : decode cX4_count 75 = .ok (.goto 9, 3) := by decide +kernel
theorem dX4_count_78 : decode cX4_count 78 = .ok (.aload_n 0, 1) := by decide +kernel
theorem dX4_count_79 : decode cX4_count 79 = .ok (.getfield 41, 3) := by decide +kernel
theorem dX4_count_82 : decode cX4_count 82 = .ok (.iload_n 1, 1) := by decide +kernel
theorem dX4_count_83 : decode cX4_count 83 = .ok (.iaload, 1) := by decide +kernel
theorem dX4_count_84 : decode cX4_count 84 = .ok (.ireturn, 1) := by decide +kernel
theorem dX4_microphone_0 : decode cX4_microphone 0 = .ok (.aload_n 0, 1) := by decide +kernel
theorem dX4_microphone_1 : decode cX4_microphone 1 = .ok (.iconst 0, 1) := by decide +kernel
theorem dX4_microphone_2 : decode cX4_microphone 2 = .ok (.putfield 71, 3) := by decide +kernel
theorem dX4_microphone_5 : decode cX4_microphone 5 = .ok (.aload_n 0, 1) := by decide +kernel
theorem dX4_microphone_6 : decode cX4_microphone 6 = .ok (.getfield 113, 3) := by decide +kernel
theorem dX4_microphone_9 : decode cX4_microphone 9 = .ok (.dreturn, 1) := by decide +kernel
set_option maxRecDepth 20000 in
theorem ggX4_batch_X4_in : GoodIn wsX4_batch wsX4_in := goodIn_r _ [9] (by decide +kernel) (by decide +kernel)
set_option maxRecDepth 20000 in
theorem gX4_batch_X4_in : GoodIn wsX4_batch (va_wsS RX4 78 yX4_in wsX4_in) := goodIn_app (goodIn_of _ (by decide +kernel)) ggX4_batch_X4_in
set_option maxRecDepth 20000 in
theorem ggX4_batch_X4_goesWell : GoodIn wsX4_batch wsX4_goesWell := goodIn_r _ [13, 14, 18, 19, 20, 21, 22, 23, 24, 25, 26, 27, 28, 29, 30, 31, 32, 33, 34, 35, 36, 37, 38, 39, 40, 41] (by decide +kernel) (by decide +kernel)
set_option maxRecDepth 20000 in
theorem gX4_batch_X4_goesWell : GoodIn wsX4_batch (wsV RX4 82 RX4 yX4_goesWell wsX4_goesWell) := goodIn_app (goodIn_of _ (by decide +kernel)) ggX4_batch_X4_goesWell
set_option maxRecDepth 20000 in
theorem ggX4_batch_X4_size : GoodIn wsX4_batch wsX4_size := goodIn_r _ [17] (by decide +kernel) (by decide +kernel)
set_option maxRecDepth 20000 in
theorem gX4_batch_X4_size : GoodIn wsX4_batch (va_wsS RX4 117 yX4_size wsX4_size) := goodIn_app (goodIn_of _ (by decide +kernel)) ggX4_batch_X4_size
theorem dX4_batch_0 : decode cX4_batch 0 = .ok (.aload_n 0, 1) := by decide +kernel
theorem dX4_batch_1 : decode cX4_batch 1 = .ok (.iload_n 1, 1) := by decide +kernel
theorem dX4_batch_2 : decode cX4_batch 2 = .ok (.iconst 0, 1) := by decide +kernel
theorem dX4_batch_3 : decode cX4_batch 3 = .ok (.iconst 1, 1) := by decide +kernel
theorem dX4_batch_4 : decode cX4_batch 4 = .ok (.invokestatic 78, 3) := by decide +kernel
theorem dX4_batch_7 : decode cX4_batch 7 = .ok (.ifCond .eq 7, 3) := by decide +kernel
theorem dX4_batch_10 : decode cX4_batch 10 = .ok (.iconst 0, 1) := by decide +kernel
theorem dX4_batch_11 : decode cX4_batch 11 = .ok (.goto 4, 3) := by decide +kernel
theorem dX4_batch_14 : decode cX4_batch 14 = .ok (.iconst 1, 1) := by decide +kernel
theorem dX4_batch_15 : decode cX4_batch 15 = .ok (.invokevirtual 82, 3) := by decide +kernel
theorem dX4_batch_18 : decode cX4_batch 18 = .ok (.ifCond .ne 5, 3) := by decide +kernel
theorem dX4_batch_21 : decode cX4_batch 21 = .ok (.dconst 0, 1) := by decide +kernel
theorem dX4_batch_22 : decode cX4_batch 22 = .ok (.dreturn, 1) := by decide +kernel
theorem dX4_batch_23 : decode cX4_batch 23 = .ok (.aload_n 0, 1) := by decide +kernel
theorem dX4_batch_24 : decode cX4_batch 24 = .ok (.getfield 130, 3) := by decide +kernel
theorem dX4_batch_27 : decode cX4_batch 27 = .ok (.bipush 16, 2) := by decide +kernel
theorem dX4_batch_29 : decode cX4_batch 29 = .ok (.if_icmp .ge 10, 3) := by decide +kernel
theorem dX4_batch_32 : decode cX4_batch 32 = .ok (.aload_n 0, 1) := by decide +kernel
theorem dX4_batch_33 : decode cX4_batch 33 = .ok (.getfield 130, 3) := by decide +kernel
theorem dX4_batch_36 : decode cX4_batch 36 = .ok (.goto 5, 3) := by decide +kernel
theorem dX4_batch_39 : decode cX4_batch 39 = .ok (.bipush 16, 2) := by decide +kernel
theorem dX4_batch_41 : decode cX4_batch 41 = .ok (.istore_n 2, 1) := by decide +kernel
theorem dX4_batch_42 : decode cX4_batch 42 = .ok (.dconst 0, 1) := by decide +kernel
theorem dX4_batch_43 : decode cX4_batch 43 = .ok (.dstore_n 3, 1) := by decide +kernel
theorem dX4_batch_44 : decode cX4_batch 44 = .ok (.dconst 0, 1) := by decide +kernel
theorem dX4_batch_45 : decode cX4_batch 45 = .ok (.dstore 5, 2) := by decide +kernel
theorem dX4_batch_47 : decode cX4_batch 47 = .ok (.dconst 0, 1) := by decide +kernel
theorem dX4_batch_48 : decode cX4_batch 48 = .ok (.dstore 7, 2) := by decide +kernel
theorem dX4_batch_50 : decode cX4_batch 50 = .ok (.dconst 0, 1) := by decide +kernel
theorem dX4_batch_51 : decode cX4_batch 51 = .ok (.dstore 9, 2) := by decide +kernel
theorem dX4_batch_53 : decode cX4_batch 53 = .ok (.dconst 0, 1) := by decide +kernel
theorem dX4_batch_54 : decode cX4_batch 54 = .ok (.dstore 11, 2) := by decide +kernel
theorem dX4_batch_56 : decode cX4_batch 56 = .ok (.aload_n 0, 1) := by decide +kernel
theorem dX4_batch_57 : decode cX4_batch 57 = .ok (.getfield 130, 3) := by decide +kernel
theorem dX4_batch_60 : decode cX4_batch 60 = .ok (.iload_n 2, 1) := by decide +kernel
theorem dX4_batch_61 : decode cX4_batch 61 = .ok (.isub, 1) := by decide +kernel
theorem dX4_batch_62 : decode cX4_batch 62 = .ok (.istore 13, 2) := by decide +kernel
theorem dX4_batch_64 : decode cX4_batch 64 = .ok (.iload 13, 2) := by decide +kernel
theorem dX4_batch_66 : decode cX4_batch 66 = .ok (.aload_n 0, 1) := by decide +kernel
theorem dX4_batch_67 : decode cX4_batch 67 = .ok (.getfield 130, 3) := by decide +kernel
theorem dX4_batch_70 : decode cX4_batch 70 = .ok (.if_icmp .ge 99, 3) := by decide +kernel
theorem dX4_batch_73 : decode cX4_batch 73 = .ok (.aload_n 0, 1) := by decide +kernel
theorem dX4_batch_74 : decode cX4_batch 74 = .ok (.getfield 16, 3) := by decide +kernel
theorem dX4_batch_77 : decode cX4_batch 77 = .ok (.iload 13, 2) := by decide +kernel
theorem dX4_batch_79 : decode cX4_batch 79 = .ok (.bipush 16, 2) := by decide +kernel
theorem dX4_batch_81 : decode cX4_batch 81 = .ok (.irem, 1) := by decide +kernel
theorem dX4_batch_82 : decode cX4_batch 82 = .ok (.iaload, 1) := by decide +kernel
theorem dX4_batch_83 : decode cX4_batch 83 = .ok (.i2d, 1) := by decide +kernel
theorem dX4_batch_84 : decode cX4_batch 84 = .ok (.dstore 14, 2) := by decide +kernel
theorem dX4_batch_86 : decode cX4_batch 86 = .ok (.aload_n 0, 1) := by decide +kernel
theorem dX4_batch_87 : decode cX4_batch 87 = .ok (.getfield 19, 3) := by decide +kernel
theorem dX4_batch_90 : decode cX4_batch 90 = .ok (.iload 13, 2) := by decide +kernel
theorem dX4_batch_92 : decode cX4_batch 92 = .ok (.bipush 16, 2) := by decide +kernel
theorem dX4_batch_94 : decode cX4_batch 94 = .ok (.irem, 1) := by decide +kernel
theorem dX4_batch_95 : decode cX4_batch 95 = .ok (.iaload, 1) := by decide +kernel
theorem dX4_batch_96 : decode cX4_batch 96 = .ok (.i2d, 1) := by decide +kernel
theorem dX4_batch_97 : decode cX4_batch 97 = .ok (.dstore 16, 2) := by decide +kernel
theorem dX4_batch_99 : decode cX4_batch 99 = .ok (.dload_n 3, 1) := by decide +kernel
theorem dX4_batch_100 : decode cX4_batch 100 = .ok (.dload 14, 2) := by decide +kernel
theorem dX4_batch_102 : decode cX4_batch 102 = .ok (.dload 14, 2) := by decide +kernel
theorem dX4_batch_104 : decode cX4_batch 104 = .ok (.dmul, 1) := by decide +kernel
theorem dX4_batch_105 : decode cX4_batch 105 = .ok (.dadd, 1) := by decide +kernel
theorem dX4_batch_106 : decode cX4_batch 106 = .ok (.dstore_n 3, 1) := by decide +kernel
theorem dX4_batch_107 : decode cX4_batch 107 = .ok (.dload 5, 2) := by decide +kernel
theorem dX4_batch_109 : decode cX4_batch 109 = .ok (.dload 14, 2) := by decide +kernel
theorem dX4_batch_111 : decode cX4_batch 111 = .ok (.dload 16, 2) := by decide +kernel
theorem dX4_batch_113 : decode cX4_batch 113 = .ok (.dmul, 1) := by decide +kernel
theorem dX4_batch_114 : decode cX4_batch 114 = .ok (.dadd, 1) := by decide +kernel
theorem dX4_batch_115 : decode cX4_batch 115 = .ok (.dstore 5, 2) := by decide +kernel
theorem dX4_batch_117 : decode cX4_batch 117 = .ok (.dload 7, 2) := by decide +kernel
theorem dX4_batch_119 : decode cX4_batch 119 = .ok (.dload 16, 2) := by decide +kernel
theorem dX4_batch_121 : decode cX4_batch 121 = .ok (.dload 16, 2) := by decide +kernel
theorem dX4_batch_123 : decode cX4_batch 123 = .ok (.dmul, 1) := by decide +kernel
theorem dX4_batch_124 : decode cX4_batch 124 = .ok (.dadd, 1) := by decide +kernel
theorem dX4_batch_125 : decode cX4_batch 125 = .ok (.dstore 7, 2) := by decide +kernel
theorem dX4_batch_127 : decode cX4_batch 127 = .ok (.dload 9, 2) := by decide +kernel
theorem dX4_batch_129 : decode cX4_batch 129 = .ok (.dload 14, 2) := by decide +kernel
theorem dX4_batch_131 : decode cX4_batch 131 = .ok (.aload_n 0, 1) := by decide +kernel
theorem dX4_batch_132 : decode cX4_batch 132 = .ok (.getfield 22, 3) := by decide +kernel
theorem dX4_batch_135 : decode cX4_batch 135 = .ok (.iload 13, 2) := by decide +kernel
theorem dX4_batch_137 : decode cX4_batch 137 = .ok (.bipush 16, 2) := by decide +kernel
theorem dX4_batch_139 : decode cX4_batch 139 = .ok (.irem, 1) := by decide +kernel
theorem dX4_batch_140 : decode cX4_batch 140 = .ok (.daload, 1) := by decide +kernel
theorem dX4_batch_141 : decode cX4_batch 141 = .ok (.dmul, 1) := by decide +kernel
theorem dX4_batch_142 : decode cX4_batch 142 = .ok (.dadd, 1) := by decide +kernel
theorem dX4_batch_143 : decode cX4_batch 143 = .ok (.dstore 9, 2) := by decide +kernel
theorem dX4_batch_145 : decode cX4_batch 145 = .ok (.dload 11, 2) := by decide +kernel
theorem dX4_batch_147 : decode cX4_batch 147 = .ok (.dload 16, 2) := by decide +kernel
theorem dX4_batch_149 : decode cX4_batch 149 = .ok (.aload_n 0, 1) := by decide +kernel
theorem dX4_batch_150 : decode cX4_batch 150 = .ok (.getfield 22, 3) := by decide +kernel
theorem dX4_batch_153 : decode cX4_batch 153 = .ok (.iload 13, 2) := by decide +kernel
theorem dX4_batch_155 : decode cX4_batch 155 = .ok (.bipush 16, 2) := by decide +kernel
theorem dX4_batch_157 : decode cX4_batch 157 = .ok (.irem, 1) := by decide +kernel
theorem dX4_batch_158 : decode cX4_batch 158 = .ok (.daload, 1) := by decide +kernel
theorem dX4_batch_159 : decode cX4_batch 159 = .ok (.dmul, 1) := by decide +kernel
theorem dX4_batch_160 : decode cX4_batch 160 = .ok (.dadd, 1) := by decide +kernel
theorem dX4_batch_161 : decode cX4_batch 161 = .ok (.dstore 11, 2) := by decide +kernel
theorem dX4_batch_163 : decode cX4_batch 163 = .ok (.iinc 13 1, 3) := by decide +kernel
theorem dX4_batch_166 : decode cX4_batch 166 = .ok (.goto (-102), 3) := by decide +kernel
theorem dX4_batch_169 : decode cX4_batch 169 = .ok (.dload_n 3, 1) := by decide +kernel
theorem dX4_batch_170 : decode cX4_batch 170 = .ok (.dload 7, 2) := by decide +kernel
theorem dX4_batch_172 : decode cX4_batch 172 = .ok (.dmul, 1) := by decide +kernel
theorem dX4_batch_173 : decode cX4_batch 173 = .ok (.dload 5, 2) := by decide +kernel
theorem dX4_batch_175 : decode cX4_batch 175 = .ok (.dload 5, 2) := by decide +kernel
theorem dX4_batch_177 : decode cX4_batch 177 = .ok (.dmul, 1) := by decide +kernel
theorem dX4_batch_178 : decode cX4_batch 178 = .ok (.dsub, 1) := by decide +kernel
theorem dX4_batch_179 : decode cX4_batch 179 = .ok (.dstore 13, 2) := by decide +kernel
theorem dX4_batch_181 : decode cX4_batch 181 = .ok (.dload 13, 2) := by decide +kernel
theorem dX4_batch_183 : decode cX4_batch 183 = .ok (.invokestatic 117, 3) := by decide +kernel
theorem dX4_batch_186 : decode cX4_batch 186 = .ok (.ldc2_w 147, 3) := by decide +kernel
theorem dX4_batch_189 : decode cX4_batch 189 = .ok (.dcmp .g, 1) := by decide +kernel
theorem dX4_batch_190 : decode cX4_batch 190 = .ok (.ifCond .ge 7, 3) := by decide +kernel
theorem dX4_batch_193 : decode cX4_batch 193 = .ok (.dconst 0, 1) := by decide +kernel
theorem dX4_batch_194 : decode cX4_batch 194 = .ok (.goto 37, 3) := by decide +kernel
theorem dX4_batch_197 : decode cX4_batch 197 = .ok (.iload_n 1, 1) := by decide +kernel
theorem dX4_batch_198 : decode cX4_batch 198 = .ok (.ifCond .ne 20, 3) := by decide +kernel
theorem dX4_batch_201 : decode cX4_batch 201 = .ok (.dload 9, 2) := by decide +kernel
theorem dX4_batch_203 : decode cX4_batch 203 = .ok (.dload 7, 2) := by decide +kernel
theorem dX4_batch_205 : decode cX4_batch 205 = .ok (.dmul, 1) := by decide +kernel
theorem dX4_batch_206 : decode cX4_batch 206 = .ok (.dload 11, 2) := by decide +kernel
theorem dX4_batch_208 : decode cX4_batch 208 = .ok (.dload 5, 2) := by decide +kernel
theorem dX4_batch_210 : decode cX4_batch 210 = .ok (.dmul, 1) := by decide +kernel
theorem dX4_batch_211 : decode cX4_batch 211 = .ok (.dsub, 1) := by decide +kernel
theorem dX4_batch_212 : decode cX4_batch 212 = .ok (.dload 13, 2) := by decide +kernel
theorem dX4_batch_214 : decode cX4_batch 214 = .ok (.ddiv, 1) := by decide +kernel
theorem dX4_batch_215 : decode cX4_batch 215 = .ok (.goto 16, 3) := by decide +kernel
theorem dX4_batch_218 : decode cX4_batch 218 = .ok (.dload 11, 2) := by decide +kernel
theorem dX4_batch_220 : decode cX4_batch 220 = .ok (.dload_n 3, 1) := by decide +kernel
theorem dX4_batch_221 : decode cX4_batch 221 = .ok (.dmul, 1) := by decide +kernel
theorem dX4_batch_222 : decode cX4_batch 222 = .ok (.dload 9, 2) := by decide +kernel
theorem dX4_batch_224 : decode cX4_batch 224 = .ok (.dload 5, 2) := by decide +kernel
theorem dX4_batch_226 : decode cX4_batch 226 = .ok (.dmul, 1) := by decide +kernel
theorem dX4_batch_227 : decode cX4_batch 227 = .ok (.dsub, 1) := by decide +kernel
theorem dX4_batch_228 : decode cX4_batch 228 = .ok (.dload 13, 2) := by decide +kernel
theorem dX4_batch_230 : decode cX4_batch 230 = .ok (.ddiv, 1) := by decide +kernel
theorem dX4_batch_231 : decode cX4_batch 231 = .ok (.dreturn, 1) := by decide +kernel
set_option maxRecDepth 20000 in
theorem ggX4_square_X4_isFilter : GoodIn wsX4_square wsX4_isFilter := goodIn_r _ [8, 9, 10, 11, 7, 12, 18, 19, 20, 21, 22, 23, 24, 25, 26, 27, 28, 29, 30, 31, 32, 33, 34, 35, 36, 37, 38, 39, 40, 41] (by decide +kernel) (by decide +kernel)
set_option maxRecDepth 20000 in
theorem gX4_square_X4_isFilter : GoodIn wsX4_square (wsV RX4 94 RX4 yX4_isFilter wsX4_isFilter) := goodIn_app (goodIn_of _ (by decide +kernel)) ggX4_square_X4_isFilter
set_option maxRecDepth 20000 in
theorem ggX4_square_X4_in : GoodIn wsX4_square wsX4_in := goodIn_r _ [12] (by decide +kernel) (by decide +kernel)
set_option maxRecDepth 20000 in
theorem gX4_square_X4_in : GoodIn wsX4_square (va_wsS RX4 78 yX4_in wsX4_in) := goodIn_app (goodIn_of _ (by decide +kernel)) ggX4_square_X4_in
set_option maxRecDepth 20000 in
theorem ggX4_square_X4_goesWell : GoodIn wsX4_square wsX4_goesWell := goodIn_r _ [16, 17, 18, 19, 20, 21, 22, 23, 24, 25, 26, 27, 28, 29, 30, 31, 32, 33, 34, 35, 36, 37, 38, 39, 40, 41] (by decide +kernel) (by decide +kernel)
set_option maxRecDepth 20000 in
theorem gX4_square_X4_goesWell : GoodIn wsX4_square (wsV RX4 82 RX4 yX4_goesWell wsX4_goesWell) := goodIn_app (goodIn_of _ (by decide +kernel)) ggX4_square_X4_goesWell
theorem dX4_square_0 : decode cX4_square 0 = .ok (.aload_n 0, 1) := by decide +kernel
theorem dX4_square_1 : decode cX4_square 1 = .ok (.iload_n 1, 1) := by decide +kernel
theorem dX4_square_2 : decode cX4_square 2 = .ok (.invokevirtual 94, 3) := by decide +kernel
theorem dX4_square_5 : decode cX4_square 5 = .ok (.ifCond .eq 39, 3) := by decide +kernel
theorem dX4_square_8 : decode cX4_square 8 = .ok (.iload_n 2, 1) := by decide +kernel
theorem dX4_square_9 : decode cX4_square 9 = .ok (.iconst 0, 1) := by decide +kernel
theorem dX4_square_10 : decode cX4_square 10 = .ok (.aload_n 0, 1) := by decide +kernel
theorem dX4_square_11 : decode cX4_square 11 = .ok (.getfield 29, 3) := by decide +kernel
theorem dX4_square_14 : decode cX4_square 14 = .ok (.iload_n 1, 1) := by decide +kernel
theorem dX4_square_15 : decode cX4_square 15 = .ok (.iaload, 1) := by decide +kernel
theorem dX4_square_16 : decode cX4_square 16 = .ok (.iconst 1, 1) := by decide +kernel
theorem dX4_square_17 : decode cX4_square 17 = .ok (.isub, 1) := by decide +kernel
theorem dX4_square_18 : decode cX4_square 18 = .ok (.invokestatic 78, 3) := by decide +kernel
theorem dX4_square_21 : decode cX4_square 21 = .ok (.ifCond .eq 23, 3) := by decide +kernel
theorem dX4_square_24 : decode cX4_square 24 = .ok (.iload_n 3, 1) := by decide +kernel
theorem dX4_square_25 : decode cX4_square 25 = .ok (.iconst 0, 1) := by decide +kernel
theorem dX4_square_26 : decode cX4_square 26 = .ok (.aload_n 0, 1) := by decide +kernel
theorem dX4_square_27 : decode cX4_square 27 = .ok (.getfield 29, 3) := by decide +kernel
theorem dX4_square_30 : decode cX4_square 30 = .ok (.iload_n 1, 1) := by decide +kernel
theorem dX4_square_31 : decode cX4_square 31 = .ok (.iaload, 1) := by decide +kernel
theorem dX4_square_32 : decode cX4_square 32 = .ok (.iconst 1, 1) := by decide +kernel
theorem dX4_square_33 : decode cX4_square 33 = .ok (.isub, 1) := by decide +kernel
theorem dX4_square_34 : decode cX4_square 34 = .ok (.invokestatic 78, 3) := by decide +kernel
theorem dX4_square_37 : decode cX4_square 37 = .ok (.ifCond .eq 7, 3) := by decide +kernel
theorem dX4_square_40 : decode cX4_square 40 = .ok (.iconst 1, 1) := by decide +kernel
theorem dX4_square_41 : decode cX4_square 41 = .ok (.goto 4, 3) := by decide +kernel
theorem dX4_square_44 : decode cX4_square 44 = .ok (.iconst 0, 1) := by decide +kernel
theorem dX4_square_45 : decode cX4_square 45 = .ok (.istore 4, 2) := by decide +kernel
theorem dX4_square_47 : decode cX4_square 47 = .ok (.aload_n 0, 1) := by decide +kernel
theorem dX4_square_48 : decode cX4_square 48 = .ok (.iload 4, 2) := by decide +kernel
theorem dX4_square_50 : decode cX4_square 50 = .ok (.ifCond .ne 7, 3) := by decide +kernel
theorem dX4_square_53 : decode cX4_square 53 = .ok (.iconst 1, 1) := by decide +kernel
theorem dX4_square_54 : decode cX4_square 54 = .ok (.goto 18, 3) := by decide +kernel
theorem dX4_square_57 : decode cX4_square 57 = .ok (.aload_n 0, 1) := by decide +kernel
theorem dX4_square_58 : decode cX4_square 58 = .ok (.getfield 26, 3) := by decide +kernel
theorem dX4_square_61 : decode cX4_square 61 = .ok (.iload_n 1, 1) := by decide +kernel
theorem dX4_square_62 : decode cX4_square 62 = .ok (.iaload, 1) := by decide +kernel
theorem dX4_square_63 : decode cX4_square 63 = .ok (.iconst 3, 1) := by decide +kernel
theorem dX4_square_64 : decode cX4_square 64 = .ok (.if_icmp .eq 7, 3) := by decide +kernel
theorem dX4_square_67 : decode cX4_square 67 = .ok (.iconst 2, 1) := by decide +kernel
theorem dX4_square_68 : decode cX4_square 68 = .ok (.goto 4, 3) := by decide +kernel
theorem dX4_square_71 : decode cX4_square 71 = .ok (.iconst 0, 1) := by decide +kernel
theorem dX4_square_72 : decode cX4_square 72 = .ok (.invokevirtual 82, 3) := by decide +kernel
theorem dX4_square_75 : decode cX4_square 75 = .ok (.ifCond .eq 21, 3) := by decide +kernel
theorem dX4_square_78 : decode cX4_square 78 = .ok (.aload_n 0, 1) := by decide +kernel
theorem dX4_square_79 : decode cX4_square 79 = .ok (.getfield 65, 3) := by decide +kernel
theorem dX4_square_82 : decode cX4_square 82 = .ok (.bipush 16, 2) := by decide +kernel
theorem dX4_square_84 : decode cX4_square 84 = .ok (.iload_n 1, 1) := by decide +kernel
theorem dX4_square_85 : decode cX4_square 85 = .ok (.imul, 1) := by decide +kernel
theorem dX4_square_86 : decode cX4_square 86 = .ok (.iconst 4, 1) := by decide +kernel
theorem dX4_square_87 : decode cX4_square 87 = .ok (.iload_n 2, 1) := by decide +kernel
theorem dX4_square_88 : decode cX4_square 88 = .ok (.imul, 1) := by decide +kernel
theorem dX4_square_89 : decode cX4_square 89 = .ok (.iadd, 1) := by decide +kernel
theorem dX4_square_90 : decode cX4_square 90 = .ok (.iload_n 3, 1) := by decide +kernel
theorem dX4_square_91 : decode cX4_square 91 = .ok (.iadd, 1) := by decide +kernel
theorem dX4_square_92 : decode cX4_square 92 = .ok (.daload, 1) := by decide +kernel
theorem dX4_square_93 : decode cX4_square 93 = .ok (.goto 4, 3) := by decide +kernel
theorem dX4_square_96 : decode cX4_square 96 = .ok (.dconst 0, 1) := by decide +kernel
theorem dX4_square_97 : decode cX4_square 97 = .ok (.dreturn, 1) := by decide +kernel
set_option maxRecDepth 20000 in
theorem ggX4_best_X4_offBy : GoodIn wsX4_best wsX4_offBy := goodIn_r _ [7, 8, 9, 10, 11, 12, 13, 14, 15, 16, 17, 18, 19, 20, 21, 22, 23, 24, 25, 26, 27, 28, 29, 30, 31, 32, 33, 34, 35] (by decide +kernel) (by decide +kernel)
set_option maxRecDepth 20000 in
theorem gX4_best_X4_offBy : GoodIn wsX4_best (wsV RX4 140 RX4 yX4_offBy wsX4_offBy) := goodIn_app (goodIn_of _ (by decide +kernel)) ggX4_best_X4_offBy
theorem dX4_best_0 : decode cX4_best 0 = .ok (.aload_n 0, 1) := by decide +kernel
theorem dX4_best_1 : decode cX4_best 1 = .ok (.iconst 0, 1) := by decide +kernel
theorem dX4_best_2 : decode cX4_best 2 = .ok (.putfield 71, 3) := by decide +kernel
theorem dX4_best_5 : decode cX4_best 5 = .ok (.iconst (-1), 1) := by decide +kernel
theorem dX4_best_6 : decode cX4_best 6 = .ok (.istore_n 1, 1) := by decide +kernel
theorem dX4_best_7 : decode cX4_best 7 = .ok (.iconst 0, 1) := by decide +kernel
theorem dX4_best_8 : decode cX4_best 8 = .ok (.istore_n 2, 1) := by decide +kernel
theorem dX4_best_9 : decode cX4_best 9 = .ok (.iload_n 2, 1) := by decide +kernel
theorem dX4_best_10 : decode cX4_best 10 = .ok (.aload_n 0, 1) := by decide +kernel
theorem dX4_best_11 : decode cX4_best 11 = .ok (.getfield 75, 3) := by decide +kernel
theorem dX4_best_14 : decode cX4_best 14 = .ok (.if_icmp .ge 34, 3) := by decide +kernel
theorem dX4_best_17 : decode cX4_best 17 = .ok (.iload_n 1, 1) := by decide +kernel
theorem dX4_best_18 : decode cX4_best 18 = .ok (.iconst (-1), 1) := by decide +kernel
theorem dX4_best_19 : decode cX4_best 19 = .ok (.if_icmp .eq 17, 3) := by decide +kernel
theorem dX4_best_22 : decode cX4_best 22 = .ok (.aload_n 0, 1) := by decide +kernel
theorem dX4_best_23 : decode cX4_best 23 = .ok (.iload_n 2, 1) := by decide +kernel
theorem dX4_best_24 : decode cX4_best 24 = .ok (.invokevirtual 140, 3) := by decide +kernel
theorem dX4_best_27 : decode cX4_best 27 = .ok (.aload_n 0, 1) := by decide +kernel
theorem dX4_best_28 : decode cX4_best 28 = .ok (.iload_n 1, 1) := by decide +kernel
theorem dX4_best_29 : decode cX4_best 29 = .ok (.invokevirtual 140, 3) := by decide +kernel
theorem dX4_best_32 : decode cX4_best 32 = .ok (.dcmp .g, 1) := by decide +kernel
theorem dX4_best_33 : decode cX4_best 33 = .ok (.ifCond .ge 7, 3) := by decide +kernel
theorem dX4_best_36 : decode cX4_best 36 = .ok (.iload_n 2, 1) := by decide +kernel
theorem dX4_best_37 : decode cX4_best 37 = .ok (.goto 4, 3) := by decide +kernel
theorem dX4_best_40 : decode cX4_best 40 = .ok (.iload_n 1, 1) := by decide +kernel
theorem dX4_best_41 : decode cX4_best 41 = .ok (.istore_n 1, 1) := by decide +kernel
theorem dX4_best_42 : decode cX4_best 42 = .ok (.iinc 2 1, 3) := by decide +kernel
theorem dX4_best_45 : decode cX4_best 45 = .ok (.goto (-36), 3) := by decide +kernel
theorem dX4_best_48 : decode cX4_best 48 = .ok (.iload_n 1, 1) := by decide +kernel
theorem dX4_best_49 : decode cX4_best 49 = .ok (.ireturn, 1) := by decide +kernel
theorem dJ9_floorMod_7cf53_0 : decode cJ9_floorMod_7cf53 0 = .ok (.iload_n 0, 1) := by decide +kernel
theorem dJ9_floorMod_7cf53_1 : decode cJ9_floorMod_7cf53 1 = .ok (.iload_n 1, 1) := by decide +kernel
