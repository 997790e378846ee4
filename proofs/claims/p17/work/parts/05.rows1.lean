theorem dX2_number_32 : decode cX2_number 32 = .ok (.iload_n 1, 1) := by decide +kernel
theorem dX2_number_33 : decode cX2_number 33 = .ok (.aaload, 1) := by decide +kernel
theorem dX2_number_34 : decode cX2_number 34 = .ok (.iload_n 2, 1) := by decide +kernel
theorem dX2_number_35 : decode cX2_number 35 = .ok (.daload, 1) := by decide +kernel
theorem dX2_number_36 : decode cX2_number 36 = .ok (.goto 4, 3) := by decide +kernel
theorem dX2_number_39 : decode cX2_number 39 = .ok (.dconst 0, 1) := by decide +kernel
theorem dX2_number_40 : decode cX2_number 40 = .ok (.dreturn, 1) := by decide +kernel
set_option maxRecDepth 20000 in
theorem ggX2_share_X3_isWithin : GoodIn wsX2_share wsX3_isWithin := goodIn_r _ [5] (by decide +kernel) (by decide +kernel)
set_option maxRecDepth 20000 in
theorem gX2_share_X3_isWithin_n27 : GoodIn wsX2_share (wsX3_isWithin) := ggX2_share_X3_isWithin
theorem dX2_share_0 : decode cX2_share 0 = .ok (.iload_n 1, 1) := by decide +kernel
theorem dX2_share_1 : decode cX2_share 1 = .ok (.iconst 0, 1) := by decide +kernel
theorem dX2_share_2 : decode cX2_share 2 = .ok (.aload_n 0, 1) := by decide +kernel
theorem dX2_share_3 : decode cX2_share 3 = .ok (.getfield 7, 3) := by decide +kernel
theorem dX2_share_6 : decode cX2_share 6 = .ok (.iconst 1, 1) := by decide +kernel
theorem dX2_share_7 : decode cX2_share 7 = .ok (.isub, 1) := by decide +kernel
theorem dX2_share_8 : decode cX2_share 8 = .ok (.invokestatic 27, 3) := by decide +kernel
theorem dX2_share_11 : decode cX2_share 11 = .ok (.ifCond .eq 12, 3) := by decide +kernel
theorem dX2_share_14 : decode cX2_share 14 = .ok (.aload_n 0, 1) := by decide +kernel
theorem dX2_share_15 : decode cX2_share 15 = .ok (.getfield 22, 3) := by decide +kernel
theorem dX2_share_18 : decode cX2_share 18 = .ok (.iload_n 1, 1) := by decide +kernel
theorem dX2_share_19 : decode cX2_share 19 = .ok (.daload, 1) := by decide +kernel
theorem dX2_share_20 : decode cX2_share 20 = .ok (.goto 4, 3) := by decide +kernel
theorem dX2_share_23 : decode cX2_share 23 = .ok (.dconst 0, 1) := by decide +kernel
theorem dX2_share_24 : decode cX2_share 24 = .ok (.dreturn, 1) := by decide +kernel
set_option maxRecDepth 20000 in
theorem ggX2_prepare_X2_rowTimes : GoodIn wsX2_prepare wsX2_rowTimes := goodIn_r _ [9, 1, 10, 11, 12, 13, 14] (by decide +kernel) (by decide +kernel)
set_option maxRecDepth 20000 in
theorem gX2_prepare_X2_rowTimes : GoodIn wsX2_prepare (wsV RX2 33 RX2 yX2_rowTimes wsX2_rowTimes) := goodIn_app (goodIn_of _ (by decide +kernel)) ggX2_prepare_X2_rowTimes
theorem dX2_prepare_0 : decode cX2_prepare 0 = .ok (.dload_n 2, 1) := by decide +kernel
theorem dX2_prepare_1 : decode cX2_prepare 1 = .ok (.dstore 4, 2) := by decide +kernel
theorem dX2_prepare_3 : decode cX2_prepare 3 = .ok (.iconst 0, 1) := by decide +kernel
theorem dX2_prepare_4 : decode cX2_prepare 4 = .ok (.istore 6, 2) := by decide +kernel
theorem dX2_prepare_6 : decode cX2_prepare 6 = .ok (.iload 6, 2) := by decide +kernel
theorem dX2_prepare_8 : decode cX2_prepare 8 = .ok (.aload_n 0, 1) := by decide +kernel
theorem dX2_prepare_9 : decode cX2_prepare 9 = .ok (.getfield 7, 3) := by decide +kernel
theorem dX2_prepare_12 : decode cX2_prepare 12 = .ok (.if_icmp .ge 47, 3) := by decide +kernel
theorem dX2_prepare_15 : decode cX2_prepare 15 = .ok (.iload 6, 2) := by decide +kernel
theorem dX2_prepare_17 : decode cX2_prepare 17 = .ok (.aload_n 1, 1) := by decide +kernel
theorem dX2_prepare_18 : decode cX2_prepare 18 = .ok (.arraylength, 1) := by decide +kernel
theorem dX2_prepare_19 : decode cX2_prepare 19 = .ok (.if_icmp .ge 40, 3) := by decide +kernel
theorem dX2_prepare_22 : decode cX2_prepare 22 = .ok (.aload_n 0, 1) := by decide +kernel
theorem dX2_prepare_23 : decode cX2_prepare 23 = .ok (.getfield 18, 3) := by decide +kernel
theorem dX2_prepare_26 : decode cX2_prepare 26 = .ok (.iload 6, 2) := by decide +kernel
theorem dX2_prepare_28 : decode cX2_prepare 28 = .ok (.aload_n 0, 1) := by decide +kernel
theorem dX2_prepare_29 : decode cX2_prepare 29 = .ok (.iload 6, 2) := by decide +kernel
theorem dX2_prepare_31 : decode cX2_prepare 31 = .ok (.aload_n 1, 1) := by decide +kernel
theorem dX2_prepare_32 : decode cX2_prepare 32 = .ok (.invokevirtual 33, 3) := by decide +kernel
theorem dX2_prepare_35 : decode cX2_prepare 35 = .ok (.dastore, 1) := by decide +kernel
theorem dX2_prepare_36 : decode cX2_prepare 36 = .ok (.dload 4, 2) := by decide +kernel
theorem dX2_prepare_38 : decode cX2_prepare 38 = .ok (.aload_n 1, 1) := by decide +kernel
theorem dX2_prepare_39 : decode cX2_prepare 39 = .ok (.iload 6, 2) := by decide +kernel
theorem dX2_prepare_41 : decode cX2_prepare 41 = .ok (.daload, 1) := by decide +kernel
theorem dX2_prepare_42 : decode cX2_prepare 42 = .ok (.aload_n 0, 1) := by decide +kernel
theorem dX2_prepare_43 : decode cX2_prepare 43 = .ok (.getfield 18, 3) := by decide +kernel
theorem dX2_prepare_46 : decode cX2_prepare 46 = .ok (.iload 6, 2) := by decide +kernel
theorem dX2_prepare_48 : decode cX2_prepare 48 = .ok (.daload, 1) := by decide +kernel
theorem dX2_prepare_49 : decode cX2_prepare 49 = .ok (.dmul, 1) := by decide +kernel
theorem dX2_prepare_50 : decode cX2_prepare 50 = .ok (.dadd, 1) := by decide +kernel
theorem dX2_prepare_51 : decode cX2_prepare 51 = .ok (.dstore 4, 2) := by decide +kernel
theorem dX2_prepare_53 : decode cX2_prepare 53 = .ok (.iinc 6 1, 3) := by decide +kernel
theorem dX2_prepare_56 : decode cX2_prepare 56 = .ok (.goto (-50), 3) := by decide +kernel
theorem dX2_prepare_59 : decode cX2_prepare 59 = .ok (.dload 4, 2) := by decide +kernel
theorem dX2_prepare_61 : decode cX2_prepare 61 = .ok (.ldc2_w 37, 3) := by decide +kernel
theorem dX2_prepare_64 : decode cX2_prepare 64 = .ok (.dcmp .g, 1) := by decide +kernel
theorem dX2_prepare_65 : decode cX2_prepare 65 = .ok (.ifCond .ge 5, 3) := by decide +kernel
theorem dX2_prepare_68 : decode cX2_prepare 68 = .ok (.iconst 0, 1) := by decide +kernel
theorem dX2_prepare_69 : decode cX2_prepare 69 = .ok (.ireturn, 1) := by decide +kernel
theorem dX2_prepare_70 : decode cX2_prepare 70 = .ok (.iconst 0, 1) := by decide +kernel
theorem dX2_prepare_71 : decode cX2_prepare 71 = .ok (.istore 6, 2) := by decide +kernel
theorem dX2_prepare_73 : decode cX2_prepare 73 = .ok (.iload 6, 2) := by decide +kernel
theorem dX2_prepare_75 : decode cX2_prepare 75 = .ok (.aload_n 0, 1) := by decide +kernel
theorem dX2_prepare_76 : decode cX2_prepare 76 = .ok (.getfield 7, 3) := by decide +kernel
theorem dX2_prepare_79 : decode cX2_prepare 79 = .ok (.if_icmp .ge 26, 3) := by decide +kernel
theorem dX2_prepare_82 : decode cX2_prepare 82 = .ok (.aload_n 0, 1) := by decide +kernel
theorem dX2_prepare_83 : decode cX2_prepare 83 = .ok (.getfield 22, 3) := by decide +kernel
theorem dX2_prepare_86 : decode cX2_prepare 86 = .ok (.iload 6, 2) := by decide +kernel
theorem dX2_prepare_88 : decode cX2_prepare 88 = .ok (.aload_n 0, 1) := by decide +kernel
theorem dX2_prepare_89 : decode cX2_prepare 89 = .ok (.getfield 18, 3) := by decide +kernel
theorem dX2_prepare_92 : decode cX2_prepare 92 = .ok (.iload 6, 2) := by decide +kernel
theorem dX2_prepare_94 : decode cX2_prepare 94 = .ok (.daload, 1) := by decide +kernel
theorem dX2_prepare_95 : decode cX2_prepare 95 = .ok (.dload 4, 2) := by decide +kernel
theorem dX2_prepare_97 : decode cX2_prepare 97 = .ok (.ddiv, 1) := by decide +kernel
theorem dX2_prepare_98 : decode cX2_prepare 98 = .ok (.dastore, 1) := by decide +kernel
theorem dX2_prepare_99 : decode cX2_prepare 99 = .ok (.iinc 6 1, 3) := by decide +kernel
theorem dX2_prepare_102 : decode cX2_prepare 102 = .ok (.goto (-29), 3) := by decide +kernel
theorem dX2_prepare_105 : decode cX2_prepare 105 = .ok (.iconst 1, 1) := by decide +kernel
theorem dX2_prepare_106 : decode cX2_prepare 106 = .ok (.ireturn, 1) := by decide +kernel
theorem dX2_rowTimes_0 : decode cX2_rowTimes 0 = .ok (.dconst 0, 1) := by decide +kernel
theorem dX2_rowTimes_1 : decode cX2_rowTimes 1 = .ok (.dstore_n 3, 1) := by decide +kernel
theorem dX2_rowTimes_2 : decode cX2_rowTimes 2 = .ok (.iload_n 1, 1) := by decide +kernel
theorem dX2_rowTimes_3 : decode cX2_rowTimes 3 = .ok (.ifCond .lt 53, 3) := by decide +kernel
theorem dX2_rowTimes_6 : decode cX2_rowTimes 6 = .ok (.iload_n 1, 1) := by decide +kernel
theorem dX2_rowTimes_7 : decode cX2_rowTimes 7 = .ok (.aload_n 0, 1) := by decide +kernel
theorem dX2_rowTimes_8 : decode cX2_rowTimes 8 = .ok (.getfield 7, 3) := by decide +kernel
theorem dX2_rowTimes_11 : decode cX2_rowTimes 11 = .ok (.if_icmp .ge 45, 3) := by decide +kernel
theorem dX2_rowTimes_14 : decode cX2_rowTimes 14 = .ok (.iconst 0, 1) := by decide +kernel
theorem dX2_rowTimes_15 : decode cX2_rowTimes 15 = .ok (.istore 5, 2) := by decide +kernel
theorem dX2_rowTimes_17 : decode cX2_rowTimes 17 = .ok (.iload 5, 2) := by decide +kernel
theorem dX2_rowTimes_19 : decode cX2_rowTimes 19 = .ok (.aload_n 0, 1) := by decide +kernel
theorem dX2_rowTimes_20 : decode cX2_rowTimes 20 = .ok (.getfield 7, 3) := by decide +kernel
theorem dX2_rowTimes_23 : decode cX2_rowTimes 23 = .ok (.if_icmp .ge 33, 3) := by decide +kernel
theorem dX2_rowTimes_26 : decode cX2_rowTimes 26 = .ok (.iload 5, 2) := by decide +kernel
theorem dX2_rowTimes_28 : decode cX2_rowTimes 28 = .ok (.aload_n 2, 1) := by decide +kernel
theorem dX2_rowTimes_29 : decode cX2_rowTimes 29 = .ok (.arraylength, 1) := by decide +kernel
theorem dX2_rowTimes_30 : decode cX2_rowTimes 30 = .ok (.if_icmp .ge 26, 3) := by decide +kernel
theorem dX2_rowTimes_33 : decode cX2_rowTimes 33 = .ok (.dload_n 3, 1) := by decide +kernel
theorem dX2_rowTimes_34 : decode cX2_rowTimes 34 = .ok (.aload_n 0, 1) := by decide +kernel
theorem dX2_rowTimes_35 : decode cX2_rowTimes 35 = .ok (.getfield 15, 3) := by decide +kernel
theorem dX2_rowTimes_38 : decode cX2_rowTimes 38 = .ok (.iload_n 1, 1) := by decide +kernel
theorem dX2_rowTimes_39 : decode cX2_rowTimes 39 = .ok (.aaload, 1) := by decide +kernel
theorem dX2_rowTimes_40 : decode cX2_rowTimes 40 = .ok (.iload 5, 2) := by decide +kernel
theorem dX2_rowTimes_42 : decode cX2_rowTimes 42 = .ok (.daload, 1) := by decide +kernel
theorem dX2_rowTimes_43 : decode cX2_rowTimes 43 = .ok (.aload_n 2, 1) := by decide +kernel
theorem dX2_rowTimes_44 : decode cX2_rowTimes 44 = .ok (.iload 5, 2) := by decide +kernel
theorem dX2_rowTimes_46 : decode cX2_rowTimes 46 = .ok (.daload, 1) := by decide +kernel
theorem dX2_rowTimes_47 : decode cX2_rowTimes 47 = .ok (.dmul, 1) := by decide +kernel
theorem dX2_rowTimes_48 : decode cX2_rowTimes 48 = .ok (.dadd, 1) := by decide +kernel
theorem dX2_rowTimes_49 : decode cX2_rowTimes 49 = .ok (.dstore_n 3, 1) := by decide +kernel
theorem dX2_rowTimes_50 : decode cX2_rowTimes 50 = .ok (.iinc 5 1, 3) := by decide +kernel
theorem dX2_rowTimes_53 : decode cX2_rowTimes 53 = .ok (.goto (-36), 3) := by decide +kernel
theorem dX2_rowTimes_56 : decode cX2_rowTimes 56 = .ok (.dload_n 3, 1) := by decide +kernel
theorem dX2_rowTimes_57 : decode cX2_rowTimes 57 = .ok (.dreturn, 1) := by decide +kernel
theorem dX2_renew_0 : decode cX2_renew 0 = .ok (.dload_n 1, 1) := by decide +kernel
theorem dX2_renew_1 : decode cX2_renew 1 = .ok (.dconst 0, 1) := by decide +kernel
theorem dX2_renew_2 : decode cX2_renew 2 = .ok (.dcmp .g, 1) := by decide +kernel
theorem dX2_renew_3 : decode cX2_renew 3 = .ok (.ifCond .gt 5, 3) := by decide +kernel
theorem dX2_renew_6 : decode cX2_renew 6 = .ok (.iconst 0, 1) := by decide +kernel
theorem dX2_renew_7 : decode cX2_renew 7 = .ok (.ireturn, 1) := by decide +kernel
theorem dX2_renew_8 : decode cX2_renew 8 = .ok (.iconst 0, 1) := by decide +kernel
theorem dX2_renew_9 : decode cX2_renew 9 = .ok (.istore_n 3, 1) := by decide +kernel
theorem dX2_renew_10 : decode cX2_renew 10 = .ok (.iconst 0, 1) := by decide +kernel
theorem dX2_renew_11 : decode cX2_renew 11 = .ok (.istore 4, 2) := by decide +kernel
theorem dX2_renew_13 : decode cX2_renew 13 = .ok (.iload 4, 2) := by decide +kernel
theorem dX2_renew_15 : decode cX2_renew 15 = .ok (.aload_n 0, 1) := by decide +kernel
theorem dX2_renew_16 : decode cX2_renew 16 = .ok (.getfield 7, 3) := by decide +kernel
theorem dX2_renew_19 : decode cX2_renew 19 = .ok (.if_icmp .ge 107, 3) := by decide +kernel
theorem dX2_renew_22 : decode cX2_renew 22 = .ok (.iconst 0, 1) := by decide +kernel
theorem dX2_renew_23 : decode cX2_renew 23 = .ok (.istore 5, 2) := by decide +kernel
theorem dX2_renew_25 : decode cX2_renew 25 = .ok (.iload 5, 2) := by decide +kernel
theorem dX2_renew_27 : decode cX2_renew 27 = .ok (.aload_n 0, 1) := by decide +kernel
theorem dX2_renew_28 : decode cX2_renew 28 = .ok (.getfield 7, 3) := by decide +kernel
theorem dX2_renew_31 : decode cX2_renew 31 = .ok (.if_icmp .ge 47, 3) := by decide +kernel
theorem dX2_renew_34 : decode cX2_renew 34 = .ok (.aload_n 0, 1) := by decide +kernel
theorem dX2_renew_35 : decode cX2_renew 35 = .ok (.getfield 15, 3) := by decide +kernel
theorem dX2_renew_38 : decode cX2_renew 38 = .ok (.iload 4, 2) := by decide +kernel
theorem dX2_renew_40 : decode cX2_renew 40 = .ok (.aaload, 1) := by decide +kernel
theorem dX2_renew_41 : decode cX2_renew 41 = .ok (.iload 5, 2) := by decide +kernel
theorem dX2_renew_43 : decode cX2_renew 43 = .ok (.aload_n 0, 1) := by decide +kernel
theorem dX2_renew_44 : decode cX2_renew 44 = .ok (.getfield 15, 3) := by decide +kernel
theorem dX2_renew_47 : decode cX2_renew 47 = .ok (.iload 4, 2) := by decide +kernel
theorem dX2_renew_49 : decode cX2_renew 49 = .ok (.aaload, 1) := by decide +kernel
theorem dX2_renew_50 : decode cX2_renew 50 = .ok (.iload 5, 2) := by decide +kernel
theorem dX2_renew_52 : decode cX2_renew 52 = .ok (.daload, 1) := by decide +kernel
theorem dX2_renew_53 : decode cX2_renew 53 = .ok (.aload_n 0, 1) := by decide +kernel
theorem dX2_renew_54 : decode cX2_renew 54 = .ok (.getfield 22, 3) := by decide +kernel
theorem dX2_renew_57 : decode cX2_renew 57 = .ok (.iload 4, 2) := by decide +kernel
theorem dX2_renew_59 : decode cX2_renew 59 = .ok (.daload, 1) := by decide +kernel
theorem dX2_renew_60 : decode cX2_renew 60 = .ok (.aload_n 0, 1) := by decide +kernel
theorem dX2_renew_61 : decode cX2_renew 61 = .ok (.getfield 18, 3) := by decide +kernel
theorem dX2_renew_64 : decode cX2_renew 64 = .ok (.iload 5, 2) := by decide +kernel
theorem dX2_renew_66 : decode cX2_renew 66 = .ok (.daload, 1) := by decide +kernel
theorem dX2_renew_67 : decode cX2_renew 67 = .ok (.dmul, 1) := by decide +kernel
theorem dX2_renew_68 : decode cX2_renew 68 = .ok (.dsub, 1) := by decide +kernel
theorem dX2_renew_69 : decode cX2_renew 69 = .ok (.dload_n 1, 1) := by decide +kernel
theorem dX2_renew_70 : decode cX2_renew 70 = .ok (.ddiv, 1) := by decide +kernel
theorem dX2_renew_71 : decode cX2_renew 71 = .ok (.dastore, 1) := by decide +kernel
theorem dX2_renew_72 : decode cX2_renew 72 = .ok (.iinc 5 1, 3) := by decide +kernel
theorem dX2_renew_75 : decode cX2_renew 75 = .ok (.goto (-50), 3) := by decide +kernel
theorem dX2_renew_78 : decode cX2_renew 78 = .ok (.iload_n 3, 1) := by decide +kernel
theorem dX2_renew_79 : decode cX2_renew 79 = .ok (.ifCond .ne 35, 3) := by decide +kernel
theorem dX2_renew_82 : decode cX2_renew 82 = .ok (.aload_n 0, 1) := by decide +kernel
theorem dX2_renew_83 : decode cX2_renew 83 = .ok (.getfield 15, 3) := by decide +kernel
theorem dX2_renew_86 : decode cX2_renew 86 = .ok (.iload 4, 2) := by decide +kernel
theorem dX2_renew_88 : decode cX2_renew 88 = .ok (.aaload, 1) := by decide +kernel
theorem dX2_renew_89 : decode cX2_renew 89 = .ok (.iload 4, 2) := by decide +kernel
theorem dX2_renew_91 : decode cX2_renew 91 = .ok (.daload, 1) := by decide +kernel
theorem dX2_renew_92 : decode cX2_renew 92 = .ok (.ldc2_w 39, 3) := by decide +kernel
theorem dX2_renew_95 : decode cX2_renew 95 = .ok (.dcmp .l, 1) := by decide +kernel
theorem dX2_renew_96 : decode cX2_renew 96 = .ok (.ifCond .gt 18, 3) := by decide +kernel
theorem dX2_renew_99 : decode cX2_renew 99 = .ok (.aload_n 0, 1) := by decide +kernel
theorem dX2_renew_100 : decode cX2_renew 100 = .ok (.getfield 15, 3) := by decide +kernel
theorem dX2_renew_103 : decode cX2_renew 103 = .ok (.iload 4, 2) := by decide +kernel
theorem dX2_renew_105 : decode cX2_renew 105 = .ok (.aaload, 1) := by decide +kernel
theorem dX2_renew_106 : decode cX2_renew 106 = .ok (.iload 4, 2) := by decide +kernel
theorem dX2_renew_108 : decode cX2_renew 108 = .ok (.daload, 1) := by decide +kernel
theorem dX2_renew_109 : decode cX2_renew 109 = .ok (.dconst 0, 1) := by decide +kernel
theorem dX2_renew_110 : decode cX2_renew 110 = .ok (.dcmp .g, 1) := by decide +kernel
theorem dX2_renew_111 : decode cX2_renew 111 = .ok (.ifCond .ge 7, 3) := by decide +kernel
theorem dX2_renew_114 : decode cX2_renew 114 = .ok (.iconst 1, 1) := by decide +kernel
theorem dX2_renew_115 : decode cX2_renew 115 = .ok (.goto 4, 3) := by decide +kernel
theorem dX2_renew_118 : decode cX2_renew 118 = .ok (.iconst 0, 1) := by decide +kernel
theorem dX2_renew_119 : decode cX2_renew 119 = .ok (.istore_n 3, 1) := by decide +kernel
theorem dX2_renew_120 : decode cX2_renew 120 = .ok (.iinc 4 1, 3) := by decide +kernel
theorem dX2_renew_123 : decode cX2_renew 123 = .ok (.goto (-110), 3) := by decide +kernel
theorem dX2_renew_126 : decode cX2_renew 126 = .ok (.iload_n 3, 1) := by decide +kernel
theorem dX2_renew_127 : decode cX2_renew 127 = .ok (.ifCond .ne 7, 3) := by decide +kernel
theorem dX2_renew_130 : decode cX2_renew 130 = .ok (.iconst 1, 1) := by decide +kernel
theorem dX2_renew_131 : decode cX2_renew 131 = .ok (.goto 4, 3) := by decide +kernel
theorem dX2_renew_134 : decode cX2_renew 134 = .ok (.iconst 0, 1) := by decide +kernel
theorem dX2_renew_135 : decode cX2_renew 135 = .ok (.ireturn, 1) := by decide +kernel
set_option maxRecDepth 20000 in
theorem ggX3_init_X1_init : GoodIn wsX3_init wsX1_init := goodIn_r _ [12, 13, 2, 3, 14, 15, 16, 17, 18, 19, 20, 21, 22, 23, 24, 25, 26, 27, 28, 29] (by decide +kernel) (by decide +kernel)
set_option maxRecDepth 20000 in
theorem gX3_init_X1_init_n9 : GoodIn wsX3_init (wsX1_init) := ggX3_init_X1_init
theorem dX3_init_0 : decode cX3_init 0 = .ok (.aload_n 0, 1) := by decide +kernel
theorem dX3_init_1 : decode cX3_init 1 = .ok (.invokespecial 1, 3) := by decide +kernel
theorem dX3_init_4 : decode cX3_init 4 = .ok (.aload_n 0, 1) := by decide +kernel
theorem dX3_init_5 : decode cX3_init 5 = .ok (.new 7, 3) := by decide +kernel
theorem dX3_init_8 : decode cX3_init 8 = .ok (.dup, 1) := by decide +kernel
theorem dX3_init_9 : decode cX3_init 9 = .ok (.invokespecial 9, 3) := by decide +kernel
theorem dX3_init_12 : decode cX3_init 12 = .ok (.putfield 10, 3) := by decide +kernel
theorem dX3_init_15 : decode cX3_init 15 = .ok (.aload_n 0, 1) := by decide +kernel
theorem dX3_init_16 : decode cX3_init 16 = .ok (.bipush 6, 2) := by decide +kernel
theorem dX3_init_18 : decode cX3_init 18 = .ok (.anewarray 16, 3) := by decide +kernel
theorem dX3_init_21 : decode cX3_init 21 = .ok (.putfield 18, 3) := by decide +kernel
theorem dX3_init_24 : decode cX3_init 24 = .ok (.aload_n 0, 1) := by decide +kernel
theorem dX3_init_25 : decode cX3_init 25 = .ok (.iconst 0, 1) := by decide +kernel
theorem dX3_init_26 : decode cX3_init 26 = .ok (.putfield 22, 3) := by decide +kernel
theorem dX3_init_29 : decode cX3_init 29 = .ok (.return_, 1) := by decide +kernel
set_option maxRecDepth 20000 in
theorem ggX3_path_X3_isWithin : GoodIn wsX3_path wsX3_isWithin := goodIn_r _ [9] (by decide +kernel) (by decide +kernel)
set_option maxRecDepth 20000 in
theorem gX3_path_X3_isWithin : GoodIn wsX3_path (va_wsS RX3 26 yX3_isWithin wsX3_isWithin) := goodIn_app (goodIn_of _ (by decide +kernel)) ggX3_path_X3_isWithin
set_option maxRecDepth 20000 in
theorem ggX3_path_X1_tellPath : GoodIn wsX3_path wsX1_tellPath := goodIn_r _ [13, 14, 18, 19, 20, 21, 22, 23, 24] (by decide +kernel) (by decide +kernel)
set_option maxRecDepth 20000 in
theorem gX3_path_X1_tellPath_n42 : GoodIn wsX3_path (wsX1_tellPath) := ggX3_path_X1_tellPath
theorem dX3_path_0 : decode cX3_path 0 = .ok (.iload_n 1, 1) := by decide +kernel
theorem dX3_path_1 : decode cX3_path 1 = .ok (.iconst 0, 1) := by decide +kernel
theorem dX3_path_2 : decode cX3_path 2 = .ok (.bipush 7, 2) := by decide +kernel
theorem dX3_path_4 : decode cX3_path 4 = .ok (.invokestatic 26, 3) := by decide +kernel
theorem dX3_path_7 : decode cX3_path 7 = .ok (.ifCond .ne 13, 3) := by decide +kernel
theorem dX3_path_10 : decode cX3_path 10 = .ok (.new 30, 3) := by decide +kernel
theorem dX3_path_13 : decode cX3_path 13 = .ok (.dup, 1) := by decide +kernel
theorem dX3_path_14 : decode cX3_path 14 = .ok (.ldc 32, 2) := by decide +kernel
theorem dX3_path_16 : decode cX3_path 16 = .ok (.invokespecial 34, 3) := by decide +kernel
theorem dX3_path_19 : decode cX3_path 19 = .ok (.athrow, 1) := by decide +kernel
theorem dX3_path_20 : decode cX3_path 20 = .ok (.iload_n 2, 1) := by decide +kernel
theorem dX3_path_21 : decode cX3_path 21 = .ok (.sipush (-1000), 3) := by decide +kernel
theorem dX3_path_24 : decode cX3_path 24 = .ok (.sipush 1000, 3) := by decide +kernel
theorem dX3_path_27 : decode cX3_path 27 = .ok (.invokestatic 26, 3) := by decide +kernel
theorem dX3_path_30 : decode cX3_path 30 = .ok (.ifCond .ne 13, 3) := by decide +kernel
theorem dX3_path_33 : decode cX3_path 33 = .ok (.new 37, 3) := by decide +kernel
theorem dX3_path_36 : decode cX3_path 36 = .ok (.dup, 1) := by decide +kernel
theorem dX3_path_37 : decode cX3_path 37 = .ok (.ldc 39, 2) := by decide +kernel
theorem dX3_path_39 : decode cX3_path 39 = .ok (.invokespecial 41, 3) := by decide +kernel
theorem dX3_path_42 : decode cX3_path 42 = .ok (.athrow, 1) := by decide +kernel
theorem dX3_path_43 : decode cX3_path 43 = .ok (.aload_n 0, 1) := by decide +kernel
theorem dX3_path_44 : decode cX3_path 44 = .ok (.getfield 10, 3) := by decide +kernel
theorem dX3_path_47 : decode cX3_path 47 = .ok (.iload_n 1, 1) := by decide +kernel
theorem dX3_path_48 : decode cX3_path 48 = .ok (.iload_n 2, 1) := by decide +kernel
theorem dX3_path_49 : decode cX3_path 49 = .ok (.invokevirtual 42, 3) := by decide +kernel
theorem dX3_path_52 : decode cX3_path 52 = .ok (.ireturn, 1) := by decide +kernel
set_option maxRecDepth 20000 in
theorem ggX3_filter_X3_isWithin : GoodIn wsX3_filter wsX3_isWithin := goodIn_r _ [13] (by decide +kernel) (by decide +kernel)
set_option maxRecDepth 20000 in
theorem gX3_filter_X3_isWithin : GoodIn wsX3_filter (va_wsS RX3 26 yX3_isWithin wsX3_isWithin) := goodIn_app (goodIn_of _ (by decide +kernel)) ggX3_filter_X3_isWithin
set_option maxRecDepth 20000 in
theorem ggX3_filter_X3_isStepOf : GoodIn wsX3_filter wsX3_isStepOf := goodIn_r _ [16, 10, 11, 12, 13] (by decide +kernel) (by decide +kernel)
set_option maxRecDepth 20000 in
theorem gX3_filter_X3_isStepOf : GoodIn wsX3_filter (va_wsS RX3 50 yX3_isStepOf wsX3_isStepOf) := goodIn_app (goodIn_of _ (by decide +kernel)) ggX3_filter_X3_isStepOf
set_option maxRecDepth 20000 in
theorem ggX3_filter_X0_init : GoodIn wsX3_filter wsX0_init := goodIn_r _ [18, 19, 20, 21, 22, 23, 24, 25, 26, 27, 28, 29, 30, 31, 32, 33, 34, 35, 36, 37, 38, 39, 43, 44, 45, 46, 47, 48, 49, 50, 51, 52, 53, 54, 55, 56, 57, 58, 59] (by decide +kernel) (by decide +kernel)
set_option maxRecDepth 20000 in
theorem gX3_filter_X0_init_n61 : GoodIn wsX3_filter (wsX0_init) := ggX3_filter_X0_init
theorem dX3_filter_0 : decode cX3_filter 0 = .ok (.iload_n 1, 1) := by decide +kernel
theorem dX3_filter_1 : decode cX3_filter 1 = .ok (.iconst 0, 1) := by decide +kernel
theorem dX3_filter_2 : decode cX3_filter 2 = .ok (.iconst 3, 1) := by decide +kernel
theorem dX3_filter_3 : decode cX3_filter 3 = .ok (.invokestatic 26, 3) := by decide +kernel
theorem dX3_filter_6 : decode cX3_filter 6 = .ok (.ifCond .ne 13, 3) := by decide +kernel
theorem dX3_filter_9 : decode cX3_filter 9 = .ok (.new 37, 3) := by decide +kernel
theorem dX3_filter_12 : decode cX3_filter 12 = .ok (.dup, 1) := by decide +kernel
theorem dX3_filter_13 : decode cX3_filter 13 = .ok (.ldc 46, 2) := by decide +kernel
theorem dX3_filter_15 : decode cX3_filter 15 = .ok (.invokespecial 41, 3) := by decide +kernel
theorem dX3_filter_18 : decode cX3_filter 18 = .ok (.athrow, 1) := by decide +kernel
theorem dX3_filter_19 : decode cX3_filter 19 = .ok (.iload_n 2, 1) := by decide +kernel
theorem dX3_filter_20 : decode cX3_filter 20 = .ok (.iconst 1, 1) := by decide +kernel
theorem dX3_filter_21 : decode cX3_filter 21 = .ok (.iload_n 1, 1) := by decide +kernel
theorem dX3_filter_22 : decode cX3_filter 22 = .ok (.iconst 3, 1) := by decide +kernel
theorem dX3_filter_23 : decode cX3_filter 23 = .ok (.if_icmp .ne 7, 3) := by decide +kernel
theorem dX3_filter_26 : decode cX3_filter 26 = .ok (.iconst 4, 1) := by decide +kernel
theorem dX3_filter_27 : decode cX3_filter 27 = .ok (.goto 5, 3) := by decide +kernel
theorem dX3_filter_30 : decode cX3_filter 30 = .ok (.bipush 8, 2) := by decide +kernel
theorem dX3_filter_32 : decode cX3_filter 32 = .ok (.invokestatic 26, 3) := by decide +kernel
theorem dX3_filter_35 : decode cX3_filter 35 = .ok (.ifCond .ne 13, 3) := by decide +kernel
theorem dX3_filter_38 : decode cX3_filter 38 = .ok (.new 37, 3) := by decide +kernel
theorem dX3_filter_41 : decode cX3_filter 41 = .ok (.dup, 1) := by decide +kernel
theorem dX3_filter_42 : decode cX3_filter 42 = .ok (.ldc 48, 2) := by decide +kernel
theorem dX3_filter_44 : decode cX3_filter 44 = .ok (.invokespecial 41, 3) := by decide +kernel
theorem dX3_filter_47 : decode cX3_filter 47 = .ok (.athrow, 1) := by decide +kernel
theorem dX3_filter_48 : decode cX3_filter 48 = .ok (.iload_n 1, 1) := by decide +kernel
theorem dX3_filter_49 : decode cX3_filter 49 = .ok (.iload_n 3, 1) := by decide +kernel
theorem dX3_filter_50 : decode cX3_filter 50 = .ok (.invokestatic 50, 3) := by decide +kernel
theorem dX3_filter_53 : decode cX3_filter 53 = .ok (.ifCond .ne 13, 3) := by decide +kernel
theorem dX3_filter_56 : decode cX3_filter 56 = .ok (.new 37, 3) := by decide +kernel
theorem dX3_filter_59 : decode cX3_filter 59 = .ok (.dup, 1) := by decide +kernel
theorem dX3_filter_60 : decode cX3_filter 60 = .ok (.ldc 54, 2) := by decide +kernel
theorem dX3_filter_62 : decode cX3_filter 62 = .ok (.invokespecial 41, 3) := by decide +kernel
theorem dX3_filter_65 : decode cX3_filter 65 = .ok (.athrow, 1) := by decide +kernel
theorem dX3_filter_66 : decode cX3_filter 66 = .ok (.aload_n 0, 1) := by decide +kernel
theorem dX3_filter_67 : decode cX3_filter 67 = .ok (.getfield 22, 3) := by decide +kernel
theorem dX3_filter_70 : decode cX3_filter 70 = .ok (.aload_n 0, 1) := by decide +kernel
theorem dX3_filter_71 : decode cX3_filter 71 = .ok (.getfield 18, 3) := by decide +kernel
theorem dX3_filter_74 : decode cX3_filter 74 = .ok (.arraylength, 1) := by decide +kernel
theorem dX3_filter_75 : decode cX3_filter 75 = .ok (.if_icmp .lt 13, 3) := by decide +kernel
theorem dX3_filter_78 : decode cX3_filter 78 = .ok (.new 56, 3) := by decide +kernel
theorem dX3_filter_81 : decode cX3_filter 81 = .ok (.dup, 1) := by decide +kernel
theorem dX3_filter_82 : decode cX3_filter 82 = .ok (.ldc 58, 2) := by decide +kernel
theorem dX3_filter_84 : decode cX3_filter 84 = .ok (.invokespecial 60, 3) := by decide +kernel
theorem dX3_filter_87 : decode cX3_filter 87 = .ok (.athrow, 1) := by decide +kernel
theorem dX3_filter_88 : decode cX3_filter 88 = .ok (.aload_n 0, 1) := by decide +kernel
theorem dX3_filter_89 : decode cX3_filter 89 = .ok (.getfield 22, 3) := by decide +kernel
theorem dX3_filter_92 : decode cX3_filter 92 = .ok (.istore 4, 2) := by decide +kernel
theorem dX3_filter_94 : decode cX3_filter 94 = .ok (.aload_n 0, 1) := by decide +kernel
theorem dX3_filter_95 : decode cX3_filter 95 = .ok (.getfield 18, 3) := by decide +kernel
theorem dX3_filter_98 : decode cX3_filter 98 = .ok (.iload 4, 2) := by decide +kernel
theorem dX3_filter_100 : decode cX3_filter 100 = .ok (.new 16, 3) := by decide +kernel
theorem dX3_filter_103 : decode cX3_filter 103 = .ok (.dup, 1) := by decide +kernel
theorem dX3_filter_104 : decode cX3_filter 104 = .ok (.iload_n 1, 1) := by decide +kernel
theorem dX3_filter_105 : decode cX3_filter 105 = .ok (.iload_n 2, 1) := by decide +kernel
theorem dX3_filter_106 : decode cX3_filter 106 = .ok (.iload_n 3, 1) := by decide +kernel
theorem dX3_filter_107 : decode cX3_filter 107 = .ok (.invokespecial 61, 3) := by decide +kernel
theorem dX3_filter_110 : decode cX3_filter 110 = .ok (.aastore, 1) := by decide +kernel
theorem dX3_filter_111 : decode cX3_filter 111 = .ok (.aload_n 0, 1) := by decide +kernel
theorem dX3_filter_112 : decode cX3_filter 112 = .ok (.dup, 1) := by decide +kernel
theorem dX3_filter_113 : decode cX3_filter 113 = .ok (.getfield 22, 3) := by decide +kernel
theorem dX3_filter_116 : decode cX3_filter 116 = .ok (.iconst 1, 1) := by decide +kernel
theorem dX3_filter_117 : decode cX3_filter 117 = .ok (.iadd, 1) := by decide +kernel
theorem dX3_filter_118 : decode cX3_filter 118 = .ok (.putfield 22, 3) := by decide +kernel
theorem dX3_filter_121 : decode cX3_filter 121 = .ok (.iload 4, 2) := by decide +kernel
theorem dX3_filter_123 : decode cX3_filter 123 = .ok (.ireturn, 1) := by decide +kernel
set_option maxRecDepth 20000 in
theorem ggX3_step_X3_numbered : GoodIn wsX3_step wsX3_numbered := goodIn_r _ [9, 10, 11, 31, 32, 33] (by decide +kernel) (by decide +kernel)
set_option maxRecDepth 20000 in
theorem gX3_step_X3_numbered : GoodIn wsX3_step (wsV RX3 64 RX3 yX3_numbered wsX3_numbered) := goodIn_app (goodIn_of _ (by decide +kernel)) ggX3_step_X3_numbered
set_option maxRecDepth 20000 in
theorem ggX3_step_X3_isStepOf : GoodIn wsX3_step wsX3_isStepOf := goodIn_r _ [14, 15, 16, 8, 17] (by decide +kernel) (by decide +kernel)
set_option maxRecDepth 20000 in
theorem gX3_step_X3_isStepOf : GoodIn wsX3_step (va_wsS RX3 50 yX3_isStepOf wsX3_isStepOf) := goodIn_app (goodIn_of _ (by decide +kernel)) ggX3_step_X3_isStepOf
theorem dX3_step_0 : decode cX3_step 0 = .ok (.aload_n 0, 1) := by decide +kernel
theorem dX3_step_1 : decode cX3_step 1 = .ok (.iload_n 1, 1) := by decide +kernel
theorem dX3_step_2 : decode cX3_step 2 = .ok (.invokevirtual 64, 3) := by decide +kernel
theorem dX3_step_5 : decode cX3_step 5 = .ok (.astore_n 3, 1) := by decide +kernel
theorem dX3_step_6 : decode cX3_step 6 = .ok (.aload_n 3, 1) := by decide +kernel
theorem dX3_step_7 : decode cX3_step 7 = .ok (.ifnonnull 13, 3) := by decide +kernel
theorem dX3_step_10 : decode cX3_step 10 = .ok (.new 30, 3) := by decide +kernel
theorem dX3_step_13 : decode cX3_step 13 = .ok (.dup, 1) := by decide +kernel
theorem dX3_step_14 : decode cX3_step 14 = .ok (.ldc 68, 2) := by decide +kernel
theorem dX3_step_16 : decode cX3_step 16 = .ok (.invokespecial 34, 3) := by decide +kernel
theorem dX3_step_19 : decode cX3_step 19 = .ok (.athrow, 1) := by decide +kernel
theorem dX3_step_20 : decode cX3_step 20 = .ok (.aload_n 3, 1) := by decide +kernel
theorem dX3_step_21 : decode cX3_step 21 = .ok (.getfield 70, 3) := by decide +kernel
theorem dX3_step_24 : decode cX3_step 24 = .ok (.iload_n 2, 1) := by decide +kernel
theorem dX3_step_25 : decode cX3_step 25 = .ok (.invokestatic 50, 3) := by decide +kernel
theorem dX3_step_28 : decode cX3_step 28 = .ok (.ifCond .ne 13, 3) := by decide +kernel
theorem dX3_step_31 : decode cX3_step 31 = .ok (.new 37, 3) := by decide +kernel
theorem dX3_step_34 : decode cX3_step 34 = .ok (.dup, 1) := by decide +kernel
theorem dX3_step_35 : decode cX3_step 35 = .ok (.ldc 54, 2) := by decide +kernel
theorem dX3_step_37 : decode cX3_step 37 = .ok (.invokespecial 41, 3) := by decide +kernel
theorem dX3_step_40 : decode cX3_step 40 = .ok (.athrow, 1) := by decide +kernel
theorem dX3_step_41 : decode cX3_step 41 = .ok (.aload_n 3, 1) := by decide +kernel
theorem dX3_step_42 : decode cX3_step 42 = .ok (.getfield 73, 3) := by decide +kernel
theorem dX3_step_45 : decode cX3_step 45 = .ok (.istore 4, 2) := by decide +kernel
theorem dX3_step_47 : decode cX3_step 47 = .ok (.aload_n 3, 1) := by decide +kernel
theorem dX3_step_48 : decode cX3_step 48 = .ok (.iload_n 2, 1) := by decide +kernel
theorem dX3_step_49 : decode cX3_step 49 = .ok (.putfield 73, 3) := by decide +kernel
theorem dX3_step_52 : decode cX3_step 52 = .ok (.iload 4, 2) := by decide +kernel
theorem dX3_step_54 : decode cX3_step 54 = .ok (.ireturn, 1) := by decide +kernel
set_option maxRecDepth 20000 in
theorem ggX3_watch_X3_numbered : GoodIn wsX3_watch wsX3_numbered := goodIn_r _ [9, 10, 11, 28, 29, 30] (by decide +kernel) (by decide +kernel)
set_option maxRecDepth 20000 in
theorem gX3_watch_X3_numbered : GoodIn wsX3_watch (wsV RX3 64 RX3 yX3_numbered wsX3_numbered) := goodIn_app (goodIn_of _ (by decide +kernel)) ggX3_watch_X3_numbered
set_option maxRecDepth 20000 in
theorem ggX3_watch_X3_isWithin : GoodIn wsX3_watch wsX3_isWithin := goodIn_r _ [14] (by decide +kernel) (by decide +kernel)
set_option maxRecDepth 20000 in
theorem gX3_watch_X3_isWithin : GoodIn wsX3_watch (va_wsS RX3 26 yX3_isWithin wsX3_isWithin) := goodIn_app (goodIn_of _ (by decide +kernel)) ggX3_watch_X3_isWithin
theorem dX3_watch_0 : decode cX3_watch 0 = .ok (.aload_n 0, 1) := by decide +kernel
theorem dX3_watch_1 : decode cX3_watch 1 = .ok (.iload_n 1, 1) := by decide +kernel
theorem dX3_watch_2 : decode cX3_watch 2 = .ok (.invokevirtual 64, 3) := by decide +kernel
theorem dX3_watch_5 : decode cX3_watch 5 = .ok (.astore 4, 2) := by decide +kernel
theorem dX3_watch_7 : decode cX3_watch 7 = .ok (.aload 4, 2) := by decide +kernel
theorem dX3_watch_9 : decode cX3_watch 9 = .ok (.ifnonnull 13, 3) := by decide +kernel
theorem dX3_watch_12 : decode cX3_watch 12 = .ok (.new 30, 3) := by decide +kernel
theorem dX3_watch_15 : decode cX3_watch 15 = .ok (.dup, 1) := by decide +kernel
theorem dX3_watch_16 : decode cX3_watch 16 = .ok (.ldc 68, 2) := by decide +kernel
theorem dX3_watch_18 : decode cX3_watch 18 = .ok (.invokespecial 34, 3) := by decide +kernel
theorem dX3_watch_21 : decode cX3_watch 21 = .ok (.athrow, 1) := by decide +kernel
theorem dX3_watch_22 : decode cX3_watch 22 = .ok (.iload_n 2, 1) := by decide +kernel
theorem dX3_watch_23 : decode cX3_watch 23 = .ok (.iconst 0, 1) := by decide +kernel
theorem dX3_watch_24 : decode cX3_watch 24 = .ok (.sipush 1000, 3) := by decide +kernel
theorem dX3_watch_27 : decode cX3_watch 27 = .ok (.invokestatic 26, 3) := by decide +kernel
theorem dX3_watch_30 : decode cX3_watch 30 = .ok (.ifCond .ne 13, 3) := by decide +kernel
theorem dX3_watch_33 : decode cX3_watch 33 = .ok (.new 37, 3) := by decide +kernel
theorem dX3_watch_36 : decode cX3_watch 36 = .ok (.dup, 1) := by decide +kernel
theorem dX3_watch_37 : decode cX3_watch 37 = .ok (.ldc 39, 2) := by decide +kernel
theorem dX3_watch_39 : decode cX3_watch 39 = .ok (.invokespecial 41, 3) := by decide +kernel
theorem dX3_watch_42 : decode cX3_watch 42 = .ok (.athrow, 1) := by decide +kernel
theorem dX3_watch_43 : decode cX3_watch 43 = .ok (.iload_n 3, 1) := by decide +kernel
theorem dX3_watch_44 : decode cX3_watch 44 = .ok (.iconst 0, 1) := by decide +kernel
theorem dX3_watch_45 : decode cX3_watch 45 = .ok (.bipush 20, 2) := by decide +kernel
theorem dX3_watch_47 : decode cX3_watch 47 = .ok (.invokestatic 26, 3) := by decide +kernel
theorem dX3_watch_50 : decode cX3_watch 50 = .ok (.ifCond .ne 13, 3) := by decide +kernel
theorem dX3_watch_53 : decode cX3_watch 53 = .ok (.new 37, 3) := by decide +kernel
theorem dX3_watch_56 : decode cX3_watch 56 = .ok (.dup, 1) := by decide +kernel
theorem dX3_watch_57 : decode cX3_watch 57 = .ok (.ldc 76, 2) := by decide +kernel
theorem dX3_watch_59 : decode cX3_watch 59 = .ok (.invokespecial 41, 3) := by decide +kernel
theorem dX3_watch_62 : decode cX3_watch 62 = .ok (.athrow, 1) := by decide +kernel
theorem dX3_watch_63 : decode cX3_watch 63 = .ok (.aload 4, 2) := by decide +kernel
theorem dX3_watch_65 : decode cX3_watch 65 = .ok (.iload_n 2, 1) := by decide +kernel
theorem dX3_watch_66 : decode cX3_watch 66 = .ok (.putfield 78, 3) := by decide +kernel
theorem dX3_watch_69 : decode cX3_watch 69 = .ok (.aload 4, 2) := by decide +kernel
theorem dX3_watch_71 : decode cX3_watch 71 = .ok (.iload_n 3, 1) := by decide +kernel
theorem dX3_watch_72 : decode cX3_watch 72 = .ok (.putfield 81, 3) := by decide +kernel
theorem dX3_watch_75 : decode cX3_watch 75 = .ok (.return_, 1) := by decide +kernel
set_option maxRecDepth 20000 in
theorem ggX3_begin_X3_numbered : GoodIn wsX3_begin wsX3_numbered := goodIn_r _ [7, 8, 9, 33, 34, 35] (by decide +kernel) (by decide +kernel)
set_option maxRecDepth 20000 in
theorem gX3_begin_X3_numbered : GoodIn wsX3_begin (wsV RX3 64 RX3 yX3_numbered wsX3_numbered) := goodIn_app (goodIn_of _ (by decide +kernel)) ggX3_begin_X3_numbered
set_option maxRecDepth 20000 in
theorem ggX3_begin_X0_restart : GoodIn wsX3_begin wsX0_restart := goodIn_r _ [13, 14, 15, 16, 17, 18, 19, 20, 21, 22, 23, 24, 25, 26, 27, 28, 29, 30, 31, 32, 36, 37, 38, 39, 40, 41, 42, 43, 44, 45, 46, 47, 48, 49, 50, 51, 52] (by decide +kernel) (by decide +kernel)
set_option maxRecDepth 20000 in
theorem gX3_begin_X0_restart_n84 : GoodIn wsX3_begin (wsX0_restart) := ggX3_begin_X0_restart
theorem dX3_begin_0 : decode cX3_begin 0 = .ok (.aload_n 0, 1) := by decide +kernel
theorem dX3_begin_1 : decode cX3_begin 1 = .ok (.iload_n 1, 1) := by decide +kernel
theorem dX3_begin_2 : decode cX3_begin 2 = .ok (.invokevirtual 64, 3) := by decide +kernel
theorem dX3_begin_5 : decode cX3_begin 5 = .ok (.astore_n 2, 1) := by decide +kernel
theorem dX3_begin_6 : decode cX3_begin 6 = .ok (.aload_n 2, 1) := by decide +kernel
theorem dX3_begin_7 : decode cX3_begin 7 = .ok (.ifnonnull 13, 3) := by decide +kernel
theorem dX3_begin_10 : decode cX3_begin 10 = .ok (.new 30, 3) := by decide +kernel
theorem dX3_begin_13 : decode cX3_begin 13 = .ok (.dup, 1) := by decide +kernel
theorem dX3_begin_14 : decode cX3_begin 14 = .ok (.ldc 68, 2) := by decide +kernel
theorem dX3_begin_16 : decode cX3_begin 16 = .ok (.invokespecial 34, 3) := by decide +kernel
theorem dX3_begin_19 : decode cX3_begin 19 = .ok (.athrow, 1) := by decide +kernel
theorem dX3_begin_20 : decode cX3_begin 20 = .ok (.aload_n 2, 1) := by decide +kernel
theorem dX3_begin_21 : decode cX3_begin 21 = .ok (.invokevirtual 84, 3) := by decide +kernel
theorem dX3_begin_24 : decode cX3_begin 24 = .ok (.return_, 1) := by decide +kernel
set_option maxRecDepth 20000 in
theorem ggX3_feed_X3_isWithin : GoodIn wsX3_feed wsX3_isWithin := goodIn_r _ [9] (by decide +kernel) (by decide +kernel)
set_option maxRecDepth 20000 in
theorem gX3_feed_X3_isWithin : GoodIn wsX3_feed (va_wsS RX3 26 yX3_isWithin wsX3_isWithin) := goodIn_app (goodIn_of _ (by decide +kernel)) ggX3_feed_X3_isWithin
set_option maxRecDepth 20000 in
theorem ggX3_feed_X3_takeSample : GoodIn wsX3_feed wsX3_takeSample := goodIn_r _ [13, 5, 14, 15, 16, 17, 18, 19, 20, 21, 22, 23, 24, 25, 26, 27, 28, 29, 30, 31, 32, 33, 34, 35, 36, 37, 8, 38, 39, 40, 41, 42, 43, 44, 45, 46, 47, 48, 49, 50, 51, 52, 53, 54, 55, 56, 57, 58, 59, 60, 61, 62, 63, 64, 65, 66, 67, 68, 69, 70, 71, 72, 73, 74, 75, 76, 77, 78, 79, 80, 81, 82, 83, 84, 85, 86, 87, 88, 89, 90, 91, 92, 7, 9, 93, 94, 95, 96, 97, 98, 99, 100, 101, 102, 103, 104, 105, 106, 107, 108, 109, 110, 111, 112, 113, 114, 115, 116, 117, 118, 119, 120, 121, 122, 123, 124, 125, 126, 127, 128, 129, 130, 131, 132, 133, 134, 135, 136, 137, 138, 139, 140, 141, 142, 143, 144, 145, 146, 147] (by decide +kernel) (by decide +kernel)
set_option maxRecDepth 20000 in
theorem gX3_feed_X3_takeSample : GoodIn wsX3_feed (wsV RX3 96 RX3 yX3_takeSample wsX3_takeSample) := goodIn_app (goodIn_of _ (by decide +kernel)) ggX3_feed_X3_takeSample
theorem dX3_feed_0 : decode cX3_feed 0 = .ok (.iload_n 1, 1) := by decide +kernel
theorem dX3_feed_1 : decode cX3_feed 1 = .ok (.sipush (-1000), 3) := by decide +kernel
theorem dX3_feed_4 : decode cX3_feed 4 = .ok (.sipush 1000, 3) := by decide +kernel
theorem dX3_feed_7 : decode cX3_feed 7 = .ok (.invokestatic 26, 3) := by decide +kernel
theorem dX3_feed_10 : decode cX3_feed 10 = .ok (.ifCond .ne 13, 3) := by decide +kernel
theorem dX3_feed_13 : decode cX3_feed 13 = .ok (.new 37, 3) := by decide +kernel
theorem dX3_feed_16 : decode cX3_feed 16 = .ok (.dup, 1) := by decide +kernel
theorem dX3_feed_17 : decode cX3_feed 17 = .ok (.ldc 87, 2) := by decide +kernel
theorem dX3_feed_19 : decode cX3_feed 19 = .ok (.invokespecial 41, 3) := by decide +kernel
theorem dX3_feed_22 : decode cX3_feed 22 = .ok (.athrow, 1) := by decide +kernel
theorem dX3_feed_23 : decode cX3_feed 23 = .ok (.iload_n 2, 1) := by decide +kernel
theorem dX3_feed_24 : decode cX3_feed 24 = .ok (.sipush (-1000), 3) := by decide +kernel
theorem dX3_feed_27 : decode cX3_feed 27 = .ok (.sipush 1000, 3) := by decide +kernel
theorem dX3_feed_30 : decode cX3_feed 30 = .ok (.invokestatic 26, 3) := by decide +kernel
theorem dX3_feed_33 : decode cX3_feed 33 = .ok (.ifCond .ne 13, 3) := by decide +kernel
theorem dX3_feed_36 : decode cX3_feed 36 = .ok (.new 37, 3) := by decide +kernel
theorem dX3_feed_39 : decode cX3_feed 39 = .ok (.dup, 1) := by decide +kernel
theorem dX3_feed_40 : decode cX3_feed 40 = .ok (.ldc 89, 2) := by decide +kernel
theorem dX3_feed_42 : decode cX3_feed 42 = .ok (.invokespecial 41, 3) := by decide +kernel
theorem dX3_feed_45 : decode cX3_feed 45 = .ok (.athrow, 1) := by decide +kernel
theorem dX3_feed_46 : decode cX3_feed 46 = .ok (.aload_n 0, 1) := by decide +kernel
theorem dX3_feed_47 : decode cX3_feed 47 = .ok (.getfield 10, 3) := by decide +kernel
theorem dX3_feed_50 : decode cX3_feed 50 = .ok (.getfield 91, 3) := by decide +kernel
theorem dX3_feed_53 : decode cX3_feed 53 = .ok (.sipush 2000, 3) := by decide +kernel
theorem dX3_feed_56 : decode cX3_feed 56 = .ok (.if_icmp .lt 13, 3) := by decide +kernel
theorem dX3_feed_59 : decode cX3_feed 59 = .ok (.new 56, 3) := by decide +kernel
theorem dX3_feed_62 : decode cX3_feed 62 = .ok (.dup, 1) := by decide +kernel
theorem dX3_feed_63 : decode cX3_feed 63 = .ok (.ldc 94, 2) := by decide +kernel
theorem dX3_feed_65 : decode cX3_feed 65 = .ok (.invokespecial 60, 3) := by decide +kernel
theorem dX3_feed_68 : decode cX3_feed 68 = .ok (.athrow, 1) := by decide +kernel
theorem dX3_feed_69 : decode cX3_feed 69 = .ok (.aload_n 0, 1) := by decide +kernel
theorem dX3_feed_70 : decode cX3_feed 70 = .ok (.iload_n 1, 1) := by decide +kernel
theorem dX3_feed_71 : decode cX3_feed 71 = .ok (.iload_n 2, 1) := by decide +kernel
theorem dX3_feed_72 : decode cX3_feed 72 = .ok (.invokevirtual 96, 3) := by decide +kernel
theorem dX3_feed_75 : decode cX3_feed 75 = .ok (.aload_n 0, 1) := by decide +kernel
theorem dX3_feed_76 : decode cX3_feed 76 = .ok (.getfield 10, 3) := by decide +kernel
theorem dX3_feed_79 : decode cX3_feed 79 = .ok (.getfield 91, 3) := by decide +kernel
theorem dX3_feed_82 : decode cX3_feed 82 = .ok (.ireturn, 1) := by decide +kernel
set_option maxRecDepth 20000 in
theorem ggX3_script_X3_isWithin : GoodIn wsX3_script wsX3_isWithin := goodIn_r _ [9] (by decide +kernel) (by decide +kernel)
set_option maxRecDepth 20000 in
theorem gX3_script_X3_isWithin : GoodIn wsX3_script (va_wsS RX3 26 yX3_isWithin wsX3_isWithin) := goodIn_app (goodIn_of _ (by decide +kernel)) ggX3_script_X3_isWithin
set_option maxRecDepth 20000 in
theorem ggX3_script_X3_takeSample : GoodIn wsX3_script wsX3_takeSample := goodIn_r _ [13, 5, 14, 15, 16, 17, 18, 19, 20, 21, 22, 23, 24, 25, 26, 27, 28, 29, 30, 31, 32, 33, 34, 35, 36, 37, 8, 38, 39, 40, 41, 42, 43, 44, 45, 46, 47, 48, 49, 50, 51, 52, 53, 54, 55, 56, 57, 58, 59, 60, 61, 62, 63, 64, 65, 66, 67, 68, 69, 70, 71, 72, 73, 74, 75, 76, 77, 78, 79, 80, 81, 82, 83, 84, 85, 86, 87, 88, 89, 90, 91, 92, 7, 9, 93, 94, 95, 96, 97, 98, 99, 100, 101, 102, 103, 104, 105, 106, 107, 108, 109, 110, 111, 112, 113, 114, 115, 116, 117, 118, 119, 120, 121, 122, 123, 124, 125, 126, 127, 128, 129, 130, 131, 132, 133, 134, 135, 136, 137, 138, 139, 140, 141, 142, 143, 144, 145, 146, 147] (by decide +kernel) (by decide +kernel)
set_option maxRecDepth 20000 in
theorem gX3_script_X3_takeSample : GoodIn wsX3_script (wsV RX3 96 RX3 yX3_takeSample wsX3_takeSample) := goodIn_app (goodIn_of _ (by decide +kernel)) ggX3_script_X3_takeSample
theorem dX3_script_0 : decode cX3_script 0 = .ok (.iload_n 1, 1) := by decide +kernel
theorem dX3_script_1 : decode cX3_script 1 = .ok (.iconst 0, 1) := by decide +kernel
theorem dX3_script_2 : decode cX3_script 2 = .ok (.sipush 2000, 3) := by decide +kernel
theorem dX3_script_5 : decode cX3_script 5 = .ok (.invokestatic 26, 3) := by decide +kernel
theorem dX3_script_8 : decode cX3_script 8 = .ok (.ifCond .ne 13, 3) := by decide +kernel
theorem dX3_script_11 : decode cX3_script 11 = .ok (.new 37, 3) := by decide +kernel
theorem dX3_script_14 : decode cX3_script 14 = .ok (.dup, 1) := by decide +kernel
theorem dX3_script_15 : decode cX3_script 15 = .ok (.ldc 100, 2) := by decide +kernel
theorem dX3_script_17 : decode cX3_script 17 = .ok (.invokespecial 41, 3) := by decide +kernel
theorem dX3_script_20 : decode cX3_script 20 = .ok (.athrow, 1) := by decide +kernel
theorem dX3_script_21 : decode cX3_script 21 = .ok (.iload_n 2, 1) := by decide +kernel
theorem dX3_script_22 : decode cX3_script 22 = .ok (.iconst 1, 1) := by decide +kernel
theorem dX3_script_23 : decode cX3_script 23 = .ok (.bipush 100, 2) := by decide +kernel
theorem dX3_script_25 : decode cX3_script 25 = .ok (.invokestatic 26, 3) := by decide +kernel
theorem dX3_script_28 : decode cX3_script 28 = .ok (.ifCond .ne 13, 3) := by decide +kernel
theorem dX3_script_31 : decode cX3_script 31 = .ok (.new 37, 3) := by decide +kernel
theorem dX3_script_34 : decode cX3_script 34 = .ok (.dup, 1) := by decide +kernel
theorem dX3_script_35 : decode cX3_script 35 = .ok (.ldc 102, 2) := by decide +kernel
theorem dX3_script_37 : decode cX3_script 37 = .ok (.invokespecial 41, 3) := by decide +kernel
theorem dX3_script_40 : decode cX3_script 40 = .ok (.athrow, 1) := by decide +kernel
theorem dX3_script_41 : decode cX3_script 41 = .ok (.aload_n 0, 1) := by decide +kernel
theorem dX3_script_42 : decode cX3_script 42 = .ok (.getfield 10, 3) := by decide +kernel
theorem dX3_script_45 : decode cX3_script 45 = .ok (.getfield 91, 3) := by decide +kernel
theorem dX3_script_48 : decode cX3_script 48 = .ok (.iload_n 2, 1) := by decide +kernel
theorem dX3_script_49 : decode cX3_script 49 = .ok (.iadd, 1) := by decide +kernel
theorem dX3_script_50 : decode cX3_script 50 = .ok (.sipush 2000, 3) := by decide +kernel
theorem dX3_script_53 : decode cX3_script 53 = .ok (.if_icmp .le 13, 3) := by decide +kernel
theorem dX3_script_56 : decode cX3_script 56 = .ok (.new 56, 3) := by decide +kernel
theorem dX3_script_59 : decode cX3_script 59 = .ok (.dup, 1) := by decide +kernel
theorem dX3_script_60 : decode cX3_script 60 = .ok (.ldc 94, 2) := by decide +kernel
theorem dX3_script_62 : decode cX3_script 62 = .ok (.invokespecial 60, 3) := by decide +kernel
theorem dX3_script_65 : decode cX3_script 65 = .ok (.athrow, 1) := by decide +kernel
theorem dX3_script_66 : decode cX3_script 66 = .ok (.iload_n 1, 1) := by decide +kernel
theorem dX3_script_67 : decode cX3_script 67 = .ok (.istore_n 3, 1) := by decide +kernel
theorem dX3_script_68 : decode cX3_script 68 = .ok (.iconst 0, 1) := by decide +kernel
theorem dX3_script_69 : decode cX3_script 69 = .ok (.istore 4, 2) := by decide +kernel
theorem dX3_script_71 : decode cX3_script 71 = .ok (.iload 4, 2) := by decide +kernel
theorem dX3_script_73 : decode cX3_script 73 = .ok (.iload_n 2, 1) := by decide +kernel
theorem dX3_script_74 : decode cX3_script 74 = .ok (.if_icmp .ge 32, 3) := by decide +kernel
theorem dX3_script_77 : decode cX3_script 77 = .ok (.bipush 7, 2) := by decide +kernel
theorem dX3_script_79 : decode cX3_script 79 = .ok (.iload_n 3, 1) := by decide +kernel
theorem dX3_script_80 : decode cX3_script 80 = .ok (.imul, 1) := by decide +kernel
theorem dX3_script_81 : decode cX3_script 81 = .ok (.sipush 1001, 3) := by decide +kernel
theorem dX3_script_84 : decode cX3_script 84 = .ok (.iadd, 1) := by decide +kernel
theorem dX3_script_85 : decode cX3_script 85 = .ok (.sipush 2001, 3) := by decide +kernel
theorem dX3_script_88 : decode cX3_script 88 = .ok (.irem, 1) := by decide +kernel
theorem dX3_script_89 : decode cX3_script 89 = .ok (.istore_n 3, 1) := by decide +kernel
theorem dX3_script_90 : decode cX3_script 90 = .ok (.aload_n 0, 1) := by decide +kernel
theorem dX3_script_91 : decode cX3_script 91 = .ok (.iload_n 3, 1) := by decide +kernel
theorem dX3_script_92 : decode cX3_script 92 = .ok (.sipush 1000, 3) := by decide +kernel
theorem dX3_script_95 : decode cX3_script 95 = .ok (.isub, 1) := by decide +kernel
theorem dX3_script_96 : decode cX3_script 96 = .ok (.iconst 0, 1) := by decide +kernel
theorem dX3_script_97 : decode cX3_script 97 = .ok (.invokevirtual 96, 3) := by decide +kernel
theorem dX3_script_100 : decode cX3_script 100 = .ok (.iinc 4 1, 3) := by decide +kernel
theorem dX3_script_103 : decode cX3_script 103 = .ok (.goto (-32), 3) := by decide +kernel
theorem dX3_script_106 : decode cX3_script 106 = .ok (.iload_n 3, 1) := by decide +kernel
theorem dX3_script_107 : decode cX3_script 107 = .ok (.ireturn, 1) := by decide +kernel
set_option maxRecDepth 20000 in
theorem ggX3_weight_X3_numbered : GoodIn wsX3_weight wsX3_numbered := goodIn_r _ [7, 8, 9, 23, 24, 25] (by decide +kernel) (by decide +kernel)
set_option maxRecDepth 20000 in
theorem gX3_weight_X3_numbered : GoodIn wsX3_weight (wsV RX3 64 RX3 yX3_numbered wsX3_numbered) := goodIn_app (goodIn_of _ (by decide +kernel)) ggX3_weight_X3_numbered
theorem dX3_weight_0 : decode cX3_weight 0 = .ok (.aload_n 0, 1) := by decide +kernel
theorem dX3_weight_1 : decode cX3_weight 1 = .ok (.iload_n 1, 1) := by decide +kernel
theorem dX3_weight_2 : decode cX3_weight 2 = .ok (.invokevirtual 64, 3) := by decide +kernel
theorem dX3_weight_5 : decode cX3_weight 5 = .ok (.astore_n 3, 1) := by decide +kernel
theorem dX3_weight_6 : decode cX3_weight 6 = .ok (.aload_n 3, 1) := by decide +kernel
theorem dX3_weight_7 : decode cX3_weight 7 = .ok (.ifnonnull 13, 3) := by decide +kernel
theorem dX3_weight_10 : decode cX3_weight 10 = .ok (.new 30, 3) := by decide +kernel
theorem dX3_weight_13 : decode cX3_weight 13 = .ok (.dup, 1) := by decide +kernel
theorem dX3_weight_14 : decode cX3_weight 14 = .ok (.ldc 68, 2) := by decide +kernel
theorem dX3_weight_16 : decode cX3_weight 16 = .ok (.invokespecial 34, 3) := by decide +kernel
theorem dX3_weight_19 : decode cX3_weight 19 = .ok (.athrow, 1) := by decide +kernel
theorem dX3_weight_20 : decode cX3_weight 20 = .ok (.iload_n 2, 1) := by decide +kernel
theorem dX3_weight_21 : decode cX3_weight 21 = .ok (.ifCond .lt 12, 3) := by decide +kernel
theorem dX3_weight_24 : decode cX3_weight 24 = .ok (.iload_n 2, 1) := by decide +kernel
theorem dX3_weight_25 : decode cX3_weight 25 = .ok (.aload_n 3, 1) := by decide +kernel
theorem dX3_weight_26 : decode cX3_weight 26 = .ok (.getfield 104, 3) := by decide +kernel
theorem dX3_weight_29 : decode cX3_weight 29 = .ok (.arraylength, 1) := by decide +kernel
theorem dX3_weight_30 : decode cX3_weight 30 = .ok (.if_icmp .lt 13, 3) := by decide +kernel
theorem dX3_weight_33 : decode cX3_weight 33 = .ok (.new 30, 3) := by decide +kernel
theorem dX3_weight_36 : decode cX3_weight 36 = .ok (.dup, 1) := by decide +kernel
theorem dX3_weight_37 : decode cX3_weight 37 = .ok (.ldc 108, 2) := by decide +kernel
theorem dX3_weight_39 : decode cX3_weight 39 = .ok (.invokespecial 34, 3) := by decide +kernel
theorem dX3_weight_42 : decode cX3_weight 42 = .ok (.athrow, 1) := by decide +kernel
theorem dX3_weight_43 : decode cX3_weight 43 = .ok (.aload_n 3, 1) := by decide +kernel
theorem dX3_weight_44 : decode cX3_weight 44 = .ok (.getfield 104, 3) := by decide +kernel
theorem dX3_weight_47 : decode cX3_weight 47 = .ok (.iload_n 2, 1) := by decide +kernel
theorem dX3_weight_48 : decode cX3_weight 48 = .ok (.daload, 1) := by decide +kernel
theorem dX3_weight_49 : decode cX3_weight 49 = .ok (.dreturn, 1) := by decide +kernel
set_option maxRecDepth 20000 in
theorem ggX3_of_X3_numbered : GoodIn wsX3_of wsX3_numbered := goodIn_r _ [10, 11, 12, 46, 47, 48] (by decide +kernel) (by decide +kernel)
set_option maxRecDepth 20000 in
theorem gX3_of_X3_numbered : GoodIn wsX3_of (wsV RX3 64 RX3 yX3_numbered wsX3_numbered) := goodIn_app (goodIn_of _ (by decide +kernel)) ggX3_of_X3_numbered
set_option maxRecDepth 20000 in
theorem ggX3_of_X1_offness : GoodIn wsX3_of wsX1_offness := goodIn_r _ [16, 17, 18, 49, 50, 51, 52, 53, 54, 55] (by decide +kernel) (by decide +kernel)
set_option maxRecDepth 20000 in
theorem gX3_of_X1_offness_n117 : GoodIn wsX3_of (wsX1_offness) := ggX3_of_X1_offness
set_option maxRecDepth 20000 in
theorem ggX3_of_X0_power : GoodIn wsX3_of wsX0_power := goodIn_r _ [22, 23, 24, 25, 26, 27, 28, 29, 30, 31, 32, 33, 34, 35, 36, 37, 38, 39, 40, 41, 42, 43, 44, 45] (by decide +kernel) (by decide +kernel)
set_option maxRecDepth 20000 in
theorem gX3_of_X0_power_n121 : GoodIn wsX3_of (wsX0_power) := ggX3_of_X0_power
theorem dX3_of_0 : decode cX3_of 0 = .ok (.aload_n 0, 1) := by decide +kernel
theorem dX3_of_1 : decode cX3_of 1 = .ok (.iload_n 1, 1) := by decide +kernel
theorem dX3_of_2 : decode cX3_of 2 = .ok (.invokevirtual 64, 3) := by decide +kernel
theorem dX3_of_5 : decode cX3_of 5 = .ok (.astore_n 3, 1) := by decide +kernel
theorem dX3_of_6 : decode cX3_of 6 = .ok (.aload_n 3, 1) := by decide +kernel
theorem dX3_of_7 : decode cX3_of 7 = .ok (.ifnonnull 13, 3) := by decide +kernel
theorem dX3_of_10 : decode cX3_of 10 = .ok (.new 30, 3) := by decide +kernel
theorem dX3_of_13 : decode cX3_of 13 = .ok (.dup, 1) := by decide +kernel
theorem dX3_of_14 : decode cX3_of 14 = .ok (.ldc 68, 2) := by decide +kernel
theorem dX3_of_16 : decode cX3_of 16 = .ok (.invokespecial 34, 3) := by decide +kernel
theorem dX3_of_19 : decode cX3_of 19 = .ok (.athrow, 1) := by decide +kernel
theorem dX3_of_20 : decode cX3_of 20 = .ok (.iload_n 2, 1) := by decide +kernel
theorem dX3_of_21 : decode cX3_of 21 = .ok (.tableswitch 58 0 3 #[31, 36, 41, 53], 31) := by decide +kernel
theorem dX3_of_52 : decode cX3_of 52 = .ok (.aload_n 3, 1) := by decide +kernel
theorem dX3_of_53 : decode cX3_of 53 = .ok (.getfield 110, 3) := by decide +kernel
theorem dX3_of_56 : decode cX3_of 56 = .ok (.dreturn, 1) := by decide +kernel
theorem dX3_of_57 : decode cX3_of 57 = .ok (.aload_n 3, 1) := by decide +kernel
theorem dX3_of_58 : decode cX3_of 58 = .ok (.getfield 114, 3) := by decide +kernel
theorem dX3_of_61 : decode cX3_of 61 = .ok (.dreturn, 1) := by decide +kernel
theorem dX3_of_62 : decode cX3_of 62 = .ok (.aload_n 0, 1) := by decide +kernel
theorem dX3_of_63 : decode cX3_of 63 = .ok (.getfield 10, 3) := by decide +kernel
theorem dX3_of_66 : decode cX3_of 66 = .ok (.aload_n 3, 1) := by decide +kernel
theorem dX3_of_67 : decode cX3_of 67 = .ok (.getfield 104, 3) := by decide +kernel
theorem dX3_of_70 : decode cX3_of 70 = .ok (.invokevirtual 117, 3) := by decide +kernel
theorem dX3_of_73 : decode cX3_of 73 = .ok (.dreturn, 1) := by decide +kernel
theorem dX3_of_74 : decode cX3_of 74 = .ok (.aload_n 3, 1) := by decide +kernel
theorem dX3_of_75 : decode cX3_of 75 = .ok (.invokevirtual 121, 3) := by decide +kernel
theorem dX3_of_78 : decode cX3_of 78 = .ok (.dreturn, 1) := by decide +kernel
theorem dX3_of_79 : decode cX3_of 79 = .ok (.new 37, 3) := by decide +kernel
theorem dX3_of_82 : decode cX3_of 82 = .ok (.dup, 1) := by decide +kernel
theorem dX3_of_83 : decode cX3_of 83 = .ok (.ldc 125, 2) := by decide +kernel
theorem dX3_of_85 : decode cX3_of 85 = .ok (.invokespecial 41, 3) := by decide +kernel
theorem dX3_of_88 : decode cX3_of 88 = .ok (.athrow, 1) := by decide +kernel
set_option maxRecDepth 20000 in
theorem ggX3_count_X3_numbered : GoodIn wsX3_count wsX3_numbered := goodIn_r _ [9, 10, 11, 25, 26, 27] (by decide +kernel) (by decide +kernel)
set_option maxRecDepth 20000 in
theorem gX3_count_X3_numbered : GoodIn wsX3_count (wsV RX3 64 RX3 yX3_numbered wsX3_numbered) := goodIn_app (goodIn_of _ (by decide +kernel)) ggX3_count_X3_numbered
theorem dX3_count_0 : decode cX3_count 0 = .ok (.aload_n 0, 1) := by decide +kernel
theorem dX3_count_1 : decode cX3_count 1 = .ok (.iload_n 1, 1) := by decide +kernel
theorem dX3_count_2 : decode cX3_count 2 = .ok (.invokevirtual 64, 3) := by decide +kernel
theorem dX3_count_5 : decode cX3_count 5 = .ok (.astore_n 3, 1) := by decide +kernel
theorem dX3_count_6 : decode cX3_count 6 = .ok (.aload_n 3, 1) := by decide +kernel
theorem dX3_count_7 : decode cX3_count 7 = .ok (.ifnonnull 13, 3) := by decide +kernel
theorem dX3_count_10 : decode cX3_count 10 = .ok (.new 30, 3) := by decide +kernel
theorem dX3_count_13 : decode cX3_count 13 = .ok (.dup, 1) := by decide +kernel
theorem dX3_count_14 : decode cX3_count 14 = .ok (.ldc 68, 2) := by decide +kernel
theorem dX3_count_16 : decode cX3_count 16 = .ok (.invokespecial 34, 3) := by decide +kernel
theorem dX3_count_19 : decode cX3_count 19 = .ok (.athrow, 1) := by decide +kernel
theorem dX3_count_20 : decode cX3_count 20 = .ok (.iload_n 2, 1) := by decide +kernel
theorem dX3_count_21 : decode cX3_count 21 = .ok (.tableswitch 51 0 3 #[31, 36, 41, 46], 31) := by decide +kernel
theorem dX3_count_52 : decode cX3_count 52 = .ok (.aload_n 3, 1) := by decide +kernel
theorem dX3_count_53 : decode cX3_count 53 = .ok (.getfield 127, 3) := by decide +kernel
theorem dX3_count_56 : decode cX3_count 56 = .ok (.ireturn, 1) := by decide +kernel
theorem dX3_count_57 : decode cX3_count 57 = .ok (.aload_n 3, 1) := by decide +kernel
theorem dX3_count_58 : decode cX3_count 58 = .ok (.getfield 130, 3) := by decide +kernel
theorem dX3_count_61 : decode cX3_count 61 = .ok (.ireturn, 1) := by decide +kernel
theorem dX3_count_62 : decode cX3_count 62 = .ok (.aload_n 3, 1) := by decide +kernel
theorem dX3_count_63 : decode cX3_count 63 = .ok (.getfield 133, 3) := by decide +kernel
theorem dX3_count_66 : decode cX3_count 66 = .ok (.ireturn, 1) := by decide +kernel
theorem dX3_count_67 : decode cX3_count 67 = .ok (.aload_n 3, 1) := by decide +kernel
theorem dX3_count_68 : decode cX3_count 68 = .ok (.getfield 136, 3) := by decide +kernel
theorem dX3_count_71 : decode cX3_count 71 = .ok (.ireturn, 1) := by decide +kernel
theorem dX3_count_72 : decode cX3_count 72 = .ok (.new 37, 3) := by decide +kernel
theorem dX3_count_75 : decode cX3_count 75 = .ok (.dup, 1) := by decide +kernel
theorem dX3_count_76 : decode cX3_count 76 = .ok (.ldc 125, 2) := by decide +kernel
theorem dX3_count_78 : decode cX3_count 78 = .ok (.invokespecial 41, 3) := by decide +kernel
theorem dX3_count_81 : decode cX3_count 81 = .ok (.athrow, 1) := by decide +kernel
theorem dX3_microphone_0 : decode cX3_microphone 0 = .ok (.aload_n 0, 1) := by decide +kernel
theorem dX3_microphone_1 : decode cX3_microphone 1 = .ok (.getfield 10, 3) := by decide +kernel
theorem dX3_microphone_4 : decode cX3_microphone 4 = .ok (.getfield 139, 3) := by decide +kernel
theorem dX3_microphone_7 : decode cX3_microphone 7 = .ok (.dreturn, 1) := by decide +kernel
set_option maxRecDepth 20000 in
theorem ggX3_batch_X3_isWithin : GoodIn wsX3_batch wsX3_isWithin := goodIn_r _ [7] (by decide +kernel) (by decide +kernel)
set_option maxRecDepth 20000 in
theorem gX3_batch_X3_isWithin : GoodIn wsX3_batch (va_wsS RX3 26 yX3_isWithin wsX3_isWithin) := goodIn_app (goodIn_of _ (by decide +kernel)) ggX3_batch_X3_isWithin
set_option maxRecDepth 20000 in
theorem ggX3_batch_X1_batchWeight : GoodIn wsX3_batch wsX1_batchWeight := goodIn_r _ [11, 12, 13, 14, 15, 16, 17, 18, 9, 19, 20, 21, 22, 23, 24, 25, 26, 27, 28, 29, 6, 30, 34, 35, 36, 37, 38, 39, 40] (by decide +kernel) (by decide +kernel)
set_option maxRecDepth 20000 in
theorem gX3_batch_X1_batchWeight_n142 : GoodIn wsX3_batch (wsX1_batchWeight) := ggX3_batch_X1_batchWeight
theorem dX3_batch_0 : decode cX3_batch 0 = .ok (.iload_n 1, 1) := by decide +kernel
theorem dX3_batch_1 : decode cX3_batch 1 = .ok (.iconst 0, 1) := by decide +kernel
theorem dX3_batch_2 : decode cX3_batch 2 = .ok (.iconst 1, 1) := by decide +kernel
theorem dX3_batch_3 : decode cX3_batch 3 = .ok (.invokestatic 26, 3) := by decide +kernel
theorem dX3_batch_6 : decode cX3_batch 6 = .ok (.ifCond .ne 13, 3) := by decide +kernel
theorem dX3_batch_9 : decode cX3_batch 9 = .ok (.new 30, 3) := by decide +kernel
theorem dX3_batch_12 : decode cX3_batch 12 = .ok (.dup, 1) := by decide +kernel
theorem dX3_batch_13 : decode cX3_batch 13 = .ok (.ldc 108, 2) := by decide +kernel
theorem dX3_batch_15 : decode cX3_batch 15 = .ok (.invokespecial 34, 3) := by decide +kernel
theorem dX3_batch_18 : decode cX3_batch 18 = .ok (.athrow, 1) := by decide +kernel
theorem dX3_batch_19 : decode cX3_batch 19 = .ok (.aload_n 0, 1) := by decide +kernel
theorem dX3_batch_20 : decode cX3_batch 20 = .ok (.getfield 10, 3) := by decide +kernel
theorem dX3_batch_23 : decode cX3_batch 23 = .ok (.iload_n 1, 1) := by decide +kernel
theorem dX3_batch_24 : decode cX3_batch 24 = .ok (.invokevirtual 142, 3) := by decide +kernel
theorem dX3_batch_27 : decode cX3_batch 27 = .ok (.dreturn, 1) := by decide +kernel
set_option maxRecDepth 20000 in
theorem ggX3_square_X3_numbered : GoodIn wsX3_square wsX3_numbered := goodIn_r _ [9, 10, 11, 34, 35, 36] (by decide +kernel) (by decide +kernel)
set_option maxRecDepth 20000 in
theorem gX3_square_X3_numbered : GoodIn wsX3_square (wsV RX3 64 RX3 yX3_numbered wsX3_numbered) := goodIn_app (goodIn_of _ (by decide +kernel)) ggX3_square_X3_numbered
set_option maxRecDepth 20000 in
theorem ggX3_square_X3_isWithin : GoodIn wsX3_square wsX3_isWithin := goodIn_r _ [14] (by decide +kernel) (by decide +kernel)
set_option maxRecDepth 20000 in
theorem gX3_square_X3_isWithin : GoodIn wsX3_square (va_wsS RX3 26 yX3_isWithin wsX3_isWithin) := goodIn_app (goodIn_of _ (by decide +kernel)) ggX3_square_X3_isWithin
set_option maxRecDepth 20000 in
theorem ggX3_square_X2_number : GoodIn wsX3_square wsX2_number := goodIn_r _ [18, 19, 20, 13, 8, 14, 37, 38, 39, 40] (by decide +kernel) (by decide +kernel)
set_option maxRecDepth 20000 in
theorem gX3_square_X2_number_n156 : GoodIn wsX3_square (wsX2_number) := ggX3_square_X2_number
theorem dX3_square_0 : decode cX3_square 0 = .ok (.aload_n 0, 1) := by decide +kernel
theorem dX3_square_1 : decode cX3_square 1 = .ok (.iload_n 1, 1) := by decide +kernel
theorem dX3_square_2 : decode cX3_square 2 = .ok (.invokevirtual 64, 3) := by decide +kernel
theorem dX3_square_5 : decode cX3_square 5 = .ok (.astore 4, 2) := by decide +kernel
theorem dX3_square_7 : decode cX3_square 7 = .ok (.aload 4, 2) := by decide +kernel
theorem dX3_square_9 : decode cX3_square 9 = .ok (.ifnonnull 13, 3) := by decide +kernel
theorem dX3_square_12 : decode cX3_square 12 = .ok (.new 30, 3) := by decide +kernel
theorem dX3_square_15 : decode cX3_square 15 = .ok (.dup, 1) := by decide +kernel
theorem dX3_square_16 : decode cX3_square 16 = .ok (.ldc 68, 2) := by decide +kernel
theorem dX3_square_18 : decode cX3_square 18 = .ok (.invokespecial 34, 3) := by decide +kernel
theorem dX3_square_21 : decode cX3_square 21 = .ok (.athrow, 1) := by decide +kernel
theorem dX3_square_22 : decode cX3_square 22 = .ok (.aload 4, 2) := by decide +kernel
theorem dX3_square_24 : decode cX3_square 24 = .ok (.getfield 104, 3) := by decide +kernel
theorem dX3_square_27 : decode cX3_square 27 = .ok (.arraylength, 1) := by decide +kernel
theorem dX3_square_28 : decode cX3_square 28 = .ok (.istore 5, 2) := by decide +kernel
theorem dX3_square_30 : decode cX3_square 30 = .ok (.iload_n 2, 1) := by decide +kernel
theorem dX3_square_31 : decode cX3_square 31 = .ok (.iconst 0, 1) := by decide +kernel
theorem dX3_square_32 : decode cX3_square 32 = .ok (.iload 5, 2) := by decide +kernel
theorem dX3_square_34 : decode cX3_square 34 = .ok (.iconst 1, 1) := by decide +kernel
theorem dX3_square_35 : decode cX3_square 35 = .ok (.isub, 1) := by decide +kernel
theorem dX3_square_36 : decode cX3_square 36 = .ok (.invokestatic 26, 3) := by decide +kernel
theorem dX3_square_39 : decode cX3_square 39 = .ok (.ifCond .ne 13, 3) := by decide +kernel
theorem dX3_square_42 : decode cX3_square 42 = .ok (.new 30, 3) := by decide +kernel
theorem dX3_square_45 : decode cX3_square 45 = .ok (.dup, 1) := by decide +kernel
theorem dX3_square_46 : decode cX3_square 46 = .ok (.ldc 146, 2) := by decide +kernel
theorem dX3_square_48 : decode cX3_square 48 = .ok (.invokespecial 34, 3) := by decide +kernel
theorem dX3_square_51 : decode cX3_square 51 = .ok (.athrow, 1) := by decide +kernel
theorem dX3_square_52 : decode cX3_square 52 = .ok (.iload_n 3, 1) := by decide +kernel
theorem dX3_square_53 : decode cX3_square 53 = .ok (.iconst 0, 1) := by decide +kernel
theorem dX3_square_54 : decode cX3_square 54 = .ok (.iload 5, 2) := by decide +kernel
theorem dX3_square_56 : decode cX3_square 56 = .ok (.iconst 1, 1) := by decide +kernel
theorem dX3_square_57 : decode cX3_square 57 = .ok (.isub, 1) := by decide +kernel
theorem dX3_square_58 : decode cX3_square 58 = .ok (.invokestatic 26, 3) := by decide +kernel
theorem dX3_square_61 : decode cX3_square 61 = .ok (.ifCond .ne 13, 3) := by decide +kernel
theorem dX3_square_64 : decode cX3_square 64 = .ok (.new 30, 3) := by decide +kernel
theorem dX3_square_67 : decode cX3_square 67 = .ok (.dup, 1) := by decide +kernel
theorem dX3_square_68 : decode cX3_square 68 = .ok (.ldc 148, 2) := by decide +kernel
theorem dX3_square_70 : decode cX3_square 70 = .ok (.invokespecial 34, 3) := by decide +kernel
theorem dX3_square_73 : decode cX3_square 73 = .ok (.athrow, 1) := by decide +kernel
theorem dX3_square_74 : decode cX3_square 74 = .ok (.aload 4, 2) := by decide +kernel
theorem dX3_square_76 : decode cX3_square 76 = .ok (.getfield 150, 3) := by decide +kernel
theorem dX3_square_79 : decode cX3_square 79 = .ok (.ifnonnull 13, 3) := by decide +kernel
theorem dX3_square_82 : decode cX3_square 82 = .ok (.new 56, 3) := by decide +kernel
theorem dX3_square_85 : decode cX3_square 85 = .ok (.dup, 1) := by decide +kernel
theorem dX3_square_86 : decode cX3_square 86 = .ok (.ldc 154, 2) := by decide +kernel
theorem dX3_square_88 : decode cX3_square 88 = .ok (.invokespecial 60, 3) := by decide +kernel
theorem dX3_square_91 : decode cX3_square 91 = .ok (.athrow, 1) := by decide +kernel
theorem dX3_square_92 : decode cX3_square 92 = .ok (.aload 4, 2) := by decide +kernel
theorem dX3_square_94 : decode cX3_square 94 = .ok (.getfield 150, 3) := by decide +kernel
theorem dX3_square_97 : decode cX3_square 97 = .ok (.iload_n 2, 1) := by decide +kernel
theorem dX3_square_98 : decode cX3_square 98 = .ok (.iload_n 3, 1) := by decide +kernel
theorem dX3_square_99 : decode cX3_square 99 = .ok (.invokevirtual 156, 3) := by decide +kernel
theorem dX3_square_102 : decode cX3_square 102 = .ok (.dreturn, 1) := by decide +kernel
set_option maxRecDepth 20000 in
theorem ggX3_best_X3_numbered : GoodIn wsX3_best wsX3_numbered := goodIn_r _ [7, 1, 8, 15, 16, 17] (by decide +kernel) (by decide +kernel)
set_option maxRecDepth 20000 in
theorem gX3_best_X3_numbered : GoodIn wsX3_best (wsV RX3 64 RX3 yX3_numbered wsX3_numbered) := goodIn_app (goodIn_of _ (by decide +kernel)) ggX3_best_X3_numbered
set_option maxRecDepth 20000 in
theorem ggX3_best_X1_offness : GoodIn wsX3_best wsX1_offness := goodIn_r _ [12, 13, 14, 31, 32, 33, 34, 35, 36, 37] (by decide +kernel) (by decide +kernel)
set_option maxRecDepth 20000 in
theorem gX3_best_X1_offness_n117 : GoodIn wsX3_best (wsX1_offness) := ggX3_best_X1_offness
theorem dX3_best_0 : decode cX3_best 0 = .ok (.iconst (-1), 1) := by decide +kernel
theorem dX3_best_1 : decode cX3_best 1 = .ok (.istore_n 1, 1) := by decide +kernel
theorem dX3_best_2 : decode cX3_best 2 = .ok (.dconst 0, 1) := by decide +kernel
theorem dX3_best_3 : decode cX3_best 3 = .ok (.dstore_n 2, 1) := by decide +kernel
theorem dX3_best_4 : decode cX3_best 4 = .ok (.iconst 0, 1) := by decide +kernel
theorem dX3_best_5 : decode cX3_best 5 = .ok (.istore 4, 2) := by decide +kernel
theorem dX3_best_7 : decode cX3_best 7 = .ok (.iload 4, 2) := by decide +kernel
theorem dX3_best_9 : decode cX3_best 9 = .ok (.aload_n 0, 1) := by decide +kernel
theorem dX3_best_10 : decode cX3_best 10 = .ok (.getfield 22, 3) := by decide +kernel
theorem dX3_best_13 : decode cX3_best 13 = .ok (.if_icmp .ge 54, 3) := by decide +kernel
theorem dX3_best_16 : decode cX3_best 16 = .ok (.aload_n 0, 1) := by decide +kernel
theorem dX3_best_17 : decode cX3_best 17 = .ok (.iload 4, 2) := by decide +kernel
theorem dX3_best_19 : decode cX3_best 19 = .ok (.invokevirtual 64, 3) := by decide +kernel
theorem dX3_best_22 : decode cX3_best 22 = .ok (.astore 5, 2) := by decide +kernel
theorem dX3_best_24 : decode cX3_best 24 = .ok (.aload 5, 2) := by decide +kernel
theorem dX3_best_26 : decode cX3_best 26 = .ok (.ifnull 35, 3) := by decide +kernel
theorem dX3_best_29 : decode cX3_best 29 = .ok (.aload_n 0, 1) := by decide +kernel
theorem dX3_best_30 : decode cX3_best 30 = .ok (.getfield 10, 3) := by decide +kernel
theorem dX3_best_33 : decode cX3_best 33 = .ok (.aload 5, 2) := by decide +kernel
theorem dX3_best_35 : decode cX3_best 35 = .ok (.getfield 104, 3) := by decide +kernel
theorem dX3_best_38 : decode cX3_best 38 = .ok (.invokevirtual 117, 3) := by decide +kernel
theorem dX3_best_41 : decode cX3_best 41 = .ok (.dstore 6, 2) := by decide +kernel
theorem dX3_best_43 : decode cX3_best 43 = .ok (.iload_n 1, 1) := by decide +kernel
theorem dX3_best_44 : decode cX3_best 44 = .ok (.iconst (-1), 1) := by decide +kernel
theorem dX3_best_45 : decode cX3_best 45 = .ok (.if_icmp .eq 10, 3) := by decide +kernel
theorem dX3_best_48 : decode cX3_best 48 = .ok (.dload 6, 2) := by decide +kernel
theorem dX3_best_50 : decode cX3_best 50 = .ok (.dload_n 2, 1) := by decide +kernel
theorem dX3_best_51 : decode cX3_best 51 = .ok (.dcmp .g, 1) := by decide +kernel
theorem dX3_best_52 : decode cX3_best 52 = .ok (.ifCond .ge 9, 3) := by decide +kernel
theorem dX3_best_55 : decode cX3_best 55 = .ok (.iload 4, 2) := by decide +kernel
theorem dX3_best_57 : decode cX3_best 57 = .ok (.istore_n 1, 1) := by decide +kernel
theorem dX3_best_58 : decode cX3_best 58 = .ok (.dload 6, 2) := by decide +kernel
theorem dX3_best_60 : decode cX3_best 60 = .ok (.dstore_n 2, 1) := by decide +kernel
theorem dX3_best_61 : decode cX3_best 61 = .ok (.iinc 4 1, 3) := by decide +kernel
theorem dX3_best_64 : decode cX3_best 64 = .ok (.goto (-57), 3) := by decide +kernel
theorem dX3_best_67 : decode cX3_best 67 = .ok (.iload_n 1, 1) := by decide +kernel
theorem dX3_best_68 : decode cX3_best 68 = .ok (.ireturn, 1) := by decide +kernel
theorem dX3_isWithin_0 : decode cX3_isWithin 0 = .ok (.iload_n 0, 1) := by decide +kernel
theorem dX3_isWithin_1 : decode cX3_isWithin 1 = .ok (.iload_n 1, 1) := by decide +kernel
theorem dX3_isWithin_2 : decode cX3_isWithin 2 = .ok (.if_icmp .lt 12, 3) := by decide +kernel
theorem dX3_isWithin_5 : decode cX3_isWithin 5 = .ok (.iload_n 0, 1) := by decide +kernel
theorem dX3_isWithin_6 : decode cX3_isWithin 6 = .ok (.iload_n 2, 1) := by decide +kernel
theorem dX3_isWithin_7 : decode cX3_isWithin 7 = .ok (.if_icmp .gt 7, 3) := by decide +kernel
theorem dX3_isWithin_10 : decode cX3_isWithin 10 = .ok (.iconst 1, 1) := by decide +kernel
theorem dX3_isWithin_11 : decode cX3_isWithin 11 = .ok (.goto 4, 3) := by decide +kernel
theorem dX3_isWithin_14 : decode cX3_isWithin 14 = .ok (.iconst 0, 1) := by decide +kernel
theorem dX3_isWithin_15 : decode cX3_isWithin 15 = .ok (.ireturn, 1) := by decide +kernel
set_option maxRecDepth 20000 in
theorem ggX3_isStepOf_X3_isWithin : GoodIn wsX3_isStepOf wsX3_isWithin := goodIn_r _ [4] (by decide +kernel) (by decide +kernel)
set_option maxRecDepth 20000 in
theorem gX3_isStepOf_X3_isWithin : GoodIn wsX3_isStepOf (va_wsS RX3 26 yX3_isWithin wsX3_isWithin) := goodIn_app (goodIn_of _ (by decide +kernel)) ggX3_isStepOf_X3_isWithin
theorem dX3_isStepOf_0 : decode cX3_isStepOf 0 = .ok (.iload_n 0, 1) := by decide +kernel
theorem dX3_isStepOf_1 : decode cX3_isStepOf 1 = .ok (.iconst 3, 1) := by decide +kernel
theorem dX3_isStepOf_2 : decode cX3_isStepOf 2 = .ok (.if_icmp .ne 16, 3) := by decide +kernel
theorem dX3_isStepOf_5 : decode cX3_isStepOf 5 = .ok (.iload_n 1, 1) := by decide +kernel
theorem dX3_isStepOf_6 : decode cX3_isStepOf 6 = .ok (.sipush 500, 3) := by decide +kernel
theorem dX3_isStepOf_9 : decode cX3_isStepOf 9 = .ok (.sipush 1000, 3) := by decide +kernel
theorem dX3_isStepOf_12 : decode cX3_isStepOf 12 = .ok (.invokestatic 26, 3) := by decide +kernel
theorem dX3_isStepOf_15 : decode cX3_isStepOf 15 = .ok (.goto 11, 3) := by decide +kernel
theorem dX3_isStepOf_18 : decode cX3_isStepOf 18 = .ok (.iload_n 1, 1) := by decide +kernel
theorem dX3_isStepOf_19 : decode cX3_isStepOf 19 = .ok (.iconst 1, 1) := by decide +kernel
theorem dX3_isStepOf_20 : decode cX3_isStepOf 20 = .ok (.sipush 2000, 3) := by decide +kernel
theorem dX3_isStepOf_23 : decode cX3_isStepOf 23 = .ok (.invokestatic 26, 3) := by decide +kernel
theorem dX3_isStepOf_26 : decode cX3_isStepOf 26 = .ok (.ireturn, 1) := by decide +kernel
theorem dX3_heldTo_0 : decode cX3_heldTo 0 = .ok (.dload_n 0, 1) := by decide +kernel
theorem dX3_heldTo_1 : decode cX3_heldTo 1 = .ok (.dload_n 2, 1) := by decide +kernel
theorem dX3_heldTo_2 : decode cX3_heldTo 2 = .ok (.dcmp .l, 1) := by decide +kernel
theorem dX3_heldTo_3 : decode cX3_heldTo 3 = .ok (.ifCond .le 7, 3) := by decide +kernel
theorem dX3_heldTo_6 : decode cX3_heldTo 6 = .ok (.dload_n 2, 1) := by decide +kernel
theorem dX3_heldTo_7 : decode cX3_heldTo 7 = .ok (.goto 16, 3) := by decide +kernel
theorem dX3_heldTo_10 : decode cX3_heldTo 10 = .ok (.dload_n 0, 1) := by decide +kernel
theorem dX3_heldTo_11 : decode cX3_heldTo 11 = .ok (.dload_n 2, 1) := by decide +kernel
theorem dX3_heldTo_12 : decode cX3_heldTo 12 = .ok (.dneg, 1) := by decide +kernel
theorem dX3_heldTo_13 : decode cX3_heldTo 13 = .ok (.dcmp .g, 1) := by decide +kernel
theorem dX3_heldTo_14 : decode cX3_heldTo 14 = .ok (.ifCond .ge 8, 3) := by decide +kernel
theorem dX3_heldTo_17 : decode cX3_heldTo 17 = .ok (.dload_n 2, 1) := by decide +kernel
theorem dX3_heldTo_18 : decode cX3_heldTo 18 = .ok (.dneg, 1) := by decide +kernel
theorem dX3_heldTo_19 : decode cX3_heldTo 19 = .ok (.goto 4, 3) := by decide +kernel
theorem dX3_heldTo_22 : decode cX3_heldTo 22 = .ok (.dload_n 0, 1) := by decide +kernel
theorem dX3_heldTo_23 : decode cX3_heldTo 23 = .ok (.dreturn, 1) := by decide +kernel
theorem dX3_eitherWay_0 : decode cX3_eitherWay 0 = .ok (.dload_n 0, 1) := by decide +kernel
theorem dX3_eitherWay_1 : decode cX3_eitherWay 1 = .ok (.dconst 0, 1) := by decide +kernel
theorem dX3_eitherWay_2 : decode cX3_eitherWay 2 = .ok (.dcmp .g, 1) := by decide +kernel
theorem dX3_eitherWay_3 : decode cX3_eitherWay 3 = .ok (.ifCond .ge 8, 3) := by decide +kernel
theorem dX3_eitherWay_6 : decode cX3_eitherWay 6 = .ok (.dload_n 0, 1) := by decide +kernel
theorem dX3_eitherWay_7 : decode cX3_eitherWay 7 = .ok (.dneg, 1) := by decide +kernel
theorem dX3_eitherWay_8 : decode cX3_eitherWay 8 = .ok (.goto 4, 3) := by decide +kernel
theorem dX3_eitherWay_11 : decode cX3_eitherWay 11 = .ok (.dload_n 0, 1) := by decide +kernel
theorem dX3_eitherWay_12 : decode cX3_eitherWay 12 = .ok (.dreturn, 1) := by decide +kernel
theorem dX3_numbered_0 : decode cX3_numbered 0 = .ok (.iload_n 1, 1) := by decide +kernel
theorem dX3_numbered_1 : decode cX3_numbered 1 = .ok (.ifCond .lt 20, 3) := by decide +kernel
theorem dX3_numbered_4 : decode cX3_numbered 4 = .ok (.iload_n 1, 1) := by decide +kernel
theorem dX3_numbered_5 : decode cX3_numbered 5 = .ok (.aload_n 0, 1) := by decide +kernel
theorem dX3_numbered_6 : decode cX3_numbered 6 = .ok (.getfield 22, 3) := by decide +kernel
theorem dX3_numbered_9 : decode cX3_numbered 9 = .ok (.if_icmp .ge 12, 3) := by decide +kernel
theorem dX3_numbered_12 : decode cX3_numbered 12 = .ok (.iload_n 1, 1) := by decide +kernel
theorem dX3_numbered_13 : decode cX3_numbered 13 = .ok (.aload_n 0, 1) := by decide +kernel
theorem dX3_numbered_14 : decode cX3_numbered 14 = .ok (.getfield 18, 3) := by decide +kernel
theorem dX3_numbered_17 : decode cX3_numbered 17 = .ok (.arraylength, 1) := by decide +kernel
theorem dX3_numbered_18 : decode cX3_numbered 18 = .ok (.if_icmp .lt 7, 3) := by decide +kernel
theorem dX3_numbered_21 : decode cX3_numbered 21 = .ok (.aconst_null, 1) := by decide +kernel
theorem dX3_numbered_22 : decode cX3_numbered 22 = .ok (.goto 9, 3) := by decide +kernel
theorem dX3_numbered_25 : decode cX3_numbered 25 = .ok (.aload_n 0, 1) := by decide +kernel
theorem dX3_numbered_26 : decode cX3_numbered 26 = .ok (.getfield 18, 3) := by decide +kernel
theorem dX3_numbered_29 : decode cX3_numbered 29 = .ok (.iload_n 1, 1) := by decide +kernel
theorem dX3_numbered_30 : decode cX3_numbered 30 = .ok (.aaload, 1) := by decide +kernel
theorem dX3_numbered_31 : decode cX3_numbered 31 = .ok (.areturn, 1) := by decide +kernel
set_option maxRecDepth 20000 in
theorem ggX3_takeSample_X1_take : GoodIn wsX3_takeSample wsX1_take := goodIn_r _ [6, 7, 8, 9, 10, 11, 12, 13, 14, 15, 4, 16, 17, 18, 19, 20, 21, 22, 115, 116, 117, 118, 119, 120, 121] (by decide +kernel) (by decide +kernel)
set_option maxRecDepth 20000 in
theorem gX3_takeSample_X1_take_n162 : GoodIn wsX3_takeSample (wsX1_take) := ggX3_takeSample_X1_take
set_option maxRecDepth 20000 in
theorem ggX3_takeSample_X3_numbered : GoodIn wsX3_takeSample wsX3_numbered := goodIn_r _ [27, 2, 28, 112, 113, 114] (by decide +kernel) (by decide +kernel)
set_option maxRecDepth 20000 in
theorem gX3_takeSample_X3_numbered : GoodIn wsX3_takeSample (wsV RX3 64 RX3 yX3_numbered wsX3_numbered) := goodIn_app (goodIn_of _ (by decide +kernel)) ggX3_takeSample_X3_numbered
set_option maxRecDepth 20000 in
theorem ggX3_takeSample_X0_hear : GoodIn wsX3_takeSample wsX0_hear := goodIn_r _ [32, 33, 34, 35, 36, 37, 38, 39, 40, 41, 30, 42, 43, 44, 20, 21, 22, 45, 46, 47, 48, 49, 50, 51, 52, 53, 54, 55, 56, 57, 26, 58, 59, 60, 61, 62, 63, 64, 65, 66, 67, 68, 69, 70, 71, 72, 73, 74, 75, 76, 77, 78, 79, 80, 81, 82, 83, 84, 85, 86, 87, 88, 89, 90, 91, 92, 93, 94, 95, 96, 97, 98, 99, 100, 101, 102, 103, 104, 105, 106, 107, 108, 109, 110, 111, 122, 123, 124, 125, 126, 127, 128, 129, 130, 131, 132, 133, 134, 135, 136, 137, 138] (by decide +kernel) (by decide +kernel)
set_option maxRecDepth 20000 in
theorem gX3_takeSample_X0_hear_n168 : GoodIn wsX3_takeSample (wsX0_hear) := ggX3_takeSample_X0_hear
theorem dX3_takeSample_0 : decode cX3_takeSample 0 = .ok (.aload_n 0, 1) := by decide +kernel
theorem dX3_takeSample_1 : decode cX3_takeSample 1 = .ok (.getfield 10, 3) := by decide +kernel
theorem dX3_takeSample_4 : decode cX3_takeSample 4 = .ok (.iload_n 1, 1) := by decide +kernel
theorem dX3_takeSample_5 : decode cX3_takeSample 5 = .ok (.iload_n 2, 1) := by decide +kernel
theorem dX3_takeSample_6 : decode cX3_takeSample 6 = .ok (.invokevirtual 162, 3) := by decide +kernel
theorem dX3_takeSample_9 : decode cX3_takeSample 9 = .ok (.iconst 0, 1) := by decide +kernel
theorem dX3_takeSample_10 : decode cX3_takeSample 10 = .ok (.istore_n 3, 1) := by decide +kernel
theorem dX3_takeSample_11 : decode cX3_takeSample 11 = .ok (.iload_n 3, 1) := by decide +kernel
theorem dX3_takeSample_12 : decode cX3_takeSample 12 = .ok (.aload_n 0, 1) := by decide +kernel
theorem dX3_takeSample_13 : decode cX3_takeSample 13 = .ok (.getfield 22, 3) := by decide +kernel
theorem dX3_takeSample_16 : decode cX3_takeSample 16 = .ok (.if_icmp .ge 40, 3) := by decide +kernel
theorem dX3_takeSample_19 : decode cX3_takeSample 19 = .ok (.aload_n 0, 1) := by decide +kernel
theorem dX3_takeSample_20 : decode cX3_takeSample 20 = .ok (.iload_n 3, 1) := by decide +kernel
theorem dX3_takeSample_21 : decode cX3_takeSample 21 = .ok (.invokevirtual 64, 3) := by decide +kernel
theorem dX3_takeSample_24 : decode cX3_takeSample 24 = .ok (.astore 4, 2) := by decide +kernel
theorem dX3_takeSample_26 : decode cX3_takeSample 26 = .ok (.aload 4, 2) := by decide +kernel
theorem dX3_takeSample_28 : decode cX3_takeSample 28 = .ok (.ifnull 22, 3) := by decide +kernel
theorem dX3_takeSample_31 : decode cX3_takeSample 31 = .ok (.aload 4, 2) := by decide +kernel
theorem dX3_takeSample_33 : decode cX3_takeSample 33 = .ok (.aload_n 0, 1) := by decide +kernel
theorem dX3_takeSample_34 : decode cX3_takeSample 34 = .ok (.getfield 10, 3) := by decide +kernel
theorem dX3_takeSample_37 : decode cX3_takeSample 37 = .ok (.getfield 165, 3) := by decide +kernel
