theorem inJx145de : ∀ w ∈ wsJx145de0, w ∈ lw_tbl := by decide +kernel
theorem inJ9 : ∀ w ∈ wsJ90, w ∈ lw_tbl := by decide +kernel
theorem inJ0 : ∀ w ∈ wsJ00, w ∈ lw_tbl := by decide +kernel
theorem inJ7 : ∀ w ∈ wsJ70, w ∈ lw_tbl := by decide +kernel
set_option maxRecDepth 20000 in
theorem ggX0_init_X2_init : GoodIn wsX0_init wsX2_init := goodIn_r _ [14, 15, 2, 3, 16, 17, 5, 18, 19, 20, 21, 35, 36, 37, 38] (by decide +kernel) (by decide +kernel)
set_option maxRecDepth 20000 in
theorem gX0_init_X2_init_n24 : GoodIn wsX0_init (wsX2_init) := ggX0_init_X2_init
theorem dX0_init_0 : decode cX0_init 0 = .ok (.aload_n 0, 1) := by decide +kernel
theorem dX0_init_1 : decode cX0_init 1 = .ok (.invokespecial 3, 3) := by decide +kernel
theorem dX0_init_4 : decode cX0_init 4 = .ok (.aload_n 0, 1) := by decide +kernel
theorem dX0_init_5 : decode cX0_init 5 = .ok (.iload_n 1, 1) := by decide +kernel
theorem dX0_init_6 : decode cX0_init 6 = .ok (.putfield 9, 3) := by decide +kernel
theorem dX0_init_9 : decode cX0_init 9 = .ok (.aload_n 0, 1) := by decide +kernel
theorem dX0_init_10 : decode cX0_init 10 = .ok (.iload_n 2, 1) := by decide +kernel
theorem dX0_init_11 : decode cX0_init 11 = .ok (.newarray .double, 2) := by decide +kernel
theorem dX0_init_13 : decode cX0_init 13 = .ok (.putfield 15, 3) := by decide +kernel
theorem dX0_init_16 : decode cX0_init 16 = .ok (.aload_n 0, 1) := by decide +kernel
theorem dX0_init_17 : decode cX0_init 17 = .ok (.bipush 16, 2) := by decide +kernel
theorem dX0_init_19 : decode cX0_init 19 = .ok (.newarray .double, 2) := by decide +kernel
theorem dX0_init_21 : decode cX0_init 21 = .ok (.putfield 19, 3) := by decide +kernel
theorem dX0_init_24 : decode cX0_init 24 = .ok (.aload_n 0, 1) := by decide +kernel
theorem dX0_init_25 : decode cX0_init 25 = .ok (.iload_n 1, 1) := by decide +kernel
theorem dX0_init_26 : decode cX0_init 26 = .ok (.iconst 3, 1) := by decide +kernel
theorem dX0_init_27 : decode cX0_init 27 = .ok (.if_icmp .ne 14, 3) := by decide +kernel
theorem dX0_init_30 : decode cX0_init 30 = .ok (.new 22, 3) := by decide +kernel
theorem dX0_init_33 : decode cX0_init 33 = .ok (.dup, 1) := by decide +kernel
theorem dX0_init_34 : decode cX0_init 34 = .ok (.iload_n 2, 1) := by decide +kernel
theorem dX0_init_35 : decode cX0_init 35 = .ok (.invokespecial 24, 3) := by decide +kernel
theorem dX0_init_38 : decode cX0_init 38 = .ok (.goto 4, 3) := by decide +kernel
theorem dX0_init_41 : decode cX0_init 41 = .ok (.aconst_null, 1) := by decide +kernel
theorem dX0_init_42 : decode cX0_init 42 = .ok (.putfield 27, 3) := by decide +kernel
theorem dX0_init_45 : decode cX0_init 45 = .ok (.aload_n 0, 1) := by decide +kernel
theorem dX0_init_46 : decode cX0_init 46 = .ok (.iload_n 3, 1) := by decide +kernel
theorem dX0_init_47 : decode cX0_init 47 = .ok (.putfield 31, 3) := by decide +kernel
theorem dX0_init_50 : decode cX0_init 50 = .ok (.return_, 1) := by decide +kernel
set_option maxRecDepth 20000 in
theorem ggX0_restart_J7_fill_7f8df : GoodIn wsX0_restart wsJ7_fill_7f8df := goodIn_r _ [12] (by decide +kernel) (by decide +kernel)
set_option maxRecDepth 20000 in
theorem gX0_restart_J7_fill_7f8df : GoodIn wsX0_restart (va_wsS RX0 34 yJ7_fill_7f8df wsJ7_fill_7f8df) := goodIn_app (goodIn_of _ (by decide +kernel)) ggX0_restart_J7_fill_7f8df
set_option maxRecDepth 20000 in
theorem ggX0_restart_X2_restart : GoodIn wsX0_restart wsX2_restart := goodIn_r _ [16, 17, 18, 19, 33, 34, 35, 36] (by decide +kernel) (by decide +kernel)
set_option maxRecDepth 20000 in
theorem gX0_restart_X2_restart_n40 : GoodIn wsX0_restart (wsX2_restart) := ggX0_restart_X2_restart
theorem dX0_restart_0 : decode cX0_restart 0 = .ok (.aload_n 0, 1) := by decide +kernel
theorem dX0_restart_1 : decode cX0_restart 1 = .ok (.getfield 15, 3) := by decide +kernel
theorem dX0_restart_4 : decode cX0_restart 4 = .ok (.dconst 0, 1) := by decide +kernel
theorem dX0_restart_5 : decode cX0_restart 5 = .ok (.invokestatic 34, 3) := by decide +kernel
theorem dX0_restart_8 : decode cX0_restart 8 = .ok (.aload_n 0, 1) := by decide +kernel
theorem dX0_restart_9 : decode cX0_restart 9 = .ok (.getfield 27, 3) := by decide +kernel
theorem dX0_restart_12 : decode cX0_restart 12 = .ok (.ifnull 10, 3) := by decide +kernel
theorem dX0_restart_15 : decode cX0_restart 15 = .ok (.aload_n 0, 1) := by decide +kernel
theorem dX0_restart_16 : decode cX0_restart 16 = .ok (.getfield 27, 3) := by decide +kernel
theorem dX0_restart_19 : decode cX0_restart 19 = .ok (.invokevirtual 40, 3) := by decide +kernel
theorem dX0_restart_22 : decode cX0_restart 22 = .ok (.aload_n 0, 1) := by decide +kernel
theorem dX0_restart_23 : decode cX0_restart 23 = .ok (.iconst 0, 1) := by decide +kernel
theorem dX0_restart_24 : decode cX0_restart 24 = .ok (.putfield 43, 3) := by decide +kernel
theorem dX0_restart_27 : decode cX0_restart 27 = .ok (.aload_n 0, 1) := by decide +kernel
theorem dX0_restart_28 : decode cX0_restart 28 = .ok (.dconst 0, 1) := by decide +kernel
theorem dX0_restart_29 : decode cX0_restart 29 = .ok (.putfield 46, 3) := by decide +kernel
theorem dX0_restart_32 : decode cX0_restart 32 = .ok (.aload_n 0, 1) := by decide +kernel
theorem dX0_restart_33 : decode cX0_restart 33 = .ok (.dconst 0, 1) := by decide +kernel
theorem dX0_restart_34 : decode cX0_restart 34 = .ok (.putfield 50, 3) := by decide +kernel
theorem dX0_restart_37 : decode cX0_restart 37 = .ok (.aload_n 0, 1) := by decide +kernel
theorem dX0_restart_38 : decode cX0_restart 38 = .ok (.iconst 0, 1) := by decide +kernel
theorem dX0_restart_39 : decode cX0_restart 39 = .ok (.putfield 53, 3) := by decide +kernel
theorem dX0_restart_42 : decode cX0_restart 42 = .ok (.aload_n 0, 1) := by decide +kernel
theorem dX0_restart_43 : decode cX0_restart 43 = .ok (.iconst 0, 1) := by decide +kernel
theorem dX0_restart_44 : decode cX0_restart 44 = .ok (.putfield 56, 3) := by decide +kernel
theorem dX0_restart_47 : decode cX0_restart 47 = .ok (.aload_n 0, 1) := by decide +kernel
theorem dX0_restart_48 : decode cX0_restart 48 = .ok (.iconst 0, 1) := by decide +kernel
theorem dX0_restart_49 : decode cX0_restart 49 = .ok (.putfield 59, 3) := by decide +kernel
theorem dX0_restart_52 : decode cX0_restart 52 = .ok (.return_, 1) := by decide +kernel
set_option maxRecDepth 20000 in
theorem ggX0_hear_X0_outputAt : GoodIn wsX0_hear wsX0_outputAt := goodIn_r _ [11, 12, 85, 86, 87, 88, 89, 90, 91, 92, 93, 94, 95, 96, 97] (by decide +kernel) (by decide +kernel)
set_option maxRecDepth 20000 in
theorem gX0_hear_X0_outputAt : GoodIn wsX0_hear (wsV RX0 62 RX0 yX0_outputAt wsX0_outputAt) := goodIn_app (goodIn_of _ (by decide +kernel)) ggX0_hear_X0_outputAt
set_option maxRecDepth 20000 in
theorem ggX0_hear_J9_floorMod_7cf53 : GoodIn wsX0_hear wsJ9_floorMod_7cf53 := goodIn_r _ [16] (by decide +kernel) (by decide +kernel)
set_option maxRecDepth 20000 in
theorem gX0_hear_J9_floorMod_7cf53 : GoodIn wsX0_hear (va_wsS RX0 66 yJ9_floorMod_7cf53 wsJ9_floorMod_7cf53) := goodIn_app (goodIn_of _ (by decide +kernel)) ggX0_hear_J9_floorMod_7cf53
set_option maxRecDepth 20000 in
theorem ggX0_hear_X0_holdsAt : GoodIn wsX0_hear wsX0_holdsAt := goodIn_r _ [20, 21, 22, 23, 24, 25, 10, 26, 27, 12, 28, 29, 30, 31, 85, 86, 87, 88, 89, 90, 91, 92, 93, 94, 95, 96, 97] (by decide +kernel) (by decide +kernel)
set_option maxRecDepth 20000 in
theorem gX0_hear_X0_holdsAt : GoodIn wsX0_hear (wsV RX0 72 RX0 yX0_holdsAt wsX0_holdsAt) := goodIn_app (goodIn_of _ (by decide +kernel)) ggX0_hear_X0_holdsAt
set_option maxRecDepth 20000 in
theorem ggX0_hear_X0_learnBySquare : GoodIn wsX0_hear wsX0_learnBySquare := goodIn_r _ [35, 36, 37, 12, 2, 38, 39, 40, 41, 42, 43, 44, 45, 46, 47, 48, 49, 50, 51, 52, 53, 54, 55, 30, 56, 57, 58, 59, 10, 60, 61, 62, 63, 64, 65, 66, 67, 68, 69, 70, 71, 85, 86, 87, 88, 89, 90, 91, 92, 93, 94, 95, 96, 97, 98, 99, 100, 101] (by decide +kernel) (by decide +kernel)
set_option maxRecDepth 20000 in
theorem gX0_hear_X0_learnBySquare : GoodIn wsX0_hear (wsV RX0 76 RX0 yX0_learnBySquare wsX0_learnBySquare) := goodIn_app (goodIn_of _ (by decide +kernel)) ggX0_hear_X0_learnBySquare
set_option maxRecDepth 20000 in
theorem ggX0_hear_X0_learn : GoodIn wsX0_hear wsX0_learn := goodIn_r _ [75, 76, 12, 77, 78, 79, 10, 80, 81, 82, 83, 84, 36, 37, 2, 57, 58, 59, 60, 61, 62, 30, 63, 85, 86, 87, 88, 89, 90, 91, 92, 93, 94, 95, 96, 97] (by decide +kernel) (by decide +kernel)
set_option maxRecDepth 20000 in
theorem gX0_hear_X0_learn : GoodIn wsX0_hear (wsV RX0 80 RX0 yX0_learn wsX0_learn) := goodIn_app (goodIn_of _ (by decide +kernel)) ggX0_hear_X0_learn
theorem dX0_hear_0 : decode cX0_hear 0 = .ok (.aload_n 0, 1) := by decide +kernel
theorem dX0_hear_1 : decode cX0_hear 1 = .ok (.aload_n 0, 1) := by decide +kernel
theorem dX0_hear_2 : decode cX0_hear 2 = .ok (.aload_n 1, 1) := by decide +kernel
theorem dX0_hear_3 : decode cX0_hear 3 = .ok (.invokevirtual 62, 3) := by decide +kernel
theorem dX0_hear_6 : decode cX0_hear 6 = .ok (.putfield 46, 3) := by decide +kernel
theorem dX0_hear_9 : decode cX0_hear 9 = .ok (.aload_n 0, 1) := by decide +kernel
theorem dX0_hear_10 : decode cX0_hear 10 = .ok (.dload_n 2, 1) := by decide +kernel
theorem dX0_hear_11 : decode cX0_hear 11 = .ok (.aload_n 0, 1) := by decide +kernel
theorem dX0_hear_12 : decode cX0_hear 12 = .ok (.getfield 46, 3) := by decide +kernel
theorem dX0_hear_15 : decode cX0_hear 15 = .ok (.dsub, 1) := by decide +kernel
theorem dX0_hear_16 : decode cX0_hear 16 = .ok (.putfield 50, 3) := by decide +kernel
theorem dX0_hear_19 : decode cX0_hear 19 = .ok (.aload_n 0, 1) := by decide +kernel
theorem dX0_hear_20 : decode cX0_hear 20 = .ok (.getfield 19, 3) := by decide +kernel
theorem dX0_hear_23 : decode cX0_hear 23 = .ok (.aload_n 0, 1) := by decide +kernel
theorem dX0_hear_24 : decode cX0_hear 24 = .ok (.getfield 53, 3) := by decide +kernel
theorem dX0_hear_27 : decode cX0_hear 27 = .ok (.bipush 16, 2) := by decide +kernel
theorem dX0_hear_29 : decode cX0_hear 29 = .ok (.invokestatic 66, 3) := by decide +kernel
theorem dX0_hear_32 : decode cX0_hear 32 = .ok (.aload_n 0, 1) := by decide +kernel
theorem dX0_hear_33 : decode cX0_hear 33 = .ok (.getfield 50, 3) := by decide +kernel
theorem dX0_hear_36 : decode cX0_hear 36 = .ok (.dastore, 1) := by decide +kernel
theorem dX0_hear_37 : decode cX0_hear 37 = .ok (.aload_n 0, 1) := by decide +kernel
theorem dX0_hear_38 : decode cX0_hear 38 = .ok (.dup, 1) := by decide +kernel
theorem dX0_hear_39 : decode cX0_hear 39 = .ok (.getfield 53, 3) := by decide +kernel
theorem dX0_hear_42 : decode cX0_hear 42 = .ok (.iconst 1, 1) := by decide +kernel
theorem dX0_hear_43 : decode cX0_hear 43 = .ok (.iadd, 1) := by decide +kernel
theorem dX0_hear_44 : decode cX0_hear 44 = .ok (.putfield 53, 3) := by decide +kernel
theorem dX0_hear_47 : decode cX0_hear 47 = .ok (.aload_n 0, 1) := by decide +kernel
theorem dX0_hear_48 : decode cX0_hear 48 = .ok (.aload_n 1, 1) := by decide +kernel
theorem dX0_hear_49 : decode cX0_hear 49 = .ok (.dload_n 2, 1) := by decide +kernel
theorem dX0_hear_50 : decode cX0_hear 50 = .ok (.invokevirtual 72, 3) := by decide +kernel
theorem dX0_hear_53 : decode cX0_hear 53 = .ok (.ifCond .eq 16, 3) := by decide +kernel
theorem dX0_hear_56 : decode cX0_hear 56 = .ok (.aload_n 0, 1) := by decide +kernel
theorem dX0_hear_57 : decode cX0_hear 57 = .ok (.dup, 1) := by decide +kernel
theorem dX0_hear_58 : decode cX0_hear 58 = .ok (.getfield 56, 3) := by decide +kernel
theorem dX0_hear_61 : decode cX0_hear 61 = .ok (.iconst 1, 1) := by decide +kernel
theorem dX0_hear_62 : decode cX0_hear 62 = .ok (.iadd, 1) := by decide +kernel
theorem dX0_hear_63 : decode cX0_hear 63 = .ok (.putfield 56, 3) := by decide +kernel
theorem dX0_hear_66 : decode cX0_hear 66 = .ok (.goto 27, 3) := by decide +kernel
theorem dX0_hear_69 : decode cX0_hear 69 = .ok (.aload_n 0, 1) := by decide +kernel
theorem dX0_hear_70 : decode cX0_hear 70 = .ok (.getfield 27, 3) := by decide +kernel
theorem dX0_hear_73 : decode cX0_hear 73 = .ok (.ifnull 15, 3) := by decide +kernel
theorem dX0_hear_76 : decode cX0_hear 76 = .ok (.aload_n 0, 1) := by decide +kernel
theorem dX0_hear_77 : decode cX0_hear 77 = .ok (.aload_n 0, 1) := by decide +kernel
theorem dX0_hear_78 : decode cX0_hear 78 = .ok (.getfield 27, 3) := by decide +kernel
theorem dX0_hear_81 : decode cX0_hear 81 = .ok (.aload_n 1, 1) := by decide +kernel
theorem dX0_hear_82 : decode cX0_hear 82 = .ok (.invokevirtual 76, 3) := by decide +kernel
theorem dX0_hear_85 : decode cX0_hear 85 = .ok (.goto 8, 3) := by decide +kernel
theorem dX0_hear_88 : decode cX0_hear 88 = .ok (.aload_n 0, 1) := by decide +kernel
theorem dX0_hear_89 : decode cX0_hear 89 = .ok (.aload_n 1, 1) := by decide +kernel
theorem dX0_hear_90 : decode cX0_hear 90 = .ok (.invokevirtual 80, 3) := by decide +kernel
theorem dX0_hear_93 : decode cX0_hear 93 = .ok (.return_, 1) := by decide +kernel
theorem dX0_outputAt_0 : decode cX0_outputAt 0 = .ok (.dconst 0, 1) := by decide +kernel
theorem dX0_outputAt_1 : decode cX0_outputAt 1 = .ok (.dstore_n 2, 1) := by decide +kernel
theorem dX0_outputAt_2 : decode cX0_outputAt 2 = .ok (.iconst 0, 1) := by decide +kernel
theorem dX0_outputAt_3 : decode cX0_outputAt 3 = .ok (.istore 4, 2) := by decide +kernel
theorem dX0_outputAt_5 : decode cX0_outputAt 5 = .ok (.iload 4, 2) := by decide +kernel
theorem dX0_outputAt_7 : decode cX0_outputAt 7 = .ok (.aload_n 0, 1) := by decide +kernel
theorem dX0_outputAt_8 : decode cX0_outputAt 8 = .ok (.getfield 15, 3) := by decide +kernel
theorem dX0_outputAt_11 : decode cX0_outputAt 11 = .ok (.arraylength, 1) := by decide +kernel
theorem dX0_outputAt_12 : decode cX0_outputAt 12 = .ok (.if_icmp .ge 31, 3) := by decide +kernel
theorem dX0_outputAt_15 : decode cX0_outputAt 15 = .ok (.iload 4, 2) := by decide +kernel
theorem dX0_outputAt_17 : decode cX0_outputAt 17 = .ok (.aload_n 1, 1) := by decide +kernel
theorem dX0_outputAt_18 : decode cX0_outputAt 18 = .ok (.arraylength, 1) := by decide +kernel
theorem dX0_outputAt_19 : decode cX0_outputAt 19 = .ok (.if_icmp .ge 24, 3) := by decide +kernel
theorem dX0_outputAt_22 : decode cX0_outputAt 22 = .ok (.dload_n 2, 1) := by decide +kernel
theorem dX0_outputAt_23 : decode cX0_outputAt 23 = .ok (.aload_n 0, 1) := by decide +kernel
theorem dX0_outputAt_24 : decode cX0_outputAt 24 = .ok (.getfield 15, 3) := by decide +kernel
theorem dX0_outputAt_27 : decode cX0_outputAt 27 = .ok (.iload 4, 2) := by decide +kernel
theorem dX0_outputAt_29 : decode cX0_outputAt 29 = .ok (.daload, 1) := by decide +kernel
theorem dX0_outputAt_30 : decode cX0_outputAt 30 = .ok (.aload_n 1, 1) := by decide +kernel
theorem dX0_outputAt_31 : decode cX0_outputAt 31 = .ok (.iload 4, 2) := by decide +kernel
theorem dX0_outputAt_33 : decode cX0_outputAt 33 = .ok (.daload, 1) := by decide +kernel
theorem dX0_outputAt_34 : decode cX0_outputAt 34 = .ok (.dmul, 1) := by decide +kernel
theorem dX0_outputAt_35 : decode cX0_outputAt 35 = .ok (.dadd, 1) := by decide +kernel
theorem dX0_outputAt_36 : decode cX0_outputAt 36 = .ok (.dstore_n 2, 1) := by decide +kernel
theorem dX0_outputAt_37 : decode cX0_outputAt 37 = .ok (.iinc 4 1, 3) := by decide +kernel
theorem dX0_outputAt_40 : decode cX0_outputAt 40 = .ok (.goto (-35), 3) := by decide +kernel
theorem dX0_outputAt_43 : decode cX0_outputAt 43 = .ok (.dload_n 2, 1) := by decide +kernel
theorem dX0_outputAt_44 : decode cX0_outputAt 44 = .ok (.dreturn, 1) := by decide +kernel
set_option maxRecDepth 20000 in
theorem ggX0_holdsAt_X0_isLoud : GoodIn wsX0_holdsAt wsX0_isLoud := goodIn_r _ [7, 8, 9, 10, 11, 12, 13, 14, 15, 16, 17, 18, 19, 20, 21, 22, 23, 24, 25, 26] (by decide +kernel) (by decide +kernel)
set_option maxRecDepth 20000 in
theorem gX0_holdsAt_X0_isLoud : GoodIn wsX0_holdsAt (wsV RX0 84 RX0 yX0_isLoud wsX0_isLoud) := goodIn_app (goodIn_of _ (by decide +kernel)) ggX0_holdsAt_X0_isLoud
theorem dX0_holdsAt_0 : decode cX0_holdsAt 0 = .ok (.aload_n 0, 1) := by decide +kernel
theorem dX0_holdsAt_1 : decode cX0_holdsAt 1 = .ok (.aload_n 1, 1) := by decide +kernel
theorem dX0_holdsAt_2 : decode cX0_holdsAt 2 = .ok (.dload_n 2, 1) := by decide +kernel
theorem dX0_holdsAt_3 : decode cX0_holdsAt 3 = .ok (.invokevirtual 84, 3) := by decide +kernel
theorem dX0_holdsAt_6 : decode cX0_holdsAt 6 = .ok (.ifCond .eq 13, 3) := by decide +kernel
theorem dX0_holdsAt_9 : decode cX0_holdsAt 9 = .ok (.aload_n 0, 1) := by decide +kernel
theorem dX0_holdsAt_10 : decode cX0_holdsAt 10 = .ok (.aload_n 0, 1) := by decide +kernel
theorem dX0_holdsAt_11 : decode cX0_holdsAt 11 = .ok (.getfield 87, 3) := by decide +kernel
theorem dX0_holdsAt_14 : decode cX0_holdsAt 14 = .ok (.putfield 43, 3) := by decide +kernel
theorem dX0_holdsAt_17 : decode cX0_holdsAt 17 = .ok (.iconst 1, 1) := by decide +kernel
theorem dX0_holdsAt_18 : decode cX0_holdsAt 18 = .ok (.ireturn, 1) := by decide +kernel
theorem dX0_holdsAt_19 : decode cX0_holdsAt 19 = .ok (.aload_n 0, 1) := by decide +kernel
theorem dX0_holdsAt_20 : decode cX0_holdsAt 20 = .ok (.getfield 43, 3) := by decide +kernel
theorem dX0_holdsAt_23 : decode cX0_holdsAt 23 = .ok (.ifCond .le 15, 3) := by decide +kernel
theorem dX0_holdsAt_26 : decode cX0_holdsAt 26 = .ok (.aload_n 0, 1) := by decide +kernel
theorem dX0_holdsAt_27 : decode cX0_holdsAt 27 = .ok (.dup, 1) := by decide +kernel
theorem dX0_holdsAt_28 : decode cX0_holdsAt 28 = .ok (.getfield 43, 3) := by decide +kernel
theorem dX0_holdsAt_31 : decode cX0_holdsAt 31 = .ok (.iconst 1, 1) := by decide +kernel
theorem dX0_holdsAt_32 : decode cX0_holdsAt 32 = .ok (.isub, 1) := by decide +kernel
theorem dX0_holdsAt_33 : decode cX0_holdsAt 33 = .ok (.putfield 43, 3) := by decide +kernel
theorem dX0_holdsAt_36 : decode cX0_holdsAt 36 = .ok (.iconst 1, 1) := by decide +kernel
theorem dX0_holdsAt_37 : decode cX0_holdsAt 37 = .ok (.ireturn, 1) := by decide +kernel
theorem dX0_holdsAt_38 : decode cX0_holdsAt 38 = .ok (.iconst 0, 1) := by decide +kernel
theorem dX0_holdsAt_39 : decode cX0_holdsAt 39 = .ok (.ireturn, 1) := by decide +kernel
set_option maxRecDepth 20000 in
theorem ggX0_isLoud_X3_eitherWay : GoodIn wsX0_isLoud wsX3_eitherWay := goodIn_r _ [6] (by decide +kernel) (by decide +kernel)
set_option maxRecDepth 20000 in
theorem gX0_isLoud_X3_eitherWay_n93 : GoodIn wsX0_isLoud (wsX3_eitherWay) := ggX0_isLoud_X3_eitherWay
theorem dX0_isLoud_0 : decode cX0_isLoud 0 = .ok (.aload_n 0, 1) := by decide +kernel
theorem dX0_isLoud_1 : decode cX0_isLoud 1 = .ok (.getfield 90, 3) := by decide +kernel
theorem dX0_isLoud_4 : decode cX0_isLoud 4 = .ok (.ifCond .gt 5, 3) := by decide +kernel
theorem dX0_isLoud_7 : decode cX0_isLoud 7 = .ok (.iconst 0, 1) := by decide +kernel
theorem dX0_isLoud_8 : decode cX0_isLoud 8 = .ok (.ireturn, 1) := by decide +kernel
theorem dX0_isLoud_9 : decode cX0_isLoud 9 = .ok (.dconst 0, 1) := by decide +kernel
theorem dX0_isLoud_10 : decode cX0_isLoud 10 = .ok (.dstore 4, 2) := by decide +kernel
theorem dX0_isLoud_12 : decode cX0_isLoud 12 = .ok (.iconst 0, 1) := by decide +kernel
theorem dX0_isLoud_13 : decode cX0_isLoud 13 = .ok (.istore 6, 2) := by decide +kernel
theorem dX0_isLoud_15 : decode cX0_isLoud 15 = .ok (.iload 6, 2) := by decide +kernel
theorem dX0_isLoud_17 : decode cX0_isLoud 17 = .ok (.aload_n 0, 1) := by decide +kernel
theorem dX0_isLoud_18 : decode cX0_isLoud 18 = .ok (.getfield 15, 3) := by decide +kernel
theorem dX0_isLoud_21 : decode cX0_isLoud 21 = .ok (.arraylength, 1) := by decide +kernel
theorem dX0_isLoud_22 : decode cX0_isLoud 22 = .ok (.if_icmp .ge 42, 3) := by decide +kernel
theorem dX0_isLoud_25 : decode cX0_isLoud 25 = .ok (.iload 6, 2) := by decide +kernel
theorem dX0_isLoud_27 : decode cX0_isLoud 27 = .ok (.aload_n 1, 1) := by decide +kernel
theorem dX0_isLoud_28 : decode cX0_isLoud 28 = .ok (.arraylength, 1) := by decide +kernel
theorem dX0_isLoud_29 : decode cX0_isLoud 29 = .ok (.if_icmp .ge 35, 3) := by decide +kernel
theorem dX0_isLoud_32 : decode cX0_isLoud 32 = .ok (.aload_n 1, 1) := by decide +kernel
theorem dX0_isLoud_33 : decode cX0_isLoud 33 = .ok (.iload 6, 2) := by decide +kernel
theorem dX0_isLoud_35 : decode cX0_isLoud 35 = .ok (.daload, 1) := by decide +kernel
theorem dX0_isLoud_36 : decode cX0_isLoud 36 = .ok (.invokestatic 93, 3) := by decide +kernel
theorem dX0_isLoud_39 : decode cX0_isLoud 39 = .ok (.dstore 7, 2) := by decide +kernel
theorem dX0_isLoud_41 : decode cX0_isLoud 41 = .ok (.dload 7, 2) := by decide +kernel
theorem dX0_isLoud_43 : decode cX0_isLoud 43 = .ok (.dload 4, 2) := by decide +kernel
theorem dX0_isLoud_45 : decode cX0_isLoud 45 = .ok (.dcmp .l, 1) := by decide +kernel
theorem dX0_isLoud_46 : decode cX0_isLoud 46 = .ok (.ifCond .le 8, 3) := by decide +kernel
theorem dX0_isLoud_49 : decode cX0_isLoud 49 = .ok (.dload 7, 2) := by decide +kernel
theorem dX0_isLoud_51 : decode cX0_isLoud 51 = .ok (.goto 5, 3) := by decide +kernel
theorem dX0_isLoud_54 : decode cX0_isLoud 54 = .ok (.dload 4, 2) := by decide +kernel
theorem dX0_isLoud_56 : decode cX0_isLoud 56 = .ok (.dstore 4, 2) := by decide +kernel
theorem dX0_isLoud_58 : decode cX0_isLoud 58 = .ok (.iinc 6 1, 3) := by decide +kernel
theorem dX0_isLoud_61 : decode cX0_isLoud 61 = .ok (.goto (-46), 3) := by decide +kernel
theorem dX0_isLoud_64 : decode cX0_isLoud 64 = .ok (.dload_n 2, 1) := by decide +kernel
theorem dX0_isLoud_65 : decode cX0_isLoud 65 = .ok (.invokestatic 93, 3) := by decide +kernel
theorem dX0_isLoud_68 : decode cX0_isLoud 68 = .ok (.aload_n 0, 1) := by decide +kernel
theorem dX0_isLoud_69 : decode cX0_isLoud 69 = .ok (.getfield 90, 3) := by decide +kernel
theorem dX0_isLoud_72 : decode cX0_isLoud 72 = .ok (.i2d, 1) := by decide +kernel
theorem dX0_isLoud_73 : decode cX0_isLoud 73 = .ok (.ldc2_w 97, 3) := by decide +kernel
theorem dX0_isLoud_76 : decode cX0_isLoud 76 = .ok (.ddiv, 1) := by decide +kernel
theorem dX0_isLoud_77 : decode cX0_isLoud 77 = .ok (.dload 4, 2) := by decide +kernel
theorem dX0_isLoud_79 : decode cX0_isLoud 79 = .ok (.dmul, 1) := by decide +kernel
theorem dX0_isLoud_80 : decode cX0_isLoud 80 = .ok (.dcmp .l, 1) := by decide +kernel
theorem dX0_isLoud_81 : decode cX0_isLoud 81 = .ok (.ifCond .le 7, 3) := by decide +kernel
theorem dX0_isLoud_84 : decode cX0_isLoud 84 = .ok (.iconst 1, 1) := by decide +kernel
theorem dX0_isLoud_85 : decode cX0_isLoud 85 = .ok (.goto 4, 3) := by decide +kernel
theorem dX0_isLoud_88 : decode cX0_isLoud 88 = .ok (.iconst 0, 1) := by decide +kernel
theorem dX0_isLoud_89 : decode cX0_isLoud 89 = .ok (.ireturn, 1) := by decide +kernel
set_option maxRecDepth 20000 in
theorem ggX0_learn_X0_normOf : GoodIn wsX0_learn wsX0_normOf := goodIn_r _ [7, 2, 23, 24, 25, 26, 27, 28, 29, 30, 31, 32, 33, 34, 35] (by decide +kernel) (by decide +kernel)
set_option maxRecDepth 20000 in
theorem gX0_learn_X0_normOf : GoodIn wsX0_learn (wsV RX0 99 RX0 yX0_normOf wsX0_normOf) := goodIn_app (goodIn_of _ (by decide +kernel)) ggX0_learn_X0_normOf
set_option maxRecDepth 20000 in
theorem ggX0_learn_X0_lesson : GoodIn wsX0_learn wsX0_lesson := goodIn_r _ [11, 12, 13, 1, 14, 23, 24, 25, 26, 27, 28, 29, 30, 31, 32, 33, 34, 35] (by decide +kernel) (by decide +kernel)
set_option maxRecDepth 20000 in
theorem gX0_learn_X0_lesson : GoodIn wsX0_learn (wsV RX0 102 RX0 yX0_lesson wsX0_lesson) := goodIn_app (goodIn_of _ (by decide +kernel)) ggX0_learn_X0_lesson
set_option maxRecDepth 20000 in
theorem ggX0_learn_X0_add : GoodIn wsX0_learn wsX0_add := goodIn_r _ [18, 2, 19, 20, 21, 22, 23, 24, 25, 26, 27, 28, 29, 30, 31, 32, 33, 34, 35] (by decide +kernel) (by decide +kernel)
set_option maxRecDepth 20000 in
theorem gX0_learn_X0_add : GoodIn wsX0_learn (wsV RX0 106 RX0 yX0_add wsX0_add) := goodIn_app (goodIn_of _ (by decide +kernel)) ggX0_learn_X0_add
theorem dX0_learn_0 : decode cX0_learn 0 = .ok (.aload_n 0, 1) := by decide +kernel
theorem dX0_learn_1 : decode cX0_learn 1 = .ok (.getfield 9, 3) := by decide +kernel
theorem dX0_learn_4 : decode cX0_learn 4 = .ok (.iconst 1, 1) := by decide +kernel
theorem dX0_learn_5 : decode cX0_learn 5 = .ok (.if_icmp .ne 11, 3) := by decide +kernel
theorem dX0_learn_8 : decode cX0_learn 8 = .ok (.aload_n 0, 1) := by decide +kernel
theorem dX0_learn_9 : decode cX0_learn 9 = .ok (.aload_n 1, 1) := by decide +kernel
theorem dX0_learn_10 : decode cX0_learn 10 = .ok (.invokevirtual 99, 3) := by decide +kernel
theorem dX0_learn_13 : decode cX0_learn 13 = .ok (.goto 4, 3) := by decide +kernel
theorem dX0_learn_16 : decode cX0_learn 16 = .ok (.dconst 1, 1) := by decide +kernel
theorem dX0_learn_17 : decode cX0_learn 17 = .ok (.dstore_n 2, 1) := by decide +kernel
theorem dX0_learn_18 : decode cX0_learn 18 = .ok (.iconst 0, 1) := by decide +kernel
theorem dX0_learn_19 : decode cX0_learn 19 = .ok (.istore 4, 2) := by decide +kernel
theorem dX0_learn_21 : decode cX0_learn 21 = .ok (.iload 4, 2) := by decide +kernel
theorem dX0_learn_23 : decode cX0_learn 23 = .ok (.aload_n 0, 1) := by decide +kernel
theorem dX0_learn_24 : decode cX0_learn 24 = .ok (.getfield 15, 3) := by decide +kernel
theorem dX0_learn_27 : decode cX0_learn 27 = .ok (.arraylength, 1) := by decide +kernel
theorem dX0_learn_28 : decode cX0_learn 28 = .ok (.if_icmp .ge 31, 3) := by decide +kernel
theorem dX0_learn_31 : decode cX0_learn 31 = .ok (.iload 4, 2) := by decide +kernel
theorem dX0_learn_33 : decode cX0_learn 33 = .ok (.aload_n 1, 1) := by decide +kernel
theorem dX0_learn_34 : decode cX0_learn 34 = .ok (.arraylength, 1) := by decide +kernel
theorem dX0_learn_35 : decode cX0_learn 35 = .ok (.if_icmp .ge 24, 3) := by decide +kernel
theorem dX0_learn_38 : decode cX0_learn 38 = .ok (.aload_n 0, 1) := by decide +kernel
theorem dX0_learn_39 : decode cX0_learn 39 = .ok (.iload 4, 2) := by decide +kernel
theorem dX0_learn_41 : decode cX0_learn 41 = .ok (.aload_n 0, 1) := by decide +kernel
theorem dX0_learn_42 : decode cX0_learn 42 = .ok (.aload_n 1, 1) := by decide +kernel
theorem dX0_learn_43 : decode cX0_learn 43 = .ok (.iload 4, 2) := by decide +kernel
theorem dX0_learn_45 : decode cX0_learn 45 = .ok (.daload, 1) := by decide +kernel
theorem dX0_learn_46 : decode cX0_learn 46 = .ok (.dload_n 2, 1) := by decide +kernel
theorem dX0_learn_47 : decode cX0_learn 47 = .ok (.invokevirtual 102, 3) := by decide +kernel
theorem dX0_learn_50 : decode cX0_learn 50 = .ok (.invokevirtual 106, 3) := by decide +kernel
theorem dX0_learn_53 : decode cX0_learn 53 = .ok (.iinc 4 1, 3) := by decide +kernel
theorem dX0_learn_56 : decode cX0_learn 56 = .ok (.goto (-35), 3) := by decide +kernel
theorem dX0_learn_59 : decode cX0_learn 59 = .ok (.return_, 1) := by decide +kernel
theorem dX0_lesson_0 : decode cX0_lesson 0 = .ok (.aload_n 0, 1) := by decide +kernel
theorem dX0_lesson_1 : decode cX0_lesson 1 = .ok (.getfield 31, 3) := by decide +kernel
theorem dX0_lesson_4 : decode cX0_lesson 4 = .ok (.i2d, 1) := by decide +kernel
theorem dX0_lesson_5 : decode cX0_lesson 5 = .ok (.ldc2_w 110, 3) := by decide +kernel
theorem dX0_lesson_8 : decode cX0_lesson 8 = .ok (.ddiv, 1) := by decide +kernel
theorem dX0_lesson_9 : decode cX0_lesson 9 = .ok (.dstore 5, 2) := by decide +kernel
theorem dX0_lesson_11 : decode cX0_lesson 11 = .ok (.aload_n 0, 1) := by decide +kernel
theorem dX0_lesson_12 : decode cX0_lesson 12 = .ok (.getfield 9, 3) := by decide +kernel
theorem dX0_lesson_15 : decode cX0_lesson 15 = .ok (.lookupswitch 57 #[(0, 25), (1, 35)], 25) := by decide +kernel
theorem dX0_lesson_40 : decode cX0_lesson 40 = .ok (.dload 5, 2) := by decide +kernel
theorem dX0_lesson_42 : decode cX0_lesson 42 = .ok (.aload_n 0, 1) := by decide +kernel
theorem dX0_lesson_43 : decode cX0_lesson 43 = .ok (.getfield 50, 3) := by decide +kernel
theorem dX0_lesson_46 : decode cX0_lesson 46 = .ok (.dmul, 1) := by decide +kernel
theorem dX0_lesson_47 : decode cX0_lesson 47 = .ok (.dload_n 1, 1) := by decide +kernel
theorem dX0_lesson_48 : decode cX0_lesson 48 = .ok (.dmul, 1) := by decide +kernel
theorem dX0_lesson_49 : decode cX0_lesson 49 = .ok (.dreturn, 1) := by decide +kernel
theorem dX0_lesson_50 : decode cX0_lesson 50 = .ok (.dload_n 3, 1) := by decide +kernel
theorem dX0_lesson_51 : decode cX0_lesson 51 = .ok (.dconst 1, 1) := by decide +kernel
theorem dX0_lesson_52 : decode cX0_lesson 52 = .ok (.dcmp .l, 1) := by decide +kernel
theorem dX0_lesson_53 : decode cX0_lesson 53 = .ok (.ifCond .lt 17, 3) := by decide +kernel
theorem dX0_lesson_56 : decode cX0_lesson 56 = .ok (.dload 5, 2) := by decide +kernel
theorem dX0_lesson_58 : decode cX0_lesson 58 = .ok (.aload_n 0, 1) := by decide +kernel
theorem dX0_lesson_59 : decode cX0_lesson 59 = .ok (.getfield 50, 3) := by decide +kernel
theorem dX0_lesson_62 : decode cX0_lesson 62 = .ok (.dmul, 1) := by decide +kernel
theorem dX0_lesson_63 : decode cX0_lesson 63 = .ok (.dload_n 1, 1) := by decide +kernel
theorem dX0_lesson_64 : decode cX0_lesson 64 = .ok (.dmul, 1) := by decide +kernel
theorem dX0_lesson_65 : decode cX0_lesson 65 = .ok (.dload_n 3, 1) := by decide +kernel
theorem dX0_lesson_66 : decode cX0_lesson 66 = .ok (.ddiv, 1) := by decide +kernel
theorem dX0_lesson_67 : decode cX0_lesson 67 = .ok (.goto 4, 3) := by decide +kernel
theorem dX0_lesson_70 : decode cX0_lesson 70 = .ok (.dconst 0, 1) := by decide +kernel
theorem dX0_lesson_71 : decode cX0_lesson 71 = .ok (.dreturn, 1) := by decide +kernel
theorem dX0_lesson_72 : decode cX0_lesson 72 = .ok (.aload_n 0, 1) := by decide +kernel
theorem dX0_lesson_73 : decode cX0_lesson 73 = .ok (.getfield 50, 3) := by decide +kernel
theorem dX0_lesson_76 : decode cX0_lesson 76 = .ok (.dconst 0, 1) := by decide +kernel
theorem dX0_lesson_77 : decode cX0_lesson 77 = .ok (.dcmp .l, 1) := by decide +kernel
theorem dX0_lesson_78 : decode cX0_lesson 78 = .ok (.ifCond .le 10, 3) := by decide +kernel
theorem dX0_lesson_81 : decode cX0_lesson 81 = .ok (.dload 5, 2) := by decide +kernel
theorem dX0_lesson_83 : decode cX0_lesson 83 = .ok (.dload_n 1, 1) := by decide +kernel
theorem dX0_lesson_84 : decode cX0_lesson 84 = .ok (.dmul, 1) := by decide +kernel
theorem dX0_lesson_85 : decode cX0_lesson 85 = .ok (.goto 21, 3) := by decide +kernel
theorem dX0_lesson_88 : decode cX0_lesson 88 = .ok (.aload_n 0, 1) := by decide +kernel
theorem dX0_lesson_89 : decode cX0_lesson 89 = .ok (.getfield 50, 3) := by decide +kernel
theorem dX0_lesson_92 : decode cX0_lesson 92 = .ok (.dconst 0, 1) := by decide +kernel
theorem dX0_lesson_93 : decode cX0_lesson 93 = .ok (.dcmp .g, 1) := by decide +kernel
theorem dX0_lesson_94 : decode cX0_lesson 94 = .ok (.ifCond .ge 11, 3) := by decide +kernel
theorem dX0_lesson_97 : decode cX0_lesson 97 = .ok (.dload 5, 2) := by decide +kernel
theorem dX0_lesson_99 : decode cX0_lesson 99 = .ok (.dload_n 1, 1) := by decide +kernel
theorem dX0_lesson_100 : decode cX0_lesson 100 = .ok (.dmul, 1) := by decide +kernel
theorem dX0_lesson_101 : decode cX0_lesson 101 = .ok (.dneg, 1) := by decide +kernel
theorem dX0_lesson_102 : decode cX0_lesson 102 = .ok (.goto 4, 3) := by decide +kernel
theorem dX0_lesson_105 : decode cX0_lesson 105 = .ok (.dconst 0, 1) := by decide +kernel
theorem dX0_lesson_106 : decode cX0_lesson 106 = .ok (.dreturn, 1) := by decide +kernel
theorem dX0_normOf_0 : decode cX0_normOf 0 = .ok (.dconst 1, 1) := by decide +kernel
theorem dX0_normOf_1 : decode cX0_normOf 1 = .ok (.dstore_n 2, 1) := by decide +kernel
theorem dX0_normOf_2 : decode cX0_normOf 2 = .ok (.iconst 0, 1) := by decide +kernel
theorem dX0_normOf_3 : decode cX0_normOf 3 = .ok (.istore 4, 2) := by decide +kernel
theorem dX0_normOf_5 : decode cX0_normOf 5 = .ok (.iload 4, 2) := by decide +kernel
theorem dX0_normOf_7 : decode cX0_normOf 7 = .ok (.aload_n 0, 1) := by decide +kernel
theorem dX0_normOf_8 : decode cX0_normOf 8 = .ok (.getfield 15, 3) := by decide +kernel
theorem dX0_normOf_11 : decode cX0_normOf 11 = .ok (.arraylength, 1) := by decide +kernel
theorem dX0_normOf_12 : decode cX0_normOf 12 = .ok (.if_icmp .ge 28, 3) := by decide +kernel
theorem dX0_normOf_15 : decode cX0_normOf 15 = .ok (.iload 4, 2) := by decide +kernel
theorem dX0_normOf_17 : decode cX0_normOf 17 = .ok (.aload_n 1, 1) := by decide +kernel
theorem dX0_normOf_18 : decode cX0_normOf 18 = .ok (.arraylength, 1) := by decide +kernel
theorem dX0_normOf_19 : decode cX0_normOf 19 = .ok (.if_icmp .ge 21, 3) := by decide +kernel
theorem dX0_normOf_22 : decode cX0_normOf 22 = .ok (.dload_n 2, 1) := by decide +kernel
theorem dX0_normOf_23 : decode cX0_normOf 23 = .ok (.aload_n 1, 1) := by decide +kernel
theorem dX0_normOf_24 : decode cX0_normOf 24 = .ok (.iload 4, 2) := by decide +kernel
theorem dX0_normOf_26 : decode cX0_normOf 26 = .ok (.daload, 1) := by decide +kernel
theorem dX0_normOf_27 : decode cX0_normOf 27 = .ok (.aload_n 1, 1) := by decide +kernel
theorem dX0_normOf_28 : decode cX0_normOf 28 = .ok (.iload 4, 2) := by decide +kernel
theorem dX0_normOf_30 : decode cX0_normOf 30 = .ok (.daload, 1) := by decide +kernel
theorem dX0_normOf_31 : decode cX0_normOf 31 = .ok (.dmul, 1) := by decide +kernel
theorem dX0_normOf_32 : decode cX0_normOf 32 = .ok (.dadd, 1) := by decide +kernel
theorem dX0_normOf_33 : decode cX0_normOf 33 = .ok (.dstore_n 2, 1) := by decide +kernel
theorem dX0_normOf_34 : decode cX0_normOf 34 = .ok (.iinc 4 1, 3) := by decide +kernel
theorem dX0_normOf_37 : decode cX0_normOf 37 = .ok (.goto (-32), 3) := by decide +kernel
theorem dX0_normOf_40 : decode cX0_normOf 40 = .ok (.dload_n 2, 1) := by decide +kernel
theorem dX0_normOf_41 : decode cX0_normOf 41 = .ok (.dreturn, 1) := by decide +kernel
set_option maxRecDepth 20000 in
theorem ggX0_learnBySquare_X2_prepare : GoodIn wsX0_learnBySquare wsX2_prepare := goodIn_r _ [9, 10, 11, 12, 13, 14, 15, 16, 7, 17, 18, 54, 55, 56, 57] (by decide +kernel) (by decide +kernel)
set_option maxRecDepth 20000 in
theorem gX0_learnBySquare_X2_prepare_n112 : GoodIn wsX0_learnBySquare (wsX2_prepare) := ggX0_learnBySquare_X2_prepare
set_option maxRecDepth 20000 in
theorem ggX0_learnBySquare_X2_share : GoodIn wsX0_learnBySquare wsX2_share := goodIn_r _ [21, 10, 13, 22, 23, 24, 54, 55, 56, 57] (by decide +kernel) (by decide +kernel)
set_option maxRecDepth 20000 in
theorem gX0_learnBySquare_X2_share_n115 : GoodIn wsX0_learnBySquare (wsX2_share) := ggX0_learnBySquare_X2_share
set_option maxRecDepth 20000 in
theorem ggX0_learnBySquare_X0_add : GoodIn wsX0_learnBySquare wsX0_add := goodIn_r _ [29, 3, 30, 31, 23, 32, 41, 42, 43, 44, 45, 46, 47, 48, 49, 50, 51, 52, 53] (by decide +kernel) (by decide +kernel)
set_option maxRecDepth 20000 in
theorem gX0_learnBySquare_X0_add : GoodIn wsX0_learnBySquare (wsV RX0 106 RX0 yX0_add wsX0_add) := goodIn_app (goodIn_of _ (by decide +kernel)) ggX0_learnBySquare_X0_add
set_option maxRecDepth 20000 in
theorem ggX0_learnBySquare_X2_renew : GoodIn wsX0_learnBySquare wsX2_renew := goodIn_r _ [35, 10, 18, 13, 11, 36, 54, 55, 56, 57] (by decide +kernel) (by decide +kernel)
set_option maxRecDepth 20000 in
theorem gX0_learnBySquare_X2_renew_n119 : GoodIn wsX0_learnBySquare (wsX2_renew) := ggX0_learnBySquare_X2_renew
set_option maxRecDepth 20000 in
theorem ggX0_learnBySquare_X2_restart : GoodIn wsX0_learnBySquare wsX2_restart := goodIn_r _ [39, 10, 18, 40, 54, 55, 56, 57] (by decide +kernel) (by decide +kernel)
set_option maxRecDepth 20000 in
theorem gX0_learnBySquare_X2_restart_n40 : GoodIn wsX0_learnBySquare (wsX2_restart) := ggX0_learnBySquare_X2_restart
theorem dX0_learnBySquare_0 : decode cX0_learnBySquare 0 = .ok (.aload_n 0, 1) := by decide +kernel
theorem dX0_learnBySquare_1 : decode cX0_learnBySquare 1 = .ok (.getfield 31, 3) := by decide +kernel
theorem dX0_learnBySquare_4 : decode cX0_learnBySquare 4 = .ok (.i2d, 1) := by decide +kernel
theorem dX0_learnBySquare_5 : decode cX0_learnBySquare 5 = .ok (.ldc2_w 110, 3) := by decide +kernel
theorem dX0_learnBySquare_8 : decode cX0_learnBySquare 8 = .ok (.ddiv, 1) := by decide +kernel
theorem dX0_learnBySquare_9 : decode cX0_learnBySquare 9 = .ok (.dstore_n 3, 1) := by decide +kernel
theorem dX0_learnBySquare_10 : decode cX0_learnBySquare 10 = .ok (.aload_n 1, 1) := by decide +kernel
theorem dX0_learnBySquare_11 : decode cX0_learnBySquare 11 = .ok (.aload_n 2, 1) := by decide +kernel
theorem dX0_learnBySquare_12 : decode cX0_learnBySquare 12 = .ok (.dload_n 3, 1) := by decide +kernel
theorem dX0_learnBySquare_13 : decode cX0_learnBySquare 13 = .ok (.invokevirtual 112, 3) := by decide +kernel
theorem dX0_learnBySquare_16 : decode cX0_learnBySquare 16 = .ok (.istore 5, 2) := by decide +kernel
theorem dX0_learnBySquare_18 : decode cX0_learnBySquare 18 = .ok (.iload 5, 2) := by decide +kernel
theorem dX0_learnBySquare_20 : decode cX0_learnBySquare 20 = .ok (.ifCond .eq 46, 3) := by decide +kernel
theorem dX0_learnBySquare_23 : decode cX0_learnBySquare 23 = .ok (.iconst 0, 1) := by decide +kernel
theorem dX0_learnBySquare_24 : decode cX0_learnBySquare 24 = .ok (.istore 6, 2) := by decide +kernel
theorem dX0_learnBySquare_26 : decode cX0_learnBySquare 26 = .ok (.iload 6, 2) := by decide +kernel
theorem dX0_learnBySquare_28 : decode cX0_learnBySquare 28 = .ok (.aload_n 0, 1) := by decide +kernel
theorem dX0_learnBySquare_29 : decode cX0_learnBySquare 29 = .ok (.getfield 15, 3) := by decide +kernel
theorem dX0_learnBySquare_32 : decode cX0_learnBySquare 32 = .ok (.arraylength, 1) := by decide +kernel
theorem dX0_learnBySquare_33 : decode cX0_learnBySquare 33 = .ok (.if_icmp .ge 26, 3) := by decide +kernel
theorem dX0_learnBySquare_36 : decode cX0_learnBySquare 36 = .ok (.aload_n 0, 1) := by decide +kernel
theorem dX0_learnBySquare_37 : decode cX0_learnBySquare 37 = .ok (.iload 6, 2) := by decide +kernel
theorem dX0_learnBySquare_39 : decode cX0_learnBySquare 39 = .ok (.aload_n 1, 1) := by decide +kernel
theorem dX0_learnBySquare_40 : decode cX0_learnBySquare 40 = .ok (.iload 6, 2) := by decide +kernel
theorem dX0_learnBySquare_42 : decode cX0_learnBySquare 42 = .ok (.invokevirtual 115, 3) := by decide +kernel
theorem dX0_learnBySquare_45 : decode cX0_learnBySquare 45 = .ok (.aload_n 0, 1) := by decide +kernel
theorem dX0_learnBySquare_46 : decode cX0_learnBySquare 46 = .ok (.getfield 50, 3) := by decide +kernel
theorem dX0_learnBySquare_49 : decode cX0_learnBySquare 49 = .ok (.dmul, 1) := by decide +kernel
theorem dX0_learnBySquare_50 : decode cX0_learnBySquare 50 = .ok (.invokevirtual 106, 3) := by decide +kernel
theorem dX0_learnBySquare_53 : decode cX0_learnBySquare 53 = .ok (.iinc 6 1, 3) := by decide +kernel
theorem dX0_learnBySquare_56 : decode cX0_learnBySquare 56 = .ok (.goto (-30), 3) := by decide +kernel
theorem dX0_learnBySquare_59 : decode cX0_learnBySquare 59 = .ok (.aload_n 1, 1) := by decide +kernel
theorem dX0_learnBySquare_60 : decode cX0_learnBySquare 60 = .ok (.dload_n 3, 1) := by decide +kernel
theorem dX0_learnBySquare_61 : decode cX0_learnBySquare 61 = .ok (.invokevirtual 119, 3) := by decide +kernel
theorem dX0_learnBySquare_64 : decode cX0_learnBySquare 64 = .ok (.istore 5, 2) := by decide +kernel
theorem dX0_learnBySquare_66 : decode cX0_learnBySquare 66 = .ok (.iload 5, 2) := by decide +kernel
theorem dX0_learnBySquare_68 : decode cX0_learnBySquare 68 = .ok (.ifCond .ne 17, 3) := by decide +kernel
theorem dX0_learnBySquare_71 : decode cX0_learnBySquare 71 = .ok (.aload_n 1, 1) := by decide +kernel
theorem dX0_learnBySquare_72 : decode cX0_learnBySquare 72 = .ok (.invokevirtual 40, 3) := by decide +kernel
theorem dX0_learnBySquare_75 : decode cX0_learnBySquare 75 = .ok (.aload_n 0, 1) := by decide +kernel
theorem dX0_learnBySquare_76 : decode cX0_learnBySquare 76 = .ok (.dup, 1) := by decide +kernel
theorem dX0_learnBySquare_77 : decode cX0_learnBySquare 77 = .ok (.getfield 59, 3) := by decide +kernel
theorem dX0_learnBySquare_80 : decode cX0_learnBySquare 80 = .ok (.iconst 1, 1) := by decide +kernel
theorem dX0_learnBySquare_81 : decode cX0_learnBySquare 81 = .ok (.iadd, 1) := by decide +kernel
theorem dX0_learnBySquare_82 : decode cX0_learnBySquare 82 = .ok (.putfield 59, 3) := by decide +kernel
theorem dX0_learnBySquare_85 : decode cX0_learnBySquare 85 = .ok (.return_, 1) := by decide +kernel
set_option maxRecDepth 20000 in
theorem ggX0_add_X3_heldTo : GoodIn wsX0_add wsX3_heldTo := goodIn_r _ [5] (by decide +kernel) (by decide +kernel)
set_option maxRecDepth 20000 in
theorem gX0_add_X3_heldTo_n125 : GoodIn wsX0_add (wsX3_heldTo) := ggX0_add_X3_heldTo
theorem dX0_add_0 : decode cX0_add 0 = .ok (.iload_n 1, 1) := by decide +kernel
theorem dX0_add_1 : decode cX0_add 1 = .ok (.ifCond .lt 32, 3) := by decide +kernel
theorem dX0_add_4 : decode cX0_add 4 = .ok (.iload_n 1, 1) := by decide +kernel
theorem dX0_add_5 : decode cX0_add 5 = .ok (.aload_n 0, 1) := by decide +kernel
theorem dX0_add_6 : decode cX0_add 6 = .ok (.getfield 15, 3) := by decide +kernel
theorem dX0_add_9 : decode cX0_add 9 = .ok (.arraylength, 1) := by decide +kernel
theorem dX0_add_10 : decode cX0_add 10 = .ok (.if_icmp .ge 23, 3) := by decide +kernel
theorem dX0_add_13 : decode cX0_add 13 = .ok (.aload_n 0, 1) := by decide +kernel
theorem dX0_add_14 : decode cX0_add 14 = .ok (.getfield 15, 3) := by decide +kernel
theorem dX0_add_17 : decode cX0_add 17 = .ok (.iload_n 1, 1) := by decide +kernel
theorem dX0_add_18 : decode cX0_add 18 = .ok (.aload_n 0, 1) := by decide +kernel
theorem dX0_add_19 : decode cX0_add 19 = .ok (.getfield 15, 3) := by decide +kernel
theorem dX0_add_22 : decode cX0_add 22 = .ok (.iload_n 1, 1) := by decide +kernel
theorem dX0_add_23 : decode cX0_add 23 = .ok (.daload, 1) := by decide +kernel
theorem dX0_add_24 : decode cX0_add 24 = .ok (.dload_n 2, 1) := by decide +kernel
theorem dX0_add_25 : decode cX0_add 25 = .ok (.dadd, 1) := by decide +kernel
theorem dX0_add_26 : decode cX0_add 26 = .ok (.ldc2_w 123, 3) := by decide +kernel
theorem dX0_add_29 : decode cX0_add 29 = .ok (.invokestatic 125, 3) := by decide +kernel
theorem dX0_add_32 : decode cX0_add 32 = .ok (.dastore, 1) := by decide +kernel
theorem dX0_add_33 : decode cX0_add 33 = .ok (.return_, 1) := by decide +kernel
set_option maxRecDepth 20000 in
theorem ggX0_power_J9_floorMod_7cf53 : GoodIn wsX0_power wsJ9_floorMod_7cf53 := goodIn_r _ [10] (by decide +kernel) (by decide +kernel)
set_option maxRecDepth 20000 in
theorem gX0_power_J9_floorMod_7cf53 : GoodIn wsX0_power (va_wsS RX0 66 yJ9_floorMod_7cf53 wsJ9_floorMod_7cf53) := goodIn_app (goodIn_of _ (by decide +kernel)) ggX0_power_J9_floorMod_7cf53
theorem dX0_power_0 : decode cX0_power 0 = .ok (.dconst 0, 1) := by decide +kernel
theorem dX0_power_1 : decode cX0_power 1 = .ok (.dstore_n 1, 1) := by decide +kernel
theorem dX0_power_2 : decode cX0_power 2 = .ok (.iconst 0, 1) := by decide +kernel
theorem dX0_power_3 : decode cX0_power 3 = .ok (.aload_n 0, 1) := by decide +kernel
theorem dX0_power_4 : decode cX0_power 4 = .ok (.getfield 53, 3) := by decide +kernel
theorem dX0_power_7 : decode cX0_power 7 = .ok (.bipush 16, 2) := by decide +kernel
theorem dX0_power_9 : decode cX0_power 9 = .ok (.isub, 1) := by decide +kernel
theorem dX0_power_10 : decode cX0_power 10 = .ok (.invokestatic 128, 3) := by decide +kernel
theorem dX0_power_13 : decode cX0_power 13 = .ok (.istore_n 3, 1) := by decide +kernel
theorem dX0_power_14 : decode cX0_power 14 = .ok (.iload_n 3, 1) := by decide +kernel
theorem dX0_power_15 : decode cX0_power 15 = .ok (.istore 4, 2) := by decide +kernel
theorem dX0_power_17 : decode cX0_power 17 = .ok (.iload 4, 2) := by decide +kernel
theorem dX0_power_19 : decode cX0_power 19 = .ok (.aload_n 0, 1) := by decide +kernel
theorem dX0_power_20 : decode cX0_power 20 = .ok (.getfield 53, 3) := by decide +kernel
theorem dX0_power_23 : decode cX0_power 23 = .ok (.if_icmp .ge 31, 3) := by decide +kernel
theorem dX0_power_26 : decode cX0_power 26 = .ok (.aload_n 0, 1) := by decide +kernel
theorem dX0_power_27 : decode cX0_power 27 = .ok (.getfield 19, 3) := by decide +kernel
theorem dX0_power_30 : decode cX0_power 30 = .ok (.iload 4, 2) := by decide +kernel
theorem dX0_power_32 : decode cX0_power 32 = .ok (.bipush 16, 2) := by decide +kernel
theorem dX0_power_34 : decode cX0_power 34 = .ok (.invokestatic 66, 3) := by decide +kernel
theorem dX0_power_37 : decode cX0_power 37 = .ok (.daload, 1) := by decide +kernel
theorem dX0_power_38 : decode cX0_power 38 = .ok (.dstore 5, 2) := by decide +kernel
theorem dX0_power_40 : decode cX0_power 40 = .ok (.dload_n 1, 1) := by decide +kernel
theorem dX0_power_41 : decode cX0_power 41 = .ok (.dload 5, 2) := by decide +kernel
theorem dX0_power_43 : decode cX0_power 43 = .ok (.dload 5, 2) := by decide +kernel
theorem dX0_power_45 : decode cX0_power 45 = .ok (.dmul, 1) := by decide +kernel
theorem dX0_power_46 : decode cX0_power 46 = .ok (.dadd, 1) := by decide +kernel
theorem dX0_power_47 : decode cX0_power 47 = .ok (.dstore_n 1, 1) := by decide +kernel
theorem dX0_power_48 : decode cX0_power 48 = .ok (.iinc 4 1, 3) := by decide +kernel
theorem dX0_power_51 : decode cX0_power 51 = .ok (.goto (-34), 3) := by decide +kernel
theorem dX0_power_54 : decode cX0_power 54 = .ok (.aload_n 0, 1) := by decide +kernel
theorem dX0_power_55 : decode cX0_power 55 = .ok (.getfield 53, 3) := by decide +kernel
theorem dX0_power_58 : decode cX0_power 58 = .ok (.iload_n 3, 1) := by decide +kernel
theorem dX0_power_59 : decode cX0_power 59 = .ok (.if_icmp .le 15, 3) := by decide +kernel
theorem dX0_power_62 : decode cX0_power 62 = .ok (.dload_n 1, 1) := by decide +kernel
theorem dX0_power_63 : decode cX0_power 63 = .ok (.aload_n 0, 1) := by decide +kernel
theorem dX0_power_64 : decode cX0_power 64 = .ok (.getfield 53, 3) := by decide +kernel
theorem dX0_power_67 : decode cX0_power 67 = .ok (.iload_n 3, 1) := by decide +kernel
theorem dX0_power_68 : decode cX0_power 68 = .ok (.isub, 1) := by decide +kernel
theorem dX0_power_69 : decode cX0_power 69 = .ok (.i2d, 1) := by decide +kernel
theorem dX0_power_70 : decode cX0_power 70 = .ok (.ddiv, 1) := by decide +kernel
theorem dX0_power_71 : decode cX0_power 71 = .ok (.goto 4, 3) := by decide +kernel
theorem dX0_power_74 : decode cX0_power 74 = .ok (.dconst 0, 1) := by decide +kernel
theorem dX0_power_75 : decode cX0_power 75 = .ok (.dreturn, 1) := by decide +kernel
theorem dX1_init_0 : decode cX1_init 0 = .ok (.aload_n 0, 1) := by decide +kernel
theorem dX1_init_1 : decode cX1_init 1 = .ok (.invokespecial 3, 3) := by decide +kernel
theorem dX1_init_4 : decode cX1_init 4 = .ok (.aload_n 0, 1) := by decide +kernel
theorem dX1_init_5 : decode cX1_init 5 = .ok (.bipush 8, 2) := by decide +kernel
theorem dX1_init_7 : decode cX1_init 7 = .ok (.newarray .int, 2) := by decide +kernel
theorem dX1_init_9 : decode cX1_init 9 = .ok (.putfield 9, 3) := by decide +kernel
theorem dX1_init_12 : decode cX1_init 12 = .ok (.aload_n 0, 1) := by decide +kernel
theorem dX1_init_13 : decode cX1_init 13 = .ok (.bipush 8, 2) := by decide +kernel
theorem dX1_init_15 : decode cX1_init 15 = .ok (.newarray .double, 2) := by decide +kernel
theorem dX1_init_17 : decode cX1_init 17 = .ok (.putfield 15, 3) := by decide +kernel
theorem dX1_init_20 : decode cX1_init 20 = .ok (.aload_n 0, 1) := by decide +kernel
theorem dX1_init_21 : decode cX1_init 21 = .ok (.bipush 16, 2) := by decide +kernel
theorem dX1_init_23 : decode cX1_init 23 = .ok (.newarray .double, 2) := by decide +kernel
theorem dX1_init_25 : decode cX1_init 25 = .ok (.putfield 19, 3) := by decide +kernel
theorem dX1_init_28 : decode cX1_init 28 = .ok (.aload_n 0, 1) := by decide +kernel
theorem dX1_init_29 : decode cX1_init 29 = .ok (.bipush 16, 2) := by decide +kernel
theorem dX1_init_31 : decode cX1_init 31 = .ok (.newarray .double, 2) := by decide +kernel
theorem dX1_init_33 : decode cX1_init 33 = .ok (.putfield 22, 3) := by decide +kernel
theorem dX1_init_36 : decode cX1_init 36 = .ok (.aload_n 0, 1) := by decide +kernel
theorem dX1_init_37 : decode cX1_init 37 = .ok (.bipush 16, 2) := by decide +kernel
theorem dX1_init_39 : decode cX1_init 39 = .ok (.newarray .double, 2) := by decide +kernel
theorem dX1_init_41 : decode cX1_init 41 = .ok (.putfield 25, 3) := by decide +kernel
theorem dX1_init_44 : decode cX1_init 44 = .ok (.aload_n 0, 1) := by decide +kernel
theorem dX1_init_45 : decode cX1_init 45 = .ok (.dconst 0, 1) := by decide +kernel
theorem dX1_init_46 : decode cX1_init 46 = .ok (.putfield 28, 3) := by decide +kernel
theorem dX1_init_49 : decode cX1_init 49 = .ok (.aload_n 0, 1) := by decide +kernel
theorem dX1_init_50 : decode cX1_init 50 = .ok (.iconst 0, 1) := by decide +kernel
theorem dX1_init_51 : decode cX1_init 51 = .ok (.putfield 32, 3) := by decide +kernel
theorem dX1_init_54 : decode cX1_init 54 = .ok (.return_, 1) := by decide +kernel
theorem dX1_tellPath_0 : decode cX1_tellPath 0 = .ok (.iload_n 1, 1) := by decide +kernel
theorem dX1_tellPath_1 : decode cX1_tellPath 1 = .ok (.ifCond .lt 12, 3) := by decide +kernel
theorem dX1_tellPath_4 : decode cX1_tellPath 4 = .ok (.iload_n 1, 1) := by decide +kernel
theorem dX1_tellPath_5 : decode cX1_tellPath 5 = .ok (.aload_n 0, 1) := by decide +kernel
theorem dX1_tellPath_6 : decode cX1_tellPath 6 = .ok (.getfield 9, 3) := by decide +kernel
theorem dX1_tellPath_9 : decode cX1_tellPath 9 = .ok (.arraylength, 1) := by decide +kernel
theorem dX1_tellPath_10 : decode cX1_tellPath 10 = .ok (.if_icmp .lt 5, 3) := by decide +kernel
theorem dX1_tellPath_13 : decode cX1_tellPath 13 = .ok (.iconst 0, 1) := by decide +kernel
theorem dX1_tellPath_14 : decode cX1_tellPath 14 = .ok (.ireturn, 1) := by decide +kernel
theorem dX1_tellPath_15 : decode cX1_tellPath 15 = .ok (.aload_n 0, 1) := by decide +kernel
theorem dX1_tellPath_16 : decode cX1_tellPath 16 = .ok (.getfield 9, 3) := by decide +kernel
theorem dX1_tellPath_19 : decode cX1_tellPath 19 = .ok (.iload_n 1, 1) := by decide +kernel
theorem dX1_tellPath_20 : decode cX1_tellPath 20 = .ok (.iaload, 1) := by decide +kernel
theorem dX1_tellPath_21 : decode cX1_tellPath 21 = .ok (.istore_n 3, 1) := by decide +kernel
theorem dX1_tellPath_22 : decode cX1_tellPath 22 = .ok (.aload_n 0, 1) := by decide +kernel
theorem dX1_tellPath_23 : decode cX1_tellPath 23 = .ok (.getfield 9, 3) := by decide +kernel
theorem dX1_tellPath_26 : decode cX1_tellPath 26 = .ok (.iload_n 1, 1) := by decide +kernel
theorem dX1_tellPath_27 : decode cX1_tellPath 27 = .ok (.iload_n 2, 1) := by decide +kernel
theorem dX1_tellPath_28 : decode cX1_tellPath 28 = .ok (.iastore, 1) := by decide +kernel
theorem dX1_tellPath_29 : decode cX1_tellPath 29 = .ok (.iload_n 3, 1) := by decide +kernel
theorem dX1_tellPath_30 : decode cX1_tellPath 30 = .ok (.ireturn, 1) := by decide +kernel
set_option maxRecDepth 20000 in
theorem ggX1_take_X1_heardWith : GoodIn wsX1_take wsX1_heardWith := goodIn_r _ [11, 12, 13, 1, 18, 19, 20, 21, 22, 23, 24] (by decide +kernel) (by decide +kernel)
set_option maxRecDepth 20000 in
theorem gX1_take_X1_heardWith : GoodIn wsX1_take (wsV RX1 36 RX1 yX1_heardWith wsX1_heardWith) := goodIn_app (goodIn_of _ (by decide +kernel)) ggX1_take_X1_heardWith
set_option maxRecDepth 20000 in
theorem ggX1_take_J9_floorMod_7cf53 : GoodIn wsX1_take wsJ9_floorMod_7cf53 := goodIn_r _ [17] (by decide +kernel) (by decide +kernel)
set_option maxRecDepth 20000 in
theorem gX1_take_J9_floorMod_7cf53 : GoodIn wsX1_take (va_wsS RX1 40 yJ9_floorMod_7cf53 wsJ9_floorMod_7cf53) := goodIn_app (goodIn_of _ (by decide +kernel)) ggX1_take_J9_floorMod_7cf53
theorem dX1_take_0 : decode cX1_take 0 = .ok (.bipush 7, 2) := by decide +kernel
theorem dX1_take_2 : decode cX1_take 2 = .ok (.istore_n 3, 1) := by decide +kernel
theorem dX1_take_3 : decode cX1_take 3 = .ok (.iload_n 3, 1) := by decide +kernel
theorem dX1_take_4 : decode cX1_take 4 = .ok (.ifCond .le 23, 3) := by decide +kernel
theorem dX1_take_7 : decode cX1_take 7 = .ok (.aload_n 0, 1) := by decide +kernel
theorem dX1_take_8 : decode cX1_take 8 = .ok (.getfield 15, 3) := by decide +kernel
theorem dX1_take_11 : decode cX1_take 11 = .ok (.iload_n 3, 1) := by decide +kernel
theorem dX1_take_12 : decode cX1_take 12 = .ok (.aload_n 0, 1) := by decide +kernel
theorem dX1_take_13 : decode cX1_take 13 = .ok (.getfield 15, 3) := by decide +kernel
theorem dX1_take_16 : decode cX1_take 16 = .ok (.iload_n 3, 1) := by decide +kernel
theorem dX1_take_17 : decode cX1_take 17 = .ok (.iconst 1, 1) := by decide +kernel
theorem dX1_take_18 : decode cX1_take 18 = .ok (.isub, 1) := by decide +kernel
theorem dX1_take_19 : decode cX1_take 19 = .ok (.daload, 1) := by decide +kernel
theorem dX1_take_20 : decode cX1_take 20 = .ok (.dastore, 1) := by decide +kernel
theorem dX1_take_21 : decode cX1_take 21 = .ok (.iinc 3 (-1), 3) := by decide +kernel
theorem dX1_take_24 : decode cX1_take 24 = .ok (.goto (-21), 3) := by decide +kernel
theorem dX1_take_27 : decode cX1_take 27 = .ok (.aload_n 0, 1) := by decide +kernel
theorem dX1_take_28 : decode cX1_take 28 = .ok (.getfield 15, 3) := by decide +kernel
theorem dX1_take_31 : decode cX1_take 31 = .ok (.iconst 0, 1) := by decide +kernel
theorem dX1_take_32 : decode cX1_take 32 = .ok (.iload_n 1, 1) := by decide +kernel
theorem dX1_take_33 : decode cX1_take 33 = .ok (.i2d, 1) := by decide +kernel
theorem dX1_take_34 : decode cX1_take 34 = .ok (.dastore, 1) := by decide +kernel
theorem dX1_take_35 : decode cX1_take 35 = .ok (.aload_n 0, 1) := by decide +kernel
theorem dX1_take_36 : decode cX1_take 36 = .ok (.aload_n 0, 1) := by decide +kernel
theorem dX1_take_37 : decode cX1_take 37 = .ok (.iload_n 2, 1) := by decide +kernel
theorem dX1_take_38 : decode cX1_take 38 = .ok (.invokevirtual 36, 3) := by decide +kernel
theorem dX1_take_41 : decode cX1_take 41 = .ok (.putfield 28, 3) := by decide +kernel
theorem dX1_take_44 : decode cX1_take 44 = .ok (.aload_n 0, 1) := by decide +kernel
theorem dX1_take_45 : decode cX1_take 45 = .ok (.getfield 32, 3) := by decide +kernel
theorem dX1_take_48 : decode cX1_take 48 = .ok (.bipush 16, 2) := by decide +kernel
theorem dX1_take_50 : decode cX1_take 50 = .ok (.invokestatic 40, 3) := by decide +kernel
theorem dX1_take_53 : decode cX1_take 53 = .ok (.istore_n 3, 1) := by decide +kernel
theorem dX1_take_54 : decode cX1_take 54 = .ok (.aload_n 0, 1) := by decide +kernel
theorem dX1_take_55 : decode cX1_take 55 = .ok (.getfield 19, 3) := by decide +kernel
theorem dX1_take_58 : decode cX1_take 58 = .ok (.iload_n 3, 1) := by decide +kernel
theorem dX1_take_59 : decode cX1_take 59 = .ok (.aload_n 0, 1) := by decide +kernel
theorem dX1_take_60 : decode cX1_take 60 = .ok (.getfield 15, 3) := by decide +kernel
theorem dX1_take_63 : decode cX1_take 63 = .ok (.iconst 0, 1) := by decide +kernel
theorem dX1_take_64 : decode cX1_take 64 = .ok (.daload, 1) := by decide +kernel
theorem dX1_take_65 : decode cX1_take 65 = .ok (.dastore, 1) := by decide +kernel
theorem dX1_take_66 : decode cX1_take 66 = .ok (.aload_n 0, 1) := by decide +kernel
theorem dX1_take_67 : decode cX1_take 67 = .ok (.getfield 22, 3) := by decide +kernel
theorem dX1_take_70 : decode cX1_take 70 = .ok (.iload_n 3, 1) := by decide +kernel
theorem dX1_take_71 : decode cX1_take 71 = .ok (.aload_n 0, 1) := by decide +kernel
theorem dX1_take_72 : decode cX1_take 72 = .ok (.getfield 15, 3) := by decide +kernel
theorem dX1_take_75 : decode cX1_take 75 = .ok (.iconst 1, 1) := by decide +kernel
theorem dX1_take_76 : decode cX1_take 76 = .ok (.daload, 1) := by decide +kernel
theorem dX1_take_77 : decode cX1_take 77 = .ok (.dastore, 1) := by decide +kernel
theorem dX1_take_78 : decode cX1_take 78 = .ok (.aload_n 0, 1) := by decide +kernel
theorem dX1_take_79 : decode cX1_take 79 = .ok (.getfield 25, 3) := by decide +kernel
theorem dX1_take_82 : decode cX1_take 82 = .ok (.iload_n 3, 1) := by decide +kernel
theorem dX1_take_83 : decode cX1_take 83 = .ok (.aload_n 0, 1) := by decide +kernel
theorem dX1_take_84 : decode cX1_take 84 = .ok (.getfield 28, 3) := by decide +kernel
theorem dX1_take_87 : decode cX1_take 87 = .ok (.dastore, 1) := by decide +kernel
theorem dX1_take_88 : decode cX1_take 88 = .ok (.aload_n 0, 1) := by decide +kernel
theorem dX1_take_89 : decode cX1_take 89 = .ok (.dup, 1) := by decide +kernel
theorem dX1_take_90 : decode cX1_take 90 = .ok (.getfield 32, 3) := by decide +kernel
theorem dX1_take_93 : decode cX1_take 93 = .ok (.iconst 1, 1) := by decide +kernel
theorem dX1_take_94 : decode cX1_take 94 = .ok (.iadd, 1) := by decide +kernel
theorem dX1_take_95 : decode cX1_take 95 = .ok (.putfield 32, 3) := by decide +kernel
theorem dX1_take_98 : decode cX1_take 98 = .ok (.return_, 1) := by decide +kernel
theorem dX1_heardWith_0 : decode cX1_heardWith 0 = .ok (.iload_n 1, 1) := by decide +kernel
theorem dX1_heardWith_1 : decode cX1_heardWith 1 = .ok (.i2d, 1) := by decide +kernel
theorem dX1_heardWith_2 : decode cX1_heardWith 2 = .ok (.dstore_n 2, 1) := by decide +kernel
theorem dX1_heardWith_3 : decode cX1_heardWith 3 = .ok (.iconst 0, 1) := by decide +kernel
theorem dX1_heardWith_4 : decode cX1_heardWith 4 = .ok (.istore 4, 2) := by decide +kernel
theorem dX1_heardWith_6 : decode cX1_heardWith 6 = .ok (.iload 4, 2) := by decide +kernel
theorem dX1_heardWith_8 : decode cX1_heardWith 8 = .ok (.bipush 8, 2) := by decide +kernel
theorem dX1_heardWith_10 : decode cX1_heardWith 10 = .ok (.if_icmp .ge 32, 3) := by decide +kernel
theorem dX1_heardWith_13 : decode cX1_heardWith 13 = .ok (.dload_n 2, 1) := by decide +kernel
theorem dX1_heardWith_14 : decode cX1_heardWith 14 = .ok (.aload_n 0, 1) := by decide +kernel
theorem dX1_heardWith_15 : decode cX1_heardWith 15 = .ok (.getfield 9, 3) := by decide +kernel
theorem dX1_heardWith_18 : decode cX1_heardWith 18 = .ok (.iload 4, 2) := by decide +kernel
theorem dX1_heardWith_20 : decode cX1_heardWith 20 = .ok (.iaload, 1) := by decide +kernel
theorem dX1_heardWith_21 : decode cX1_heardWith 21 = .ok (.i2d, 1) := by decide +kernel
theorem dX1_heardWith_22 : decode cX1_heardWith 22 = .ok (.ldc2_w 46, 3) := by decide +kernel
theorem dX1_heardWith_25 : decode cX1_heardWith 25 = .ok (.ddiv, 1) := by decide +kernel
theorem dX1_heardWith_26 : decode cX1_heardWith 26 = .ok (.aload_n 0, 1) := by decide +kernel
theorem dX1_heardWith_27 : decode cX1_heardWith 27 = .ok (.getfield 15, 3) := by decide +kernel
theorem dX1_heardWith_30 : decode cX1_heardWith 30 = .ok (.iload 4, 2) := by decide +kernel
theorem dX1_heardWith_32 : decode cX1_heardWith 32 = .ok (.daload, 1) := by decide +kernel
theorem dX1_heardWith_33 : decode cX1_heardWith 33 = .ok (.dmul, 1) := by decide +kernel
theorem dX1_heardWith_34 : decode cX1_heardWith 34 = .ok (.dadd, 1) := by decide +kernel
theorem dX1_heardWith_35 : decode cX1_heardWith 35 = .ok (.dstore_n 2, 1) := by decide +kernel
theorem dX1_heardWith_36 : decode cX1_heardWith 36 = .ok (.iinc 4 1, 3) := by decide +kernel
theorem dX1_heardWith_39 : decode cX1_heardWith 39 = .ok (.goto (-33), 3) := by decide +kernel
theorem dX1_heardWith_42 : decode cX1_heardWith 42 = .ok (.dload_n 2, 1) := by decide +kernel
theorem dX1_heardWith_43 : decode cX1_heardWith 43 = .ok (.dreturn, 1) := by decide +kernel
theorem dX1_offness_0 : decode cX1_offness 0 = .ok (.dconst 0, 1) := by decide +kernel
theorem dX1_offness_1 : decode cX1_offness 1 = .ok (.dstore_n 2, 1) := by decide +kernel
theorem dX1_offness_2 : decode cX1_offness 2 = .ok (.iconst 0, 1) := by decide +kernel
theorem dX1_offness_3 : decode cX1_offness 3 = .ok (.istore 4, 2) := by decide +kernel
theorem dX1_offness_5 : decode cX1_offness 5 = .ok (.iload 4, 2) := by decide +kernel
theorem dX1_offness_7 : decode cX1_offness 7 = .ok (.aload_n 1, 1) := by decide +kernel
theorem dX1_offness_8 : decode cX1_offness 8 = .ok (.arraylength, 1) := by decide +kernel
theorem dX1_offness_9 : decode cX1_offness 9 = .ok (.if_icmp .ge 43, 3) := by decide +kernel
theorem dX1_offness_12 : decode cX1_offness 12 = .ok (.iload 4, 2) := by decide +kernel
theorem dX1_offness_14 : decode cX1_offness 14 = .ok (.bipush 8, 2) := by decide +kernel
theorem dX1_offness_16 : decode cX1_offness 16 = .ok (.if_icmp .ge 36, 3) := by decide +kernel
theorem dX1_offness_19 : decode cX1_offness 19 = .ok (.aload_n 1, 1) := by decide +kernel
theorem dX1_offness_20 : decode cX1_offness 20 = .ok (.iload 4, 2) := by decide +kernel
theorem dX1_offness_22 : decode cX1_offness 22 = .ok (.daload, 1) := by decide +kernel
theorem dX1_offness_23 : decode cX1_offness 23 = .ok (.aload_n 0, 1) := by decide +kernel
theorem dX1_offness_24 : decode cX1_offness 24 = .ok (.getfield 9, 3) := by decide +kernel
theorem dX1_offness_27 : decode cX1_offness 27 = .ok (.iload 4, 2) := by decide +kernel
theorem dX1_offness_29 : decode cX1_offness 29 = .ok (.iaload, 1) := by decide +kernel
theorem dX1_offness_30 : decode cX1_offness 30 = .ok (.i2d, 1) := by decide +kernel
theorem dX1_offness_31 : decode cX1_offness 31 = .ok (.ldc2_w 46, 3) := by decide +kernel
theorem dX1_offness_34 : decode cX1_offness 34 = .ok (.ddiv, 1) := by decide +kernel
theorem dX1_offness_35 : decode cX1_offness 35 = .ok (.dsub, 1) := by decide +kernel
theorem dX1_offness_36 : decode cX1_offness 36 = .ok (.dstore 5, 2) := by decide +kernel
theorem dX1_offness_38 : decode cX1_offness 38 = .ok (.dload_n 2, 1) := by decide +kernel
theorem dX1_offness_39 : decode cX1_offness 39 = .ok (.dload 5, 2) := by decide +kernel
theorem dX1_offness_41 : decode cX1_offness 41 = .ok (.dload 5, 2) := by decide +kernel
theorem dX1_offness_43 : decode cX1_offness 43 = .ok (.dmul, 1) := by decide +kernel
theorem dX1_offness_44 : decode cX1_offness 44 = .ok (.dadd, 1) := by decide +kernel
theorem dX1_offness_45 : decode cX1_offness 45 = .ok (.dstore_n 2, 1) := by decide +kernel
theorem dX1_offness_46 : decode cX1_offness 46 = .ok (.iinc 4 1, 3) := by decide +kernel
theorem dX1_offness_49 : decode cX1_offness 49 = .ok (.goto (-44), 3) := by decide +kernel
theorem dX1_offness_52 : decode cX1_offness 52 = .ok (.dload_n 2, 1) := by decide +kernel
theorem dX1_offness_53 : decode cX1_offness 53 = .ok (.dreturn, 1) := by decide +kernel
set_option maxRecDepth 20000 in
theorem ggX1_batchWeight_X1_sumOfProducts : GoodIn wsX1_batchWeight wsX1_sumOfProducts := goodIn_r _ [9, 10, 11, 12, 13, 14, 15, 16, 17, 18, 22, 23, 24, 25, 26, 27, 28] (by decide +kernel) (by decide +kernel)
set_option maxRecDepth 20000 in
theorem gX1_batchWeight_X1_sumOfProducts : GoodIn wsX1_batchWeight (wsV RX1 48 RX1 yX1_sumOfProducts wsX1_sumOfProducts) := goodIn_app (goodIn_of _ (by decide +kernel)) ggX1_batchWeight_X1_sumOfProducts
set_option maxRecDepth 20000 in
theorem ggX1_batchWeight_X3_eitherWay : GoodIn wsX1_batchWeight wsX3_eitherWay := goodIn_r _ [21] (by decide +kernel) (by decide +kernel)
set_option maxRecDepth 20000 in
theorem gX1_batchWeight_X3_eitherWay_n52 : GoodIn wsX1_batchWeight (wsX3_eitherWay) := ggX1_batchWeight_X3_eitherWay
theorem dX1_batchWeight_0 : decode cX1_batchWeight 0 = .ok (.aload_n 0, 1) := by decide +kernel
theorem dX1_batchWeight_1 : decode cX1_batchWeight 1 = .ok (.aload_n 0, 1) := by decide +kernel
theorem dX1_batchWeight_2 : decode cX1_batchWeight 2 = .ok (.getfield 19, 3) := by decide +kernel
theorem dX1_batchWeight_5 : decode cX1_batchWeight 5 = .ok (.aload_n 0, 1) := by decide +kernel
theorem dX1_batchWeight_6 : decode cX1_batchWeight 6 = .ok (.getfield 19, 3) := by decide +kernel
theorem dX1_batchWeight_9 : decode cX1_batchWeight 9 = .ok (.invokevirtual 48, 3) := by decide +kernel
theorem dX1_batchWeight_12 : decode cX1_batchWeight 12 = .ok (.dstore_n 2, 1) := by decide +kernel
theorem dX1_batchWeight_13 : decode cX1_batchWeight 13 = .ok (.aload_n 0, 1) := by decide +kernel
theorem dX1_batchWeight_14 : decode cX1_batchWeight 14 = .ok (.aload_n 0, 1) := by decide +kernel
theorem dX1_batchWeight_15 : decode cX1_batchWeight 15 = .ok (.getfield 19, 3) := by decide +kernel
theorem dX1_batchWeight_18 : decode cX1_batchWeight 18 = .ok (.aload_n 0, 1) := by decide +kernel
theorem dX1_batchWeight_19 : decode cX1_batchWeight 19 = .ok (.getfield 22, 3) := by decide +kernel
theorem dX1_batchWeight_22 : decode cX1_batchWeight 22 = .ok (.invokevirtual 48, 3) := by decide +kernel
theorem dX1_batchWeight_25 : decode cX1_batchWeight 25 = .ok (.dstore 4, 2) := by decide +kernel
theorem dX1_batchWeight_27 : decode cX1_batchWeight 27 = .ok (.aload_n 0, 1) := by decide +kernel
theorem dX1_batchWeight_28 : decode cX1_batchWeight 28 = .ok (.aload_n 0, 1) := by decide +kernel
theorem dX1_batchWeight_29 : decode cX1_batchWeight 29 = .ok (.getfield 22, 3) := by decide +kernel
theorem dX1_batchWeight_32 : decode cX1_batchWeight 32 = .ok (.aload_n 0, 1) := by decide +kernel
theorem dX1_batchWeight_33 : decode cX1_batchWeight 33 = .ok (.getfield 22, 3) := by decide +kernel
theorem dX1_batchWeight_36 : decode cX1_batchWeight 36 = .ok (.invokevirtual 48, 3) := by decide +kernel
theorem dX1_batchWeight_39 : decode cX1_batchWeight 39 = .ok (.dstore 6, 2) := by decide +kernel
theorem dX1_batchWeight_41 : decode cX1_batchWeight 41 = .ok (.aload_n 0, 1) := by decide +kernel
theorem dX1_batchWeight_42 : decode cX1_batchWeight 42 = .ok (.aload_n 0, 1) := by decide +kernel
theorem dX1_batchWeight_43 : decode cX1_batchWeight 43 = .ok (.getfield 19, 3) := by decide +kernel
theorem dX1_batchWeight_46 : decode cX1_batchWeight 46 = .ok (.aload_n 0, 1) := by decide +kernel
theorem dX1_batchWeight_47 : decode cX1_batchWeight 47 = .ok (.getfield 25, 3) := by decide +kernel
theorem dX1_batchWeight_50 : decode cX1_batchWeight 50 = .ok (.invokevirtual 48, 3) := by decide +kernel
theorem dX1_batchWeight_53 : decode cX1_batchWeight 53 = .ok (.dstore 8, 2) := by decide +kernel
theorem dX1_batchWeight_55 : decode cX1_batchWeight 55 = .ok (.aload_n 0, 1) := by decide +kernel
theorem dX1_batchWeight_56 : decode cX1_batchWeight 56 = .ok (.aload_n 0, 1) := by decide +kernel
theorem dX1_batchWeight_57 : decode cX1_batchWeight 57 = .ok (.getfield 22, 3) := by decide +kernel
theorem dX1_batchWeight_60 : decode cX1_batchWeight 60 = .ok (.aload_n 0, 1) := by decide +kernel
theorem dX1_batchWeight_61 : decode cX1_batchWeight 61 = .ok (.getfield 25, 3) := by decide +kernel
theorem dX1_batchWeight_64 : decode cX1_batchWeight 64 = .ok (.invokevirtual 48, 3) := by decide +kernel
theorem dX1_batchWeight_67 : decode cX1_batchWeight 67 = .ok (.dstore 10, 2) := by decide +kernel
theorem dX1_batchWeight_69 : decode cX1_batchWeight 69 = .ok (.dload_n 2, 1) := by decide +kernel
theorem dX1_batchWeight_70 : decode cX1_batchWeight 70 = .ok (.dload 6, 2) := by decide +kernel
theorem dX1_batchWeight_72 : decode cX1_batchWeight 72 = .ok (.dmul, 1) := by decide +kernel
theorem dX1_batchWeight_73 : decode cX1_batchWeight 73 = .ok (.dload 4, 2) := by decide +kernel
theorem dX1_batchWeight_75 : decode cX1_batchWeight 75 = .ok (.dload 4, 2) := by decide +kernel
theorem dX1_batchWeight_77 : decode cX1_batchWeight 77 = .ok (.dmul, 1) := by decide +kernel
theorem dX1_batchWeight_78 : decode cX1_batchWeight 78 = .ok (.dsub, 1) := by decide +kernel
theorem dX1_batchWeight_79 : decode cX1_batchWeight 79 = .ok (.dstore 12, 2) := by decide +kernel
theorem dX1_batchWeight_81 : decode cX1_batchWeight 81 = .ok (.dload 12, 2) := by decide +kernel
theorem dX1_batchWeight_83 : decode cX1_batchWeight 83 = .ok (.invokestatic 52, 3) := by decide +kernel
theorem dX1_batchWeight_86 : decode cX1_batchWeight 86 = .ok (.ldc2_w 56, 3) := by decide +kernel
theorem dX1_batchWeight_89 : decode cX1_batchWeight 89 = .ok (.dcmp .g, 1) := by decide +kernel
theorem dX1_batchWeight_90 : decode cX1_batchWeight 90 = .ok (.ifCond .ge 5, 3) := by decide +kernel
theorem dX1_batchWeight_93 : decode cX1_batchWeight 93 = .ok (.dconst 0, 1) := by decide +kernel
theorem dX1_batchWeight_94 : decode cX1_batchWeight 94 = .ok (.dreturn, 1) := by decide +kernel
theorem dX1_batchWeight_95 : decode cX1_batchWeight 95 = .ok (.iload_n 1, 1) := by decide +kernel
theorem dX1_batchWeight_96 : decode cX1_batchWeight 96 = .ok (.ifCond .ne 20, 3) := by decide +kernel
theorem dX1_batchWeight_99 : decode cX1_batchWeight 99 = .ok (.dload 8, 2) := by decide +kernel
theorem dX1_batchWeight_101 : decode cX1_batchWeight 101 = .ok (.dload 6, 2) := by decide +kernel
theorem dX1_batchWeight_103 : decode cX1_batchWeight 103 = .ok (.dmul, 1) := by decide +kernel
theorem dX1_batchWeight_104 : decode cX1_batchWeight 104 = .ok (.dload 10, 2) := by decide +kernel
theorem dX1_batchWeight_106 : decode cX1_batchWeight 106 = .ok (.dload 4, 2) := by decide +kernel
theorem dX1_batchWeight_108 : decode cX1_batchWeight 108 = .ok (.dmul, 1) := by decide +kernel
theorem dX1_batchWeight_109 : decode cX1_batchWeight 109 = .ok (.dsub, 1) := by decide +kernel
theorem dX1_batchWeight_110 : decode cX1_batchWeight 110 = .ok (.dload 12, 2) := by decide +kernel
theorem dX1_batchWeight_112 : decode cX1_batchWeight 112 = .ok (.ddiv, 1) := by decide +kernel
theorem dX1_batchWeight_113 : decode cX1_batchWeight 113 = .ok (.goto 16, 3) := by decide +kernel
theorem dX1_batchWeight_116 : decode cX1_batchWeight 116 = .ok (.dload 10, 2) := by decide +kernel
theorem dX1_batchWeight_118 : decode cX1_batchWeight 118 = .ok (.dload_n 2, 1) := by decide +kernel
theorem dX1_batchWeight_119 : decode cX1_batchWeight 119 = .ok (.dmul, 1) := by decide +kernel
theorem dX1_batchWeight_120 : decode cX1_batchWeight 120 = .ok (.dload 8, 2) := by decide +kernel
theorem dX1_batchWeight_122 : decode cX1_batchWeight 122 = .ok (.dload 4, 2) := by decide +kernel
theorem dX1_batchWeight_124 : decode cX1_batchWeight 124 = .ok (.dmul, 1) := by decide +kernel
theorem dX1_batchWeight_125 : decode cX1_batchWeight 125 = .ok (.dsub, 1) := by decide +kernel
theorem dX1_batchWeight_126 : decode cX1_batchWeight 126 = .ok (.dload 12, 2) := by decide +kernel
theorem dX1_batchWeight_128 : decode cX1_batchWeight 128 = .ok (.ddiv, 1) := by decide +kernel
theorem dX1_batchWeight_129 : decode cX1_batchWeight 129 = .ok (.dreturn, 1) := by decide +kernel
set_option maxRecDepth 20000 in
theorem ggX1_sumOfProducts_J9_floorMod_7cf53 : GoodIn wsX1_sumOfProducts wsJ9_floorMod_7cf53 := goodIn_r _ [9] (by decide +kernel) (by decide +kernel)
set_option maxRecDepth 20000 in
theorem gX1_sumOfProducts_J9_floorMod_7cf53 : GoodIn wsX1_sumOfProducts (va_wsS RX1 40 yJ9_floorMod_7cf53 wsJ9_floorMod_7cf53) := goodIn_app (goodIn_of _ (by decide +kernel)) ggX1_sumOfProducts_J9_floorMod_7cf53
theorem dX1_sumOfProducts_0 : decode cX1_sumOfProducts 0 = .ok (.dconst 0, 1) := by decide +kernel
theorem dX1_sumOfProducts_1 : decode cX1_sumOfProducts 1 = .ok (.dstore_n 3, 1) := by decide +kernel
theorem dX1_sumOfProducts_2 : decode cX1_sumOfProducts 2 = .ok (.iconst 0, 1) := by decide +kernel
theorem dX1_sumOfProducts_3 : decode cX1_sumOfProducts 3 = .ok (.aload_n 0, 1) := by decide +kernel
theorem dX1_sumOfProducts_4 : decode cX1_sumOfProducts 4 = .ok (.getfield 32, 3) := by decide +kernel
theorem dX1_sumOfProducts_7 : decode cX1_sumOfProducts 7 = .ok (.bipush 16, 2) := by decide +kernel
theorem dX1_sumOfProducts_9 : decode cX1_sumOfProducts 9 = .ok (.isub, 1) := by decide +kernel
theorem dX1_sumOfProducts_10 : decode cX1_sumOfProducts 10 = .ok (.invokestatic 58, 3) := by decide +kernel
theorem dX1_sumOfProducts_13 : decode cX1_sumOfProducts 13 = .ok (.istore 5, 2) := by decide +kernel
theorem dX1_sumOfProducts_15 : decode cX1_sumOfProducts 15 = .ok (.iload 5, 2) := by decide +kernel
theorem dX1_sumOfProducts_17 : decode cX1_sumOfProducts 17 = .ok (.aload_n 0, 1) := by decide +kernel
theorem dX1_sumOfProducts_18 : decode cX1_sumOfProducts 18 = .ok (.getfield 32, 3) := by decide +kernel
theorem dX1_sumOfProducts_21 : decode cX1_sumOfProducts 21 = .ok (.if_icmp .ge 44, 3) := by decide +kernel
theorem dX1_sumOfProducts_24 : decode cX1_sumOfProducts 24 = .ok (.iload 5, 2) := by decide +kernel
theorem dX1_sumOfProducts_26 : decode cX1_sumOfProducts 26 = .ok (.bipush 16, 2) := by decide +kernel
theorem dX1_sumOfProducts_28 : decode cX1_sumOfProducts 28 = .ok (.invokestatic 40, 3) := by decide +kernel
theorem dX1_sumOfProducts_31 : decode cX1_sumOfProducts 31 = .ok (.istore 6, 2) := by decide +kernel
theorem dX1_sumOfProducts_33 : decode cX1_sumOfProducts 33 = .ok (.iload 6, 2) := by decide +kernel
theorem dX1_sumOfProducts_35 : decode cX1_sumOfProducts 35 = .ok (.aload_n 1, 1) := by decide +kernel
theorem dX1_sumOfProducts_36 : decode cX1_sumOfProducts 36 = .ok (.arraylength, 1) := by decide +kernel
theorem dX1_sumOfProducts_37 : decode cX1_sumOfProducts 37 = .ok (.if_icmp .ge 22, 3) := by decide +kernel
theorem dX1_sumOfProducts_40 : decode cX1_sumOfProducts 40 = .ok (.iload 6, 2) := by decide +kernel
theorem dX1_sumOfProducts_42 : decode cX1_sumOfProducts 42 = .ok (.aload_n 2, 1) := by decide +kernel
theorem dX1_sumOfProducts_43 : decode cX1_sumOfProducts 43 = .ok (.arraylength, 1) := by decide +kernel
theorem dX1_sumOfProducts_44 : decode cX1_sumOfProducts 44 = .ok (.if_icmp .ge 15, 3) := by decide +kernel
theorem dX1_sumOfProducts_47 : decode cX1_sumOfProducts 47 = .ok (.dload_n 3, 1) := by decide +kernel
theorem dX1_sumOfProducts_48 : decode cX1_sumOfProducts 48 = .ok (.aload_n 1, 1) := by decide +kernel
theorem dX1_sumOfProducts_49 : decode cX1_sumOfProducts 49 = .ok (.iload 6, 2) := by decide +kernel
theorem dX1_sumOfProducts_51 : decode cX1_sumOfProducts 51 = .ok (.daload, 1) := by decide +kernel
theorem dX1_sumOfProducts_52 : decode cX1_sumOfProducts 52 = .ok (.aload_n 2, 1) := by decide +kernel
theorem dX1_sumOfProducts_53 : decode cX1_sumOfProducts 53 = .ok (.iload 6, 2) := by decide +kernel
theorem dX1_sumOfProducts_55 : decode cX1_sumOfProducts 55 = .ok (.daload, 1) := by decide +kernel
theorem dX1_sumOfProducts_56 : decode cX1_sumOfProducts 56 = .ok (.dmul, 1) := by decide +kernel
theorem dX1_sumOfProducts_57 : decode cX1_sumOfProducts 57 = .ok (.dadd, 1) := by decide +kernel
theorem dX1_sumOfProducts_58 : decode cX1_sumOfProducts 58 = .ok (.dstore_n 3, 1) := by decide +kernel
theorem dX1_sumOfProducts_59 : decode cX1_sumOfProducts 59 = .ok (.iinc 5 1, 3) := by decide +kernel
theorem dX1_sumOfProducts_62 : decode cX1_sumOfProducts 62 = .ok (.goto (-47), 3) := by decide +kernel
theorem dX1_sumOfProducts_65 : decode cX1_sumOfProducts 65 = .ok (.dload_n 3, 1) := by decide +kernel
theorem dX1_sumOfProducts_66 : decode cX1_sumOfProducts 66 = .ok (.dreturn, 1) := by decide +kernel
theorem dX2_init_0 : decode cX2_init 0 = .ok (.aload_n 0, 1) := by decide +kernel
theorem dX2_init_1 : decode cX2_init 1 = .ok (.invokespecial 1, 3) := by decide +kernel
theorem dX2_init_4 : decode cX2_init 4 = .ok (.aload_n 0, 1) := by decide +kernel
theorem dX2_init_5 : decode cX2_init 5 = .ok (.iload_n 1, 1) := by decide +kernel
theorem dX2_init_6 : decode cX2_init 6 = .ok (.putfield 7, 3) := by decide +kernel
theorem dX2_init_9 : decode cX2_init 9 = .ok (.aload_n 0, 1) := by decide +kernel
theorem dX2_init_10 : decode cX2_init 10 = .ok (.iload_n 1, 1) := by decide +kernel
theorem dX2_init_11 : decode cX2_init 11 = .ok (.iload_n 1, 1) := by decide +kernel
theorem dX2_init_12 : decode cX2_init 12 = .ok (.multianewarray 13 2, 4) := by decide +kernel
theorem dX2_init_16 : decode cX2_init 16 = .ok (.putfield 15, 3) := by decide +kernel
theorem dX2_init_19 : decode cX2_init 19 = .ok (.aload_n 0, 1) := by decide +kernel
theorem dX2_init_20 : decode cX2_init 20 = .ok (.iload_n 1, 1) := by decide +kernel
theorem dX2_init_21 : decode cX2_init 21 = .ok (.newarray .double, 2) := by decide +kernel
theorem dX2_init_23 : decode cX2_init 23 = .ok (.putfield 18, 3) := by decide +kernel
theorem dX2_init_26 : decode cX2_init 26 = .ok (.aload_n 0, 1) := by decide +kernel
theorem dX2_init_27 : decode cX2_init 27 = .ok (.iload_n 1, 1) := by decide +kernel
theorem dX2_init_28 : decode cX2_init 28 = .ok (.newarray .double, 2) := by decide +kernel
theorem dX2_init_30 : decode cX2_init 30 = .ok (.putfield 22, 3) := by decide +kernel
theorem dX2_init_33 : decode cX2_init 33 = .ok (.iconst 0, 1) := by decide +kernel
theorem dX2_init_34 : decode cX2_init 34 = .ok (.istore_n 2, 1) := by decide +kernel
theorem dX2_init_35 : decode cX2_init 35 = .ok (.iload_n 2, 1) := by decide +kernel
theorem dX2_init_36 : decode cX2_init 36 = .ok (.iload_n 1, 1) := by decide +kernel
theorem dX2_init_37 : decode cX2_init 37 = .ok (.if_icmp .ge 20, 3) := by decide +kernel
theorem dX2_init_40 : decode cX2_init 40 = .ok (.aload_n 0, 1) := by decide +kernel
theorem dX2_init_41 : decode cX2_init 41 = .ok (.getfield 15, 3) := by decide +kernel
theorem dX2_init_44 : decode cX2_init 44 = .ok (.iload_n 2, 1) := by decide +kernel
theorem dX2_init_45 : decode cX2_init 45 = .ok (.aaload, 1) := by decide +kernel
theorem dX2_init_46 : decode cX2_init 46 = .ok (.iload_n 2, 1) := by decide +kernel
theorem dX2_init_47 : decode cX2_init 47 = .ok (.ldc2_w 25, 3) := by decide +kernel
theorem dX2_init_50 : decode cX2_init 50 = .ok (.dastore, 1) := by decide +kernel
theorem dX2_init_51 : decode cX2_init 51 = .ok (.iinc 2 1, 3) := by decide +kernel
theorem dX2_init_54 : decode cX2_init 54 = .ok (.goto (-19), 3) := by decide +kernel
theorem dX2_init_57 : decode cX2_init 57 = .ok (.return_, 1) := by decide +kernel
theorem dX2_restart_0 : decode cX2_restart 0 = .ok (.iconst 0, 1) := by decide +kernel
theorem dX2_restart_1 : decode cX2_restart 1 = .ok (.istore_n 1, 1) := by decide +kernel
theorem dX2_restart_2 : decode cX2_restart 2 = .ok (.iload_n 1, 1) := by decide +kernel
theorem dX2_restart_3 : decode cX2_restart 3 = .ok (.aload_n 0, 1) := by decide +kernel
theorem dX2_restart_4 : decode cX2_restart 4 = .ok (.getfield 7, 3) := by decide +kernel
theorem dX2_restart_7 : decode cX2_restart 7 = .ok (.if_icmp .ge 45, 3) := by decide +kernel
theorem dX2_restart_10 : decode cX2_restart 10 = .ok (.iconst 0, 1) := by decide +kernel
theorem dX2_restart_11 : decode cX2_restart 11 = .ok (.istore_n 2, 1) := by decide +kernel
theorem dX2_restart_12 : decode cX2_restart 12 = .ok (.iload_n 2, 1) := by decide +kernel
theorem dX2_restart_13 : decode cX2_restart 13 = .ok (.aload_n 0, 1) := by decide +kernel
theorem dX2_restart_14 : decode cX2_restart 14 = .ok (.getfield 7, 3) := by decide +kernel
theorem dX2_restart_17 : decode cX2_restart 17 = .ok (.if_icmp .ge 29, 3) := by decide +kernel
theorem dX2_restart_20 : decode cX2_restart 20 = .ok (.aload_n 0, 1) := by decide +kernel
theorem dX2_restart_21 : decode cX2_restart 21 = .ok (.getfield 15, 3) := by decide +kernel
theorem dX2_restart_24 : decode cX2_restart 24 = .ok (.iload_n 1, 1) := by decide +kernel
theorem dX2_restart_25 : decode cX2_restart 25 = .ok (.aaload, 1) := by decide +kernel
theorem dX2_restart_26 : decode cX2_restart 26 = .ok (.iload_n 2, 1) := by decide +kernel
theorem dX2_restart_27 : decode cX2_restart 27 = .ok (.iload_n 1, 1) := by decide +kernel
theorem dX2_restart_28 : decode cX2_restart 28 = .ok (.iload_n 2, 1) := by decide +kernel
theorem dX2_restart_29 : decode cX2_restart 29 = .ok (.if_icmp .ne 9, 3) := by decide +kernel
theorem dX2_restart_32 : decode cX2_restart 32 = .ok (.ldc2_w 25, 3) := by decide +kernel
theorem dX2_restart_35 : decode cX2_restart 35 = .ok (.goto 4, 3) := by decide +kernel
theorem dX2_restart_38 : decode cX2_restart 38 = .ok (.dconst 0, 1) := by decide +kernel
theorem dX2_restart_39 : decode cX2_restart 39 = .ok (.dastore, 1) := by decide +kernel
theorem dX2_restart_40 : decode cX2_restart 40 = .ok (.iinc 2 1, 3) := by decide +kernel
theorem dX2_restart_43 : decode cX2_restart 43 = .ok (.goto (-31), 3) := by decide +kernel
theorem dX2_restart_46 : decode cX2_restart 46 = .ok (.iinc 1 1, 3) := by decide +kernel
theorem dX2_restart_49 : decode cX2_restart 49 = .ok (.goto (-47), 3) := by decide +kernel
theorem dX2_restart_52 : decode cX2_restart 52 = .ok (.return_, 1) := by decide +kernel
set_option maxRecDepth 20000 in
theorem ggX2_number_X3_isWithin : GoodIn wsX2_number wsX3_isWithin := goodIn_r _ [5] (by decide +kernel) (by decide +kernel)
set_option maxRecDepth 20000 in
theorem gX2_number_X3_isWithin_n27 : GoodIn wsX2_number (wsX3_isWithin) := ggX2_number_X3_isWithin
theorem dX2_number_0 : decode cX2_number 0 = .ok (.iload_n 1, 1) := by decide +kernel
theorem dX2_number_1 : decode cX2_number 1 = .ok (.iconst 0, 1) := by decide +kernel
theorem dX2_number_2 : decode cX2_number 2 = .ok (.aload_n 0, 1) := by decide +kernel
theorem dX2_number_3 : decode cX2_number 3 = .ok (.getfield 7, 3) := by decide +kernel
theorem dX2_number_6 : decode cX2_number 6 = .ok (.iconst 1, 1) := by decide +kernel
theorem dX2_number_7 : decode cX2_number 7 = .ok (.isub, 1) := by decide +kernel
theorem dX2_number_8 : decode cX2_number 8 = .ok (.invokestatic 27, 3) := by decide +kernel
theorem dX2_number_11 : decode cX2_number 11 = .ok (.ifCond .eq 28, 3) := by decide +kernel
theorem dX2_number_14 : decode cX2_number 14 = .ok (.iload_n 2, 1) := by decide +kernel
theorem dX2_number_15 : decode cX2_number 15 = .ok (.iconst 0, 1) := by decide +kernel
theorem dX2_number_16 : decode cX2_number 16 = .ok (.aload_n 0, 1) := by decide +kernel
theorem dX2_number_17 : decode cX2_number 17 = .ok (.getfield 7, 3) := by decide +kernel
theorem dX2_number_20 : decode cX2_number 20 = .ok (.iconst 1, 1) := by decide +kernel
theorem dX2_number_21 : decode cX2_number 21 = .ok (.isub, 1) := by decide +kernel
theorem dX2_number_22 : decode cX2_number 22 = .ok (.invokestatic 27, 3) := by decide +kernel
theorem dX2_number_25 : decode cX2_number 25 = .ok (.ifCond .eq 14, 3) := by decide +kernel
theorem dX2_number_28 : decode cX2_number 28 = .ok (.aload_n 0, 1) := by decide +kernel
theorem dX2_number_29 : decode cX2_number 29 = .ok (.getfield 15, 3) := by decide +kernel
