theorem dX3_takeSample_40 : decode cX3_takeSample 40 = .ok (.aload_n 0, 1) := by decide +kernel
theorem dX3_takeSample_41 : decode cX3_takeSample 41 = .ok (.getfield 10, 3) := by decide +kernel
theorem dX3_takeSample_44 : decode cX3_takeSample 44 = .ok (.getfield 139, 3) := by decide +kernel
theorem dX3_takeSample_47 : decode cX3_takeSample 47 = .ok (.invokevirtual 168, 3) := by decide +kernel
theorem dX3_takeSample_50 : decode cX3_takeSample 50 = .ok (.iinc 3 1, 3) := by decide +kernel
theorem dX3_takeSample_53 : decode cX3_takeSample 53 = .ok (.goto (-42), 3) := by decide +kernel
theorem dX3_takeSample_56 : decode cX3_takeSample 56 = .ok (.return_, 1) := by decide +kernel
theorem dJ9_floorMod_7cf53_0 : decode cJ9_floorMod_7cf53 0 = .ok (.iload_n 0, 1) := by decide +kernel
theorem dJ9_floorMod_7cf53_1 : decode cJ9_floorMod_7cf53 1 = .ok (.iload_n 1, 1) := by decide +kernel
theorem dJ9_floorMod_7cf53_2 : decode cJ9_floorMod_7cf53 2 = .ok (.irem, 1) := by decide +kernel
theorem dJ9_floorMod_7cf53_3 : decode cJ9_floorMod_7cf53 3 = .ok (.istore_n 2, 1) := by decide +kernel
theorem dJ9_floorMod_7cf53_4 : decode cJ9_floorMod_7cf53 4 = .ok (.iload_n 0, 1) := by decide +kernel
theorem dJ9_floorMod_7cf53_5 : decode cJ9_floorMod_7cf53 5 = .ok (.iload_n 1, 1) := by decide +kernel
theorem dJ9_floorMod_7cf53_6 : decode cJ9_floorMod_7cf53 6 = .ok (.ixor, 1) := by decide +kernel
theorem dJ9_floorMod_7cf53_7 : decode cJ9_floorMod_7cf53 7 = .ok (.ifCond .ge 11, 3) := by decide +kernel
theorem dJ9_floorMod_7cf53_10 : decode cJ9_floorMod_7cf53 10 = .ok (.iload_n 2, 1) := by decide +kernel
theorem dJ9_floorMod_7cf53_11 : decode cJ9_floorMod_7cf53 11 = .ok (.ifCond .eq 7, 3) := by decide +kernel
theorem dJ9_floorMod_7cf53_14 : decode cJ9_floorMod_7cf53 14 = .ok (.iload_n 2, 1) := by decide +kernel
theorem dJ9_floorMod_7cf53_15 : decode cJ9_floorMod_7cf53 15 = .ok (.iload_n 1, 1) := by decide +kernel
theorem dJ9_floorMod_7cf53_16 : decode cJ9_floorMod_7cf53 16 = .ok (.iadd, 1) := by decide +kernel
theorem dJ9_floorMod_7cf53_17 : decode cJ9_floorMod_7cf53 17 = .ok (.ireturn, 1) := by decide +kernel
theorem dJ9_floorMod_7cf53_18 : decode cJ9_floorMod_7cf53 18 = .ok (.iload_n 2, 1) := by decide +kernel
theorem dJ9_floorMod_7cf53_19 : decode cJ9_floorMod_7cf53 19 = .ok (.ireturn, 1) := by decide +kernel
theorem dJ9_max_7cf53_0 : decode cJ9_max_7cf53 0 = .ok (.iload_n 0, 1) := by decide +kernel
theorem dJ9_max_7cf53_1 : decode cJ9_max_7cf53 1 = .ok (.iload_n 1, 1) := by decide +kernel
theorem dJ9_max_7cf53_2 : decode cJ9_max_7cf53 2 = .ok (.if_icmp .lt 7, 3) := by decide +kernel
theorem dJ9_max_7cf53_5 : decode cJ9_max_7cf53 5 = .ok (.iload_n 0, 1) := by decide +kernel
theorem dJ9_max_7cf53_6 : decode cJ9_max_7cf53 6 = .ok (.goto 4, 3) := by decide +kernel
theorem dJ9_max_7cf53_9 : decode cJ9_max_7cf53 9 = .ok (.iload_n 1, 1) := by decide +kernel
theorem dJ9_max_7cf53_10 : decode cJ9_max_7cf53 10 = .ok (.ireturn, 1) := by decide +kernel
theorem dJ7_fill_7f8df_0 : decode cJ7_fill_7f8df 0 = .ok (.iconst 0, 1) := by decide +kernel
theorem dJ7_fill_7f8df_1 : decode cJ7_fill_7f8df 1 = .ok (.istore_n 3, 1) := by decide +kernel
theorem dJ7_fill_7f8df_2 : decode cJ7_fill_7f8df 2 = .ok (.aload_n 0, 1) := by decide +kernel
theorem dJ7_fill_7f8df_3 : decode cJ7_fill_7f8df 3 = .ok (.arraylength, 1) := by decide +kernel
theorem dJ7_fill_7f8df_4 : decode cJ7_fill_7f8df 4 = .ok (.istore 4, 2) := by decide +kernel
theorem dJ7_fill_7f8df_6 : decode cJ7_fill_7f8df 6 = .ok (.iload_n 3, 1) := by decide +kernel
theorem dJ7_fill_7f8df_7 : decode cJ7_fill_7f8df 7 = .ok (.iload 4, 2) := by decide +kernel
theorem dJ7_fill_7f8df_9 : decode cJ7_fill_7f8df 9 = .ok (.if_icmp .ge 13, 3) := by decide +kernel
theorem dJ7_fill_7f8df_12 : decode cJ7_fill_7f8df 12 = .ok (.aload_n 0, 1) := by decide +kernel
theorem dJ7_fill_7f8df_13 : decode cJ7_fill_7f8df 13 = .ok (.iload_n 3, 1) := by decide +kernel
theorem dJ7_fill_7f8df_14 : decode cJ7_fill_7f8df 14 = .ok (.dload_n 1, 1) := by decide +kernel
theorem dJ7_fill_7f8df_15 : decode cJ7_fill_7f8df 15 = .ok (.dastore, 1) := by decide +kernel
theorem dJ7_fill_7f8df_16 : decode cJ7_fill_7f8df 16 = .ok (.iinc 3 1, 3) := by decide +kernel
theorem dJ7_fill_7f8df_19 : decode cJ7_fill_7f8df 19 = .ok (.goto (-13), 3) := by decide +kernel
theorem dJ7_fill_7f8df_22 : decode cJ7_fill_7f8df 22 = .ok (.return_, 1) := by decide +kernel
theorem dL_cell_0 : decode cL_cell 0 = .ok (.iload_n 1, 1) := by decide +kernel
theorem dL_cell_1 : decode cL_cell 1 = .ok (.aload_n 0, 1) := by decide +kernel
theorem dL_cell_2 : decode cL_cell 2 = .ok (.arraylength, 1) := by decide +kernel
theorem dL_cell_3 : decode cL_cell 3 = .ok (.if_icmp .ge 9, 3) := by decide +kernel
theorem dL_cell_6 : decode cL_cell 6 = .ok (.aload_n 0, 1) := by decide +kernel
theorem dL_cell_7 : decode cL_cell 7 = .ok (.iload_n 1, 1) := by decide +kernel
theorem dL_cell_8 : decode cL_cell 8 = .ok (.iaload, 1) := by decide +kernel
theorem dL_cell_9 : decode cL_cell 9 = .ok (.goto 18, 3) := by decide +kernel
theorem dL_cell_12 : decode cL_cell 12 = .ok (.sipush 7919, 3) := by decide +kernel
theorem dL_cell_15 : decode cL_cell 15 = .ok (.iload_n 1, 1) := by decide +kernel
theorem dL_cell_16 : decode cL_cell 16 = .ok (.sipush 2423, 3) := by decide +kernel
theorem dL_cell_19 : decode cL_cell 19 = .ok (.iadd, 1) := by decide +kernel
theorem dL_cell_20 : decode cL_cell 20 = .ok (.imul, 1) := by decide +kernel
theorem dL_cell_21 : decode cL_cell 21 = .ok (.iload_n 1, 1) := by decide +kernel
theorem dL_cell_22 : decode cL_cell 22 = .ok (.sipush 241, 3) := by decide +kernel
theorem dL_cell_25 : decode cL_cell 25 = .ok (.iadd, 1) := by decide +kernel
theorem dL_cell_26 : decode cL_cell 26 = .ok (.imul, 1) := by decide +kernel
theorem dL_cell_27 : decode cL_cell 27 = .ok (.ireturn, 1) := by decide +kernel
theorem dL_low_0 : decode cL_low 0 = .ok (.iload_n 0, 1) := by decide +kernel
theorem dL_low_1 : decode cL_low 1 = .ok (.ldc 7, 2) := by decide +kernel
theorem dL_low_3 : decode cL_low 3 = .ok (.iand, 1) := by decide +kernel
theorem dL_low_4 : decode cL_low 4 = .ok (.iload_n 1, 1) := by decide +kernel
theorem dL_low_5 : decode cL_low 5 = .ok (.irem, 1) := by decide +kernel
theorem dL_low_6 : decode cL_low 6 = .ok (.ireturn, 1) := by decide +kernel
set_option maxRecDepth 20000 in
theorem ggL_path_X3_path : GoodIn wsL_path wsX3_path := goodIn_ca (goodIn_ca (goodIn_r _ [8, 9, 10, 11, 12, 13, 14, 15, 7, 16, 17, 18, 19, 20, 21, 22, 23, 24, 25, 26, 27, 28, 29, 30, 31] (by decide +kernel) (by decide +kernel)) (goodIn_sub (fun _ h => List.mem_cons_of_mem _ (List.mem_append_left _ (List.mem_append_right _ h))) (by decide +kernel))) (goodIn_sub (fun _ h => List.mem_cons_of_mem _ (List.mem_append_right _ h)) (by decide +kernel))
set_option maxRecDepth 20000 in
theorem gL_path_X3_path : GoodIn wsL_path (wsV RL 8 RX3 yX3_path wsX3_path) := goodIn_app (goodIn_of _ (by decide +kernel)) ggL_path_X3_path
theorem dL_path_0 : decode cL_path 0 = .ok (.aload_n 0, 1) := by decide +kernel
theorem dL_path_1 : decode cL_path 1 = .ok (.iload_n 1, 1) := by decide +kernel
theorem dL_path_2 : decode cL_path 2 = .ok (.iload_n 2, 1) := by decide +kernel
theorem dL_path_3 : decode cL_path 3 = .ok (.invokevirtual 8, 3) := by decide +kernel
theorem dL_path_6 : decode cL_path 6 = .ok (.i2l, 1) := by decide +kernel
theorem dL_path_7 : decode cL_path 7 = .ok (.lreturn, 1) := by decide +kernel
theorem dL_path_8 : decode cL_path 8 = .ok (.astore_n 3, 1) := by decide +kernel
theorem dL_path_9 : decode cL_path 9 = .ok (.ldc2_w 16, 3) := by decide +kernel
theorem dL_path_12 : decode cL_path 12 = .ok (.lreturn, 1) := by decide +kernel
theorem dL_path_13 : decode cL_path 13 = .ok (.astore_n 3, 1) := by decide +kernel
theorem dL_path_14 : decode cL_path 14 = .ok (.ldc2_w 16, 3) := by decide +kernel
theorem dL_path_17 : decode cL_path 17 = .ok (.lreturn, 1) := by decide +kernel
set_option maxRecDepth 20000 in
theorem ggL_filter_X3_filter : GoodIn wsL_filter wsX3_filter := goodIn_ca (goodIn_ca (goodIn_r _ [8, 9, 10, 11, 12, 13, 14, 15, 16, 17, 18, 19, 7, 20, 21, 22, 23, 24, 25, 26, 27, 28, 29, 30, 31, 32, 33, 34, 35, 36, 37, 38, 39, 40, 41, 42, 43, 44, 45, 46, 47, 48, 49, 50, 51, 52, 53, 54, 55, 56, 57, 58, 59, 60, 61, 62, 63, 64, 65, 66] (by decide +kernel) (by decide +kernel)) (goodIn_sub (fun _ h => List.mem_cons_of_mem _ (List.mem_append_left _ (List.mem_append_right _ h))) (by decide +kernel))) (goodIn_sub (fun _ h => List.mem_cons_of_mem _ (List.mem_append_right _ h)) (by decide +kernel))
set_option maxRecDepth 20000 in
theorem gL_filter_X3_filter : GoodIn wsL_filter (wsV RL 20 RX3 yX3_filter wsX3_filter) := goodIn_app (goodIn_of _ (by decide +kernel)) ggL_filter_X3_filter
theorem dL_filter_0 : decode cL_filter 0 = .ok (.aload_n 0, 1) := by decide +kernel
theorem dL_filter_1 : decode cL_filter 1 = .ok (.iload_n 1, 1) := by decide +kernel
theorem dL_filter_2 : decode cL_filter 2 = .ok (.iload_n 2, 1) := by decide +kernel
theorem dL_filter_3 : decode cL_filter 3 = .ok (.iload_n 3, 1) := by decide +kernel
theorem dL_filter_4 : decode cL_filter 4 = .ok (.invokevirtual 20, 3) := by decide +kernel
theorem dL_filter_7 : decode cL_filter 7 = .ok (.i2l, 1) := by decide +kernel
theorem dL_filter_8 : decode cL_filter 8 = .ok (.lreturn, 1) := by decide +kernel
theorem dL_filter_9 : decode cL_filter 9 = .ok (.astore 4, 2) := by decide +kernel
theorem dL_filter_11 : decode cL_filter 11 = .ok (.ldc2_w 16, 3) := by decide +kernel
theorem dL_filter_14 : decode cL_filter 14 = .ok (.lreturn, 1) := by decide +kernel
theorem dL_filter_15 : decode cL_filter 15 = .ok (.astore 4, 2) := by decide +kernel
theorem dL_filter_17 : decode cL_filter 17 = .ok (.ldc2_w 16, 3) := by decide +kernel
theorem dL_filter_20 : decode cL_filter 20 = .ok (.lreturn, 1) := by decide +kernel
set_option maxRecDepth 20000 in
theorem ggL_step_X3_step : GoodIn wsL_step wsX3_step := goodIn_ca (goodIn_ca (goodIn_r _ [8, 9, 10, 11, 12, 13, 14, 15, 7, 16, 17, 18, 19, 20, 21, 22, 23, 24, 25, 26, 27, 28, 29, 30, 31, 32, 33, 34, 35, 36, 37, 38, 39, 40] (by decide +kernel) (by decide +kernel)) (goodIn_sub (fun _ h => List.mem_cons_of_mem _ (List.mem_append_left _ (List.mem_append_right _ h))) (by decide +kernel))) (goodIn_sub (fun _ h => List.mem_cons_of_mem _ (List.mem_append_right _ h)) (by decide +kernel))
set_option maxRecDepth 20000 in
theorem gL_step_X3_step : GoodIn wsL_step (wsV RL 26 RX3 yX3_step wsX3_step) := goodIn_app (goodIn_of _ (by decide +kernel)) ggL_step_X3_step
theorem dL_step_0 : decode cL_step 0 = .ok (.aload_n 0, 1) := by decide +kernel
theorem dL_step_1 : decode cL_step 1 = .ok (.iload_n 1, 1) := by decide +kernel
theorem dL_step_2 : decode cL_step 2 = .ok (.iload_n 2, 1) := by decide +kernel
theorem dL_step_3 : decode cL_step 3 = .ok (.invokevirtual 26, 3) := by decide +kernel
theorem dL_step_6 : decode cL_step 6 = .ok (.i2l, 1) := by decide +kernel
theorem dL_step_7 : decode cL_step 7 = .ok (.lreturn, 1) := by decide +kernel
theorem dL_step_8 : decode cL_step 8 = .ok (.astore_n 3, 1) := by decide +kernel
theorem dL_step_9 : decode cL_step 9 = .ok (.ldc2_w 16, 3) := by decide +kernel
theorem dL_step_12 : decode cL_step 12 = .ok (.lreturn, 1) := by decide +kernel
theorem dL_step_13 : decode cL_step 13 = .ok (.astore_n 3, 1) := by decide +kernel
theorem dL_step_14 : decode cL_step 14 = .ok (.ldc2_w 16, 3) := by decide +kernel
theorem dL_step_17 : decode cL_step 17 = .ok (.lreturn, 1) := by decide +kernel
set_option maxRecDepth 20000 in
theorem ggL_watch_X3_watch : GoodIn wsL_watch wsX3_watch := goodIn_ca (goodIn_ca (goodIn_r _ [8, 9, 10, 11, 12, 13, 14, 15, 7, 16, 17, 18, 19, 20, 21, 22, 23, 24, 25, 26, 27, 28, 29, 30, 31, 32, 33, 34, 35, 36, 37] (by decide +kernel) (by decide +kernel)) (goodIn_sub (fun _ h => List.mem_cons_of_mem _ (List.mem_append_left _ (List.mem_append_right _ h))) (by decide +kernel))) (goodIn_sub (fun _ h => List.mem_cons_of_mem _ (List.mem_append_right _ h)) (by decide +kernel))
set_option maxRecDepth 20000 in
theorem gL_watch_X3_watch : GoodIn wsL_watch (wsV RL 29 RX3 yX3_watch wsX3_watch) := goodIn_app (goodIn_of _ (by decide +kernel)) ggL_watch_X3_watch
theorem dL_watch_0 : decode cL_watch 0 = .ok (.aload_n 0, 1) := by decide +kernel
theorem dL_watch_1 : decode cL_watch 1 = .ok (.iload_n 1, 1) := by decide +kernel
theorem dL_watch_2 : decode cL_watch 2 = .ok (.iload_n 2, 1) := by decide +kernel
theorem dL_watch_3 : decode cL_watch 3 = .ok (.iload_n 3, 1) := by decide +kernel
theorem dL_watch_4 : decode cL_watch 4 = .ok (.invokevirtual 29, 3) := by decide +kernel
theorem dL_watch_7 : decode cL_watch 7 = .ok (.lconst 0, 1) := by decide +kernel
theorem dL_watch_8 : decode cL_watch 8 = .ok (.lreturn, 1) := by decide +kernel
theorem dL_watch_9 : decode cL_watch 9 = .ok (.astore 4, 2) := by decide +kernel
theorem dL_watch_11 : decode cL_watch 11 = .ok (.ldc2_w 16, 3) := by decide +kernel
theorem dL_watch_14 : decode cL_watch 14 = .ok (.lreturn, 1) := by decide +kernel
theorem dL_watch_15 : decode cL_watch 15 = .ok (.astore 4, 2) := by decide +kernel
theorem dL_watch_17 : decode cL_watch 17 = .ok (.ldc2_w 16, 3) := by decide +kernel
theorem dL_watch_20 : decode cL_watch 20 = .ok (.lreturn, 1) := by decide +kernel
set_option maxRecDepth 20000 in
theorem ggL_begin_X3_begin : GoodIn wsL_begin wsX3_begin := goodIn_ca (goodIn_r _ [7, 8, 9, 10, 11, 12, 6, 13, 14, 15, 16, 17, 18, 19, 20, 21, 22, 23, 24, 25, 26, 27, 28, 29, 30, 31, 32, 33, 34, 35, 36, 37, 38, 39, 40, 41, 42, 43, 44, 45, 46, 47, 48, 49, 50, 51, 52, 53, 54, 55, 56, 57, 58] (by decide +kernel) (by decide +kernel)) (goodIn_sub (fun _ h => List.mem_cons_of_mem _ (List.mem_append_right _ h)) (by decide +kernel))
set_option maxRecDepth 20000 in
theorem gL_begin_X3_begin : GoodIn wsL_begin (wsV RL 33 RX3 yX3_begin wsX3_begin) := goodIn_app (goodIn_of _ (by decide +kernel)) ggL_begin_X3_begin
theorem dL_begin_0 : decode cL_begin 0 = .ok (.aload_n 0, 1) := by decide +kernel
theorem dL_begin_1 : decode cL_begin 1 = .ok (.iload_n 1, 1) := by decide +kernel
theorem dL_begin_2 : decode cL_begin 2 = .ok (.invokevirtual 33, 3) := by decide +kernel
theorem dL_begin_5 : decode cL_begin 5 = .ok (.lconst 0, 1) := by decide +kernel
theorem dL_begin_6 : decode cL_begin 6 = .ok (.lreturn, 1) := by decide +kernel
theorem dL_begin_7 : decode cL_begin 7 = .ok (.astore_n 2, 1) := by decide +kernel
theorem dL_begin_8 : decode cL_begin 8 = .ok (.ldc2_w 16, 3) := by decide +kernel
theorem dL_begin_11 : decode cL_begin 11 = .ok (.lreturn, 1) := by decide +kernel
set_option maxRecDepth 20000 in
theorem ggL_feed_X3_feed : GoodIn wsL_feed wsX3_feed := goodIn_ca (goodIn_ca (goodIn_r _ [8, 9, 10, 11, 12, 13, 14, 15, 7, 16, 17, 18, 19, 20, 21, 22, 23, 24, 25, 26, 27, 28, 29, 30, 31, 32, 33, 34, 35, 36, 37, 38, 39, 40, 41, 42, 43, 44, 45, 46, 47, 48, 49, 50, 51, 52, 53, 54, 55, 56, 57, 58, 59, 60, 61, 62, 63, 64, 65, 66, 67, 68, 69, 70, 71, 72, 73, 74, 75, 76, 77, 78, 79, 80, 81, 82, 83, 84, 85, 86, 87, 88, 89, 90, 91, 92, 93, 94, 95, 96, 97, 98, 99, 100, 101, 102, 103, 104, 105, 106, 107, 108, 109, 110, 111, 112, 113, 114, 115, 116, 117, 118, 119, 120, 121, 122, 123, 124, 125, 126, 127, 128, 129, 130, 131, 132, 133, 134, 135, 136, 137, 138, 139, 140, 141, 142, 143, 144, 145, 146, 147, 148, 149, 150, 151, 152, 153, 154] (by decide +kernel) (by decide +kernel)) (goodIn_sub (fun _ h => List.mem_cons_of_mem _ (List.mem_append_left _ (List.mem_append_right _ h))) (by decide +kernel))) (goodIn_sub (fun _ h => List.mem_cons_of_mem _ (List.mem_append_right _ h)) (by decide +kernel))
set_option maxRecDepth 20000 in
theorem gL_feed_X3_feed : GoodIn wsL_feed (wsV RL 37 RX3 yX3_feed wsX3_feed) := goodIn_app (goodIn_of _ (by decide +kernel)) ggL_feed_X3_feed
theorem dL_feed_0 : decode cL_feed 0 = .ok (.aload_n 0, 1) := by decide +kernel
theorem dL_feed_1 : decode cL_feed 1 = .ok (.iload_n 1, 1) := by decide +kernel
theorem dL_feed_2 : decode cL_feed 2 = .ok (.iload_n 2, 1) := by decide +kernel
theorem dL_feed_3 : decode cL_feed 3 = .ok (.invokevirtual 37, 3) := by decide +kernel
theorem dL_feed_6 : decode cL_feed 6 = .ok (.i2l, 1) := by decide +kernel
theorem dL_feed_7 : decode cL_feed 7 = .ok (.lreturn, 1) := by decide +kernel
theorem dL_feed_8 : decode cL_feed 8 = .ok (.astore_n 3, 1) := by decide +kernel
theorem dL_feed_9 : decode cL_feed 9 = .ok (.ldc2_w 16, 3) := by decide +kernel
theorem dL_feed_12 : decode cL_feed 12 = .ok (.lreturn, 1) := by decide +kernel
theorem dL_feed_13 : decode cL_feed 13 = .ok (.astore_n 3, 1) := by decide +kernel
theorem dL_feed_14 : decode cL_feed 14 = .ok (.ldc2_w 16, 3) := by decide +kernel
theorem dL_feed_17 : decode cL_feed 17 = .ok (.lreturn, 1) := by decide +kernel
set_option maxRecDepth 20000 in
theorem ggL_script_X3_script : GoodIn wsL_script wsX3_script := goodIn_ca (goodIn_ca (goodIn_r _ [8, 9, 10, 11, 12, 13, 14, 15, 7, 16, 17, 18, 19, 20, 21, 22, 23, 24, 25, 26, 27, 28, 29, 30, 31, 32, 33, 34, 35, 36, 37, 38, 39, 40, 41, 42, 43, 44, 45, 46, 47, 48, 49, 50, 51, 52, 53, 54, 55, 56, 57, 58, 59, 60, 61, 62, 63, 64, 65, 66, 67, 68, 69, 70, 71, 72, 73, 74, 75, 76, 77, 78, 79, 80, 81, 82, 83, 84, 85, 86, 87, 88, 89, 90, 91, 92, 93, 94, 95, 96, 97, 98, 99, 100, 101, 102, 103, 104, 105, 106, 107, 108, 109, 110, 111, 112, 113, 114, 115, 116, 117, 118, 119, 120, 121, 122, 123, 124, 125, 126, 127, 128, 129, 130, 131, 132, 133, 134, 135, 136, 137, 138, 139, 140, 141, 142, 143, 144, 145, 146, 147, 148, 149, 150, 151, 152, 153, 154] (by decide +kernel) (by decide +kernel)) (goodIn_sub (fun _ h => List.mem_cons_of_mem _ (List.mem_append_left _ (List.mem_append_right _ h))) (by decide +kernel))) (goodIn_sub (fun _ h => List.mem_cons_of_mem _ (List.mem_append_right _ h)) (by decide +kernel))
set_option maxRecDepth 20000 in
theorem gL_script_X3_script : GoodIn wsL_script (wsV RL 40 RX3 yX3_script wsX3_script) := goodIn_app (goodIn_of _ (by decide +kernel)) ggL_script_X3_script
theorem dL_script_0 : decode cL_script 0 = .ok (.aload_n 0, 1) := by decide +kernel
theorem dL_script_1 : decode cL_script 1 = .ok (.iload_n 1, 1) := by decide +kernel
theorem dL_script_2 : decode cL_script 2 = .ok (.iload_n 2, 1) := by decide +kernel
theorem dL_script_3 : decode cL_script 3 = .ok (.invokevirtual 40, 3) := by decide +kernel
theorem dL_script_6 : decode cL_script 6 = .ok (.i2l, 1) := by decide +kernel
theorem dL_script_7 : decode cL_script 7 = .ok (.lreturn, 1) := by decide +kernel
theorem dL_script_8 : decode cL_script 8 = .ok (.astore_n 3, 1) := by decide +kernel
theorem dL_script_9 : decode cL_script 9 = .ok (.ldc2_w 16, 3) := by decide +kernel
theorem dL_script_12 : decode cL_script 12 = .ok (.lreturn, 1) := by decide +kernel
theorem dL_script_13 : decode cL_script 13 = .ok (.astore_n 3, 1) := by decide +kernel
theorem dL_script_14 : decode cL_script 14 = .ok (.ldc2_w 16, 3) := by decide +kernel
theorem dL_script_17 : decode cL_script 17 = .ok (.lreturn, 1) := by decide +kernel
set_option maxRecDepth 20000 in
theorem ggL_weight_X3_weight : GoodIn wsL_weight wsX3_weight := goodIn_ca (goodIn_r _ [8, 9, 10, 11, 12, 13, 7, 14, 15, 16, 17, 18, 19, 20, 21, 22, 23, 24, 25, 26, 27, 28, 29, 30, 31, 32] (by decide +kernel) (by decide +kernel)) (goodIn_sub (fun _ h => List.mem_cons_of_mem _ (List.mem_append_right _ h)) (by decide +kernel))
set_option maxRecDepth 20000 in
theorem gL_weight_X3_weight : GoodIn wsL_weight (wsV RL 45 RX3 yX3_weight wsX3_weight) := goodIn_app (goodIn_of _ (by decide +kernel)) ggL_weight_X3_weight
theorem dL_weight_0 : decode cL_weight 0 = .ok (.ldc2_w 43, 3) := by decide +kernel
theorem dL_weight_3 : decode cL_weight 3 = .ok (.aload_n 0, 1) := by decide +kernel
theorem dL_weight_4 : decode cL_weight 4 = .ok (.iload_n 1, 1) := by decide +kernel
theorem dL_weight_5 : decode cL_weight 5 = .ok (.iload_n 2, 1) := by decide +kernel
theorem dL_weight_6 : decode cL_weight 6 = .ok (.invokevirtual 45, 3) := by decide +kernel
theorem dL_weight_9 : decode cL_weight 9 = .ok (.dmul, 1) := by decide +kernel
theorem dL_weight_10 : decode cL_weight 10 = .ok (.d2l, 1) := by decide +kernel
theorem dL_weight_11 : decode cL_weight 11 = .ok (.lreturn, 1) := by decide +kernel
theorem dL_weight_12 : decode cL_weight 12 = .ok (.astore_n 3, 1) := by decide +kernel
theorem dL_weight_13 : decode cL_weight 13 = .ok (.ldc2_w 16, 3) := by decide +kernel
theorem dL_weight_16 : decode cL_weight 16 = .ok (.lreturn, 1) := by decide +kernel
set_option maxRecDepth 20000 in
theorem ggL_of_X3_of : GoodIn wsL_of wsX3_of := goodIn_ca (goodIn_ca (goodIn_r _ [9, 10, 11, 12, 13, 14, 15, 16, 17, 8, 18, 19, 20, 21, 22, 23, 24, 25, 26, 27, 28, 29, 30, 31, 32, 33, 34, 35, 36, 37, 38, 39, 40, 41, 42, 43, 44, 45, 46, 47, 48, 49, 50, 51, 52, 53, 54, 55, 56, 57, 58, 59, 60, 61, 62, 63] (by decide +kernel) (by decide +kernel)) (goodIn_sub (fun _ h => List.mem_cons_of_mem _ (List.mem_append_left _ (List.mem_append_right _ h))) (by decide +kernel))) (goodIn_sub (fun _ h => List.mem_cons_of_mem _ (List.mem_append_right _ h)) (by decide +kernel))
set_option maxRecDepth 20000 in
theorem gL_of_X3_of : GoodIn wsL_of (wsV RL 49 RX3 yX3_of wsX3_of) := goodIn_app (goodIn_of _ (by decide +kernel)) ggL_of_X3_of
theorem dL_of_0 : decode cL_of 0 = .ok (.ldc2_w 43, 3) := by decide +kernel
theorem dL_of_3 : decode cL_of 3 = .ok (.aload_n 0, 1) := by decide +kernel
theorem dL_of_4 : decode cL_of 4 = .ok (.iload_n 1, 1) := by decide +kernel
theorem dL_of_5 : decode cL_of 5 = .ok (.iload_n 2, 1) := by decide +kernel
theorem dL_of_6 : decode cL_of 6 = .ok (.invokevirtual 49, 3) := by decide +kernel
theorem dL_of_9 : decode cL_of 9 = .ok (.dmul, 1) := by decide +kernel
theorem dL_of_10 : decode cL_of 10 = .ok (.d2l, 1) := by decide +kernel
theorem dL_of_11 : decode cL_of 11 = .ok (.lreturn, 1) := by decide +kernel
theorem dL_of_12 : decode cL_of 12 = .ok (.astore_n 3, 1) := by decide +kernel
theorem dL_of_13 : decode cL_of 13 = .ok (.ldc2_w 16, 3) := by decide +kernel
theorem dL_of_16 : decode cL_of 16 = .ok (.lreturn, 1) := by decide +kernel
theorem dL_of_17 : decode cL_of 17 = .ok (.astore_n 3, 1) := by decide +kernel
theorem dL_of_18 : decode cL_of 18 = .ok (.ldc2_w 16, 3) := by decide +kernel
theorem dL_of_21 : decode cL_of 21 = .ok (.lreturn, 1) := by decide +kernel
set_option maxRecDepth 20000 in
theorem ggL_count_X3_count : GoodIn wsL_count wsX3_count := goodIn_ca (goodIn_ca (goodIn_r _ [8, 9, 10, 11, 12, 13, 14, 15, 7, 16, 17, 18, 19, 20, 21, 22, 23, 24, 25, 26, 27, 28, 29, 30, 31, 32, 33, 34] (by decide +kernel) (by decide +kernel)) (goodIn_sub (fun _ h => List.mem_cons_of_mem _ (List.mem_append_left _ (List.mem_append_right _ h))) (by decide +kernel))) (goodIn_sub (fun _ h => List.mem_cons_of_mem _ (List.mem_append_right _ h)) (by decide +kernel))
set_option maxRecDepth 20000 in
theorem gL_count_X3_count : GoodIn wsL_count (wsV RL 52 RX3 yX3_count wsX3_count) := goodIn_app (goodIn_of _ (by decide +kernel)) ggL_count_X3_count
theorem dL_count_0 : decode cL_count 0 = .ok (.aload_n 0, 1) := by decide +kernel
theorem dL_count_1 : decode cL_count 1 = .ok (.iload_n 1, 1) := by decide +kernel
theorem dL_count_2 : decode cL_count 2 = .ok (.iload_n 2, 1) := by decide +kernel
theorem dL_count_3 : decode cL_count 3 = .ok (.invokevirtual 52, 3) := by decide +kernel
theorem dL_count_6 : decode cL_count 6 = .ok (.i2l, 1) := by decide +kernel
theorem dL_count_7 : decode cL_count 7 = .ok (.lreturn, 1) := by decide +kernel
theorem dL_count_8 : decode cL_count 8 = .ok (.astore_n 3, 1) := by decide +kernel
theorem dL_count_9 : decode cL_count 9 = .ok (.ldc2_w 16, 3) := by decide +kernel
theorem dL_count_12 : decode cL_count 12 = .ok (.lreturn, 1) := by decide +kernel
theorem dL_count_13 : decode cL_count 13 = .ok (.astore_n 3, 1) := by decide +kernel
theorem dL_count_14 : decode cL_count 14 = .ok (.ldc2_w 16, 3) := by decide +kernel
theorem dL_count_17 : decode cL_count 17 = .ok (.lreturn, 1) := by decide +kernel
set_option maxRecDepth 20000 in
theorem ggL_batch_X3_batch : GoodIn wsL_batch wsX3_batch := goodIn_ca (goodIn_r _ [8, 9, 10, 11, 12, 13, 7, 14, 15, 16, 17, 18, 19, 20, 21, 22, 23, 24, 25, 26, 27, 28, 29, 30, 31, 32, 33, 34, 35, 36, 37, 38, 39, 40, 41, 42, 43, 44, 45, 46, 47] (by decide +kernel) (by decide +kernel)) (goodIn_sub (fun _ h => List.mem_cons_of_mem _ (List.mem_append_right _ h)) (by decide +kernel))
set_option maxRecDepth 20000 in
theorem gL_batch_X3_batch : GoodIn wsL_batch (wsV RL 55 RX3 yX3_batch wsX3_batch) := goodIn_app (goodIn_of _ (by decide +kernel)) ggL_batch_X3_batch
theorem dL_batch_0 : decode cL_batch 0 = .ok (.ldc2_w 43, 3) := by decide +kernel
theorem dL_batch_3 : decode cL_batch 3 = .ok (.aload_n 0, 1) := by decide +kernel
theorem dL_batch_4 : decode cL_batch 4 = .ok (.iload_n 1, 1) := by decide +kernel
theorem dL_batch_5 : decode cL_batch 5 = .ok (.invokevirtual 55, 3) := by decide +kernel
theorem dL_batch_8 : decode cL_batch 8 = .ok (.dmul, 1) := by decide +kernel
theorem dL_batch_9 : decode cL_batch 9 = .ok (.d2l, 1) := by decide +kernel
theorem dL_batch_10 : decode cL_batch 10 = .ok (.lreturn, 1) := by decide +kernel
theorem dL_batch_11 : decode cL_batch 11 = .ok (.astore_n 2, 1) := by decide +kernel
theorem dL_batch_12 : decode cL_batch 12 = .ok (.ldc2_w 16, 3) := by decide +kernel
theorem dL_batch_15 : decode cL_batch 15 = .ok (.lreturn, 1) := by decide +kernel
set_option maxRecDepth 20000 in
theorem ggL_square_X3_square : GoodIn wsL_square wsX3_square := goodIn_ca (goodIn_ca (goodIn_r _ [9, 10, 11, 12, 13, 14, 15, 16, 8, 17, 18, 19, 20, 21, 22, 23, 24, 25, 26, 27, 28, 29, 30, 31, 32, 33, 34, 35, 36, 37, 38, 39, 40, 41, 42, 43, 44, 45, 46, 47, 48] (by decide +kernel) (by decide +kernel)) (goodIn_sub (fun _ h => List.mem_cons_of_mem _ (List.mem_append_left _ (List.mem_append_right _ h))) (by decide +kernel))) (goodIn_sub (fun _ h => List.mem_cons_of_mem _ (List.mem_append_right _ h)) (by decide +kernel))
set_option maxRecDepth 20000 in
theorem gL_square_X3_square : GoodIn wsL_square (wsV RL 59 RX3 yX3_square wsX3_square) := goodIn_app (goodIn_of _ (by decide +kernel)) ggL_square_X3_square
theorem dL_square_0 : decode cL_square 0 = .ok (.ldc2_w 43, 3) := by decide +kernel
theorem dL_square_3 : decode cL_square 3 = .ok (.aload_n 0, 1) := by decide +kernel
theorem dL_square_4 : decode cL_square 4 = .ok (.iload_n 1, 1) := by decide +kernel
theorem dL_square_5 : decode cL_square 5 = .ok (.iload_n 2, 1) := by decide +kernel
theorem dL_square_6 : decode cL_square 6 = .ok (.iload_n 3, 1) := by decide +kernel
theorem dL_square_7 : decode cL_square 7 = .ok (.invokevirtual 59, 3) := by decide +kernel
theorem dL_square_10 : decode cL_square 10 = .ok (.dmul, 1) := by decide +kernel
theorem dL_square_11 : decode cL_square 11 = .ok (.d2l, 1) := by decide +kernel
theorem dL_square_12 : decode cL_square 12 = .ok (.lreturn, 1) := by decide +kernel
theorem dL_square_13 : decode cL_square 13 = .ok (.astore 4, 2) := by decide +kernel
theorem dL_square_15 : decode cL_square 15 = .ok (.ldc2_w 16, 3) := by decide +kernel
theorem dL_square_18 : decode cL_square 18 = .ok (.lreturn, 1) := by decide +kernel
theorem dL_square_19 : decode cL_square 19 = .ok (.astore 4, 2) := by decide +kernel
theorem dL_square_21 : decode cL_square 21 = .ok (.ldc2_w 16, 3) := by decide +kernel
theorem dL_square_24 : decode cL_square 24 = .ok (.lreturn, 1) := by decide +kernel
set_option maxRecDepth 20000 in
theorem ggL_act_L_low : GoodIn wsL_act wsL_low := goodIn_r _ [4, 5] (by decide +kernel) (by decide +kernel)
set_option maxRecDepth 20000 in
theorem gL_act_L_low : GoodIn wsL_act (va_wsS RL 63 yL_low wsL_low) := goodIn_app (goodIn_of _ (by decide +kernel)) ggL_act_L_low
set_option maxRecDepth 20000 in
theorem ggL_act_L_path : GoodIn wsL_act wsL_path := goodIn_ca (goodIn_ca (goodIn_r _ [8, 9, 10, 11, 12, 13, 14, 15, 16, 17, 18, 19, 20, 21, 22, 23, 24, 25, 26, 27, 28, 29, 270, 271, 272, 273, 274, 275, 276, 277, 278, 279] (by decide +kernel) (by decide +kernel)) (goodIn_sub (fun _ h => List.mem_cons_of_mem _ (List.mem_append_left _ (List.mem_append_left _ (List.mem_append_right _ h)))) (by decide +kernel))) (goodIn_sub (fun _ h => List.mem_cons_of_mem _ (List.mem_append_left _ (List.mem_append_right _ h))) (by decide +kernel))
set_option maxRecDepth 20000 in
theorem gL_act_L_path : GoodIn wsL_act (va_wsS RL 68 yL_path wsL_path) := goodIn_app (goodIn_of _ (by decide +kernel)) ggL_act_L_path
set_option maxRecDepth 20000 in
theorem ggL_act_L_filter : GoodIn wsL_act wsL_filter := goodIn_ca (goodIn_ca (goodIn_r _ [32, 10, 33, 11, 34, 35, 36, 15, 37, 19, 20, 38, 39, 40, 41, 42, 43, 44, 22, 23, 24, 45, 46, 47, 48, 49, 50, 51, 52, 53, 54, 55, 56, 57, 58, 59, 60, 61, 62, 63, 64, 65, 66, 67, 68, 69, 70, 270, 271, 272, 280, 281, 282, 283, 284, 285, 286, 287, 288, 289, 290, 291, 292, 293, 294, 295, 296] (by decide +kernel) (by decide +kernel)) (goodIn_sub (fun _ h => List.mem_cons_of_mem _ (List.mem_append_left _ (List.mem_append_right _ h))) (by decide +kernel))) (goodIn_sub (fun _ h => List.mem_cons_of_mem _ (List.mem_append_right _ h)) (by decide +kernel))
set_option maxRecDepth 20000 in
theorem gL_act_L_filter : GoodIn wsL_act (va_wsS RL 71 yL_filter wsL_filter) := goodIn_app (goodIn_of _ (by decide +kernel)) ggL_act_L_filter
set_option maxRecDepth 20000 in
theorem ggL_act_L_step : GoodIn wsL_act wsL_step := goodIn_ca (goodIn_ca (goodIn_r _ [73, 9, 10, 11, 74, 75, 76, 15, 77, 17, 18, 19, 20, 78, 79, 80, 81, 40, 41, 45, 46, 47, 22, 23, 24, 280, 281, 282, 283, 284, 285, 286, 287, 288, 289, 290, 291, 292, 270, 271, 272] (by decide +kernel) (by decide +kernel)) (goodIn_sub (fun _ h => List.mem_cons_of_mem _ (List.mem_append_left _ (List.mem_append_left _ (List.mem_append_right _ h)))) (by decide +kernel))) (goodIn_sub (fun _ h => List.mem_cons_of_mem _ (List.mem_append_left _ (List.mem_append_right _ h))) (by decide +kernel))
set_option maxRecDepth 20000 in
theorem gL_act_L_step : GoodIn wsL_act (va_wsS RL 74 yL_step wsL_step) := goodIn_app (goodIn_of _ (by decide +kernel)) ggL_act_L_step
set_option maxRecDepth 20000 in
theorem ggL_act_L_watch : GoodIn wsL_act wsL_watch := goodIn_ca (goodIn_ca (goodIn_r _ [84, 9, 10, 11, 85, 86, 87, 15, 88, 17, 18, 19, 20, 78, 79, 80, 81, 40, 41, 22, 23, 24, 280, 281, 282, 283, 284, 285, 286, 287, 288, 289, 290, 291, 292, 270, 271, 272] (by decide +kernel) (by decide +kernel)) (goodIn_sub (fun _ h => List.mem_cons_of_mem _ (List.mem_append_left _ (List.mem_append_left _ (List.mem_append_right _ h)))) (by decide +kernel))) (goodIn_sub (fun _ h => List.mem_cons_of_mem _ (List.mem_append_left _ (List.mem_append_right _ h))) (by decide +kernel))
set_option maxRecDepth 20000 in
theorem gL_act_L_watch : GoodIn wsL_act (va_wsS RL 76 yL_watch wsL_watch) := goodIn_app (goodIn_of _ (by decide +kernel)) ggL_act_L_watch
set_option maxRecDepth 20000 in
theorem ggL_act_L_begin : GoodIn wsL_act wsL_begin := goodIn_ca (goodIn_r _ [91, 9, 11, 92, 93, 94, 15, 95, 17, 18, 78, 79, 80, 81, 40, 41, 96, 44, 97, 98, 55, 60, 99, 100, 101, 102, 103, 104, 105, 106, 107, 108, 109, 59, 110, 111, 65, 67, 70, 270, 271, 272, 280, 281, 282, 283, 284, 285, 286, 287, 288, 289, 290, 291, 292, 293, 294, 295, 296] (by decide +kernel) (by decide +kernel)) (goodIn_sub (fun _ h => List.mem_cons_of_mem _ (List.mem_append_left _ (List.mem_append_left _ (List.mem_append_right _ h)))) (by decide +kernel))
set_option maxRecDepth 20000 in
theorem gL_act_L_begin : GoodIn wsL_act (va_wsS RL 78 yL_begin wsL_begin) := goodIn_app (goodIn_of _ (by decide +kernel)) ggL_act_L_begin
set_option maxRecDepth 20000 in
theorem ggL_act_L_count : GoodIn wsL_act wsL_count := goodIn_ca (goodIn_ca (goodIn_r _ [114, 9, 10, 11, 115, 116, 117, 15, 118, 17, 18, 19, 20, 78, 79, 80, 81, 40, 41, 280, 281, 282, 283, 284, 285, 286, 287, 288, 289, 290, 291, 292, 270, 271, 272] (by decide +kernel) (by decide +kernel)) (goodIn_sub (fun _ h => List.mem_cons_of_mem _ (List.mem_append_left _ (List.mem_append_left _ (List.mem_append_right _ h)))) (by decide +kernel))) (goodIn_sub (fun _ h => List.mem_cons_of_mem _ (List.mem_append_left _ (List.mem_append_right _ h))) (by decide +kernel))
set_option maxRecDepth 20000 in
theorem gL_act_L_count : GoodIn wsL_act (va_wsS RL 81 yL_count wsL_count) := goodIn_app (goodIn_of _ (by decide +kernel)) ggL_act_L_count
set_option maxRecDepth 20000 in
theorem ggL_act_L_feed : GoodIn wsL_act wsL_feed := goodIn_ca (goodIn_ca (goodIn_r _ [121, 10, 33, 11, 122, 123, 124, 15, 125, 19, 20, 38, 39, 21, 22, 23, 24, 126, 127, 128, 129, 40, 130, 26, 131, 132, 133, 134, 135, 136, 137, 138, 139, 140, 141, 142, 29, 143, 144, 145, 146, 147, 78, 79, 80, 81, 41, 148, 44, 149, 150, 100, 101, 56, 102, 103, 60, 151, 152, 153, 154, 55, 155, 156, 157, 158, 159, 160, 99, 161, 162, 163, 164, 165, 166, 167, 168, 169, 170, 171, 172, 61, 173, 104, 174, 59, 175, 176, 65, 68, 177, 69, 178, 179, 180, 181, 67, 182, 183, 184, 185, 186, 187, 188, 189, 190, 191, 192, 193, 194, 195, 109, 110, 111, 70, 196, 197, 198, 199, 53, 200, 201, 202, 203, 204, 205, 206, 207, 270, 271, 272, 273, 274, 275, 276, 277, 278, 279, 280, 281, 282, 283, 284, 285, 286, 287, 288, 289, 290, 291, 292, 293, 294, 295, 296] (by decide +kernel) (by decide +kernel)) (goodIn_sub (fun _ h => List.mem_cons_of_mem _ (List.mem_append_left _ (List.mem_append_right _ h))) (by decide +kernel))) (goodIn_sub (fun _ h => List.mem_cons_of_mem _ (List.mem_append_right _ h)) (by decide +kernel))
set_option maxRecDepth 20000 in
theorem gL_act_L_feed : GoodIn wsL_act (va_wsS RL 83 yL_feed wsL_feed) := goodIn_app (goodIn_of _ (by decide +kernel)) ggL_act_L_feed
set_option maxRecDepth 20000 in
theorem ggL_act_L_script : GoodIn wsL_act wsL_script := goodIn_ca (goodIn_ca (goodIn_r _ [210, 10, 33, 11, 211, 212, 213, 15, 214, 19, 20, 38, 39, 21, 22, 23, 24, 126, 127, 128, 129, 40, 130, 26, 131, 132, 133, 134, 135, 136, 137, 138, 139, 140, 141, 142, 29, 143, 144, 145, 146, 147, 78, 79, 80, 81, 41, 148, 44, 149, 150, 100, 101, 56, 102, 103, 60, 151, 152, 153, 154, 55, 155, 156, 157, 158, 159, 160, 99, 161, 162, 163, 164, 165, 166, 167, 168, 169, 170, 171, 172, 61, 173, 104, 174, 59, 175, 176, 65, 68, 177, 69, 178, 179, 180, 181, 67, 182, 183, 184, 185, 186, 187, 188, 189, 190, 191, 192, 193, 194, 195, 109, 110, 111, 70, 196, 197, 198, 199, 53, 200, 201, 202, 203, 204, 205, 206, 207, 270, 271, 272, 273, 274, 275, 276, 277, 278, 279, 280, 281, 282, 283, 284, 285, 286, 287, 288, 289, 290, 291, 292, 293, 294, 295, 296] (by decide +kernel) (by decide +kernel)) (goodIn_sub (fun _ h => List.mem_cons_of_mem _ (List.mem_append_left _ (List.mem_append_right _ h))) (by decide +kernel))) (goodIn_sub (fun _ h => List.mem_cons_of_mem _ (List.mem_append_right _ h)) (by decide +kernel))
set_option maxRecDepth 20000 in
theorem gL_act_L_script : GoodIn wsL_act (va_wsS RL 85 yL_script wsL_script) := goodIn_app (goodIn_of _ (by decide +kernel)) ggL_act_L_script
set_option maxRecDepth 20000 in
theorem ggL_act_L_weight : GoodIn wsL_act wsL_weight := goodIn_ca (goodIn_r _ [217, 9, 218, 11, 219, 220, 221, 15, 222, 17, 18, 78, 79, 80, 81, 40, 41, 280, 281, 282, 283, 284, 285, 286, 287, 288, 289, 290, 291, 292, 270, 271, 272] (by decide +kernel) (by decide +kernel)) (goodIn_sub (fun _ h => List.mem_cons_of_mem _ (List.mem_append_left _ (List.mem_append_left _ (List.mem_append_right _ h)))) (by decide +kernel))
set_option maxRecDepth 20000 in
theorem gL_act_L_weight : GoodIn wsL_act (va_wsS RL 87 yL_weight wsL_weight) := goodIn_app (goodIn_of _ (by decide +kernel)) ggL_act_L_weight
set_option maxRecDepth 20000 in
theorem ggL_act_L_of : GoodIn wsL_act wsL_of := goodIn_ca (goodIn_ca (goodIn_r _ [225, 9, 10, 218, 11, 226, 227, 228, 15, 229, 17, 18, 19, 20, 21, 78, 79, 80, 81, 40, 41, 230, 26, 231, 232, 29, 143, 233, 44, 234, 235, 102, 236, 237, 238, 239, 56, 155, 145, 146, 147, 280, 281, 282, 283, 284, 285, 286, 287, 288, 289, 290, 291, 292, 270, 271, 272, 273, 274, 275, 276, 277, 278, 279] (by decide +kernel) (by decide +kernel)) (goodIn_sub (fun _ h => List.mem_cons_of_mem _ (List.mem_append_left _ (List.mem_append_left _ (List.mem_append_right _ h)))) (by decide +kernel))) (goodIn_sub (fun _ h => List.mem_cons_of_mem _ (List.mem_append_left _ (List.mem_append_right _ h))) (by decide +kernel))
set_option maxRecDepth 20000 in
theorem gL_act_L_of : GoodIn wsL_act (va_wsS RL 89 yL_of wsL_of) := goodIn_app (goodIn_of _ (by decide +kernel)) ggL_act_L_of
set_option maxRecDepth 20000 in
theorem ggL_act_L_batch : GoodIn wsL_act wsL_batch := goodIn_ca (goodIn_r _ [242, 9, 218, 11, 243, 244, 245, 15, 246, 17, 18, 21, 22, 23, 24, 247, 26, 248, 249, 136, 137, 138, 250, 251, 252, 253, 254, 135, 255, 237, 238, 239, 144, 145, 146, 147, 167, 168, 270, 271, 272, 273, 274, 275, 276, 277, 278, 279] (by decide +kernel) (by decide +kernel)) (goodIn_sub (fun _ h => List.mem_cons_of_mem _ (List.mem_append_left _ (List.mem_append_left _ (List.mem_append_right _ h)))) (by decide +kernel))
set_option maxRecDepth 20000 in
theorem gL_act_L_batch : GoodIn wsL_act (va_wsS RL 91 yL_batch wsL_batch) := goodIn_app (goodIn_of _ (by decide +kernel)) ggL_act_L_batch
set_option maxRecDepth 20000 in
theorem ggL_act_L_square : GoodIn wsL_act wsL_square := goodIn_ca (goodIn_ca (goodIn_r _ [258, 9, 33, 218, 11, 259, 260, 261, 15, 262, 17, 18, 38, 39, 78, 79, 80, 81, 40, 41, 22, 23, 24, 263, 59, 264, 265, 65, 67, 280, 281, 282, 283, 284, 285, 286, 287, 288, 289, 290, 291, 292, 270, 271, 272, 293, 294, 295, 296] (by decide +kernel) (by decide +kernel)) (goodIn_sub (fun _ h => List.mem_cons_of_mem _ (List.mem_append_left _ (List.mem_append_left _ (List.mem_append_right _ h)))) (by decide +kernel))) (goodIn_sub (fun _ h => List.mem_cons_of_mem _ (List.mem_append_right _ h)) (by decide +kernel))
set_option maxRecDepth 20000 in
theorem gL_act_L_square : GoodIn wsL_act (va_wsS RL 93 yL_square wsL_square) := goodIn_app (goodIn_of _ (by decide +kernel)) ggL_act_L_square
set_option maxRecDepth 20000 in
theorem ggL_act_X3_best : GoodIn wsL_act wsX3_best := goodIn_r _ [269, 40, 21, 78, 79, 80, 15, 81, 41, 230, 26, 231, 232, 29, 143, 270, 271, 272, 280, 281, 282, 283, 284, 285, 286, 287, 288, 289, 290, 291, 292, 273, 274, 275, 276, 277, 278, 279] (by decide +kernel) (by decide +kernel)
set_option maxRecDepth 20000 in
theorem gL_act_X3_best : GoodIn wsL_act (wsV RL 95 RX3 yX3_best wsX3_best) := goodIn_app (goodIn_of _ (by decide +kernel)) ggL_act_X3_best
theorem dL_act_0 : decode cL_act 0 = .ok (.iload_n 1, 1) := by decide +kernel
theorem dL_act_1 : decode cL_act 1 = .ok (.bipush 26, 2) := by decide +kernel
theorem dL_act_3 : decode cL_act 3 = .ok (.ishr, 1) := by decide +kernel
theorem dL_act_4 : decode cL_act 4 = .ok (.bipush 14, 2) := by decide +kernel
theorem dL_act_6 : decode cL_act 6 = .ok (.invokestatic 63, 3) := by decide +kernel
theorem dL_act_9 : decode cL_act 9 = .ok (.ifCond .ne 7, 3) := by decide +kernel
theorem dL_act_12 : decode cL_act 12 = .ok (.iconst 1, 1) := by decide +kernel
theorem dL_act_13 : decode cL_act 13 = .ok (.goto 4, 3) := by decide +kernel
theorem dL_act_16 : decode cL_act 16 = .ok (.iconst 0, 1) := by decide +kernel
theorem dL_act_17 : decode cL_act 17 = .ok (.istore_n 2, 1) := by decide +kernel
theorem dL_act_18 : decode cL_act 18 = .ok (.iload_n 2, 1) := by decide +kernel
theorem dL_act_19 : decode cL_act 19 = .ok (.ifCond .eq 16, 3) := by decide +kernel
theorem dL_act_22 : decode cL_act 22 = .ok (.iload_n 1, 1) := by decide +kernel
theorem dL_act_23 : decode cL_act 23 = .ok (.iconst 5, 1) := by decide +kernel
theorem dL_act_24 : decode cL_act 24 = .ok (.ishr, 1) := by decide +kernel
theorem dL_act_25 : decode cL_act 25 = .ok (.bipush 9, 2) := by decide +kernel
theorem dL_act_27 : decode cL_act 27 = .ok (.invokestatic 63, 3) := by decide +kernel
theorem dL_act_30 : decode cL_act 30 = .ok (.iconst 1, 1) := by decide +kernel
theorem dL_act_31 : decode cL_act 31 = .ok (.isub, 1) := by decide +kernel
theorem dL_act_32 : decode cL_act 32 = .ok (.goto 10, 3) := by decide +kernel
theorem dL_act_35 : decode cL_act 35 = .ok (.iload_n 1, 1) := by decide +kernel
theorem dL_act_36 : decode cL_act 36 = .ok (.iconst 5, 1) := by decide +kernel
theorem dL_act_37 : decode cL_act 37 = .ok (.ishr, 1) := by decide +kernel
theorem dL_act_38 : decode cL_act 38 = .ok (.iconst 3, 1) := by decide +kernel
theorem dL_act_39 : decode cL_act 39 = .ok (.invokestatic 63, 3) := by decide +kernel
theorem dL_act_42 : decode cL_act 42 = .ok (.istore_n 3, 1) := by decide +kernel
theorem dL_act_43 : decode cL_act 43 = .ok (.iload_n 2, 1) := by decide +kernel
theorem dL_act_44 : decode cL_act 44 = .ok (.ifCond .eq 17, 3) := by decide +kernel
theorem dL_act_47 : decode cL_act 47 = .ok (.iload_n 1, 1) := by decide +kernel
theorem dL_act_48 : decode cL_act 48 = .ok (.bipush 8, 2) := by decide +kernel
theorem dL_act_50 : decode cL_act 50 = .ok (.ishr, 1) := by decide +kernel
theorem dL_act_51 : decode cL_act 51 = .ok (.bipush 11, 2) := by decide +kernel
theorem dL_act_53 : decode cL_act 53 = .ok (.invokestatic 63, 3) := by decide +kernel
theorem dL_act_56 : decode cL_act 56 = .ok (.iconst 1, 1) := by decide +kernel
theorem dL_act_57 : decode cL_act 57 = .ok (.isub, 1) := by decide +kernel
theorem dL_act_58 : decode cL_act 58 = .ok (.goto 11, 3) := by decide +kernel
theorem dL_act_61 : decode cL_act 61 = .ok (.iload_n 1, 1) := by decide +kernel
theorem dL_act_62 : decode cL_act 62 = .ok (.bipush 8, 2) := by decide +kernel
theorem dL_act_64 : decode cL_act 64 = .ok (.ishr, 1) := by decide +kernel
theorem dL_act_65 : decode cL_act 65 = .ok (.iconst 4, 1) := by decide +kernel
theorem dL_act_66 : decode cL_act 66 = .ok (.invokestatic 63, 3) := by decide +kernel
theorem dL_act_69 : decode cL_act 69 = .ok (.istore 4, 2) := by decide +kernel
theorem dL_act_71 : decode cL_act 71 = .ok (.iload_n 2, 1) := by decide +kernel
theorem dL_act_72 : decode cL_act 72 = .ok (.ifCond .eq 10, 3) := by decide +kernel
theorem dL_act_75 : decode cL_act 75 = .ok (.iload_n 1, 1) := by decide +kernel
theorem dL_act_76 : decode cL_act 76 = .ok (.bipush 9, 2) := by decide +kernel
theorem dL_act_78 : decode cL_act 78 = .ok (.ishr, 1) := by decide +kernel
theorem dL_act_79 : decode cL_act 79 = .ok (.goto 17, 3) := by decide +kernel
theorem dL_act_82 : decode cL_act 82 = .ok (.iload_n 1, 1) := by decide +kernel
theorem dL_act_83 : decode cL_act 83 = .ok (.bipush 9, 2) := by decide +kernel
theorem dL_act_85 : decode cL_act 85 = .ok (.ishr, 1) := by decide +kernel
theorem dL_act_86 : decode cL_act 86 = .ok (.sipush 900, 3) := by decide +kernel
theorem dL_act_89 : decode cL_act 89 = .ok (.invokestatic 63, 3) := by decide +kernel
theorem dL_act_92 : decode cL_act 92 = .ok (.sipush 450, 3) := by decide +kernel
theorem dL_act_95 : decode cL_act 95 = .ok (.isub, 1) := by decide +kernel
theorem dL_act_96 : decode cL_act 96 = .ok (.istore 5, 2) := by decide +kernel
theorem dL_act_98 : decode cL_act 98 = .ok (.iload_n 2, 1) := by decide +kernel
theorem dL_act_99 : decode cL_act 99 = .ok (.ifCond .eq 17, 3) := by decide +kernel
theorem dL_act_102 : decode cL_act 102 = .ok (.iload_n 1, 1) := by decide +kernel
theorem dL_act_103 : decode cL_act 103 = .ok (.bipush 11, 2) := by decide +kernel
theorem dL_act_105 : decode cL_act 105 = .ok (.ishr, 1) := by decide +kernel
theorem dL_act_106 : decode cL_act 106 = .ok (.bipush 7, 2) := by decide +kernel
theorem dL_act_108 : decode cL_act 108 = .ok (.invokestatic 63, 3) := by decide +kernel
theorem dL_act_111 : decode cL_act 111 = .ok (.iconst 1, 1) := by decide +kernel
theorem dL_act_112 : decode cL_act 112 = .ok (.isub, 1) := by decide +kernel
theorem dL_act_113 : decode cL_act 113 = .ok (.goto 11, 3) := by decide +kernel
theorem dL_act_116 : decode cL_act 116 = .ok (.iload_n 1, 1) := by decide +kernel
theorem dL_act_117 : decode cL_act 117 = .ok (.bipush 11, 2) := by decide +kernel
theorem dL_act_119 : decode cL_act 119 = .ok (.ishr, 1) := by decide +kernel
theorem dL_act_120 : decode cL_act 120 = .ok (.iconst 4, 1) := by decide +kernel
theorem dL_act_121 : decode cL_act 121 = .ok (.invokestatic 63, 3) := by decide +kernel
theorem dL_act_124 : decode cL_act 124 = .ok (.istore 6, 2) := by decide +kernel
theorem dL_act_126 : decode cL_act 126 = .ok (.iload_n 1, 1) := by decide +kernel
theorem dL_act_127 : decode cL_act 127 = .ok (.bipush 26, 2) := by decide +kernel
theorem dL_act_129 : decode cL_act 129 = .ok (.invokestatic 63, 3) := by decide +kernel
theorem dL_act_132 : decode cL_act 132 = .ok (.tableswitch 478 0 24 #[116, 116, 116, 125, 125, 125, 189, 218, 261, 303, 303, 303, 303, 303, 303, 303, 303, 348, 394, 394, 402, 402, 425, 447, 472], 116) := by decide +kernel
theorem dL_act_248 : decode cL_act 248 = .ok (.aload_n 0, 1) := by decide +kernel
theorem dL_act_249 : decode cL_act 249 = .ok (.iload 4, 2) := by decide +kernel
theorem dL_act_251 : decode cL_act 251 = .ok (.iload 5, 2) := by decide +kernel
theorem dL_act_253 : decode cL_act 253 = .ok (.invokestatic 68, 3) := by decide +kernel
theorem dL_act_256 : decode cL_act 256 = .ok (.lreturn, 1) := by decide +kernel
theorem dL_act_257 : decode cL_act 257 = .ok (.aload_n 0, 1) := by decide +kernel
theorem dL_act_258 : decode cL_act 258 = .ok (.iload 6, 2) := by decide +kernel
theorem dL_act_260 : decode cL_act 260 = .ok (.iload_n 2, 1) := by decide +kernel
theorem dL_act_261 : decode cL_act 261 = .ok (.ifCond .eq 8, 3) := by decide +kernel
theorem dL_act_264 : decode cL_act 264 = .ok (.iload 4, 2) := by decide +kernel
theorem dL_act_266 : decode cL_act 266 = .ok (.goto 7, 3) := by decide +kernel
theorem dL_act_269 : decode cL_act 269 = .ok (.iconst 1, 1) := by decide +kernel
theorem dL_act_270 : decode cL_act 270 = .ok (.iload 4, 2) := by decide +kernel
theorem dL_act_272 : decode cL_act 272 = .ok (.iadd, 1) := by decide +kernel
theorem dL_act_273 : decode cL_act 273 = .ok (.iload_n 2, 1) := by decide +kernel
theorem dL_act_274 : decode cL_act 274 = .ok (.ifCond .eq 8, 3) := by decide +kernel
theorem dL_act_277 : decode cL_act 277 = .ok (.iload 5, 2) := by decide +kernel
theorem dL_act_279 : decode cL_act 279 = .ok (.goto 38, 3) := by decide +kernel
theorem dL_act_282 : decode cL_act 282 = .ok (.iload 6, 2) := by decide +kernel
theorem dL_act_284 : decode cL_act 284 = .ok (.iconst 3, 1) := by decide +kernel
theorem dL_act_285 : decode cL_act 285 = .ok (.if_icmp .ne 20, 3) := by decide +kernel
theorem dL_act_288 : decode cL_act 288 = .ok (.sipush 500, 3) := by decide +kernel
theorem dL_act_291 : decode cL_act 291 = .ok (.iload_n 1, 1) := by decide +kernel
theorem dL_act_292 : decode cL_act 292 = .ok (.bipush 9, 2) := by decide +kernel
theorem dL_act_294 : decode cL_act 294 = .ok (.ishr, 1) := by decide +kernel
theorem dL_act_295 : decode cL_act 295 = .ok (.sipush 501, 3) := by decide +kernel
theorem dL_act_298 : decode cL_act 298 = .ok (.invokestatic 63, 3) := by decide +kernel
theorem dL_act_301 : decode cL_act 301 = .ok (.iadd, 1) := by decide +kernel
theorem dL_act_302 : decode cL_act 302 = .ok (.goto 15, 3) := by decide +kernel
theorem dL_act_305 : decode cL_act 305 = .ok (.iconst 1, 1) := by decide +kernel
theorem dL_act_306 : decode cL_act 306 = .ok (.iload_n 1, 1) := by decide +kernel
theorem dL_act_307 : decode cL_act 307 = .ok (.bipush 9, 2) := by decide +kernel
theorem dL_act_309 : decode cL_act 309 = .ok (.ishr, 1) := by decide +kernel
theorem dL_act_310 : decode cL_act 310 = .ok (.sipush 400, 3) := by decide +kernel
theorem dL_act_313 : decode cL_act 313 = .ok (.invokestatic 63, 3) := by decide +kernel
theorem dL_act_316 : decode cL_act 316 = .ok (.iadd, 1) := by decide +kernel
theorem dL_act_317 : decode cL_act 317 = .ok (.invokestatic 71, 3) := by decide +kernel
theorem dL_act_320 : decode cL_act 320 = .ok (.lreturn, 1) := by decide +kernel
theorem dL_act_321 : decode cL_act 321 = .ok (.aload_n 0, 1) := by decide +kernel
theorem dL_act_322 : decode cL_act 322 = .ok (.iload_n 3, 1) := by decide +kernel
theorem dL_act_323 : decode cL_act 323 = .ok (.iload_n 2, 1) := by decide +kernel
theorem dL_act_324 : decode cL_act 324 = .ok (.ifCond .eq 8, 3) := by decide +kernel
theorem dL_act_327 : decode cL_act 327 = .ok (.iload 5, 2) := by decide +kernel
theorem dL_act_329 : decode cL_act 329 = .ok (.goto 17, 3) := by decide +kernel
theorem dL_act_332 : decode cL_act 332 = .ok (.sipush 500, 3) := by decide +kernel
theorem dL_act_335 : decode cL_act 335 = .ok (.iload_n 1, 1) := by decide +kernel
theorem dL_act_336 : decode cL_act 336 = .ok (.bipush 9, 2) := by decide +kernel
theorem dL_act_338 : decode cL_act 338 = .ok (.ishr, 1) := by decide +kernel
theorem dL_act_339 : decode cL_act 339 = .ok (.sipush 500, 3) := by decide +kernel
theorem dL_act_342 : decode cL_act 342 = .ok (.invokestatic 63, 3) := by decide +kernel
theorem dL_act_345 : decode cL_act 345 = .ok (.iadd, 1) := by decide +kernel
theorem dL_act_346 : decode cL_act 346 = .ok (.invokestatic 74, 3) := by decide +kernel
theorem dL_act_349 : decode cL_act 349 = .ok (.lreturn, 1) := by decide +kernel
theorem dL_act_350 : decode cL_act 350 = .ok (.aload_n 0, 1) := by decide +kernel
theorem dL_act_351 : decode cL_act 351 = .ok (.iload_n 3, 1) := by decide +kernel
theorem dL_act_352 : decode cL_act 352 = .ok (.iload_n 2, 1) := by decide +kernel
theorem dL_act_353 : decode cL_act 353 = .ok (.ifCond .eq 8, 3) := by decide +kernel
theorem dL_act_356 : decode cL_act 356 = .ok (.iload 5, 2) := by decide +kernel
theorem dL_act_358 : decode cL_act 358 = .ok (.goto 13, 3) := by decide +kernel
theorem dL_act_361 : decode cL_act 361 = .ok (.iload_n 1, 1) := by decide +kernel
theorem dL_act_362 : decode cL_act 362 = .ok (.bipush 9, 2) := by decide +kernel
theorem dL_act_364 : decode cL_act 364 = .ok (.ishr, 1) := by decide +kernel
theorem dL_act_365 : decode cL_act 365 = .ok (.sipush 300, 3) := by decide +kernel
theorem dL_act_368 : decode cL_act 368 = .ok (.invokestatic 63, 3) := by decide +kernel
theorem dL_act_371 : decode cL_act 371 = .ok (.iload_n 2, 1) := by decide +kernel
theorem dL_act_372 : decode cL_act 372 = .ok (.ifCond .eq 9, 3) := by decide +kernel
theorem dL_act_375 : decode cL_act 375 = .ok (.iload_n 1, 1) := by decide +kernel
theorem dL_act_376 : decode cL_act 376 = .ok (.iconst 4, 1) := by decide +kernel
theorem dL_act_377 : decode cL_act 377 = .ok (.ishr, 1) := by decide +kernel
theorem dL_act_378 : decode cL_act 378 = .ok (.goto 11, 3) := by decide +kernel
theorem dL_act_381 : decode cL_act 381 = .ok (.iload_n 1, 1) := by decide +kernel
theorem dL_act_382 : decode cL_act 382 = .ok (.iconst 4, 1) := by decide +kernel
theorem dL_act_383 : decode cL_act 383 = .ok (.ishr, 1) := by decide +kernel
theorem dL_act_384 : decode cL_act 384 = .ok (.bipush 6, 2) := by decide +kernel
theorem dL_act_386 : decode cL_act 386 = .ok (.invokestatic 63, 3) := by decide +kernel
theorem dL_act_389 : decode cL_act 389 = .ok (.invokestatic 76, 3) := by decide +kernel
theorem dL_act_392 : decode cL_act 392 = .ok (.lreturn, 1) := by decide +kernel
theorem dL_act_393 : decode cL_act 393 = .ok (.iload_n 1, 1) := by decide +kernel
theorem dL_act_394 : decode cL_act 394 = .ok (.bipush 16, 2) := by decide +kernel
theorem dL_act_396 : decode cL_act 396 = .ok (.ishr, 1) := by decide +kernel
theorem dL_act_397 : decode cL_act 397 = .ok (.iconst 3, 1) := by decide +kernel
theorem dL_act_398 : decode cL_act 398 = .ok (.invokestatic 63, 3) := by decide +kernel
theorem dL_act_401 : decode cL_act 401 = .ok (.ifCond .ne 11, 3) := by decide +kernel
theorem dL_act_404 : decode cL_act 404 = .ok (.aload_n 0, 1) := by decide +kernel
theorem dL_act_405 : decode cL_act 405 = .ok (.iload_n 3, 1) := by decide +kernel
theorem dL_act_406 : decode cL_act 406 = .ok (.invokestatic 78, 3) := by decide +kernel
theorem dL_act_409 : decode cL_act 409 = .ok (.goto 25, 3) := by decide +kernel
theorem dL_act_412 : decode cL_act 412 = .ok (.aload_n 0, 1) := by decide +kernel
theorem dL_act_413 : decode cL_act 413 = .ok (.iload_n 3, 1) := by decide +kernel
theorem dL_act_414 : decode cL_act 414 = .ok (.iload_n 2, 1) := by decide +kernel
theorem dL_act_415 : decode cL_act 415 = .ok (.ifCond .eq 8, 3) := by decide +kernel
theorem dL_act_418 : decode cL_act 418 = .ok (.iload 5, 2) := by decide +kernel
theorem dL_act_420 : decode cL_act 420 = .ok (.goto 11, 3) := by decide +kernel
theorem dL_act_423 : decode cL_act 423 = .ok (.iload_n 1, 1) := by decide +kernel
theorem dL_act_424 : decode cL_act 424 = .ok (.bipush 9, 2) := by decide +kernel
theorem dL_act_426 : decode cL_act 426 = .ok (.ishr, 1) := by decide +kernel
theorem dL_act_427 : decode cL_act 427 = .ok (.iconst 4, 1) := by decide +kernel
theorem dL_act_428 : decode cL_act 428 = .ok (.invokestatic 63, 3) := by decide +kernel
theorem dL_act_431 : decode cL_act 431 = .ok (.invokestatic 81, 3) := by decide +kernel
theorem dL_act_434 : decode cL_act 434 = .ok (.lreturn, 1) := by decide +kernel
theorem dL_act_435 : decode cL_act 435 = .ok (.aload_n 0, 1) := by decide +kernel
theorem dL_act_436 : decode cL_act 436 = .ok (.iload 5, 2) := by decide +kernel
theorem dL_act_438 : decode cL_act 438 = .ok (.iload_n 2, 1) := by decide +kernel
theorem dL_act_439 : decode cL_act 439 = .ok (.ifCond .eq 9, 3) := by decide +kernel
theorem dL_act_442 : decode cL_act 442 = .ok (.iload_n 1, 1) := by decide +kernel
theorem dL_act_443 : decode cL_act 443 = .ok (.iconst 4, 1) := by decide +kernel
theorem dL_act_444 : decode cL_act 444 = .ok (.ishr, 1) := by decide +kernel
theorem dL_act_445 : decode cL_act 445 = .ok (.goto 31, 3) := by decide +kernel
theorem dL_act_448 : decode cL_act 448 = .ok (.iload_n 1, 1) := by decide +kernel
theorem dL_act_449 : decode cL_act 449 = .ok (.bipush 17, 2) := by decide +kernel
theorem dL_act_451 : decode cL_act 451 = .ok (.ishr, 1) := by decide +kernel
theorem dL_act_452 : decode cL_act 452 = .ok (.iconst 3, 1) := by decide +kernel
theorem dL_act_453 : decode cL_act 453 = .ok (.invokestatic 63, 3) := by decide +kernel
theorem dL_act_456 : decode cL_act 456 = .ok (.ifCond .ne 19, 3) := by decide +kernel
theorem dL_act_459 : decode cL_act 459 = .ok (.iload_n 1, 1) := by decide +kernel
theorem dL_act_460 : decode cL_act 460 = .ok (.iconst 4, 1) := by decide +kernel
theorem dL_act_461 : decode cL_act 461 = .ok (.ishr, 1) := by decide +kernel
theorem dL_act_462 : decode cL_act 462 = .ok (.sipush 400, 3) := by decide +kernel
theorem dL_act_465 : decode cL_act 465 = .ok (.invokestatic 63, 3) := by decide +kernel
theorem dL_act_468 : decode cL_act 468 = .ok (.sipush 200, 3) := by decide +kernel
theorem dL_act_471 : decode cL_act 471 = .ok (.isub, 1) := by decide +kernel
theorem dL_act_472 : decode cL_act 472 = .ok (.goto 4, 3) := by decide +kernel
theorem dL_act_475 : decode cL_act 475 = .ok (.iconst 0, 1) := by decide +kernel
theorem dL_act_476 : decode cL_act 476 = .ok (.invokestatic 83, 3) := by decide +kernel
theorem dL_act_479 : decode cL_act 479 = .ok (.lreturn, 1) := by decide +kernel
theorem dL_act_480 : decode cL_act 480 = .ok (.aload_n 0, 1) := by decide +kernel
theorem dL_act_481 : decode cL_act 481 = .ok (.iload_n 2, 1) := by decide +kernel
theorem dL_act_482 : decode cL_act 482 = .ok (.ifCond .eq 10, 3) := by decide +kernel
theorem dL_act_485 : decode cL_act 485 = .ok (.iload_n 1, 1) := by decide +kernel
theorem dL_act_486 : decode cL_act 486 = .ok (.bipush 9, 2) := by decide +kernel
theorem dL_act_488 : decode cL_act 488 = .ok (.ishr, 1) := by decide +kernel
theorem dL_act_489 : decode cL_act 489 = .ok (.goto 13, 3) := by decide +kernel
theorem dL_act_492 : decode cL_act 492 = .ok (.iload_n 1, 1) := by decide +kernel
theorem dL_act_493 : decode cL_act 493 = .ok (.bipush 9, 2) := by decide +kernel
theorem dL_act_495 : decode cL_act 495 = .ok (.ishr, 1) := by decide +kernel
theorem dL_act_496 : decode cL_act 496 = .ok (.sipush 2001, 3) := by decide +kernel
theorem dL_act_499 : decode cL_act 499 = .ok (.invokestatic 63, 3) := by decide +kernel
theorem dL_act_502 : decode cL_act 502 = .ok (.iload_n 2, 1) := by decide +kernel
theorem dL_act_503 : decode cL_act 503 = .ok (.ifCond .eq 8, 3) := by decide +kernel
theorem dL_act_506 : decode cL_act 506 = .ok (.iload 5, 2) := by decide +kernel
theorem dL_act_508 : decode cL_act 508 = .ok (.goto 14, 3) := by decide +kernel
theorem dL_act_511 : decode cL_act 511 = .ok (.iconst 1, 1) := by decide +kernel
theorem dL_act_512 : decode cL_act 512 = .ok (.iload_n 1, 1) := by decide +kernel
theorem dL_act_513 : decode cL_act 513 = .ok (.bipush 6, 2) := by decide +kernel
theorem dL_act_515 : decode cL_act 515 = .ok (.ishr, 1) := by decide +kernel
theorem dL_act_516 : decode cL_act 516 = .ok (.bipush 8, 2) := by decide +kernel
theorem dL_act_518 : decode cL_act 518 = .ok (.invokestatic 63, 3) := by decide +kernel
theorem dL_act_521 : decode cL_act 521 = .ok (.iadd, 1) := by decide +kernel
theorem dL_act_522 : decode cL_act 522 = .ok (.invokestatic 85, 3) := by decide +kernel
theorem dL_act_525 : decode cL_act 525 = .ok (.lreturn, 1) := by decide +kernel
theorem dL_act_526 : decode cL_act 526 = .ok (.aload_n 0, 1) := by decide +kernel
theorem dL_act_527 : decode cL_act 527 = .ok (.iload_n 3, 1) := by decide +kernel
theorem dL_act_528 : decode cL_act 528 = .ok (.iload 4, 2) := by decide +kernel
theorem dL_act_530 : decode cL_act 530 = .ok (.invokestatic 87, 3) := by decide +kernel
theorem dL_act_533 : decode cL_act 533 = .ok (.lreturn, 1) := by decide +kernel
theorem dL_act_534 : decode cL_act 534 = .ok (.aload_n 0, 1) := by decide +kernel
theorem dL_act_535 : decode cL_act 535 = .ok (.iload_n 3, 1) := by decide +kernel
theorem dL_act_536 : decode cL_act 536 = .ok (.iload_n 2, 1) := by decide +kernel
theorem dL_act_537 : decode cL_act 537 = .ok (.ifCond .eq 8, 3) := by decide +kernel
theorem dL_act_540 : decode cL_act 540 = .ok (.iload 5, 2) := by decide +kernel
theorem dL_act_542 : decode cL_act 542 = .ok (.goto 11, 3) := by decide +kernel
theorem dL_act_545 : decode cL_act 545 = .ok (.iload_n 1, 1) := by decide +kernel
theorem dL_act_546 : decode cL_act 546 = .ok (.bipush 9, 2) := by decide +kernel
theorem dL_act_548 : decode cL_act 548 = .ok (.ishr, 1) := by decide +kernel
theorem dL_act_549 : decode cL_act 549 = .ok (.iconst 4, 1) := by decide +kernel
theorem dL_act_550 : decode cL_act 550 = .ok (.invokestatic 63, 3) := by decide +kernel
theorem dL_act_553 : decode cL_act 553 = .ok (.invokestatic 89, 3) := by decide +kernel
theorem dL_act_556 : decode cL_act 556 = .ok (.lreturn, 1) := by decide +kernel
theorem dL_act_557 : decode cL_act 557 = .ok (.aload_n 0, 1) := by decide +kernel
theorem dL_act_558 : decode cL_act 558 = .ok (.iload_n 2, 1) := by decide +kernel
theorem dL_act_559 : decode cL_act 559 = .ok (.ifCond .eq 8, 3) := by decide +kernel
theorem dL_act_562 : decode cL_act 562 = .ok (.iload 5, 2) := by decide +kernel
theorem dL_act_564 : decode cL_act 564 = .ok (.goto 11, 3) := by decide +kernel
theorem dL_act_567 : decode cL_act 567 = .ok (.iload_n 1, 1) := by decide +kernel
theorem dL_act_568 : decode cL_act 568 = .ok (.bipush 9, 2) := by decide +kernel
theorem dL_act_570 : decode cL_act 570 = .ok (.ishr, 1) := by decide +kernel
theorem dL_act_571 : decode cL_act 571 = .ok (.iconst 2, 1) := by decide +kernel
theorem dL_act_572 : decode cL_act 572 = .ok (.invokestatic 63, 3) := by decide +kernel
theorem dL_act_575 : decode cL_act 575 = .ok (.invokestatic 91, 3) := by decide +kernel
theorem dL_act_578 : decode cL_act 578 = .ok (.lreturn, 1) := by decide +kernel
theorem dL_act_579 : decode cL_act 579 = .ok (.aload_n 0, 1) := by decide +kernel
theorem dL_act_580 : decode cL_act 580 = .ok (.iload_n 3, 1) := by decide +kernel
theorem dL_act_581 : decode cL_act 581 = .ok (.iload 4, 2) := by decide +kernel
theorem dL_act_583 : decode cL_act 583 = .ok (.iload_n 2, 1) := by decide +kernel
theorem dL_act_584 : decode cL_act 584 = .ok (.ifCond .eq 8, 3) := by decide +kernel
theorem dL_act_587 : decode cL_act 587 = .ok (.iload 6, 2) := by decide +kernel
theorem dL_act_589 : decode cL_act 589 = .ok (.goto 11, 3) := by decide +kernel
theorem dL_act_592 : decode cL_act 592 = .ok (.iload_n 1, 1) := by decide +kernel
theorem dL_act_593 : decode cL_act 593 = .ok (.bipush 9, 2) := by decide +kernel
theorem dL_act_595 : decode cL_act 595 = .ok (.ishr, 1) := by decide +kernel
theorem dL_act_596 : decode cL_act 596 = .ok (.iconst 3, 1) := by decide +kernel
theorem dL_act_597 : decode cL_act 597 = .ok (.invokestatic 63, 3) := by decide +kernel
theorem dL_act_600 : decode cL_act 600 = .ok (.invokestatic 93, 3) := by decide +kernel
theorem dL_act_603 : decode cL_act 603 = .ok (.lreturn, 1) := by decide +kernel
theorem dL_act_604 : decode cL_act 604 = .ok (.aload_n 0, 1) := by decide +kernel
theorem dL_act_605 : decode cL_act 605 = .ok (.invokevirtual 95, 3) := by decide +kernel
theorem dL_act_608 : decode cL_act 608 = .ok (.i2l, 1) := by decide +kernel
theorem dL_act_609 : decode cL_act 609 = .ok (.lreturn, 1) := by decide +kernel
theorem dL_act_610 : decode cL_act 610 = .ok (.aload_n 0, 1) := by decide +kernel
theorem dL_act_611 : decode cL_act 611 = .ok (.iload_n 3, 1) := by decide +kernel
theorem dL_act_612 : decode cL_act 612 = .ok (.iload_n 2, 1) := by decide +kernel
theorem dL_act_613 : decode cL_act 613 = .ok (.ifCond .eq 8, 3) := by decide +kernel
theorem dL_act_616 : decode cL_act 616 = .ok (.iload 5, 2) := by decide +kernel
theorem dL_act_618 : decode cL_act 618 = .ok (.goto 11, 3) := by decide +kernel
theorem dL_act_621 : decode cL_act 621 = .ok (.iload_n 1, 1) := by decide +kernel
theorem dL_act_622 : decode cL_act 622 = .ok (.bipush 9, 2) := by decide +kernel
theorem dL_act_624 : decode cL_act 624 = .ok (.ishr, 1) := by decide +kernel
theorem dL_act_625 : decode cL_act 625 = .ok (.iconst 4, 1) := by decide +kernel
theorem dL_act_626 : decode cL_act 626 = .ok (.invokestatic 63, 3) := by decide +kernel
theorem dL_act_629 : decode cL_act 629 = .ok (.invokestatic 81, 3) := by decide +kernel
theorem dL_act_632 : decode cL_act 632 = .ok (.lreturn, 1) := by decide +kernel
set_option maxRecDepth 20000 in
theorem ggL_areAlike_X3_microphone : GoodIn wsL_areAlike wsX3_microphone := goodIn_r _ [5, 6, 113, 114, 115, 116, 117, 118, 119, 120, 121, 122] (by decide +kernel) (by decide +kernel)
set_option maxRecDepth 20000 in
theorem gL_areAlike_X3_microphone : GoodIn wsL_areAlike (wsV RL 99 RX3 yX3_microphone wsX3_microphone) := goodIn_app (goodIn_of _ (by decide +kernel)) ggL_areAlike_X3_microphone
set_option maxRecDepth 20000 in
theorem ggL_areAlike_X3_best : GoodIn wsL_areAlike wsX3_best := goodIn_r _ [10, 11, 6, 12, 13, 14, 4, 15, 16, 17, 18, 19, 20, 21, 22, 113, 114, 115, 123, 124, 125, 126, 127, 128, 129, 130, 131, 132, 133, 134, 135, 116, 117, 118, 119, 120, 121, 122] (by decide +kernel) (by decide +kernel)
set_option maxRecDepth 20000 in
theorem gL_areAlike_X3_best : GoodIn wsL_areAlike (wsV RL 95 RX3 yX3_best wsX3_best) := goodIn_app (goodIn_of _ (by decide +kernel)) ggL_areAlike_X3_best
set_option maxRecDepth 20000 in
theorem ggL_areAlike_L_low : GoodIn wsL_areAlike wsL_low := goodIn_r _ [26, 27] (by decide +kernel) (by decide +kernel)
set_option maxRecDepth 20000 in
theorem gL_areAlike_L_low : GoodIn wsL_areAlike (va_wsS RL 63 yL_low wsL_low) := goodIn_app (goodIn_of _ (by decide +kernel)) ggL_areAlike_L_low
set_option maxRecDepth 20000 in
theorem ggL_areAlike_L_weight : GoodIn wsL_areAlike wsL_weight := goodIn_ca (goodIn_r _ [30, 31, 32, 33, 34, 35, 36, 4, 37, 38, 39, 12, 13, 14, 15, 11, 16, 123, 124, 125, 126, 127, 128, 129, 130, 131, 132, 133, 134, 135, 113, 114, 115] (by decide +kernel) (by decide +kernel)) (goodIn_sub (fun _ h => List.mem_cons_of_mem _ (List.mem_append_left _ (List.mem_append_left _ (List.mem_append_right _ h)))) (by decide +kernel))
set_option maxRecDepth 20000 in
theorem gL_areAlike_L_weight : GoodIn wsL_areAlike (va_wsS RL 87 yL_weight wsL_weight) := goodIn_app (goodIn_of _ (by decide +kernel)) ggL_areAlike_L_weight
set_option maxRecDepth 20000 in
theorem ggL_areAlike_L_of : GoodIn wsL_areAlike wsL_of := goodIn_ca (goodIn_ca (goodIn_r _ [42, 31, 43, 32, 33, 44, 45, 46, 4, 47, 38, 39, 48, 49, 6, 12, 13, 14, 15, 11, 16, 17, 18, 19, 20, 21, 22, 50, 51, 52, 53, 54, 55, 56, 57, 58, 59, 60, 61, 62, 63, 123, 124, 125, 126, 127, 128, 129, 130, 131, 132, 133, 134, 135, 113, 114, 115, 116, 117, 118, 119, 120, 121, 122] (by decide +kernel) (by decide +kernel)) (goodIn_sub (fun _ h => List.mem_cons_of_mem _ (List.mem_append_left _ (List.mem_append_left _ (List.mem_append_right _ h)))) (by decide +kernel))) (goodIn_sub (fun _ h => List.mem_cons_of_mem _ (List.mem_append_left _ (List.mem_append_right _ h))) (by decide +kernel))
set_option maxRecDepth 20000 in
theorem gL_areAlike_L_of : GoodIn wsL_areAlike (va_wsS RL 89 yL_of wsL_of) := goodIn_app (goodIn_of _ (by decide +kernel)) ggL_areAlike_L_of
set_option maxRecDepth 20000 in
theorem ggL_areAlike_L_count : GoodIn wsL_areAlike wsL_count := goodIn_ca (goodIn_ca (goodIn_r _ [66, 31, 43, 33, 67, 68, 69, 4, 70, 38, 39, 48, 49, 12, 13, 14, 15, 11, 16, 123, 124, 125, 126, 127, 128, 129, 130, 131, 132, 133, 134, 135, 113, 114, 115] (by decide +kernel) (by decide +kernel)) (goodIn_sub (fun _ h => List.mem_cons_of_mem _ (List.mem_append_left _ (List.mem_append_left _ (List.mem_append_right _ h)))) (by decide +kernel))) (goodIn_sub (fun _ h => List.mem_cons_of_mem _ (List.mem_append_left _ (List.mem_append_right _ h))) (by decide +kernel))
set_option maxRecDepth 20000 in
theorem gL_areAlike_L_count : GoodIn wsL_areAlike (va_wsS RL 81 yL_count wsL_count) := goodIn_app (goodIn_of _ (by decide +kernel)) ggL_areAlike_L_count
set_option maxRecDepth 20000 in
theorem ggL_areAlike_L_square : GoodIn wsL_areAlike wsL_square := goodIn_ca (goodIn_ca (goodIn_r _ [73, 31, 74, 32, 33, 75, 76, 77, 4, 78, 38, 39, 79, 80, 12, 13, 14, 15, 11, 16, 81, 82, 83, 84, 85, 86, 87, 88, 89, 123, 124, 125, 126, 127, 128, 129, 130, 131, 132, 133, 134, 135, 113, 114, 115, 136, 137, 138, 139] (by decide +kernel) (by decide +kernel)) (goodIn_sub (fun _ h => List.mem_cons_of_mem _ (List.mem_append_left _ (List.mem_append_left _ (List.mem_append_right _ h)))) (by decide +kernel))) (goodIn_sub (fun _ h => List.mem_cons_of_mem _ (List.mem_append_right _ h)) (by decide +kernel))
set_option maxRecDepth 20000 in
theorem gL_areAlike_L_square : GoodIn wsL_areAlike (va_wsS RL 93 yL_square wsL_square) := goodIn_app (goodIn_of _ (by decide +kernel)) ggL_areAlike_L_square
set_option maxRecDepth 20000 in
theorem ggL_areAlike_L_batch : GoodIn wsL_areAlike wsL_batch := goodIn_ca (goodIn_r _ [92, 31, 32, 33, 93, 94, 95, 4, 96, 38, 39, 6, 81, 82, 83, 97, 18, 98, 99, 100, 101, 102, 103, 104, 105, 106, 107, 108, 109, 56, 57, 58, 110, 61, 62, 63, 111, 112, 113, 114, 115, 116, 117, 118, 119, 120, 121, 122] (by decide +kernel) (by decide +kernel)) (goodIn_sub (fun _ h => List.mem_cons_of_mem _ (List.mem_append_left _ (List.mem_append_left _ (List.mem_append_right _ h)))) (by decide +kernel))
set_option maxRecDepth 20000 in
theorem gL_areAlike_L_batch : GoodIn wsL_areAlike (va_wsS RL 91 yL_batch wsL_batch) := goodIn_app (goodIn_of _ (by decide +kernel)) ggL_areAlike_L_batch
theorem dL_areAlike_0 : decode cL_areAlike 0 = .ok (.aload_n 0, 1) := by decide +kernel
theorem dL_areAlike_1 : decode cL_areAlike 1 = .ok (.invokevirtual 99, 3) := by decide +kernel
theorem dL_areAlike_4 : decode cL_areAlike 4 = .ok (.aload_n 1, 1) := by decide +kernel
theorem dL_areAlike_5 : decode cL_areAlike 5 = .ok (.invokevirtual 99, 3) := by decide +kernel
theorem dL_areAlike_8 : decode cL_areAlike 8 = .ok (.dcmp .l, 1) := by decide +kernel
theorem dL_areAlike_9 : decode cL_areAlike 9 = .ok (.ifCond .ne 18, 3) := by decide +kernel
theorem dL_areAlike_12 : decode cL_areAlike 12 = .ok (.aload_n 0, 1) := by decide +kernel
theorem dL_areAlike_13 : decode cL_areAlike 13 = .ok (.invokevirtual 95, 3) := by decide +kernel
theorem dL_areAlike_16 : decode cL_areAlike 16 = .ok (.aload_n 1, 1) := by decide +kernel
theorem dL_areAlike_17 : decode cL_areAlike 17 = .ok (.invokevirtual 95, 3) := by decide +kernel
theorem dL_areAlike_20 : decode cL_areAlike 20 = .ok (.if_icmp .ne 7, 3) := by decide +kernel
theorem dL_areAlike_23 : decode cL_areAlike 23 = .ok (.iconst 1, 1) := by decide +kernel
theorem dL_areAlike_24 : decode cL_areAlike 24 = .ok (.goto 4, 3) := by decide +kernel
theorem dL_areAlike_27 : decode cL_areAlike 27 = .ok (.iconst 0, 1) := by decide +kernel
theorem dL_areAlike_28 : decode cL_areAlike 28 = .ok (.istore_n 3, 1) := by decide +kernel
theorem dL_areAlike_29 : decode cL_areAlike 29 = .ok (.iconst 0, 1) := by decide +kernel
theorem dL_areAlike_30 : decode cL_areAlike 30 = .ok (.istore 4, 2) := by decide +kernel
theorem dL_areAlike_32 : decode cL_areAlike 32 = .ok (.iload 4, 2) := by decide +kernel
theorem dL_areAlike_34 : decode cL_areAlike 34 = .ok (.iconst 4, 1) := by decide +kernel
theorem dL_areAlike_35 : decode cL_areAlike 35 = .ok (.if_icmp .ge 155, 3) := by decide +kernel
theorem dL_areAlike_38 : decode cL_areAlike 38 = .ok (.iload_n 3, 1) := by decide +kernel
theorem dL_areAlike_39 : decode cL_areAlike 39 = .ok (.ifCond .eq 151, 3) := by decide +kernel
theorem dL_areAlike_42 : decode cL_areAlike 42 = .ok (.aload_n 0, 1) := by decide +kernel
theorem dL_areAlike_43 : decode cL_areAlike 43 = .ok (.iload 4, 2) := by decide +kernel
theorem dL_areAlike_45 : decode cL_areAlike 45 = .ok (.iload_n 2, 1) := by decide +kernel
theorem dL_areAlike_46 : decode cL_areAlike 46 = .ok (.iconst 4, 1) := by decide +kernel
theorem dL_areAlike_47 : decode cL_areAlike 47 = .ok (.invokestatic 63, 3) := by decide +kernel
theorem dL_areAlike_50 : decode cL_areAlike 50 = .ok (.invokestatic 87, 3) := by decide +kernel
theorem dL_areAlike_53 : decode cL_areAlike 53 = .ok (.aload_n 1, 1) := by decide +kernel
theorem dL_areAlike_54 : decode cL_areAlike 54 = .ok (.iload 4, 2) := by decide +kernel
theorem dL_areAlike_56 : decode cL_areAlike 56 = .ok (.iload_n 2, 1) := by decide +kernel
theorem dL_areAlike_57 : decode cL_areAlike 57 = .ok (.iconst 4, 1) := by decide +kernel
theorem dL_areAlike_58 : decode cL_areAlike 58 = .ok (.invokestatic 63, 3) := by decide +kernel
theorem dL_areAlike_61 : decode cL_areAlike 61 = .ok (.invokestatic 87, 3) := by decide +kernel
theorem dL_areAlike_64 : decode cL_areAlike 64 = .ok (.lcmp, 1) := by decide +kernel
theorem dL_areAlike_65 : decode cL_areAlike 65 = .ok (.ifCond .ne 117, 3) := by decide +kernel
theorem dL_areAlike_68 : decode cL_areAlike 68 = .ok (.aload_n 0, 1) := by decide +kernel
theorem dL_areAlike_69 : decode cL_areAlike 69 = .ok (.iload 4, 2) := by decide +kernel
theorem dL_areAlike_71 : decode cL_areAlike 71 = .ok (.iload_n 2, 1) := by decide +kernel
theorem dL_areAlike_72 : decode cL_areAlike 72 = .ok (.iconst 2, 1) := by decide +kernel
theorem dL_areAlike_73 : decode cL_areAlike 73 = .ok (.ishr, 1) := by decide +kernel
theorem dL_areAlike_74 : decode cL_areAlike 74 = .ok (.iconst 4, 1) := by decide +kernel
theorem dL_areAlike_75 : decode cL_areAlike 75 = .ok (.invokestatic 63, 3) := by decide +kernel
theorem dL_areAlike_78 : decode cL_areAlike 78 = .ok (.invokestatic 89, 3) := by decide +kernel
theorem dL_areAlike_81 : decode cL_areAlike 81 = .ok (.aload_n 1, 1) := by decide +kernel
theorem dL_areAlike_82 : decode cL_areAlike 82 = .ok (.iload 4, 2) := by decide +kernel
theorem dL_areAlike_84 : decode cL_areAlike 84 = .ok (.iload_n 2, 1) := by decide +kernel
theorem dL_areAlike_85 : decode cL_areAlike 85 = .ok (.iconst 2, 1) := by decide +kernel
theorem dL_areAlike_86 : decode cL_areAlike 86 = .ok (.ishr, 1) := by decide +kernel
theorem dL_areAlike_87 : decode cL_areAlike 87 = .ok (.iconst 4, 1) := by decide +kernel
theorem dL_areAlike_88 : decode cL_areAlike 88 = .ok (.invokestatic 63, 3) := by decide +kernel
theorem dL_areAlike_91 : decode cL_areAlike 91 = .ok (.invokestatic 89, 3) := by decide +kernel
theorem dL_areAlike_94 : decode cL_areAlike 94 = .ok (.lcmp, 1) := by decide +kernel
theorem dL_areAlike_95 : decode cL_areAlike 95 = .ok (.ifCond .ne 87, 3) := by decide +kernel
theorem dL_areAlike_98 : decode cL_areAlike 98 = .ok (.aload_n 0, 1) := by decide +kernel
theorem dL_areAlike_99 : decode cL_areAlike 99 = .ok (.iload 4, 2) := by decide +kernel
theorem dL_areAlike_101 : decode cL_areAlike 101 = .ok (.iload_n 2, 1) := by decide +kernel
theorem dL_areAlike_102 : decode cL_areAlike 102 = .ok (.iconst 4, 1) := by decide +kernel
theorem dL_areAlike_103 : decode cL_areAlike 103 = .ok (.ishr, 1) := by decide +kernel
theorem dL_areAlike_104 : decode cL_areAlike 104 = .ok (.iconst 4, 1) := by decide +kernel
theorem dL_areAlike_105 : decode cL_areAlike 105 = .ok (.invokestatic 63, 3) := by decide +kernel
theorem dL_areAlike_108 : decode cL_areAlike 108 = .ok (.invokestatic 81, 3) := by decide +kernel
theorem dL_areAlike_111 : decode cL_areAlike 111 = .ok (.aload_n 1, 1) := by decide +kernel
theorem dL_areAlike_112 : decode cL_areAlike 112 = .ok (.iload 4, 2) := by decide +kernel
theorem dL_areAlike_114 : decode cL_areAlike 114 = .ok (.iload_n 2, 1) := by decide +kernel
theorem dL_areAlike_115 : decode cL_areAlike 115 = .ok (.iconst 4, 1) := by decide +kernel
theorem dL_areAlike_116 : decode cL_areAlike 116 = .ok (.ishr, 1) := by decide +kernel
theorem dL_areAlike_117 : decode cL_areAlike 117 = .ok (.iconst 4, 1) := by decide +kernel
theorem dL_areAlike_118 : decode cL_areAlike 118 = .ok (.invokestatic 63, 3) := by decide +kernel
theorem dL_areAlike_121 : decode cL_areAlike 121 = .ok (.invokestatic 81, 3) := by decide +kernel
theorem dL_areAlike_124 : decode cL_areAlike 124 = .ok (.lcmp, 1) := by decide +kernel
theorem dL_areAlike_125 : decode cL_areAlike 125 = .ok (.ifCond .ne 57, 3) := by decide +kernel
theorem dL_areAlike_128 : decode cL_areAlike 128 = .ok (.aload_n 0, 1) := by decide +kernel
theorem dL_areAlike_129 : decode cL_areAlike 129 = .ok (.iload 4, 2) := by decide +kernel
theorem dL_areAlike_131 : decode cL_areAlike 131 = .ok (.iload_n 2, 1) := by decide +kernel
theorem dL_areAlike_132 : decode cL_areAlike 132 = .ok (.bipush 6, 2) := by decide +kernel
theorem dL_areAlike_134 : decode cL_areAlike 134 = .ok (.ishr, 1) := by decide +kernel
theorem dL_areAlike_135 : decode cL_areAlike 135 = .ok (.iconst 3, 1) := by decide +kernel
theorem dL_areAlike_136 : decode cL_areAlike 136 = .ok (.invokestatic 63, 3) := by decide +kernel
theorem dL_areAlike_139 : decode cL_areAlike 139 = .ok (.iconst 0, 1) := by decide +kernel
theorem dL_areAlike_140 : decode cL_areAlike 140 = .ok (.invokestatic 93, 3) := by decide +kernel
theorem dL_areAlike_143 : decode cL_areAlike 143 = .ok (.aload_n 1, 1) := by decide +kernel
theorem dL_areAlike_144 : decode cL_areAlike 144 = .ok (.iload 4, 2) := by decide +kernel
theorem dL_areAlike_146 : decode cL_areAlike 146 = .ok (.iload_n 2, 1) := by decide +kernel
theorem dL_areAlike_147 : decode cL_areAlike 147 = .ok (.bipush 6, 2) := by decide +kernel
theorem dL_areAlike_149 : decode cL_areAlike 149 = .ok (.ishr, 1) := by decide +kernel
theorem dL_areAlike_150 : decode cL_areAlike 150 = .ok (.iconst 3, 1) := by decide +kernel
theorem dL_areAlike_151 : decode cL_areAlike 151 = .ok (.invokestatic 63, 3) := by decide +kernel
theorem dL_areAlike_154 : decode cL_areAlike 154 = .ok (.iconst 0, 1) := by decide +kernel
theorem dL_areAlike_155 : decode cL_areAlike 155 = .ok (.invokestatic 93, 3) := by decide +kernel
theorem dL_areAlike_158 : decode cL_areAlike 158 = .ok (.lcmp, 1) := by decide +kernel
theorem dL_areAlike_159 : decode cL_areAlike 159 = .ok (.ifCond .ne 23, 3) := by decide +kernel
theorem dL_areAlike_162 : decode cL_areAlike 162 = .ok (.aload_n 0, 1) := by decide +kernel
theorem dL_areAlike_163 : decode cL_areAlike 163 = .ok (.iload 4, 2) := by decide +kernel
theorem dL_areAlike_165 : decode cL_areAlike 165 = .ok (.invokestatic 91, 3) := by decide +kernel
theorem dL_areAlike_168 : decode cL_areAlike 168 = .ok (.aload_n 1, 1) := by decide +kernel
theorem dL_areAlike_169 : decode cL_areAlike 169 = .ok (.iload 4, 2) := by decide +kernel
theorem dL_areAlike_171 : decode cL_areAlike 171 = .ok (.invokestatic 91, 3) := by decide +kernel
theorem dL_areAlike_174 : decode cL_areAlike 174 = .ok (.lcmp, 1) := by decide +kernel
theorem dL_areAlike_175 : decode cL_areAlike 175 = .ok (.ifCond .ne 7, 3) := by decide +kernel
theorem dL_areAlike_178 : decode cL_areAlike 178 = .ok (.iconst 1, 1) := by decide +kernel
theorem dL_areAlike_179 : decode cL_areAlike 179 = .ok (.goto 4, 3) := by decide +kernel
theorem dL_areAlike_182 : decode cL_areAlike 182 = .ok (.iconst 0, 1) := by decide +kernel
theorem dL_areAlike_183 : decode cL_areAlike 183 = .ok (.istore_n 3, 1) := by decide +kernel
theorem dL_areAlike_184 : decode cL_areAlike 184 = .ok (.iinc 4 1, 3) := by decide +kernel
theorem dL_areAlike_187 : decode cL_areAlike 187 = .ok (.goto (-155), 3) := by decide +kernel
theorem dL_areAlike_190 : decode cL_areAlike 190 = .ok (.iload_n 3, 1) := by decide +kernel
theorem dL_areAlike_191 : decode cL_areAlike 191 = .ok (.ireturn, 1) := by decide +kernel
set_option maxRecDepth 20000 in
theorem ggL_isSo_X3_best : GoodIn wsL_isSo wsX3_best := goodIn_r _ [8, 9, 10, 11, 12, 13, 7, 14, 15, 16, 17, 18, 19, 20, 21, 95, 96, 97, 98, 99, 100, 101, 102, 103, 104, 105, 106, 107, 108, 109, 110, 111, 112, 113, 114, 115, 116, 117] (by decide +kernel) (by decide +kernel)
set_option maxRecDepth 20000 in
theorem gL_isSo_X3_best : GoodIn wsL_isSo (wsV RL 95 RX3 yX3_best wsX3_best) := goodIn_app (goodIn_of _ (by decide +kernel)) ggL_isSo_X3_best
set_option maxRecDepth 20000 in
theorem ggL_isSo_L_count : GoodIn wsL_isSo wsL_count := goodIn_ca (goodIn_ca (goodIn_r _ [25, 26, 27, 1, 28, 29, 30, 7, 31, 32, 33, 34, 35, 11, 12, 13, 14, 9, 15, 98, 99, 100, 101, 102, 103, 104, 105, 106, 107, 108, 109, 110, 95, 96, 97] (by decide +kernel) (by decide +kernel)) (goodIn_sub (fun _ h => List.mem_cons_of_mem _ (List.mem_append_left _ (List.mem_append_right _ h))) (by decide +kernel))) (goodIn_sub (fun _ h => List.mem_cons_of_mem _ (List.mem_append_right _ h)) (by decide +kernel))
set_option maxRecDepth 20000 in
theorem gL_isSo_L_count : GoodIn wsL_isSo (va_wsS RL 81 yL_count wsL_count) := goodIn_app (goodIn_of _ (by decide +kernel)) ggL_isSo_L_count
set_option maxRecDepth 20000 in
theorem ggL_isSo_X3_count : GoodIn wsL_isSo wsX3_count := goodIn_ca (goodIn_ca (goodIn_r _ [31, 32, 33, 34, 35, 11, 12, 13, 7, 14, 9, 15, 98, 99, 100, 101, 102, 103, 104, 105, 106, 107, 108, 109, 110, 95, 96, 97] (by decide +kernel) (by decide +kernel)) (goodIn_sub (fun _ h => List.mem_cons_of_mem _ (List.mem_append_left _ (List.mem_append_right _ h))) (by decide +kernel))) (goodIn_sub (fun _ h => List.mem_cons_of_mem _ (List.mem_append_right _ h)) (by decide +kernel))
set_option maxRecDepth 20000 in
theorem gL_isSo_X3_count : GoodIn wsL_isSo (wsV RL 52 RX3 yX3_count wsX3_count) := goodIn_app (goodIn_of _ (by decide +kernel)) ggL_isSo_X3_count
set_option maxRecDepth 20000 in
theorem ggL_isSo_X3_of : GoodIn wsL_isSo wsX3_of := goodIn_ca (goodIn_ca (goodIn_r _ [39, 32, 33, 34, 35, 10, 11, 12, 13, 7, 14, 9, 15, 16, 17, 18, 19, 20, 21, 40, 41, 42, 43, 44, 45, 46, 47, 48, 49, 50, 51, 52, 53, 98, 99, 100, 101, 102, 103, 104, 105, 106, 107, 108, 109, 110, 95, 96, 97, 111, 112, 113, 114, 115, 116, 117] (by decide +kernel) (by decide +kernel)) (goodIn_sub (fun _ h => List.mem_cons_of_mem _ (List.mem_append_left _ (List.mem_append_right _ h))) (by decide +kernel))) (goodIn_sub (fun _ h => List.mem_cons_of_mem _ (List.mem_append_right _ h)) (by decide +kernel))
set_option maxRecDepth 20000 in
theorem gL_isSo_X3_of : GoodIn wsL_isSo (wsV RL 49 RX3 yX3_of wsX3_of) := goodIn_app (goodIn_of _ (by decide +kernel)) ggL_isSo_X3_of
set_option maxRecDepth 20000 in
theorem ggL_isSo_X3_microphone : GoodIn wsL_isSo wsX3_microphone := goodIn_r _ [57, 10, 95, 96, 97, 111, 112, 113, 114, 115, 116, 117] (by decide +kernel) (by decide +kernel)
set_option maxRecDepth 20000 in
theorem gL_isSo_X3_microphone : GoodIn wsL_isSo (wsV RL 99 RX3 yX3_microphone wsX3_microphone) := goodIn_app (goodIn_of _ (by decide +kernel)) ggL_isSo_X3_microphone
set_option maxRecDepth 20000 in
theorem ggL_isSo_L_weight : GoodIn wsL_isSo wsL_weight := goodIn_ca (goodIn_r _ [60, 26, 61, 1, 62, 63, 64, 7, 65, 32, 33, 11, 12, 13, 14, 9, 15, 98, 99, 100, 101, 102, 103, 104, 105, 106, 107, 108, 109, 110, 95, 96, 97] (by decide +kernel) (by decide +kernel)) (goodIn_sub (fun _ h => List.mem_cons_of_mem _ (List.mem_append_left _ (List.mem_append_right _ h))) (by decide +kernel))
set_option maxRecDepth 20000 in
theorem gL_isSo_L_weight : GoodIn wsL_isSo (va_wsS RL 87 yL_weight wsL_weight) := goodIn_app (goodIn_of _ (by decide +kernel)) ggL_isSo_L_weight
set_option maxRecDepth 20000 in
theorem ggL_isSo_X3_weight : GoodIn wsL_isSo wsX3_weight := goodIn_ca (goodIn_r _ [65, 32, 33, 11, 12, 13, 7, 14, 9, 15, 98, 99, 100, 101, 102, 103, 104, 105, 106, 107, 108, 109, 110, 95, 96, 97] (by decide +kernel) (by decide +kernel)) (goodIn_sub (fun _ h => List.mem_cons_of_mem _ (List.mem_append_left _ (List.mem_append_right _ h))) (by decide +kernel))
set_option maxRecDepth 20000 in
theorem gL_isSo_X3_weight : GoodIn wsL_isSo (wsV RL 45 RX3 yX3_weight wsX3_weight) := goodIn_app (goodIn_of _ (by decide +kernel)) ggL_isSo_X3_weight
set_option maxRecDepth 20000 in
theorem ggL_isSo_L_batch : GoodIn wsL_isSo wsL_batch := goodIn_ca (goodIn_r _ [68, 26, 61, 1, 69, 70, 71, 7, 72, 32, 33, 10, 73, 74, 75, 76, 17, 77, 78, 79, 80, 81, 82, 83, 84, 85, 86, 87, 88, 46, 47, 48, 89, 51, 52, 53, 90, 91, 95, 96, 97, 111, 112, 113, 114, 115, 116, 117] (by decide +kernel) (by decide +kernel)) (goodIn_sub (fun _ h => List.mem_cons_of_mem _ (List.mem_append_left _ (List.mem_append_right _ h))) (by decide +kernel))
set_option maxRecDepth 20000 in
theorem gL_isSo_L_batch : GoodIn wsL_isSo (va_wsS RL 91 yL_batch wsL_batch) := goodIn_app (goodIn_of _ (by decide +kernel)) ggL_isSo_L_batch
set_option maxRecDepth 20000 in
theorem ggL_isSo_L_of : GoodIn wsL_isSo wsL_of := goodIn_ca (goodIn_ca (goodIn_r _ [94, 26, 27, 61, 1, 36, 37, 38, 7, 39, 32, 33, 34, 35, 10, 11, 12, 13, 14, 9, 15, 16, 17, 18, 19, 20, 21, 40, 41, 42, 43, 44, 45, 46, 47, 48, 49, 50, 51, 52, 53, 98, 99, 100, 101, 102, 103, 104, 105, 106, 107, 108, 109, 110, 95, 96, 97, 111, 112, 113, 114, 115, 116, 117] (by decide +kernel) (by decide +kernel)) (goodIn_sub (fun _ h => List.mem_cons_of_mem _ (List.mem_append_left _ (List.mem_append_right _ h))) (by decide +kernel))) (goodIn_sub (fun _ h => List.mem_cons_of_mem _ (List.mem_append_right _ h)) (by decide +kernel))
set_option maxRecDepth 20000 in
theorem gL_isSo_L_of : GoodIn wsL_isSo (va_wsS RL 89 yL_of wsL_of) := goodIn_app (goodIn_of _ (by decide +kernel)) ggL_isSo_L_of
theorem dL_isSo_0 : decode cL_isSo 0 = .ok (.iconst 1, 1) := by decide +kernel
theorem dL_isSo_1 : decode cL_isSo 1 = .ok (.istore_n 1, 1) := by decide +kernel
theorem dL_isSo_2 : decode cL_isSo 2 = .ok (.aload_n 0, 1) := by decide +kernel
theorem dL_isSo_3 : decode cL_isSo 3 = .ok (.invokevirtual 95, 3) := by decide +kernel
theorem dL_isSo_6 : decode cL_isSo 6 = .ok (.istore_n 2, 1) := by decide +kernel
theorem dL_isSo_7 : decode cL_isSo 7 = .ok (.iconst 0, 1) := by decide +kernel
theorem dL_isSo_8 : decode cL_isSo 8 = .ok (.istore_n 3, 1) := by decide +kernel
theorem dL_isSo_9 : decode cL_isSo 9 = .ok (.iload_n 3, 1) := by decide +kernel
theorem dL_isSo_10 : decode cL_isSo 10 = .ok (.bipush 6, 2) := by decide +kernel
theorem dL_isSo_12 : decode cL_isSo 12 = .ok (.if_icmp .ge 243, 3) := by decide +kernel
theorem dL_isSo_15 : decode cL_isSo 15 = .ok (.iload_n 1, 1) := by decide +kernel
theorem dL_isSo_16 : decode cL_isSo 16 = .ok (.ifCond .eq 239, 3) := by decide +kernel
theorem dL_isSo_19 : decode cL_isSo 19 = .ok (.aload_n 0, 1) := by decide +kernel
theorem dL_isSo_20 : decode cL_isSo 20 = .ok (.iload_n 3, 1) := by decide +kernel
theorem dL_isSo_21 : decode cL_isSo 21 = .ok (.iconst 0, 1) := by decide +kernel
theorem dL_isSo_22 : decode cL_isSo 22 = .ok (.invokestatic 81, 3) := by decide +kernel
theorem dL_isSo_25 : decode cL_isSo 25 = .ok (.ldc2_w 16, 3) := by decide +kernel
theorem dL_isSo_28 : decode cL_isSo 28 = .ok (.lcmp, 1) := by decide +kernel
theorem dL_isSo_29 : decode cL_isSo 29 = .ok (.ifCond .eq 220, 3) := by decide +kernel
theorem dL_isSo_32 : decode cL_isSo 32 = .ok (.aload_n 0, 1) := by decide +kernel
theorem dL_isSo_33 : decode cL_isSo 33 = .ok (.iload_n 3, 1) := by decide +kernel
theorem dL_isSo_34 : decode cL_isSo 34 = .ok (.iconst 0, 1) := by decide +kernel
theorem dL_isSo_35 : decode cL_isSo 35 = .ok (.invokevirtual 52, 3) := by decide +kernel
theorem dL_isSo_38 : decode cL_isSo 38 = .ok (.istore 4, 2) := by decide +kernel
theorem dL_isSo_40 : decode cL_isSo 40 = .ok (.aload_n 0, 1) := by decide +kernel
theorem dL_isSo_41 : decode cL_isSo 41 = .ok (.iload_n 3, 1) := by decide +kernel
theorem dL_isSo_42 : decode cL_isSo 42 = .ok (.iconst 1, 1) := by decide +kernel
theorem dL_isSo_43 : decode cL_isSo 43 = .ok (.invokevirtual 52, 3) := by decide +kernel
theorem dL_isSo_46 : decode cL_isSo 46 = .ok (.iload 4, 2) := by decide +kernel
theorem dL_isSo_48 : decode cL_isSo 48 = .ok (.if_icmp .gt 127, 3) := by decide +kernel
theorem dL_isSo_51 : decode cL_isSo 51 = .ok (.aload_n 0, 1) := by decide +kernel
theorem dL_isSo_52 : decode cL_isSo 52 = .ok (.iload_n 3, 1) := by decide +kernel
theorem dL_isSo_53 : decode cL_isSo 53 = .ok (.iconst 2, 1) := by decide +kernel
theorem dL_isSo_54 : decode cL_isSo 54 = .ok (.invokevirtual 52, 3) := by decide +kernel
theorem dL_isSo_57 : decode cL_isSo 57 = .ok (.iload 4, 2) := by decide +kernel
theorem dL_isSo_59 : decode cL_isSo 59 = .ok (.if_icmp .gt 116, 3) := by decide +kernel
theorem dL_isSo_62 : decode cL_isSo 62 = .ok (.aload_n 0, 1) := by decide +kernel
theorem dL_isSo_63 : decode cL_isSo 63 = .ok (.iload_n 3, 1) := by decide +kernel
theorem dL_isSo_64 : decode cL_isSo 64 = .ok (.iconst 3, 1) := by decide +kernel
theorem dL_isSo_65 : decode cL_isSo 65 = .ok (.invokevirtual 52, 3) := by decide +kernel
theorem dL_isSo_68 : decode cL_isSo 68 = .ok (.ifCond .lt 107, 3) := by decide +kernel
theorem dL_isSo_71 : decode cL_isSo 71 = .ok (.aload_n 0, 1) := by decide +kernel
theorem dL_isSo_72 : decode cL_isSo 72 = .ok (.iload_n 3, 1) := by decide +kernel
theorem dL_isSo_73 : decode cL_isSo 73 = .ok (.iconst 3, 1) := by decide +kernel
theorem dL_isSo_74 : decode cL_isSo 74 = .ok (.invokevirtual 52, 3) := by decide +kernel
theorem dL_isSo_77 : decode cL_isSo 77 = .ok (.bipush 20, 2) := by decide +kernel
theorem dL_isSo_79 : decode cL_isSo 79 = .ok (.if_icmp .gt 96, 3) := by decide +kernel
theorem dL_isSo_82 : decode cL_isSo 82 = .ok (.aload_n 0, 1) := by decide +kernel
theorem dL_isSo_83 : decode cL_isSo 83 = .ok (.iload_n 3, 1) := by decide +kernel
theorem dL_isSo_84 : decode cL_isSo 84 = .ok (.iconst 2, 1) := by decide +kernel
theorem dL_isSo_85 : decode cL_isSo 85 = .ok (.invokevirtual 49, 3) := by decide +kernel
theorem dL_isSo_88 : decode cL_isSo 88 = .ok (.dconst 0, 1) := by decide +kernel
theorem dL_isSo_89 : decode cL_isSo 89 = .ok (.dcmp .l, 1) := by decide +kernel
theorem dL_isSo_90 : decode cL_isSo 90 = .ok (.ifCond .lt 85, 3) := by decide +kernel
theorem dL_isSo_93 : decode cL_isSo 93 = .ok (.aload_n 0, 1) := by decide +kernel
theorem dL_isSo_94 : decode cL_isSo 94 = .ok (.iload_n 3, 1) := by decide +kernel
theorem dL_isSo_95 : decode cL_isSo 95 = .ok (.iconst 3, 1) := by decide +kernel
theorem dL_isSo_96 : decode cL_isSo 96 = .ok (.invokevirtual 49, 3) := by decide +kernel
theorem dL_isSo_99 : decode cL_isSo 99 = .ok (.dconst 0, 1) := by decide +kernel
theorem dL_isSo_100 : decode cL_isSo 100 = .ok (.dcmp .l, 1) := by decide +kernel
theorem dL_isSo_101 : decode cL_isSo 101 = .ok (.ifCond .lt 74, 3) := by decide +kernel
theorem dL_isSo_104 : decode cL_isSo 104 = .ok (.iload 4, 2) := by decide +kernel
theorem dL_isSo_106 : decode cL_isSo 106 = .ok (.ifCond .ne 28, 3) := by decide +kernel
theorem dL_isSo_109 : decode cL_isSo 109 = .ok (.aload_n 0, 1) := by decide +kernel
theorem dL_isSo_110 : decode cL_isSo 110 = .ok (.iload_n 3, 1) := by decide +kernel
theorem dL_isSo_111 : decode cL_isSo 111 = .ok (.iconst 0, 1) := by decide +kernel
theorem dL_isSo_112 : decode cL_isSo 112 = .ok (.invokevirtual 49, 3) := by decide +kernel
theorem dL_isSo_115 : decode cL_isSo 115 = .ok (.dconst 0, 1) := by decide +kernel
theorem dL_isSo_116 : decode cL_isSo 116 = .ok (.dcmp .l, 1) := by decide +kernel
theorem dL_isSo_117 : decode cL_isSo 117 = .ok (.ifCond .ne 58, 3) := by decide +kernel
theorem dL_isSo_120 : decode cL_isSo 120 = .ok (.aload_n 0, 1) := by decide +kernel
theorem dL_isSo_121 : decode cL_isSo 121 = .ok (.iload_n 3, 1) := by decide +kernel
theorem dL_isSo_122 : decode cL_isSo 122 = .ok (.iconst 1, 1) := by decide +kernel
theorem dL_isSo_123 : decode cL_isSo 123 = .ok (.invokevirtual 49, 3) := by decide +kernel
theorem dL_isSo_126 : decode cL_isSo 126 = .ok (.dconst 0, 1) := by decide +kernel
theorem dL_isSo_127 : decode cL_isSo 127 = .ok (.dcmp .l, 1) := by decide +kernel
theorem dL_isSo_128 : decode cL_isSo 128 = .ok (.ifCond .ne 47, 3) := by decide +kernel
theorem dL_isSo_131 : decode cL_isSo 131 = .ok (.goto 24, 3) := by decide +kernel
theorem dL_isSo_134 : decode cL_isSo 134 = .ok (.aload_n 0, 1) := by decide +kernel
theorem dL_isSo_135 : decode cL_isSo 135 = .ok (.iload_n 3, 1) := by decide +kernel
theorem dL_isSo_136 : decode cL_isSo 136 = .ok (.iconst 1, 1) := by decide +kernel
theorem dL_isSo_137 : decode cL_isSo 137 = .ok (.invokevirtual 49, 3) := by decide +kernel
theorem dL_isSo_140 : decode cL_isSo 140 = .ok (.aload_n 0, 1) := by decide +kernel
theorem dL_isSo_141 : decode cL_isSo 141 = .ok (.invokevirtual 99, 3) := by decide +kernel
theorem dL_isSo_144 : decode cL_isSo 144 = .ok (.aload_n 0, 1) := by decide +kernel
theorem dL_isSo_145 : decode cL_isSo 145 = .ok (.iload_n 3, 1) := by decide +kernel
theorem dL_isSo_146 : decode cL_isSo 146 = .ok (.iconst 0, 1) := by decide +kernel
theorem dL_isSo_147 : decode cL_isSo 147 = .ok (.invokevirtual 49, 3) := by decide +kernel
theorem dL_isSo_150 : decode cL_isSo 150 = .ok (.dsub, 1) := by decide +kernel
theorem dL_isSo_151 : decode cL_isSo 151 = .ok (.dcmp .l, 1) := by decide +kernel
theorem dL_isSo_152 : decode cL_isSo 152 = .ok (.ifCond .ne 23, 3) := by decide +kernel
theorem dL_isSo_155 : decode cL_isSo 155 = .ok (.aload_n 0, 1) := by decide +kernel
theorem dL_isSo_156 : decode cL_isSo 156 = .ok (.iload_n 2, 1) := by decide +kernel
theorem dL_isSo_157 : decode cL_isSo 157 = .ok (.iconst 2, 1) := by decide +kernel
theorem dL_isSo_158 : decode cL_isSo 158 = .ok (.invokevirtual 49, 3) := by decide +kernel
theorem dL_isSo_161 : decode cL_isSo 161 = .ok (.aload_n 0, 1) := by decide +kernel
theorem dL_isSo_162 : decode cL_isSo 162 = .ok (.iload_n 3, 1) := by decide +kernel
theorem dL_isSo_163 : decode cL_isSo 163 = .ok (.iconst 2, 1) := by decide +kernel
theorem dL_isSo_164 : decode cL_isSo 164 = .ok (.invokevirtual 49, 3) := by decide +kernel
theorem dL_isSo_167 : decode cL_isSo 167 = .ok (.dcmp .g, 1) := by decide +kernel
theorem dL_isSo_168 : decode cL_isSo 168 = .ok (.ifCond .gt 7, 3) := by decide +kernel
theorem dL_isSo_171 : decode cL_isSo 171 = .ok (.iconst 1, 1) := by decide +kernel
theorem dL_isSo_172 : decode cL_isSo 172 = .ok (.goto 4, 3) := by decide +kernel
theorem dL_isSo_175 : decode cL_isSo 175 = .ok (.iconst 0, 1) := by decide +kernel
theorem dL_isSo_176 : decode cL_isSo 176 = .ok (.istore_n 1, 1) := by decide +kernel
theorem dL_isSo_177 : decode cL_isSo 177 = .ok (.iconst 0, 1) := by decide +kernel
theorem dL_isSo_178 : decode cL_isSo 178 = .ok (.istore 5, 2) := by decide +kernel
theorem dL_isSo_180 : decode cL_isSo 180 = .ok (.iload 5, 2) := by decide +kernel
theorem dL_isSo_182 : decode cL_isSo 182 = .ok (.bipush 8, 2) := by decide +kernel
theorem dL_isSo_184 : decode cL_isSo 184 = .ok (.if_icmp .ge 65, 3) := by decide +kernel
theorem dL_isSo_187 : decode cL_isSo 187 = .ok (.iload_n 1, 1) := by decide +kernel
theorem dL_isSo_188 : decode cL_isSo 188 = .ok (.ifCond .eq 61, 3) := by decide +kernel
theorem dL_isSo_191 : decode cL_isSo 191 = .ok (.aload_n 0, 1) := by decide +kernel
theorem dL_isSo_192 : decode cL_isSo 192 = .ok (.iload_n 3, 1) := by decide +kernel
theorem dL_isSo_193 : decode cL_isSo 193 = .ok (.iload 5, 2) := by decide +kernel
theorem dL_isSo_195 : decode cL_isSo 195 = .ok (.invokestatic 87, 3) := by decide +kernel
theorem dL_isSo_198 : decode cL_isSo 198 = .ok (.lstore 6, 2) := by decide +kernel
theorem dL_isSo_200 : decode cL_isSo 200 = .ok (.lload 6, 2) := by decide +kernel
theorem dL_isSo_202 : decode cL_isSo 202 = .ok (.ldc2_w 16, 3) := by decide +kernel
theorem dL_isSo_205 : decode cL_isSo 205 = .ok (.lcmp, 1) := by decide +kernel
