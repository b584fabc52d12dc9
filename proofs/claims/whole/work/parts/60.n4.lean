set_option maxRecDepth 20000 in
theorem ggL_begin_X3_begin : GoodIn wsL_begin wsX3_begin := goodIn_ca (goodIn_r _ [6, 7, 8, 9, 10, 11, 12, 13, 14, 15, 16, 17, 18, 19, 20, 21, 22, 23, 24, 25, 26, 27, 28, 29, 30, 31, 32, 33, 34, 35, 36, 37, 38, 39, 40, 41, 5, 42, 43, 44, 45, 46, 47, 48, 49, 50, 51, 52, 53, 54, 55, 56, 57, 58, 59, 60, 61, 62, 63] (by decide +kernel) (by decide +kernel)) (goodIn_sub (fun _ h => List.mem_cons_of_mem _ (List.mem_append_right _ h)) (by decide +kernel))
set_option maxRecDepth 20000 in
theorem gL_begin_X3_begin : GoodIn wsL_begin (wsV RL 7 RX3 yX3_begin wsX3_begin) := goodIn_app (goodIn_of _ (by decide +kernel)) ggL_begin_X3_begin
theorem dL_begin_0 : decode cL_begin 0 = .ok (.aload_n 0, 1) := by decide +kernel
theorem dL_begin_1 : decode cL_begin 1 = .ok (.iload_n 1, 1) := by decide +kernel
theorem dL_begin_2 : decode cL_begin 2 = .ok (.invokevirtual 7, 3) := by decide +kernel
theorem dL_begin_5 : decode cL_begin 5 = .ok (.goto 6, 3) := by decide +kernel
theorem dL_begin_8 : decode cL_begin 8 = .ok (.astore_n 2, 1) := by decide +kernel
theorem dL_begin_9 : decode cL_begin 9 = .ok (.iconst 1, 1) := by decide +kernel
theorem dL_begin_10 : decode cL_begin 10 = .ok (.ireturn, 1) := by decide +kernel
theorem dL_begin_11 : decode cL_begin 11 = .ok (.iconst 0, 1) := by decide +kernel
theorem dL_begin_12 : decode cL_begin 12 = .ok (.ireturn, 1) := by decide +kernel
set_option maxRecDepth 20000 in
theorem ggL_bar_X3_bar : GoodIn wsL_bar wsX3_bar := goodIn_ca (goodIn_r _ [6, 7, 8, 9, 10, 5, 11, 12, 13, 14, 15, 16, 17, 18, 19, 20, 21, 22, 23, 24, 25, 26, 27, 28, 29, 30, 31, 32, 33, 34, 35, 36, 37, 38, 39, 40, 41, 42, 43, 44, 45, 46, 47, 48, 49, 50, 51, 52, 53, 54, 55, 56, 57, 58, 59, 60, 61, 62, 63, 64, 65, 66, 67, 68, 69] (by decide +kernel) (by decide +kernel)) (goodIn_sub (fun _ h => List.mem_cons_of_mem _ (List.mem_append_right _ h)) (by decide +kernel))
set_option maxRecDepth 20000 in
theorem gL_bar_X3_bar : GoodIn wsL_bar (wsV RL 15 RX3 yX3_bar wsX3_bar) := goodIn_app (goodIn_of _ (by decide +kernel)) ggL_bar_X3_bar
theorem dL_bar_0 : decode cL_bar 0 = .ok (.aload_n 2, 1) := by decide +kernel
theorem dL_bar_1 : decode cL_bar 1 = .ok (.iconst 0, 1) := by decide +kernel
theorem dL_bar_2 : decode cL_bar 2 = .ok (.aload_n 0, 1) := by decide +kernel
theorem dL_bar_3 : decode cL_bar 3 = .ok (.iload_n 1, 1) := by decide +kernel
theorem dL_bar_4 : decode cL_bar 4 = .ok (.invokevirtual 15, 3) := by decide +kernel
theorem dL_bar_7 : decode cL_bar 7 = .ok (.ifCond .eq 7, 3) := by decide +kernel
theorem dL_bar_10 : decode cL_bar 10 = .ok (.lconst 1, 1) := by decide +kernel
theorem dL_bar_11 : decode cL_bar 11 = .ok (.goto 4, 3) := by decide +kernel
theorem dL_bar_14 : decode cL_bar 14 = .ok (.lconst 0, 1) := by decide +kernel
theorem dL_bar_15 : decode cL_bar 15 = .ok (.lastore, 1) := by decide +kernel
theorem dL_bar_16 : decode cL_bar 16 = .ok (.goto 6, 3) := by decide +kernel
theorem dL_bar_19 : decode cL_bar 19 = .ok (.astore_n 3, 1) := by decide +kernel
theorem dL_bar_20 : decode cL_bar 20 = .ok (.iconst 1, 1) := by decide +kernel
theorem dL_bar_21 : decode cL_bar 21 = .ok (.ireturn, 1) := by decide +kernel
theorem dL_bar_22 : decode cL_bar 22 = .ok (.iconst 0, 1) := by decide +kernel
theorem dL_bar_23 : decode cL_bar 23 = .ok (.ireturn, 1) := by decide +kernel
set_option maxRecDepth 20000 in
theorem ggL_barBoth_X3_barBoth : GoodIn wsL_barBoth wsX3_barBoth := goodIn_ca (goodIn_r _ [6, 7, 8, 9, 10, 5, 11, 12, 13, 14, 15, 16, 17, 18, 19, 20, 21, 22, 23, 24, 25, 26, 27, 28, 29, 30, 31, 32, 33, 34, 35, 36, 37, 38, 39, 40, 41, 42, 43, 44, 45, 46, 47, 48, 49, 50, 51, 52, 53, 54, 55, 56, 57, 58, 59, 60, 61, 62, 63, 64, 65, 66, 67, 68, 69, 70, 71, 72, 73, 74, 75, 76, 77, 78, 79, 80] (by decide +kernel) (by decide +kernel)) (goodIn_sub (fun _ h => List.mem_cons_of_mem _ (List.mem_append_right _ h)) (by decide +kernel))
set_option maxRecDepth 20000 in
theorem gL_barBoth_X3_barBoth : GoodIn wsL_barBoth (wsV RL 21 RX3 yX3_barBoth wsX3_barBoth) := goodIn_app (goodIn_of _ (by decide +kernel)) ggL_barBoth_X3_barBoth
theorem dL_barBoth_0 : decode cL_barBoth 0 = .ok (.aload_n 2, 1) := by decide +kernel
theorem dL_barBoth_1 : decode cL_barBoth 1 = .ok (.iconst 0, 1) := by decide +kernel
theorem dL_barBoth_2 : decode cL_barBoth 2 = .ok (.aload_n 0, 1) := by decide +kernel
theorem dL_barBoth_3 : decode cL_barBoth 3 = .ok (.iload_n 1, 1) := by decide +kernel
theorem dL_barBoth_4 : decode cL_barBoth 4 = .ok (.invokevirtual 21, 3) := by decide +kernel
theorem dL_barBoth_7 : decode cL_barBoth 7 = .ok (.i2l, 1) := by decide +kernel
theorem dL_barBoth_8 : decode cL_barBoth 8 = .ok (.lastore, 1) := by decide +kernel
theorem dL_barBoth_9 : decode cL_barBoth 9 = .ok (.goto 6, 3) := by decide +kernel
theorem dL_barBoth_12 : decode cL_barBoth 12 = .ok (.astore_n 3, 1) := by decide +kernel
theorem dL_barBoth_13 : decode cL_barBoth 13 = .ok (.iconst 1, 1) := by decide +kernel
theorem dL_barBoth_14 : decode cL_barBoth 14 = .ok (.ireturn, 1) := by decide +kernel
theorem dL_barBoth_15 : decode cL_barBoth 15 = .ok (.iconst 0, 1) := by decide +kernel
theorem dL_barBoth_16 : decode cL_barBoth 16 = .ok (.ireturn, 1) := by decide +kernel
set_option maxRecDepth 20000 in
theorem ggL_give_X3_give : GoodIn wsL_give wsX3_give := goodIn_ca (goodIn_ca (goodIn_ca (goodIn_r _ [8, 9, 10, 11, 12, 13, 14, 15, 16, 7, 17, 18, 19, 20, 21, 22, 23, 24, 25, 26, 27, 28, 29, 30, 31, 32, 33, 34, 35, 36, 37, 38, 39, 40, 41, 42, 43, 44, 45, 46, 47, 48, 49, 50, 51, 52, 53, 54, 55] (by decide +kernel) (by decide +kernel)) (goodIn_sub (fun _ h => List.mem_cons_of_mem _ (List.mem_append_left _ (List.mem_append_left _ (List.mem_append_right _ h)))) (by decide +kernel))) (goodIn_sub (fun _ h => List.mem_cons_of_mem _ (List.mem_append_left _ (List.mem_append_right _ h))) (by decide +kernel))) (goodIn_sub (fun _ h => List.mem_cons_of_mem _ (List.mem_append_right _ h)) (by decide +kernel))
set_option maxRecDepth 20000 in
theorem gL_give_X3_give : GoodIn wsL_give (wsV RL 25 RX3 yX3_give wsX3_give) := goodIn_app (goodIn_of _ (by decide +kernel)) ggL_give_X3_give
theorem dL_give_0 : decode cL_give 0 = .ok (.aload_n 3, 1) := by decide +kernel
theorem dL_give_1 : decode cL_give 1 = .ok (.iconst 0, 1) := by decide +kernel
theorem dL_give_2 : decode cL_give 2 = .ok (.aload_n 0, 1) := by decide +kernel
theorem dL_give_3 : decode cL_give 3 = .ok (.iload_n 1, 1) := by decide +kernel
theorem dL_give_4 : decode cL_give 4 = .ok (.iload_n 2, 1) := by decide +kernel
theorem dL_give_5 : decode cL_give 5 = .ok (.invokevirtual 25, 3) := by decide +kernel
theorem dL_give_8 : decode cL_give 8 = .ok (.i2l, 1) := by decide +kernel
theorem dL_give_9 : decode cL_give 9 = .ok (.lastore, 1) := by decide +kernel
theorem dL_give_10 : decode cL_give 10 = .ok (.goto 15, 3) := by decide +kernel
theorem dL_give_13 : decode cL_give 13 = .ok (.astore 4, 2) := by decide +kernel
theorem dL_give_15 : decode cL_give 15 = .ok (.iconst 1, 1) := by decide +kernel
theorem dL_give_16 : decode cL_give 16 = .ok (.ireturn, 1) := by decide +kernel
theorem dL_give_17 : decode cL_give 17 = .ok (.astore 4, 2) := by decide +kernel
theorem dL_give_19 : decode cL_give 19 = .ok (.iconst 2, 1) := by decide +kernel
theorem dL_give_20 : decode cL_give 20 = .ok (.ireturn, 1) := by decide +kernel
theorem dL_give_21 : decode cL_give 21 = .ok (.astore 4, 2) := by decide +kernel
theorem dL_give_23 : decode cL_give 23 = .ok (.iconst 3, 1) := by decide +kernel
theorem dL_give_24 : decode cL_give 24 = .ok (.ireturn, 1) := by decide +kernel
theorem dL_give_25 : decode cL_give 25 = .ok (.iconst 0, 1) := by decide +kernel
theorem dL_give_26 : decode cL_give 26 = .ok (.ireturn, 1) := by decide +kernel
set_option maxRecDepth 20000 in
theorem ggL_setSum_X3_setSum : GoodIn wsL_setSum wsX3_setSum := goodIn_ca (goodIn_ca (goodIn_r _ [7, 8, 9, 10, 11, 12, 13, 6, 14, 15, 16, 17, 18, 19, 20, 21, 22, 23, 24, 25, 26, 27, 28, 29, 30, 31, 32, 33, 34, 35, 36, 37, 38, 39, 40, 41, 42, 43, 44, 45, 46, 47] (by decide +kernel) (by decide +kernel)) (goodIn_sub (fun _ h => List.mem_cons_of_mem _ (List.mem_append_left _ (List.mem_append_right _ h))) (by decide +kernel))) (goodIn_sub (fun _ h => List.mem_cons_of_mem _ (List.mem_append_right _ h)) (by decide +kernel))
set_option maxRecDepth 20000 in
theorem gL_setSum_X3_setSum : GoodIn wsL_setSum (wsV RL 31 RX3 yX3_setSum wsX3_setSum) := goodIn_app (goodIn_of _ (by decide +kernel)) ggL_setSum_X3_setSum
theorem dL_setSum_0 : decode cL_setSum 0 = .ok (.aload_n 3, 1) := by decide +kernel
theorem dL_setSum_1 : decode cL_setSum 1 = .ok (.iconst 0, 1) := by decide +kernel
theorem dL_setSum_2 : decode cL_setSum 2 = .ok (.aload_n 0, 1) := by decide +kernel
theorem dL_setSum_3 : decode cL_setSum 3 = .ok (.iload_n 1, 1) := by decide +kernel
theorem dL_setSum_4 : decode cL_setSum 4 = .ok (.iload_n 2, 1) := by decide +kernel
theorem dL_setSum_5 : decode cL_setSum 5 = .ok (.invokevirtual 31, 3) := by decide +kernel
theorem dL_setSum_8 : decode cL_setSum 8 = .ok (.i2l, 1) := by decide +kernel
theorem dL_setSum_9 : decode cL_setSum 9 = .ok (.lastore, 1) := by decide +kernel
theorem dL_setSum_10 : decode cL_setSum 10 = .ok (.goto 11, 3) := by decide +kernel
theorem dL_setSum_13 : decode cL_setSum 13 = .ok (.astore 4, 2) := by decide +kernel
theorem dL_setSum_15 : decode cL_setSum 15 = .ok (.iconst 1, 1) := by decide +kernel
theorem dL_setSum_16 : decode cL_setSum 16 = .ok (.ireturn, 1) := by decide +kernel
theorem dL_setSum_17 : decode cL_setSum 17 = .ok (.astore 4, 2) := by decide +kernel
theorem dL_setSum_19 : decode cL_setSum 19 = .ok (.iconst 2, 1) := by decide +kernel
theorem dL_setSum_20 : decode cL_setSum 20 = .ok (.ireturn, 1) := by decide +kernel
theorem dL_setSum_21 : decode cL_setSum 21 = .ok (.iconst 0, 1) := by decide +kernel
theorem dL_setSum_22 : decode cL_setSum 22 = .ok (.ireturn, 1) := by decide +kernel
set_option maxRecDepth 20000 in
theorem ggL_press_X3_press : GoodIn wsL_press wsX3_press := goodIn_ca (goodIn_r _ [6, 7, 8, 9, 10, 11, 12, 13, 14, 15, 16, 17, 18, 19, 20, 21, 22, 23, 24, 25, 26, 27, 28, 29, 5, 30, 31, 32, 33, 34, 35, 36, 37, 38, 39, 40, 41, 42, 43, 44, 45, 46, 47, 48, 49, 50, 51, 52, 53, 54, 55, 56, 57, 58, 59, 60, 61, 62, 63, 64, 65, 66, 67, 68, 69, 70, 71, 72, 73, 74, 75, 76, 77, 78, 79, 80, 81] (by decide +kernel) (by decide +kernel)) (goodIn_sub (fun _ h => List.mem_cons_of_mem _ (List.mem_append_right _ h)) (by decide +kernel))
set_option maxRecDepth 20000 in
theorem gL_press_X3_press : GoodIn wsL_press (wsV RL 34 RX3 yX3_press wsX3_press) := goodIn_app (goodIn_of _ (by decide +kernel)) ggL_press_X3_press
theorem dL_press_0 : decode cL_press 0 = .ok (.aload_n 1, 1) := by decide +kernel
theorem dL_press_1 : decode cL_press 1 = .ok (.iconst 0, 1) := by decide +kernel
theorem dL_press_2 : decode cL_press 2 = .ok (.aload_n 0, 1) := by decide +kernel
theorem dL_press_3 : decode cL_press 3 = .ok (.invokevirtual 34, 3) := by decide +kernel
theorem dL_press_6 : decode cL_press 6 = .ok (.i2l, 1) := by decide +kernel
theorem dL_press_7 : decode cL_press 7 = .ok (.lastore, 1) := by decide +kernel
theorem dL_press_8 : decode cL_press 8 = .ok (.goto 6, 3) := by decide +kernel
theorem dL_press_11 : decode cL_press 11 = .ok (.astore_n 2, 1) := by decide +kernel
theorem dL_press_12 : decode cL_press 12 = .ok (.iconst 1, 1) := by decide +kernel
theorem dL_press_13 : decode cL_press 13 = .ok (.ireturn, 1) := by decide +kernel
theorem dL_press_14 : decode cL_press 14 = .ok (.iconst 0, 1) := by decide +kernel
theorem dL_press_15 : decode cL_press 15 = .ok (.ireturn, 1) := by decide +kernel
set_option maxRecDepth 20000 in
theorem ggL_firstOf_X3_firstOf : GoodIn wsL_firstOf wsX3_firstOf := goodIn_ca (goodIn_r _ [6, 7, 8, 9, 10, 5, 11, 12, 13, 14, 15, 16, 17, 18, 19, 20, 21, 22, 23, 24, 25, 26, 27, 28, 29, 30, 31, 32, 33, 34, 35, 36, 37, 38] (by decide +kernel) (by decide +kernel)) (goodIn_sub (fun _ h => List.mem_cons_of_mem _ (List.mem_append_right _ h)) (by decide +kernel))
set_option maxRecDepth 20000 in
theorem gL_firstOf_X3_firstOf : GoodIn wsL_firstOf (wsV RL 38 RX3 yX3_firstOf wsX3_firstOf) := goodIn_app (goodIn_of _ (by decide +kernel)) ggL_firstOf_X3_firstOf
theorem dL_firstOf_0 : decode cL_firstOf 0 = .ok (.aload_n 2, 1) := by decide +kernel
theorem dL_firstOf_1 : decode cL_firstOf 1 = .ok (.iconst 0, 1) := by decide +kernel
theorem dL_firstOf_2 : decode cL_firstOf 2 = .ok (.aload_n 0, 1) := by decide +kernel
theorem dL_firstOf_3 : decode cL_firstOf 3 = .ok (.iload_n 1, 1) := by decide +kernel
theorem dL_firstOf_4 : decode cL_firstOf 4 = .ok (.invokevirtual 38, 3) := by decide +kernel
theorem dL_firstOf_7 : decode cL_firstOf 7 = .ok (.i2l, 1) := by decide +kernel
theorem dL_firstOf_8 : decode cL_firstOf 8 = .ok (.lastore, 1) := by decide +kernel
theorem dL_firstOf_9 : decode cL_firstOf 9 = .ok (.goto 6, 3) := by decide +kernel
theorem dL_firstOf_12 : decode cL_firstOf 12 = .ok (.astore_n 3, 1) := by decide +kernel
theorem dL_firstOf_13 : decode cL_firstOf 13 = .ok (.iconst 1, 1) := by decide +kernel
theorem dL_firstOf_14 : decode cL_firstOf 14 = .ok (.ireturn, 1) := by decide +kernel
theorem dL_firstOf_15 : decode cL_firstOf 15 = .ok (.iconst 0, 1) := by decide +kernel
theorem dL_firstOf_16 : decode cL_firstOf 16 = .ok (.ireturn, 1) := by decide +kernel
set_option maxRecDepth 20000 in
theorem ggL_lengthOf_X3_lengthOf : GoodIn wsL_lengthOf wsX3_lengthOf := goodIn_ca (goodIn_r _ [6, 7, 8, 9, 10, 5, 11, 12, 13, 14, 15, 16, 17, 18, 19, 20, 21, 22, 23, 24, 25, 26, 27, 28, 29, 30, 31, 32, 33, 34, 35, 36, 37, 38] (by decide +kernel) (by decide +kernel)) (goodIn_sub (fun _ h => List.mem_cons_of_mem _ (List.mem_append_right _ h)) (by decide +kernel))
set_option maxRecDepth 20000 in
theorem gL_lengthOf_X3_lengthOf : GoodIn wsL_lengthOf (wsV RL 41 RX3 yX3_lengthOf wsX3_lengthOf) := goodIn_app (goodIn_of _ (by decide +kernel)) ggL_lengthOf_X3_lengthOf
theorem dL_lengthOf_0 : decode cL_lengthOf 0 = .ok (.aload_n 2, 1) := by decide +kernel
theorem dL_lengthOf_1 : decode cL_lengthOf 1 = .ok (.iconst 0, 1) := by decide +kernel
theorem dL_lengthOf_2 : decode cL_lengthOf 2 = .ok (.aload_n 0, 1) := by decide +kernel
theorem dL_lengthOf_3 : decode cL_lengthOf 3 = .ok (.iload_n 1, 1) := by decide +kernel
theorem dL_lengthOf_4 : decode cL_lengthOf 4 = .ok (.invokevirtual 41, 3) := by decide +kernel
theorem dL_lengthOf_7 : decode cL_lengthOf 7 = .ok (.i2l, 1) := by decide +kernel
theorem dL_lengthOf_8 : decode cL_lengthOf 8 = .ok (.lastore, 1) := by decide +kernel
theorem dL_lengthOf_9 : decode cL_lengthOf 9 = .ok (.goto 6, 3) := by decide +kernel
theorem dL_lengthOf_12 : decode cL_lengthOf 12 = .ok (.astore_n 3, 1) := by decide +kernel
theorem dL_lengthOf_13 : decode cL_lengthOf 13 = .ok (.iconst 1, 1) := by decide +kernel
theorem dL_lengthOf_14 : decode cL_lengthOf 14 = .ok (.ireturn, 1) := by decide +kernel
theorem dL_lengthOf_15 : decode cL_lengthOf 15 = .ok (.iconst 0, 1) := by decide +kernel
theorem dL_lengthOf_16 : decode cL_lengthOf 16 = .ok (.ireturn, 1) := by decide +kernel
set_option maxRecDepth 20000 in
theorem ggL_sumOf_X3_sumOf : GoodIn wsL_sumOf wsX3_sumOf := goodIn_ca (goodIn_r _ [6, 7, 8, 9, 10, 5, 11, 12, 13, 14, 15, 16, 17, 18, 19, 20, 21, 22, 23, 24, 25, 26, 27, 28, 29, 30, 31, 32, 33, 34, 35, 36, 37, 38] (by decide +kernel) (by decide +kernel)) (goodIn_sub (fun _ h => List.mem_cons_of_mem _ (List.mem_append_right _ h)) (by decide +kernel))
set_option maxRecDepth 20000 in
theorem gL_sumOf_X3_sumOf : GoodIn wsL_sumOf (wsV RL 44 RX3 yX3_sumOf wsX3_sumOf) := goodIn_app (goodIn_of _ (by decide +kernel)) ggL_sumOf_X3_sumOf
theorem dL_sumOf_0 : decode cL_sumOf 0 = .ok (.aload_n 2, 1) := by decide +kernel
theorem dL_sumOf_1 : decode cL_sumOf 1 = .ok (.iconst 0, 1) := by decide +kernel
theorem dL_sumOf_2 : decode cL_sumOf 2 = .ok (.aload_n 0, 1) := by decide +kernel
theorem dL_sumOf_3 : decode cL_sumOf 3 = .ok (.iload_n 1, 1) := by decide +kernel
theorem dL_sumOf_4 : decode cL_sumOf 4 = .ok (.invokevirtual 44, 3) := by decide +kernel
theorem dL_sumOf_7 : decode cL_sumOf 7 = .ok (.i2l, 1) := by decide +kernel
theorem dL_sumOf_8 : decode cL_sumOf 8 = .ok (.lastore, 1) := by decide +kernel
theorem dL_sumOf_9 : decode cL_sumOf 9 = .ok (.goto 6, 3) := by decide +kernel
theorem dL_sumOf_12 : decode cL_sumOf 12 = .ok (.astore_n 3, 1) := by decide +kernel
theorem dL_sumOf_13 : decode cL_sumOf 13 = .ok (.iconst 1, 1) := by decide +kernel
theorem dL_sumOf_14 : decode cL_sumOf 14 = .ok (.ireturn, 1) := by decide +kernel
theorem dL_sumOf_15 : decode cL_sumOf 15 = .ok (.iconst 0, 1) := by decide +kernel
theorem dL_sumOf_16 : decode cL_sumOf 16 = .ok (.ireturn, 1) := by decide +kernel
set_option maxRecDepth 20000 in
theorem ggL_digit_X3_digit : GoodIn wsL_digit wsX3_digit := goodIn_ca (goodIn_r _ [6, 7, 8, 9, 10, 5, 11, 12, 13, 14, 15, 16, 17, 18, 19, 20, 21, 22, 23, 24, 25, 26, 27, 28, 29, 30, 31, 32, 33, 34, 35, 36, 37, 38] (by decide +kernel) (by decide +kernel)) (goodIn_sub (fun _ h => List.mem_cons_of_mem _ (List.mem_append_right _ h)) (by decide +kernel))
set_option maxRecDepth 20000 in
theorem gL_digit_X3_digit : GoodIn wsL_digit (wsV RL 47 RX3 yX3_digit wsX3_digit) := goodIn_app (goodIn_of _ (by decide +kernel)) ggL_digit_X3_digit
theorem dL_digit_0 : decode cL_digit 0 = .ok (.aload_n 2, 1) := by decide +kernel
theorem dL_digit_1 : decode cL_digit 1 = .ok (.iconst 0, 1) := by decide +kernel
theorem dL_digit_2 : decode cL_digit 2 = .ok (.aload_n 0, 1) := by decide +kernel
theorem dL_digit_3 : decode cL_digit 3 = .ok (.iload_n 1, 1) := by decide +kernel
theorem dL_digit_4 : decode cL_digit 4 = .ok (.invokevirtual 47, 3) := by decide +kernel
theorem dL_digit_7 : decode cL_digit 7 = .ok (.i2l, 1) := by decide +kernel
theorem dL_digit_8 : decode cL_digit 8 = .ok (.lastore, 1) := by decide +kernel
theorem dL_digit_9 : decode cL_digit 9 = .ok (.goto 6, 3) := by decide +kernel
theorem dL_digit_12 : decode cL_digit 12 = .ok (.astore_n 3, 1) := by decide +kernel
theorem dL_digit_13 : decode cL_digit 13 = .ok (.iconst 1, 1) := by decide +kernel
theorem dL_digit_14 : decode cL_digit 14 = .ok (.ireturn, 1) := by decide +kernel
theorem dL_digit_15 : decode cL_digit 15 = .ok (.iconst 0, 1) := by decide +kernel
theorem dL_digit_16 : decode cL_digit 16 = .ok (.ireturn, 1) := by decide +kernel
set_option maxRecDepth 20000 in
theorem ggL_answers_X3_answers : GoodIn wsL_answers wsX3_answers := goodIn_ca (goodIn_r _ [6, 7, 8, 9, 10, 11, 12, 13, 14, 15, 16, 17, 18, 19, 20, 21, 22, 23, 24, 5, 25, 26, 27, 28, 29, 30, 31, 32, 33, 34, 35, 36, 37, 38, 39, 40, 41, 42, 43, 44, 45, 46, 47, 48, 49, 50, 51, 52, 53, 54, 55, 56, 57, 58, 59, 60, 61, 62, 63, 64, 65, 66, 67, 68, 69, 70, 71, 72, 73, 74, 75, 76, 77, 78, 79, 80, 81, 82, 83, 84, 85, 86, 87, 88, 89, 90, 91, 92, 93, 94, 95, 96, 97, 98, 99, 100, 101, 102, 103, 104, 105, 106, 107, 108, 109, 110, 111, 112, 113, 114, 115, 116, 117, 118, 119, 120, 121, 122, 123] (by decide +kernel) (by decide +kernel)) (goodIn_sub (fun _ h => List.mem_cons_of_mem _ (List.mem_append_right _ h)) (by decide +kernel))
set_option maxRecDepth 20000 in
theorem gL_answers_X3_answers : GoodIn wsL_answers (wsV RL 50 RX3 yX3_answers wsX3_answers) := goodIn_app (goodIn_of _ (by decide +kernel)) ggL_answers_X3_answers
theorem dL_answers_0 : decode cL_answers 0 = .ok (.aload_n 2, 1) := by decide +kernel
theorem dL_answers_1 : decode cL_answers 1 = .ok (.iconst 0, 1) := by decide +kernel
theorem dL_answers_2 : decode cL_answers 2 = .ok (.aload_n 0, 1) := by decide +kernel
theorem dL_answers_3 : decode cL_answers 3 = .ok (.iload_n 1, 1) := by decide +kernel
theorem dL_answers_4 : decode cL_answers 4 = .ok (.invokevirtual 50, 3) := by decide +kernel
theorem dL_answers_7 : decode cL_answers 7 = .ok (.i2l, 1) := by decide +kernel
theorem dL_answers_8 : decode cL_answers 8 = .ok (.lastore, 1) := by decide +kernel
theorem dL_answers_9 : decode cL_answers 9 = .ok (.goto 6, 3) := by decide +kernel
theorem dL_answers_12 : decode cL_answers 12 = .ok (.astore_n 3, 1) := by decide +kernel
theorem dL_answers_13 : decode cL_answers 13 = .ok (.iconst 1, 1) := by decide +kernel
theorem dL_answers_14 : decode cL_answers 14 = .ok (.ireturn, 1) := by decide +kernel
theorem dL_answers_15 : decode cL_answers 15 = .ok (.iconst 0, 1) := by decide +kernel
theorem dL_answers_16 : decode cL_answers 16 = .ok (.ireturn, 1) := by decide +kernel
set_option maxRecDepth 20000 in
theorem ggL_answersByAll_X3_answersByAll : GoodIn wsL_answersByAll wsX3_answersByAll := goodIn_ca (goodIn_r _ [6, 7, 8, 9, 10, 11, 12, 13, 14, 15, 16, 17, 18, 19, 20, 21, 22, 23, 24, 25, 26, 5, 27, 28, 29, 30, 31, 32, 33, 34, 35, 36, 37, 38, 39, 40, 41, 42, 43, 44, 45, 46, 47, 48, 49, 50, 51, 52, 53, 54, 55, 56, 57, 58, 59, 60, 61, 62, 63, 64, 65, 66, 67, 68, 69, 70, 71, 72, 73, 74, 75, 76, 77, 78, 79, 80, 81, 82, 83, 84, 85, 86, 87, 88, 89, 90, 91, 92, 93, 94, 95, 96, 97, 98, 99, 100, 101, 102, 103] (by decide +kernel) (by decide +kernel)) (goodIn_sub (fun _ h => List.mem_cons_of_mem _ (List.mem_append_right _ h)) (by decide +kernel))
set_option maxRecDepth 20000 in
theorem gL_answersByAll_X3_answersByAll : GoodIn wsL_answersByAll (wsV RL 53 RX3 yX3_answersByAll wsX3_answersByAll) := goodIn_app (goodIn_of _ (by decide +kernel)) ggL_answersByAll_X3_answersByAll
theorem dL_answersByAll_0 : decode cL_answersByAll 0 = .ok (.aload_n 1, 1) := by decide +kernel
theorem dL_answersByAll_1 : decode cL_answersByAll 1 = .ok (.iconst 0, 1) := by decide +kernel
theorem dL_answersByAll_2 : decode cL_answersByAll 2 = .ok (.aload_n 0, 1) := by decide +kernel
theorem dL_answersByAll_3 : decode cL_answersByAll 3 = .ok (.invokevirtual 53, 3) := by decide +kernel
theorem dL_answersByAll_6 : decode cL_answersByAll 6 = .ok (.i2l, 1) := by decide +kernel
theorem dL_answersByAll_7 : decode cL_answersByAll 7 = .ok (.lastore, 1) := by decide +kernel
theorem dL_answersByAll_8 : decode cL_answersByAll 8 = .ok (.goto 6, 3) := by decide +kernel
theorem dL_answersByAll_11 : decode cL_answersByAll 11 = .ok (.astore_n 2, 1) := by decide +kernel
theorem dL_answersByAll_12 : decode cL_answersByAll 12 = .ok (.iconst 1, 1) := by decide +kernel
theorem dL_answersByAll_13 : decode cL_answersByAll 13 = .ok (.ireturn, 1) := by decide +kernel
theorem dL_answersByAll_14 : decode cL_answersByAll 14 = .ok (.iconst 0, 1) := by decide +kernel
theorem dL_answersByAll_15 : decode cL_answersByAll 15 = .ok (.ireturn, 1) := by decide +kernel
set_option maxRecDepth 20000 in
theorem ggL_mend_X3_mend : GoodIn wsL_mend wsX3_mend := goodIn_ca (goodIn_r _ [6, 7, 8, 9, 10, 11, 12, 13, 14, 15, 16, 17, 18, 19, 20, 21, 22, 23, 24, 25, 5, 26, 27, 28, 29, 30, 31, 32, 33, 34, 35, 36, 37, 38, 39, 40, 41, 42, 43, 44, 45, 46, 47, 48, 49, 50, 51, 52, 53, 54, 55, 56, 57, 58, 59, 60, 61, 62, 63, 64, 65, 66, 67, 68, 69, 70, 71, 72, 73, 74, 75, 76, 77, 78, 79, 80, 81, 82, 83, 84, 85, 86, 87, 88, 89, 90, 91, 92, 93, 94, 95, 96, 97, 98, 99, 100, 101, 102, 103, 104, 105, 106, 107, 108, 109, 110, 111, 112, 113, 114, 115, 116, 117, 118, 119, 120, 121, 122, 123, 124, 125, 126, 127, 128, 129, 130, 131, 132, 133, 134, 135, 136] (by decide +kernel) (by decide +kernel)) (goodIn_sub (fun _ h => List.mem_cons_of_mem _ (List.mem_append_right _ h)) (by decide +kernel))
set_option maxRecDepth 20000 in
theorem gL_mend_X3_mend : GoodIn wsL_mend (wsV RL 56 RX3 yX3_mend wsX3_mend) := goodIn_app (goodIn_of _ (by decide +kernel)) ggL_mend_X3_mend
theorem dL_mend_0 : decode cL_mend 0 = .ok (.aload_n 1, 1) := by decide +kernel
theorem dL_mend_1 : decode cL_mend 1 = .ok (.iconst 0, 1) := by decide +kernel
theorem dL_mend_2 : decode cL_mend 2 = .ok (.aload_n 0, 1) := by decide +kernel
theorem dL_mend_3 : decode cL_mend 3 = .ok (.invokevirtual 56, 3) := by decide +kernel
theorem dL_mend_6 : decode cL_mend 6 = .ok (.i2l, 1) := by decide +kernel
theorem dL_mend_7 : decode cL_mend 7 = .ok (.lastore, 1) := by decide +kernel
theorem dL_mend_8 : decode cL_mend 8 = .ok (.goto 6, 3) := by decide +kernel
theorem dL_mend_11 : decode cL_mend 11 = .ok (.astore_n 2, 1) := by decide +kernel
theorem dL_mend_12 : decode cL_mend 12 = .ok (.iconst 1, 1) := by decide +kernel
theorem dL_mend_13 : decode cL_mend 13 = .ok (.ireturn, 1) := by decide +kernel
theorem dL_mend_14 : decode cL_mend 14 = .ok (.iconst 0, 1) := by decide +kernel
theorem dL_mend_15 : decode cL_mend 15 = .ok (.ireturn, 1) := by decide +kernel
set_option maxRecDepth 20000 in
theorem ggL_candidates_X3_candidates : GoodIn wsL_candidates wsX3_candidates := goodIn_ca (goodIn_ca (goodIn_r _ [7, 8, 9, 10, 11, 12, 13, 6, 14, 15, 16, 17, 18, 19, 20, 21, 22, 23, 24, 25, 26, 27, 28, 29, 30, 31, 32, 33, 34, 35, 36, 37, 38, 39, 40, 41, 42, 43, 44, 45, 46, 47, 48, 49, 50, 51, 52, 53, 54, 55, 56, 57, 58, 59, 60, 61, 62, 63, 64, 65, 66, 67, 68, 69, 70, 71, 72, 73, 74, 75, 76, 77, 78, 79, 80, 81, 82, 83, 84, 85, 86, 87, 88, 89, 90, 91, 92, 93, 94, 95, 96, 97, 98, 99, 100, 101, 102, 103, 104, 105, 106, 107, 108, 109, 110, 111, 112, 113, 114, 115, 116, 117, 118, 119, 120, 121, 122, 123, 124, 125, 126, 127, 128, 129, 130, 131, 132, 133, 134, 135, 136, 137, 138, 139, 140, 141, 142, 143, 144, 145, 146, 147, 148] (by decide +kernel) (by decide +kernel)) (goodIn_sub (fun _ h => List.mem_cons_of_mem _ (List.mem_append_left _ (List.mem_append_right _ h))) (by decide +kernel))) (goodIn_sub (fun _ h => List.mem_cons_of_mem _ (List.mem_append_right _ h)) (by decide +kernel))
set_option maxRecDepth 20000 in
theorem gL_candidates_X3_candidates : GoodIn wsL_candidates (wsV RL 59 RX3 yX3_candidates wsX3_candidates) := goodIn_app (goodIn_of _ (by decide +kernel)) ggL_candidates_X3_candidates
theorem dL_candidates_0 : decode cL_candidates 0 = .ok (.aload_n 3, 1) := by decide +kernel
theorem dL_candidates_1 : decode cL_candidates 1 = .ok (.iconst 0, 1) := by decide +kernel
theorem dL_candidates_2 : decode cL_candidates 2 = .ok (.aload_n 0, 1) := by decide +kernel
theorem dL_candidates_3 : decode cL_candidates 3 = .ok (.iload_n 1, 1) := by decide +kernel
theorem dL_candidates_4 : decode cL_candidates 4 = .ok (.iload_n 2, 1) := by decide +kernel
theorem dL_candidates_5 : decode cL_candidates 5 = .ok (.invokevirtual 59, 3) := by decide +kernel
theorem dL_candidates_8 : decode cL_candidates 8 = .ok (.i2l, 1) := by decide +kernel
theorem dL_candidates_9 : decode cL_candidates 9 = .ok (.lastore, 1) := by decide +kernel
theorem dL_candidates_10 : decode cL_candidates 10 = .ok (.goto 11, 3) := by decide +kernel
theorem dL_candidates_13 : decode cL_candidates 13 = .ok (.astore 4, 2) := by decide +kernel
theorem dL_candidates_15 : decode cL_candidates 15 = .ok (.iconst 1, 1) := by decide +kernel
theorem dL_candidates_16 : decode cL_candidates 16 = .ok (.ireturn, 1) := by decide +kernel
theorem dL_candidates_17 : decode cL_candidates 17 = .ok (.astore 4, 2) := by decide +kernel
theorem dL_candidates_19 : decode cL_candidates 19 = .ok (.iconst 2, 1) := by decide +kernel
theorem dL_candidates_20 : decode cL_candidates 20 = .ok (.ireturn, 1) := by decide +kernel
theorem dL_candidates_21 : decode cL_candidates 21 = .ok (.iconst 0, 1) := by decide +kernel
theorem dL_candidates_22 : decode cL_candidates 22 = .ok (.ireturn, 1) := by decide +kernel
set_option maxRecDepth 20000 in
theorem ggL_law_X3_init : GoodIn wsL_law wsX3_init := goodIn_r _ [9, 10, 11, 12, 13, 14, 15, 16, 17, 18, 19, 20, 21, 22, 23, 24, 25, 26, 27, 28, 29, 30, 31, 32, 33, 34, 35, 36, 37, 38, 39, 40, 41, 42, 43, 44, 45, 46, 47, 48, 49, 50, 51, 52, 53, 54, 55, 56, 57, 58, 59, 60, 61, 62, 63, 64, 65, 66, 67, 68, 69, 70, 71, 72, 73, 74, 75, 76, 77, 78, 2, 79, 80, 81, 82, 83, 84, 85, 693, 694, 695, 696, 697, 698, 699, 700, 701, 672, 673, 674, 702, 703, 704, 705, 706, 707, 708, 709, 710, 711, 712] (by decide +kernel) (by decide +kernel)
set_option maxRecDepth 20000 in
theorem gL_law_X3_init : GoodIn wsL_law (wsX3_init) := ggL_law_X3_init
set_option maxRecDepth 20000 in
theorem ggL_law_X4_init : GoodIn wsL_law wsX4_init := goodIn_r _ [88, 89, 11, 12, 90, 91, 92, 28, 93, 94, 95, 96, 97, 98, 99, 100, 101, 102, 103, 104, 5, 105, 106, 675, 676, 677, 678, 679, 680, 681, 682, 683, 684, 685, 686, 687, 688, 689, 690, 691, 692] (by decide +kernel) (by decide +kernel)
set_option maxRecDepth 20000 in
theorem gL_law_X4_init : GoodIn wsL_law (wsX4_init) := ggL_law_X4_init
set_option maxRecDepth 20000 in
theorem ggL_law_L_begin : GoodIn wsL_law wsL_begin := goodIn_ca (goodIn_r _ [110, 111, 112, 113, 114, 2, 115, 116, 117, 16, 52, 53, 54, 15, 55, 56, 29, 57, 58, 59, 60, 61, 62, 63, 64, 65, 33, 34, 35, 66, 67, 68, 69, 70, 71, 72, 73, 74, 75, 76, 77, 78, 79, 80, 81, 82, 83, 30, 31, 32, 84, 85, 672, 673, 674, 693, 694, 695, 696, 697, 698, 699, 700, 701] (by decide +kernel) (by decide +kernel)) (goodIn_sub (fun _ h => List.mem_append_left _ (List.mem_append_left _ (List.mem_append_right _ h))) (by decide +kernel))
set_option maxRecDepth 20000 in
theorem gL_law_L_begin : GoodIn wsL_law (va_wsS RL 66 yL_begin wsL_begin) := goodIn_app (goodIn_of _ (by decide +kernel)) ggL_law_L_begin
set_option maxRecDepth 20000 in
theorem ggL_law_X4_begin : GoodIn wsL_law wsX4_begin := goodIn_r _ [121, 90, 92, 93, 122, 123, 5, 124, 125, 126, 127, 128, 129, 102, 103, 104, 105, 106, 94, 95, 96, 97, 675, 676, 677, 678, 679, 680, 681, 682, 683, 684, 685, 686, 687, 688, 689, 690, 691, 692] (by decide +kernel) (by decide +kernel)
set_option maxRecDepth 20000 in
theorem gL_law_X4_begin : GoodIn wsL_law (wsV RL 71 RX4 yX4_begin wsX4_begin) := goodIn_app (goodIn_of _ (by decide +kernel)) ggL_law_X4_begin
set_option maxRecDepth 20000 in
theorem ggL_law_X4_thrown : GoodIn wsL_law wsX4_thrown := goodIn_r _ [133, 129, 675, 676, 677, 678, 679, 680, 681, 682, 683, 684, 685, 686, 687, 688, 689, 690, 691, 692] (by decide +kernel) (by decide +kernel)
set_option maxRecDepth 20000 in
theorem gL_law_X4_thrown : GoodIn wsL_law (wsV RL 72 RX4 yX4_thrown wsX4_thrown) := goodIn_app (goodIn_of _ (by decide +kernel)) ggL_law_X4_thrown
set_option maxRecDepth 20000 in
theorem ggL_law_L_bar : GoodIn wsL_law wsL_bar := goodIn_ca (goodIn_r _ [136, 137, 138, 139, 140, 2, 141, 16, 142, 143, 144, 145, 146, 147, 148, 75, 76, 15, 77, 56, 149, 150, 151, 152, 29, 70, 71, 72, 73, 74, 78, 79, 84, 85, 61, 62, 63, 64, 65, 33, 34, 35, 57, 58, 59, 60, 66, 67, 68, 69, 80, 81, 82, 83, 30, 31, 32, 153, 672, 673, 674, 693, 694, 695, 696, 697, 698, 699, 700, 701] (by decide +kernel) (by decide +kernel)) (goodIn_sub (fun _ h => List.mem_append_left _ (List.mem_append_right _ h)) (by decide +kernel))
set_option maxRecDepth 20000 in
theorem gL_law_L_bar : GoodIn wsL_law (va_wsS RL 75 yL_bar wsL_bar) := goodIn_app (goodIn_of _ (by decide +kernel)) ggL_law_L_bar
set_option maxRecDepth 20000 in
theorem ggL_law_X4_bar : GoodIn wsL_law wsX4_bar := goodIn_r _ [157, 92, 158, 159, 160, 5, 161, 90, 122, 123, 124, 125, 126, 127, 128, 129, 162, 163, 164, 165, 93, 102, 103, 104, 105, 106, 94, 95, 96, 97, 675, 676, 677, 678, 679, 680, 681, 682, 683, 684, 685, 686, 687, 688, 689, 690, 691, 692] (by decide +kernel) (by decide +kernel)
set_option maxRecDepth 20000 in
theorem gL_law_X4_bar : GoodIn wsL_law (wsV RL 78 RX4 yX4_bar wsX4_bar) := goodIn_app (goodIn_of _ (by decide +kernel)) ggL_law_X4_bar
set_option maxRecDepth 20000 in
theorem ggL_law_L_barBoth : GoodIn wsL_law wsL_barBoth := goodIn_ca (goodIn_r _ [168, 137, 169, 170, 171, 2, 172, 16, 142, 143, 144, 145, 146, 147, 148, 75, 76, 15, 77, 56, 173, 174, 175, 176, 149, 150, 151, 152, 29, 70, 71, 72, 73, 74, 78, 79, 84, 85, 61, 62, 63, 64, 65, 33, 34, 35, 57, 58, 59, 60, 66, 67, 68, 69, 80, 81, 82, 83, 30, 31, 32, 177, 178, 179, 180, 181, 182, 183, 184, 672, 673, 674, 693, 694, 695, 696, 697, 698, 699, 700, 701] (by decide +kernel) (by decide +kernel)) (goodIn_sub (fun _ h => List.mem_append_left _ (List.mem_append_right _ h)) (by decide +kernel))
set_option maxRecDepth 20000 in
theorem gL_law_L_barBoth : GoodIn wsL_law (va_wsS RL 79 yL_barBoth wsL_barBoth) := goodIn_app (goodIn_of _ (by decide +kernel)) ggL_law_L_barBoth
set_option maxRecDepth 20000 in
theorem ggL_law_X4_barBoth : GoodIn wsL_law wsX4_barBoth := goodIn_r _ [188, 90, 158, 159, 160, 5, 161, 122, 123, 124, 125, 126, 127, 128, 129, 162, 163, 164, 165, 92, 93, 102, 103, 104, 105, 106, 94, 95, 96, 97, 189, 190, 191, 192, 193, 194, 195, 196, 675, 676, 677, 678, 679, 680, 681, 682, 683, 684, 685, 686, 687, 688, 689, 690, 691, 692] (by decide +kernel) (by decide +kernel)
set_option maxRecDepth 20000 in
theorem gL_law_X4_barBoth : GoodIn wsL_law (wsV RL 81 RX4 yX4_barBoth wsX4_barBoth) := goodIn_app (goodIn_of _ (by decide +kernel)) ggL_law_X4_barBoth
set_option maxRecDepth 20000 in
theorem ggL_law_L_give : GoodIn wsL_law wsL_give := goodIn_ca (goodIn_ca (goodIn_ca (goodIn_r _ [199, 137, 111, 200, 201, 202, 203, 2, 204, 116, 117, 205, 206, 16, 142, 143, 144, 145, 146, 147, 148, 75, 76, 15, 77, 56, 153, 71, 72, 73, 29, 74, 78, 79, 207, 208, 209, 210, 211, 212, 213, 214, 84, 85, 672, 673, 674, 693, 694, 695, 696, 697, 698, 699, 700, 701] (by decide +kernel) (by decide +kernel)) (goodIn_sub (fun _ h => List.mem_append_left _ (List.mem_append_left _ (List.mem_append_right _ h))) (by decide +kernel))) (goodIn_sub (fun _ h => List.mem_append_right _ h) (by decide +kernel))) (goodIn_sub (fun _ h => List.mem_append_left _ (List.mem_append_right _ h)) (by decide +kernel))
set_option maxRecDepth 20000 in
theorem gL_law_L_give : GoodIn wsL_law (va_wsS RL 82 yL_give wsL_give) := goodIn_app (goodIn_of _ (by decide +kernel)) ggL_law_L_give
set_option maxRecDepth 20000 in
theorem ggL_law_X4_give : GoodIn wsL_law wsX4_give := goodIn_r _ [218, 92, 93, 158, 159, 160, 5, 161, 90, 122, 123, 124, 125, 126, 127, 128, 129, 675, 676, 677, 678, 679, 680, 681, 682, 683, 684, 685, 686, 687, 688, 689, 690, 691, 692] (by decide +kernel) (by decide +kernel)
set_option maxRecDepth 20000 in
theorem gL_law_X4_give : GoodIn wsL_law (wsV RL 85 RX4 yX4_give wsX4_give) := goodIn_app (goodIn_of _ (by decide +kernel)) ggL_law_X4_give
set_option maxRecDepth 20000 in
theorem ggL_law_L_setSum : GoodIn wsL_law wsL_setSum := goodIn_ca (goodIn_ca (goodIn_r _ [221, 137, 111, 222, 223, 224, 2, 225, 116, 117, 16, 226, 227, 228, 229, 146, 147, 230, 231, 232, 15, 233, 65, 234, 235, 236, 237, 33, 78, 79, 238, 239, 240, 241, 84, 85, 672, 673, 674, 693, 694, 695, 696, 697, 698, 699, 700, 701] (by decide +kernel) (by decide +kernel)) (goodIn_sub (fun _ h => List.mem_append_left _ (List.mem_append_left _ (List.mem_append_right _ h))) (by decide +kernel))) (goodIn_sub (fun _ h => List.mem_append_left _ (List.mem_append_right _ h)) (by decide +kernel))
set_option maxRecDepth 20000 in
theorem gL_law_L_setSum : GoodIn wsL_law (va_wsS RL 86 yL_setSum wsL_setSum) := goodIn_app (goodIn_of _ (by decide +kernel)) ggL_law_L_setSum
set_option maxRecDepth 20000 in
theorem ggL_law_X4_setSum : GoodIn wsL_law wsX4_setSum := goodIn_r _ [245, 97, 246, 247, 248, 5, 249, 106, 122, 123, 124, 125, 126, 127, 128, 129, 675, 676, 677, 678, 679, 680, 681, 682, 683, 684, 685, 686, 687, 688, 689, 690, 691, 692] (by decide +kernel) (by decide +kernel)
set_option maxRecDepth 20000 in
theorem gL_law_X4_setSum : GoodIn wsL_law (wsV RL 88 RX4 yX4_setSum wsX4_setSum) := goodIn_app (goodIn_of _ (by decide +kernel)) ggL_law_X4_setSum
set_option maxRecDepth 20000 in
theorem ggL_law_L_press : GoodIn wsL_law wsL_press := goodIn_ca (goodIn_r _ [252, 200, 253, 254, 255, 2, 256, 205, 206, 16, 257, 258, 259, 15, 260, 261, 262, 263, 264, 265, 266, 267, 268, 29, 74, 75, 76, 77, 56, 78, 79, 269, 270, 271, 272, 65, 273, 274, 275, 276, 277, 278, 279, 280, 32, 281, 282, 283, 284, 30, 31, 285, 286, 287, 288, 33, 289, 290, 291, 292, 84, 85, 70, 71, 72, 73, 293, 294, 295, 296, 672, 673, 674, 693, 694, 695, 696, 697, 698, 699, 700, 701] (by decide +kernel) (by decide +kernel)) (goodIn_sub (fun _ h => List.mem_append_right _ h) (by decide +kernel))
set_option maxRecDepth 20000 in
theorem gL_law_L_press : GoodIn wsL_law (va_wsS RL 89 yL_press wsL_press) := goodIn_app (goodIn_of _ (by decide +kernel)) ggL_law_L_press
set_option maxRecDepth 20000 in
theorem ggL_law_X4_press : GoodIn wsL_law wsX4_press := goodIn_r _ [300, 93, 106, 97, 301, 302, 303, 5, 304, 99, 193, 194, 195, 196, 92, 158, 159, 160, 161, 90, 122, 123, 124, 305, 306, 307, 308, 95, 309, 310, 311, 312, 94, 96, 125, 126, 127, 128, 129, 313, 314, 315, 316, 675, 676, 677, 678, 679, 680, 681, 682, 683, 684, 685, 686, 687, 688, 689, 690, 691, 692] (by decide +kernel) (by decide +kernel)
set_option maxRecDepth 20000 in
theorem gL_law_X4_press : GoodIn wsL_law (wsV RL 92 RX4 yX4_press wsX4_press) := goodIn_app (goodIn_of _ (by decide +kernel)) ggL_law_X4_press
set_option maxRecDepth 20000 in
theorem ggL_law_X3_open : GoodIn wsL_law wsX3_open := goodIn_r _ [320, 16, 321, 182, 183, 15, 184, 70, 71, 72, 73, 29, 74, 75, 76, 77, 56, 78, 2, 79, 672, 673, 674, 693, 694, 695, 696, 697, 698, 699, 700, 701] (by decide +kernel) (by decide +kernel)
set_option maxRecDepth 20000 in
theorem gL_law_X3_open : GoodIn wsL_law (wsV RL 93 RX3 yX3_open wsX3_open) := goodIn_app (goodIn_of _ (by decide +kernel)) ggL_law_X3_open
set_option maxRecDepth 20000 in
theorem ggL_law_X4_open : GoodIn wsL_law wsX4_open := goodIn_r _ [325, 129, 189, 190, 191, 5, 192, 193, 194, 195, 196, 92, 158, 159, 160, 161, 90, 122, 123, 124, 675, 676, 677, 678, 679, 680, 681, 682, 683, 684, 685, 686, 687, 688, 689, 690, 691, 692] (by decide +kernel) (by decide +kernel)
set_option maxRecDepth 20000 in
theorem gL_law_X4_open : GoodIn wsL_law (wsV RL 96 RX4 yX4_open wsX4_open) := goodIn_app (goodIn_of _ (by decide +kernel)) ggL_law_X4_open
set_option maxRecDepth 20000 in
theorem ggL_law_X3_runs : GoodIn wsL_law wsX3_runs := goodIn_r _ [329, 16, 293, 294, 295, 15, 296, 65, 672, 673, 674, 693, 694, 695, 696, 697, 698, 699, 700, 701] (by decide +kernel) (by decide +kernel)
set_option maxRecDepth 20000 in
theorem gL_law_X3_runs : GoodIn wsL_law (wsV RL 97 RX3 yX3_runs wsX3_runs) := goodIn_app (goodIn_of _ (by decide +kernel)) ggL_law_X3_runs
set_option maxRecDepth 20000 in
theorem ggL_law_X4_runs : GoodIn wsL_law wsX4_runs := goodIn_r _ [333, 129, 106, 675, 676, 677, 678, 679, 680, 681, 682, 683, 684, 685, 686, 687, 688, 689, 690, 691, 692] (by decide +kernel) (by decide +kernel)
set_option maxRecDepth 20000 in
theorem gL_law_X4_runs : GoodIn wsL_law (wsV RL 100 RX4 yX4_runs wsX4_runs) := goodIn_app (goodIn_of _ (by decide +kernel)) ggL_law_X4_runs
set_option maxRecDepth 20000 in
theorem ggL_law_L_firstOf : GoodIn wsL_law wsL_firstOf := goodIn_ca (goodIn_r _ [336, 137, 337, 338, 339, 2, 340, 16, 226, 227, 228, 229, 146, 147, 230, 231, 232, 15, 233, 65, 341, 342, 343, 344, 30, 78, 79, 672, 673, 674, 693, 694, 695, 696, 697, 698, 699, 700, 701] (by decide +kernel) (by decide +kernel)) (goodIn_sub (fun _ h => List.mem_append_left _ (List.mem_append_right _ h)) (by decide +kernel))
set_option maxRecDepth 20000 in
theorem gL_law_L_firstOf : GoodIn wsL_law (va_wsS RL 101 yL_firstOf wsL_firstOf) := goodIn_app (goodIn_of _ (by decide +kernel)) ggL_law_L_firstOf
set_option maxRecDepth 20000 in
theorem ggL_law_X4_firstOf : GoodIn wsL_law wsX4_firstOf := goodIn_r _ [348, 94, 246, 247, 248, 5, 249, 106, 122, 123, 124, 125, 126, 127, 128, 129, 675, 676, 677, 678, 679, 680, 681, 682, 683, 684, 685, 686, 687, 688, 689, 690, 691, 692] (by decide +kernel) (by decide +kernel)
set_option maxRecDepth 20000 in
theorem gL_law_X4_firstOf : GoodIn wsL_law (wsV RL 103 RX4 yX4_firstOf wsX4_firstOf) := goodIn_app (goodIn_of _ (by decide +kernel)) ggL_law_X4_firstOf
set_option maxRecDepth 20000 in
theorem ggL_law_L_lengthOf : GoodIn wsL_law wsL_lengthOf := goodIn_ca (goodIn_r _ [351, 137, 352, 353, 354, 2, 355, 16, 226, 227, 228, 229, 146, 147, 230, 231, 232, 15, 233, 65, 356, 278, 279, 280, 32, 78, 79, 672, 673, 674, 693, 694, 695, 696, 697, 698, 699, 700, 701] (by decide +kernel) (by decide +kernel)) (goodIn_sub (fun _ h => List.mem_append_left _ (List.mem_append_right _ h)) (by decide +kernel))
set_option maxRecDepth 20000 in
theorem gL_law_L_lengthOf : GoodIn wsL_law (va_wsS RL 104 yL_lengthOf wsL_lengthOf) := goodIn_app (goodIn_of _ (by decide +kernel)) ggL_law_L_lengthOf
set_option maxRecDepth 20000 in
theorem ggL_law_X4_lengthOf : GoodIn wsL_law wsX4_lengthOf := goodIn_r _ [360, 95, 246, 247, 248, 5, 249, 106, 122, 123, 124, 125, 126, 127, 128, 129, 675, 676, 677, 678, 679, 680, 681, 682, 683, 684, 685, 686, 687, 688, 689, 690, 691, 692] (by decide +kernel) (by decide +kernel)
set_option maxRecDepth 20000 in
theorem gL_law_X4_lengthOf : GoodIn wsL_law (wsV RL 106 RX4 yX4_lengthOf wsX4_lengthOf) := goodIn_app (goodIn_of _ (by decide +kernel)) ggL_law_X4_lengthOf
set_option maxRecDepth 20000 in
theorem ggL_law_L_sumOf : GoodIn wsL_law wsL_sumOf := goodIn_ca (goodIn_r _ [363, 137, 364, 365, 366, 2, 367, 16, 226, 227, 228, 229, 146, 147, 230, 231, 232, 15, 233, 65, 234, 235, 236, 237, 33, 78, 79, 672, 673, 674, 693, 694, 695, 696, 697, 698, 699, 700, 701] (by decide +kernel) (by decide +kernel)) (goodIn_sub (fun _ h => List.mem_append_left _ (List.mem_append_right _ h)) (by decide +kernel))
set_option maxRecDepth 20000 in
theorem gL_law_L_sumOf : GoodIn wsL_law (va_wsS RL 107 yL_sumOf wsL_sumOf) := goodIn_app (goodIn_of _ (by decide +kernel)) ggL_law_L_sumOf
set_option maxRecDepth 20000 in
theorem ggL_law_X4_sumOf : GoodIn wsL_law wsX4_sumOf := goodIn_r _ [371, 97, 246, 247, 248, 5, 249, 106, 122, 123, 124, 125, 126, 127, 128, 129, 675, 676, 677, 678, 679, 680, 681, 682, 683, 684, 685, 686, 687, 688, 689, 690, 691, 692] (by decide +kernel) (by decide +kernel)
set_option maxRecDepth 20000 in
theorem gL_law_X4_sumOf : GoodIn wsL_law (wsV RL 109 RX4 yX4_sumOf wsX4_sumOf) := goodIn_app (goodIn_of _ (by decide +kernel)) ggL_law_X4_sumOf
set_option maxRecDepth 20000 in
theorem ggL_law_L_digit : GoodIn wsL_law wsL_digit := goodIn_ca (goodIn_r _ [374, 137, 375, 376, 377, 2, 378, 16, 142, 143, 144, 145, 146, 147, 148, 75, 76, 15, 77, 56, 207, 208, 209, 210, 29, 78, 79, 672, 673, 674, 693, 694, 695, 696, 697, 698, 699, 700, 701] (by decide +kernel) (by decide +kernel)) (goodIn_sub (fun _ h => List.mem_append_left _ (List.mem_append_right _ h)) (by decide +kernel))
set_option maxRecDepth 20000 in
theorem gL_law_L_digit : GoodIn wsL_law (va_wsS RL 110 yL_digit wsL_digit) := goodIn_app (goodIn_of _ (by decide +kernel)) ggL_law_L_digit
set_option maxRecDepth 20000 in
theorem ggL_law_X4_digit : GoodIn wsL_law wsX4_digit := goodIn_r _ [382, 92, 93, 158, 159, 160, 5, 161, 90, 122, 123, 124, 125, 126, 127, 128, 129, 675, 676, 677, 678, 679, 680, 681, 682, 683, 684, 685, 686, 687, 688, 689, 690, 691, 692] (by decide +kernel) (by decide +kernel)
set_option maxRecDepth 20000 in
theorem gL_law_X4_digit : GoodIn wsL_law (wsV RL 112 RX4 yX4_digit wsX4_digit) := goodIn_app (goodIn_of _ (by decide +kernel)) ggL_law_X4_digit
set_option maxRecDepth 20000 in
theorem ggL_law_L_answers : GoodIn wsL_law wsL_answers := goodIn_ca (goodIn_r _ [385, 111, 386, 387, 388, 2, 389, 116, 117, 20, 390, 391, 392, 19, 393, 394, 44, 42, 40, 395, 396, 397, 398, 41, 84, 85, 399, 71, 72, 15, 73, 29, 74, 75, 76, 77, 56, 78, 79, 400, 208, 209, 210, 401, 266, 267, 268, 402, 403, 404, 405, 65, 406, 235, 236, 237, 33, 273, 274, 275, 276, 277, 278, 279, 280, 32, 281, 282, 283, 284, 30, 31, 289, 290, 291, 292, 407, 408, 409, 410, 411, 412, 413, 414, 34, 415, 416, 417, 418, 419, 420, 421, 422, 423, 424, 425, 35, 426, 427, 428, 429, 43, 430, 431, 432, 433, 672, 673, 674, 702, 703, 704, 705, 706, 707, 693, 694, 695, 696, 697, 698, 699, 700, 701] (by decide +kernel) (by decide +kernel)) (goodIn_sub (fun _ h => List.mem_append_left _ (List.mem_append_left _ (List.mem_append_right _ h))) (by decide +kernel))
set_option maxRecDepth 20000 in
theorem gL_law_L_answers : GoodIn wsL_law (va_wsS RL 113 yL_answers wsL_answers) := goodIn_app (goodIn_of _ (by decide +kernel)) ggL_law_L_answers
set_option maxRecDepth 20000 in
theorem ggL_law_X4_answers : GoodIn wsL_law wsX4_answers := goodIn_r _ [437, 122, 123, 5, 124, 125, 126, 127, 128, 129, 438, 439, 440, 441, 442, 443, 444, 98, 99, 445, 446, 447, 448, 93, 301, 302, 303, 304, 193, 194, 195, 196, 92, 158, 159, 160, 161, 90, 449, 450, 451, 452, 106, 97, 305, 306, 307, 308, 95, 309, 310, 311, 312, 94, 96, 313, 314, 315, 316, 453, 454, 455, 456, 457, 458, 459, 460, 461, 462, 463, 464, 100, 675, 676, 677, 678, 679, 680, 681, 682, 683, 684, 685, 686, 687, 688, 689, 690, 691, 692] (by decide +kernel) (by decide +kernel)
set_option maxRecDepth 20000 in
theorem gL_law_X4_answers : GoodIn wsL_law (wsV RL 115 RX4 yX4_answers wsX4_answers) := goodIn_app (goodIn_of _ (by decide +kernel)) ggL_law_X4_answers
set_option maxRecDepth 20000 in
theorem ggL_law_L_answersByAll : GoodIn wsL_law wsL_answersByAll := goodIn_ca (goodIn_r _ [467, 200, 468, 469, 470, 2, 471, 205, 206, 16, 20, 472, 262, 263, 15, 264, 265, 266, 267, 268, 29, 74, 75, 76, 77, 56, 78, 79, 473, 474, 475, 19, 476, 394, 44, 42, 395, 396, 397, 398, 41, 40, 84, 85, 399, 71, 72, 73, 400, 208, 209, 210, 401, 477, 478, 479, 480, 402, 403, 404, 405, 65, 406, 235, 236, 237, 33, 273, 274, 275, 276, 277, 278, 279, 280, 32, 281, 282, 283, 284, 30, 31, 289, 290, 291, 292, 672, 673, 674, 693, 694, 695, 696, 697, 698, 699, 700, 701, 702, 703, 704, 705, 706, 707] (by decide +kernel) (by decide +kernel)) (goodIn_sub (fun _ h => List.mem_append_right _ h) (by decide +kernel))
set_option maxRecDepth 20000 in
theorem gL_law_L_answersByAll : GoodIn wsL_law (va_wsS RL 116 yL_answersByAll wsL_answersByAll) := goodIn_app (goodIn_of _ (by decide +kernel)) ggL_law_L_answersByAll
set_option maxRecDepth 20000 in
theorem ggL_law_X4_answersByAll : GoodIn wsL_law wsX4_answersByAll := goodIn_r _ [484, 444, 99, 98, 445, 446, 447, 5, 448, 93, 301, 302, 303, 304, 193, 194, 195, 196, 92, 158, 159, 160, 161, 90, 122, 123, 124, 125, 126, 127, 128, 129, 449, 450, 451, 452, 106, 97, 305, 306, 307, 308, 95, 309, 310, 311, 312, 94, 96, 313, 314, 315, 316, 675, 676, 677, 678, 679, 680, 681, 682, 683, 684, 685, 686, 687, 688, 689, 690, 691, 692] (by decide +kernel) (by decide +kernel)
set_option maxRecDepth 20000 in
theorem gL_law_X4_answersByAll : GoodIn wsL_law (wsV RL 118 RX4 yX4_answersByAll wsX4_answersByAll) := goodIn_app (goodIn_of _ (by decide +kernel)) ggL_law_X4_answersByAll
set_option maxRecDepth 20000 in
theorem ggL_law_L_mend : GoodIn wsL_law wsL_mend := goodIn_ca (goodIn_r _ [487, 200, 488, 489, 490, 2, 491, 205, 206, 20, 16, 390, 391, 392, 19, 393, 394, 44, 42, 40, 395, 396, 397, 398, 41, 84, 85, 399, 71, 72, 15, 73, 29, 74, 75, 76, 77, 56, 78, 79, 400, 208, 209, 210, 401, 266, 267, 268, 402, 403, 404, 405, 65, 406, 235, 236, 237, 33, 273, 274, 275, 276, 277, 278, 279, 280, 32, 281, 282, 283, 284, 30, 31, 289, 290, 291, 292, 407, 408, 409, 410, 411, 412, 413, 414, 34, 415, 416, 417, 418, 419, 420, 421, 422, 423, 424, 425, 35, 426, 427, 428, 429, 43, 430, 431, 432, 433, 492, 493, 494, 495, 496, 497, 498, 499, 211, 212, 213, 214, 672, 673, 674, 702, 703, 704, 705, 706, 707, 693, 694, 695, 696, 697, 698, 699, 700, 701] (by decide +kernel) (by decide +kernel)) (goodIn_sub (fun _ h => List.mem_append_right _ h) (by decide +kernel))
set_option maxRecDepth 20000 in
theorem gL_law_L_mend : GoodIn wsL_law (va_wsS RL 119 yL_mend wsL_mend) := goodIn_app (goodIn_of _ (by decide +kernel)) ggL_law_L_mend
set_option maxRecDepth 20000 in
theorem ggL_law_X4_mend : GoodIn wsL_law wsX4_mend := goodIn_r _ [503, 442, 93, 443, 100, 438, 439, 440, 5, 441, 444, 98, 99, 445, 446, 447, 448, 301, 302, 303, 304, 193, 194, 195, 196, 92, 158, 159, 160, 161, 90, 122, 123, 124, 449, 450, 451, 452, 106, 97, 305, 306, 307, 308, 95, 309, 310, 311, 312, 94, 96, 313, 314, 315, 316, 453, 454, 455, 456, 457, 458, 459, 460, 461, 462, 463, 464, 125, 126, 127, 128, 129, 675, 676, 677, 678, 679, 680, 681, 682, 683, 684, 685, 686, 687, 688, 689, 690, 691, 692] (by decide +kernel) (by decide +kernel)
set_option maxRecDepth 20000 in
theorem gL_law_X4_mend : GoodIn wsL_law (wsV RL 121 RX4 yX4_mend wsX4_mend) := goodIn_app (goodIn_of _ (by decide +kernel)) ggL_law_X4_mend
set_option maxRecDepth 20000 in
theorem ggL_law_X3_level : GoodIn wsL_law wsX3_level := goodIn_r _ [507, 24, 508, 509, 510, 23, 511, 512, 513, 514, 515, 516, 517, 518, 519, 520, 521, 49, 522, 523, 524, 525, 51, 526, 71, 72, 15, 73, 29, 74, 75, 76, 77, 56, 78, 2, 79, 527, 266, 267, 268, 528, 208, 209, 210, 84, 85, 529, 530, 531, 532, 533, 294, 295, 296, 65, 534, 535, 536, 537, 538, 278, 279, 280, 32, 539, 282, 283, 284, 30, 31, 540, 541, 542, 543, 544, 545, 546, 547, 548, 549, 550, 551, 552, 553, 554, 235, 236, 237, 33, 555, 556, 557, 558, 559, 560, 561, 562, 563, 564, 565, 566, 567, 568, 50, 569, 570, 571, 572, 573, 574, 575, 576, 577, 578, 579, 580, 581, 582, 583, 672, 673, 674, 708, 709, 710, 711, 712, 693, 694, 695, 696, 697, 698, 699, 700, 701] (by decide +kernel) (by decide +kernel)
set_option maxRecDepth 20000 in
theorem gL_law_X3_level : GoodIn wsL_law (wsV RL 122 RX3 yX3_level wsX3_level) := goodIn_app (goodIn_of _ (by decide +kernel)) ggL_law_X3_level
set_option maxRecDepth 20000 in
theorem ggL_law_X4_level : GoodIn wsL_law wsX4_level := goodIn_r _ [587, 129, 101, 588, 589, 590, 591, 5, 592, 93, 593, 193, 194, 195, 196, 92, 158, 159, 160, 161, 90, 122, 123, 124, 594, 595, 596, 597, 106, 95, 309, 310, 311, 312, 94, 96, 598, 599, 600, 601, 602, 603, 604, 605, 606, 607, 608, 97, 609, 610, 611, 612, 613, 614, 615, 616, 617, 618, 619, 620, 621, 622, 623, 624, 625, 626, 675, 676, 677, 678, 679, 680, 681, 682, 683, 684, 685, 686, 687, 688, 689, 690, 691, 692] (by decide +kernel) (by decide +kernel)
set_option maxRecDepth 20000 in
theorem gL_law_X4_level : GoodIn wsL_law (wsV RL 125 RX4 yX4_level wsX4_level) := goodIn_app (goodIn_of _ (by decide +kernel)) ggL_law_X4_level
set_option maxRecDepth 20000 in
theorem ggL_law_L_candidates : GoodIn wsL_law wsL_candidates := goodIn_ca (goodIn_ca (goodIn_r _ [629, 137, 111, 630, 631, 632, 2, 633, 116, 117, 24, 142, 143, 144, 145, 146, 147, 16, 148, 75, 76, 15, 77, 56, 508, 509, 510, 23, 511, 512, 513, 514, 515, 516, 517, 518, 519, 520, 521, 49, 522, 523, 524, 525, 51, 526, 71, 72, 73, 29, 74, 78, 79, 527, 266, 267, 268, 528, 208, 209, 210, 84, 85, 529, 530, 531, 532, 533, 294, 295, 296, 65, 534, 535, 536, 537, 538, 278, 279, 280, 32, 539, 282, 283, 284, 30, 31, 540, 541, 542, 543, 544, 545, 546, 547, 548, 549, 550, 551, 552, 553, 554, 235, 236, 237, 33, 555, 556, 557, 558, 559, 560, 561, 562, 563, 564, 565, 566, 567, 568, 50, 569, 570, 571, 572, 573, 574, 575, 634, 635, 636, 637, 672, 673, 674, 693, 694, 695, 696, 697, 698, 699, 700, 701, 708, 709, 710, 711, 712] (by decide +kernel) (by decide +kernel)) (goodIn_sub (fun _ h => List.mem_append_left _ (List.mem_append_left _ (List.mem_append_right _ h))) (by decide +kernel))) (goodIn_sub (fun _ h => List.mem_append_left _ (List.mem_append_right _ h)) (by decide +kernel))
set_option maxRecDepth 20000 in
theorem gL_law_L_candidates : GoodIn wsL_law (va_wsS RL 126 yL_candidates wsL_candidates) := goodIn_app (goodIn_of _ (by decide +kernel)) ggL_law_L_candidates
set_option maxRecDepth 20000 in
theorem ggL_law_X4_candidates : GoodIn wsL_law wsX4_candidates := goodIn_r _ [641, 101, 158, 159, 160, 5, 161, 90, 122, 123, 124, 125, 126, 127, 128, 129, 589, 590, 591, 592, 588, 93, 593, 193, 194, 195, 196, 92, 594, 595, 596, 597, 106, 95, 309, 310, 311, 312, 94, 96, 598, 599, 600, 601, 602, 603, 604, 605, 606, 607, 608, 97, 609, 610, 611, 612, 613, 614, 615, 616, 617, 618, 619, 620, 621, 622, 623, 624, 625, 626, 675, 676, 677, 678, 679, 680, 681, 682, 683, 684, 685, 686, 687, 688, 689, 690, 691, 692] (by decide +kernel) (by decide +kernel)
set_option maxRecDepth 20000 in
theorem gL_law_X4_candidates : GoodIn wsL_law (wsV RL 128 RX4 yX4_candidates wsX4_candidates) := goodIn_app (goodIn_of _ (by decide +kernel)) ggL_law_X4_candidates
set_option maxRecDepth 20000 in
theorem ggL_law_X3_hint : GoodIn wsL_law wsX3_hint := goodIn_r _ [645, 24, 646, 647, 648, 23, 649, 650, 509, 510, 511, 512, 513, 514, 515, 516, 517, 518, 519, 520, 521, 49, 522, 523, 524, 525, 51, 526, 71, 72, 15, 73, 29, 74, 75, 76, 77, 56, 78, 2, 79, 527, 266, 267, 268, 528, 208, 209, 210, 84, 85, 529, 530, 531, 532, 533, 294, 295, 296, 65, 534, 535, 536, 537, 538, 278, 279, 280, 32, 539, 282, 283, 284, 30, 31, 540, 541, 542, 543, 544, 545, 546, 547, 548, 549, 550, 551, 552, 553, 554, 235, 236, 237, 33, 555, 556, 557, 558, 559, 560, 561, 562, 563, 564, 565, 566, 567, 568, 50, 569, 570, 571, 572, 573, 574, 575, 651, 652, 653, 654, 655, 672, 673, 674, 708, 709, 710, 711, 712, 693, 694, 695, 696, 697, 698, 699, 700, 701] (by decide +kernel) (by decide +kernel)
set_option maxRecDepth 20000 in
theorem gL_law_X3_hint : GoodIn wsL_law (wsV RL 129 RX3 yX3_hint wsX3_hint) := goodIn_app (goodIn_of _ (by decide +kernel)) ggL_law_X3_hint
set_option maxRecDepth 20000 in
theorem ggL_law_X4_hint : GoodIn wsL_law wsX4_hint := goodIn_r _ [659, 129, 660, 661, 662, 5, 663, 93, 101, 589, 590, 591, 592, 588, 593, 193, 194, 195, 196, 92, 158, 159, 160, 161, 90, 122, 123, 124, 594, 595, 596, 597, 106, 95, 309, 310, 311, 312, 94, 96, 598, 599, 600, 601, 602, 603, 604, 605, 606, 607, 608, 97, 609, 610, 611, 612, 613, 614, 615, 616, 617, 618, 619, 620, 621, 622, 623, 624, 625, 626, 675, 676, 677, 678, 679, 680, 681, 682, 683, 684, 685, 686, 687, 688, 689, 690, 691, 692] (by decide +kernel) (by decide +kernel)
set_option maxRecDepth 20000 in
theorem gL_law_X4_hint : GoodIn wsL_law (wsV RL 132 RX4 yX4_hint wsX4_hint) := goodIn_app (goodIn_of _ (by decide +kernel)) ggL_law_X4_hint
set_option maxRecDepth 20000 in
theorem ggL_law_X3_hintRules : GoodIn wsL_law wsX3_hintRules := goodIn_r _ [667, 24, 646, 647, 648, 23, 649, 650, 509, 510, 511, 512, 513, 514, 515, 516, 517, 518, 519, 520, 521, 49, 522, 523, 524, 525, 51, 526, 71, 72, 15, 73, 29, 74, 75, 76, 77, 56, 78, 2, 79, 527, 266, 267, 268, 528, 208, 209, 210, 84, 85, 529, 530, 531, 532, 533, 294, 295, 296, 65, 534, 535, 536, 537, 538, 278, 279, 280, 32, 539, 282, 283, 284, 30, 31, 540, 541, 542, 543, 544, 545, 546, 547, 548, 549, 550, 551, 552, 553, 554, 235, 236, 237, 33, 555, 556, 557, 558, 559, 560, 561, 562, 563, 564, 565, 566, 567, 568, 50, 569, 570, 571, 572, 573, 574, 575, 651, 652, 653, 654, 672, 673, 674, 708, 709, 710, 711, 712, 693, 694, 695, 696, 697, 698, 699, 700, 701] (by decide +kernel) (by decide +kernel)
set_option maxRecDepth 20000 in
theorem gL_law_X3_hintRules : GoodIn wsL_law (wsV RL 133 RX3 yX3_hintRules wsX3_hintRules) := goodIn_app (goodIn_of _ (by decide +kernel)) ggL_law_X3_hintRules
set_option maxRecDepth 20000 in
theorem ggL_law_X4_hintRules : GoodIn wsL_law wsX4_hintRules := goodIn_r _ [671, 129, 660, 661, 662, 5, 663, 93, 101, 589, 590, 591, 592, 588, 593, 193, 194, 195, 196, 92, 158, 159, 160, 161, 90, 122, 123, 124, 594, 595, 596, 597, 106, 95, 309, 310, 311, 312, 94, 96, 598, 599, 600, 601, 602, 603, 604, 605, 606, 607, 608, 97, 609, 610, 611, 612, 613, 614, 615, 616, 617, 618, 619, 620, 621, 622, 623, 624, 625, 626, 675, 676, 677, 678, 679, 680, 681, 682, 683, 684, 685, 686, 687, 688, 689, 690, 691, 692] (by decide +kernel) (by decide +kernel)
set_option maxRecDepth 20000 in
theorem gL_law_X4_hintRules : GoodIn wsL_law (wsV RL 136 RX4 yX4_hintRules wsX4_hintRules) := goodIn_app (goodIn_of _ (by decide +kernel)) ggL_law_X4_hintRules
theorem dL_law_0 : decode cL_law 0 = .ok (.new 8, 3) := by decide +kernel
theorem dL_law_3 : decode cL_law 3 = .ok (.dup, 1) := by decide +kernel
theorem dL_law_4 : decode cL_law 4 = .ok (.invokespecial 62, 3) := by decide +kernel
theorem dL_law_7 : decode cL_law 7 = .ok (.astore_n 1, 1) := by decide +kernel
theorem dL_law_8 : decode cL_law 8 = .ok (.new 63, 3) := by decide +kernel
theorem dL_law_11 : decode cL_law 11 = .ok (.dup, 1) := by decide +kernel
theorem dL_law_12 : decode cL_law 12 = .ok (.invokespecial 65, 3) := by decide +kernel
theorem dL_law_15 : decode cL_law 15 = .ok (.astore_n 2, 1) := by decide +kernel
theorem dL_law_16 : decode cL_law 16 = .ok (.iconst 1, 1) := by decide +kernel
theorem dL_law_17 : decode cL_law 17 = .ok (.newarray .long, 2) := by decide +kernel
theorem dL_law_19 : decode cL_law 19 = .ok (.astore_n 3, 1) := by decide +kernel
theorem dL_law_20 : decode cL_law 20 = .ok (.iconst 0, 1) := by decide +kernel
theorem dL_law_21 : decode cL_law 21 = .ok (.istore 4, 2) := by decide +kernel
theorem dL_law_23 : decode cL_law 23 = .ok (.iload 4, 2) := by decide +kernel
theorem dL_law_25 : decode cL_law 25 = .ok (.aload_n 0, 1) := by decide +kernel
theorem dL_law_26 : decode cL_law 26 = .ok (.arraylength, 1) := by decide +kernel
theorem dL_law_27 : decode cL_law 27 = .ok (.iconst 3, 1) := by decide +kernel
theorem dL_law_28 : decode cL_law 28 = .ok (.isub, 1) := by decide +kernel
theorem dL_law_29 : decode cL_law 29 = .ok (.if_icmp .gt 941, 3) := by decide +kernel
theorem dL_law_32 : decode cL_law 32 = .ok (.aload_n 0, 1) := by decide +kernel
theorem dL_law_33 : decode cL_law 33 = .ok (.iload 4, 2) := by decide +kernel
theorem dL_law_35 : decode cL_law 35 = .ok (.iaload, 1) := by decide +kernel
theorem dL_law_36 : decode cL_law 36 = .ok (.bipush 31, 2) := by decide +kernel
theorem dL_law_38 : decode cL_law 38 = .ok (.iand, 1) := by decide +kernel
theorem dL_law_39 : decode cL_law 39 = .ok (.tableswitch 925 0 18 #[89, 125, 188, 244, 312, 380, 424, 437, 450, 506, 562, 618, 674, 730, 774, 818, 831, 899, 912], 89) := by decide +kernel
theorem dL_law_128 : decode cL_law 128 = .ok (.aload_n 1, 1) := by decide +kernel
theorem dL_law_129 : decode cL_law 129 = .ok (.aload_n 0, 1) := by decide +kernel
theorem dL_law_130 : decode cL_law 130 = .ok (.iload 4, 2) := by decide +kernel
theorem dL_law_132 : decode cL_law 132 = .ok (.iconst 1, 1) := by decide +kernel
theorem dL_law_133 : decode cL_law 133 = .ok (.iadd, 1) := by decide +kernel
theorem dL_law_134 : decode cL_law 134 = .ok (.iaload, 1) := by decide +kernel
theorem dL_law_135 : decode cL_law 135 = .ok (.invokestatic 66, 3) := by decide +kernel
theorem dL_law_138 : decode cL_law 138 = .ok (.istore 5, 2) := by decide +kernel
theorem dL_law_140 : decode cL_law 140 = .ok (.aload_n 2, 1) := by decide +kernel
theorem dL_law_141 : decode cL_law 141 = .ok (.aload_n 0, 1) := by decide +kernel
theorem dL_law_142 : decode cL_law 142 = .ok (.iload 4, 2) := by decide +kernel
theorem dL_law_144 : decode cL_law 144 = .ok (.iconst 1, 1) := by decide +kernel
theorem dL_law_145 : decode cL_law 145 = .ok (.iadd, 1) := by decide +kernel
theorem dL_law_146 : decode cL_law 146 = .ok (.iaload, 1) := by decide +kernel
theorem dL_law_147 : decode cL_law 147 = .ok (.invokevirtual 71, 3) := by decide +kernel
theorem dL_law_150 : decode cL_law 150 = .ok (.aload_n 2, 1) := by decide +kernel
theorem dL_law_151 : decode cL_law 151 = .ok (.invokevirtual 72, 3) := by decide +kernel
theorem dL_law_154 : decode cL_law 154 = .ok (.iload 5, 2) := by decide +kernel
theorem dL_law_156 : decode cL_law 156 = .ok (.if_icmp .eq 5, 3) := by decide +kernel
theorem dL_law_159 : decode cL_law 159 = .ok (.iconst 0, 1) := by decide +kernel
theorem dL_law_160 : decode cL_law 160 = .ok (.ireturn, 1) := by decide +kernel
theorem dL_law_161 : decode cL_law 161 = .ok (.goto 803, 3) := by decide +kernel
theorem dL_law_164 : decode cL_law 164 = .ok (.aload_n 1, 1) := by decide +kernel
theorem dL_law_165 : decode cL_law 165 = .ok (.aload_n 0, 1) := by decide +kernel
theorem dL_law_166 : decode cL_law 166 = .ok (.iload 4, 2) := by decide +kernel
theorem dL_law_168 : decode cL_law 168 = .ok (.iconst 1, 1) := by decide +kernel
theorem dL_law_169 : decode cL_law 169 = .ok (.iadd, 1) := by decide +kernel
theorem dL_law_170 : decode cL_law 170 = .ok (.iaload, 1) := by decide +kernel
theorem dL_law_171 : decode cL_law 171 = .ok (.aload_n 3, 1) := by decide +kernel
theorem dL_law_172 : decode cL_law 172 = .ok (.invokestatic 75, 3) := by decide +kernel
theorem dL_law_175 : decode cL_law 175 = .ok (.istore 5, 2) := by decide +kernel
theorem dL_law_177 : decode cL_law 177 = .ok (.aload_n 2, 1) := by decide +kernel
theorem dL_law_178 : decode cL_law 178 = .ok (.aload_n 0, 1) := by decide +kernel
theorem dL_law_179 : decode cL_law 179 = .ok (.iload 4, 2) := by decide +kernel
theorem dL_law_181 : decode cL_law 181 = .ok (.iconst 1, 1) := by decide +kernel
theorem dL_law_182 : decode cL_law 182 = .ok (.iadd, 1) := by decide +kernel
theorem dL_law_183 : decode cL_law 183 = .ok (.iaload, 1) := by decide +kernel
theorem dL_law_184 : decode cL_law 184 = .ok (.invokevirtual 78, 3) := by decide +kernel
theorem dL_law_187 : decode cL_law 187 = .ok (.istore 6, 2) := by decide +kernel
theorem dL_law_189 : decode cL_law 189 = .ok (.aload_n 2, 1) := by decide +kernel
theorem dL_law_190 : decode cL_law 190 = .ok (.invokevirtual 72, 3) := by decide +kernel
theorem dL_law_193 : decode cL_law 193 = .ok (.iload 5, 2) := by decide +kernel
theorem dL_law_195 : decode cL_law 195 = .ok (.if_icmp .eq 5, 3) := by decide +kernel
theorem dL_law_198 : decode cL_law 198 = .ok (.iconst 0, 1) := by decide +kernel
theorem dL_law_199 : decode cL_law 199 = .ok (.ireturn, 1) := by decide +kernel
theorem dL_law_200 : decode cL_law 200 = .ok (.iload 5, 2) := by decide +kernel
theorem dL_law_202 : decode cL_law 202 = .ok (.ifCond .ne 22, 3) := by decide +kernel
theorem dL_law_205 : decode cL_law 205 = .ok (.aload_n 3, 1) := by decide +kernel
theorem dL_law_206 : decode cL_law 206 = .ok (.iconst 0, 1) := by decide +kernel
theorem dL_law_207 : decode cL_law 207 = .ok (.laload, 1) := by decide +kernel
theorem dL_law_208 : decode cL_law 208 = .ok (.iload 6, 2) := by decide +kernel
theorem dL_law_210 : decode cL_law 210 = .ok (.ifCond .eq 7, 3) := by decide +kernel
theorem dL_law_213 : decode cL_law 213 = .ok (.lconst 1, 1) := by decide +kernel
theorem dL_law_214 : decode cL_law 214 = .ok (.goto 4, 3) := by decide +kernel
theorem dL_law_217 : decode cL_law 217 = .ok (.lconst 0, 1) := by decide +kernel
theorem dL_law_218 : decode cL_law 218 = .ok (.lcmp, 1) := by decide +kernel
theorem dL_law_219 : decode cL_law 219 = .ok (.ifCond .eq 5, 3) := by decide +kernel
theorem dL_law_222 : decode cL_law 222 = .ok (.iconst 0, 1) := by decide +kernel
theorem dL_law_223 : decode cL_law 223 = .ok (.ireturn, 1) := by decide +kernel
theorem dL_law_224 : decode cL_law 224 = .ok (.goto 740, 3) := by decide +kernel
theorem dL_law_227 : decode cL_law 227 = .ok (.aload_n 1, 1) := by decide +kernel
theorem dL_law_228 : decode cL_law 228 = .ok (.aload_n 0, 1) := by decide +kernel
theorem dL_law_229 : decode cL_law 229 = .ok (.iload 4, 2) := by decide +kernel
theorem dL_law_231 : decode cL_law 231 = .ok (.iconst 1, 1) := by decide +kernel
theorem dL_law_232 : decode cL_law 232 = .ok (.iadd, 1) := by decide +kernel
theorem dL_law_233 : decode cL_law 233 = .ok (.iaload, 1) := by decide +kernel
theorem dL_law_234 : decode cL_law 234 = .ok (.aload_n 3, 1) := by decide +kernel
theorem dL_law_235 : decode cL_law 235 = .ok (.invokestatic 79, 3) := by decide +kernel
theorem dL_law_238 : decode cL_law 238 = .ok (.istore 5, 2) := by decide +kernel
theorem dL_law_240 : decode cL_law 240 = .ok (.aload_n 2, 1) := by decide +kernel
theorem dL_law_241 : decode cL_law 241 = .ok (.aload_n 0, 1) := by decide +kernel
theorem dL_law_242 : decode cL_law 242 = .ok (.iload 4, 2) := by decide +kernel
theorem dL_law_244 : decode cL_law 244 = .ok (.iconst 1, 1) := by decide +kernel
theorem dL_law_245 : decode cL_law 245 = .ok (.iadd, 1) := by decide +kernel
theorem dL_law_246 : decode cL_law 246 = .ok (.iaload, 1) := by decide +kernel
theorem dL_law_247 : decode cL_law 247 = .ok (.invokevirtual 81, 3) := by decide +kernel
theorem dL_law_250 : decode cL_law 250 = .ok (.istore 6, 2) := by decide +kernel
theorem dL_law_252 : decode cL_law 252 = .ok (.aload_n 2, 1) := by decide +kernel
theorem dL_law_253 : decode cL_law 253 = .ok (.invokevirtual 72, 3) := by decide +kernel
theorem dL_law_256 : decode cL_law 256 = .ok (.iload 5, 2) := by decide +kernel
theorem dL_law_258 : decode cL_law 258 = .ok (.if_icmp .eq 5, 3) := by decide +kernel
theorem dL_law_261 : decode cL_law 261 = .ok (.iconst 0, 1) := by decide +kernel
theorem dL_law_262 : decode cL_law 262 = .ok (.ireturn, 1) := by decide +kernel
theorem dL_law_263 : decode cL_law 263 = .ok (.iload 5, 2) := by decide +kernel
theorem dL_law_265 : decode cL_law 265 = .ok (.ifCond .ne 15, 3) := by decide +kernel
theorem dL_law_268 : decode cL_law 268 = .ok (.aload_n 3, 1) := by decide +kernel
theorem dL_law_269 : decode cL_law 269 = .ok (.iconst 0, 1) := by decide +kernel
theorem dL_law_270 : decode cL_law 270 = .ok (.laload, 1) := by decide +kernel
theorem dL_law_271 : decode cL_law 271 = .ok (.iload 6, 2) := by decide +kernel
theorem dL_law_273 : decode cL_law 273 = .ok (.i2l, 1) := by decide +kernel
theorem dL_law_274 : decode cL_law 274 = .ok (.lcmp, 1) := by decide +kernel
theorem dL_law_275 : decode cL_law 275 = .ok (.ifCond .eq 5, 3) := by decide +kernel
theorem dL_law_278 : decode cL_law 278 = .ok (.iconst 0, 1) := by decide +kernel
theorem dL_law_279 : decode cL_law 279 = .ok (.ireturn, 1) := by decide +kernel
theorem dL_law_280 : decode cL_law 280 = .ok (.goto 684, 3) := by decide +kernel
theorem dL_law_283 : decode cL_law 283 = .ok (.aload_n 1, 1) := by decide +kernel
theorem dL_law_284 : decode cL_law 284 = .ok (.aload_n 0, 1) := by decide +kernel
theorem dL_law_285 : decode cL_law 285 = .ok (.iload 4, 2) := by decide +kernel
theorem dL_law_287 : decode cL_law 287 = .ok (.iconst 1, 1) := by decide +kernel
theorem dL_law_288 : decode cL_law 288 = .ok (.iadd, 1) := by decide +kernel
theorem dL_law_289 : decode cL_law 289 = .ok (.iaload, 1) := by decide +kernel
theorem dL_law_290 : decode cL_law 290 = .ok (.aload_n 0, 1) := by decide +kernel
theorem dL_law_291 : decode cL_law 291 = .ok (.iload 4, 2) := by decide +kernel
theorem dL_law_293 : decode cL_law 293 = .ok (.iconst 2, 1) := by decide +kernel
theorem dL_law_294 : decode cL_law 294 = .ok (.iadd, 1) := by decide +kernel
theorem dL_law_295 : decode cL_law 295 = .ok (.iaload, 1) := by decide +kernel
theorem dL_law_296 : decode cL_law 296 = .ok (.aload_n 3, 1) := by decide +kernel
theorem dL_law_297 : decode cL_law 297 = .ok (.invokestatic 82, 3) := by decide +kernel
theorem dL_law_300 : decode cL_law 300 = .ok (.istore 5, 2) := by decide +kernel
theorem dL_law_302 : decode cL_law 302 = .ok (.aload_n 2, 1) := by decide +kernel
theorem dL_law_303 : decode cL_law 303 = .ok (.aload_n 0, 1) := by decide +kernel
theorem dL_law_304 : decode cL_law 304 = .ok (.iload 4, 2) := by decide +kernel
theorem dL_law_306 : decode cL_law 306 = .ok (.iconst 1, 1) := by decide +kernel
theorem dL_law_307 : decode cL_law 307 = .ok (.iadd, 1) := by decide +kernel
theorem dL_law_308 : decode cL_law 308 = .ok (.iaload, 1) := by decide +kernel
theorem dL_law_309 : decode cL_law 309 = .ok (.aload_n 0, 1) := by decide +kernel
theorem dL_law_310 : decode cL_law 310 = .ok (.iload 4, 2) := by decide +kernel
theorem dL_law_312 : decode cL_law 312 = .ok (.iconst 2, 1) := by decide +kernel
theorem dL_law_313 : decode cL_law 313 = .ok (.iadd, 1) := by decide +kernel
theorem dL_law_314 : decode cL_law 314 = .ok (.iaload, 1) := by decide +kernel
theorem dL_law_315 : decode cL_law 315 = .ok (.invokevirtual 85, 3) := by decide +kernel
theorem dL_law_318 : decode cL_law 318 = .ok (.istore 6, 2) := by decide +kernel
theorem dL_law_320 : decode cL_law 320 = .ok (.aload_n 2, 1) := by decide +kernel
theorem dL_law_321 : decode cL_law 321 = .ok (.invokevirtual 72, 3) := by decide +kernel
theorem dL_law_324 : decode cL_law 324 = .ok (.iload 5, 2) := by decide +kernel
theorem dL_law_326 : decode cL_law 326 = .ok (.if_icmp .eq 5, 3) := by decide +kernel
theorem dL_law_329 : decode cL_law 329 = .ok (.iconst 0, 1) := by decide +kernel
theorem dL_law_330 : decode cL_law 330 = .ok (.ireturn, 1) := by decide +kernel
theorem dL_law_331 : decode cL_law 331 = .ok (.iload 5, 2) := by decide +kernel
theorem dL_law_333 : decode cL_law 333 = .ok (.ifCond .ne 15, 3) := by decide +kernel
theorem dL_law_336 : decode cL_law 336 = .ok (.aload_n 3, 1) := by decide +kernel
theorem dL_law_337 : decode cL_law 337 = .ok (.iconst 0, 1) := by decide +kernel
theorem dL_law_338 : decode cL_law 338 = .ok (.laload, 1) := by decide +kernel
theorem dL_law_339 : decode cL_law 339 = .ok (.iload 6, 2) := by decide +kernel
theorem dL_law_341 : decode cL_law 341 = .ok (.i2l, 1) := by decide +kernel
theorem dL_law_342 : decode cL_law 342 = .ok (.lcmp, 1) := by decide +kernel
theorem dL_law_343 : decode cL_law 343 = .ok (.ifCond .eq 5, 3) := by decide +kernel
theorem dL_law_346 : decode cL_law 346 = .ok (.iconst 0, 1) := by decide +kernel
theorem dL_law_347 : decode cL_law 347 = .ok (.ireturn, 1) := by decide +kernel
theorem dL_law_348 : decode cL_law 348 = .ok (.goto 616, 3) := by decide +kernel
theorem dL_law_351 : decode cL_law 351 = .ok (.aload_n 1, 1) := by decide +kernel
theorem dL_law_352 : decode cL_law 352 = .ok (.aload_n 0, 1) := by decide +kernel
theorem dL_law_353 : decode cL_law 353 = .ok (.iload 4, 2) := by decide +kernel
theorem dL_law_355 : decode cL_law 355 = .ok (.iconst 1, 1) := by decide +kernel
theorem dL_law_356 : decode cL_law 356 = .ok (.iadd, 1) := by decide +kernel
theorem dL_law_357 : decode cL_law 357 = .ok (.iaload, 1) := by decide +kernel
theorem dL_law_358 : decode cL_law 358 = .ok (.aload_n 0, 1) := by decide +kernel
theorem dL_law_359 : decode cL_law 359 = .ok (.iload 4, 2) := by decide +kernel
theorem dL_law_361 : decode cL_law 361 = .ok (.iconst 2, 1) := by decide +kernel
theorem dL_law_362 : decode cL_law 362 = .ok (.iadd, 1) := by decide +kernel
theorem dL_law_363 : decode cL_law 363 = .ok (.iaload, 1) := by decide +kernel
theorem dL_law_364 : decode cL_law 364 = .ok (.aload_n 3, 1) := by decide +kernel
theorem dL_law_365 : decode cL_law 365 = .ok (.invokestatic 86, 3) := by decide +kernel
theorem dL_law_368 : decode cL_law 368 = .ok (.istore 5, 2) := by decide +kernel
theorem dL_law_370 : decode cL_law 370 = .ok (.aload_n 2, 1) := by decide +kernel
theorem dL_law_371 : decode cL_law 371 = .ok (.aload_n 0, 1) := by decide +kernel
theorem dL_law_372 : decode cL_law 372 = .ok (.iload 4, 2) := by decide +kernel
theorem dL_law_374 : decode cL_law 374 = .ok (.iconst 1, 1) := by decide +kernel
theorem dL_law_375 : decode cL_law 375 = .ok (.iadd, 1) := by decide +kernel
theorem dL_law_376 : decode cL_law 376 = .ok (.iaload, 1) := by decide +kernel
theorem dL_law_377 : decode cL_law 377 = .ok (.aload_n 0, 1) := by decide +kernel
theorem dL_law_378 : decode cL_law 378 = .ok (.iload 4, 2) := by decide +kernel
theorem dL_law_380 : decode cL_law 380 = .ok (.iconst 2, 1) := by decide +kernel
theorem dL_law_381 : decode cL_law 381 = .ok (.iadd, 1) := by decide +kernel
theorem dL_law_382 : decode cL_law 382 = .ok (.iaload, 1) := by decide +kernel
theorem dL_law_383 : decode cL_law 383 = .ok (.invokevirtual 88, 3) := by decide +kernel
theorem dL_law_386 : decode cL_law 386 = .ok (.istore 6, 2) := by decide +kernel
theorem dL_law_388 : decode cL_law 388 = .ok (.aload_n 2, 1) := by decide +kernel
theorem dL_law_389 : decode cL_law 389 = .ok (.invokevirtual 72, 3) := by decide +kernel
theorem dL_law_392 : decode cL_law 392 = .ok (.iload 5, 2) := by decide +kernel
theorem dL_law_394 : decode cL_law 394 = .ok (.if_icmp .eq 5, 3) := by decide +kernel
theorem dL_law_397 : decode cL_law 397 = .ok (.iconst 0, 1) := by decide +kernel
theorem dL_law_398 : decode cL_law 398 = .ok (.ireturn, 1) := by decide +kernel
theorem dL_law_399 : decode cL_law 399 = .ok (.iload 5, 2) := by decide +kernel
theorem dL_law_401 : decode cL_law 401 = .ok (.ifCond .ne 15, 3) := by decide +kernel
theorem dL_law_404 : decode cL_law 404 = .ok (.aload_n 3, 1) := by decide +kernel
theorem dL_law_405 : decode cL_law 405 = .ok (.iconst 0, 1) := by decide +kernel
theorem dL_law_406 : decode cL_law 406 = .ok (.laload, 1) := by decide +kernel
theorem dL_law_407 : decode cL_law 407 = .ok (.iload 6, 2) := by decide +kernel
theorem dL_law_409 : decode cL_law 409 = .ok (.i2l, 1) := by decide +kernel
theorem dL_law_410 : decode cL_law 410 = .ok (.lcmp, 1) := by decide +kernel
theorem dL_law_411 : decode cL_law 411 = .ok (.ifCond .eq 5, 3) := by decide +kernel
theorem dL_law_414 : decode cL_law 414 = .ok (.iconst 0, 1) := by decide +kernel
theorem dL_law_415 : decode cL_law 415 = .ok (.ireturn, 1) := by decide +kernel
theorem dL_law_416 : decode cL_law 416 = .ok (.goto 548, 3) := by decide +kernel
theorem dL_law_419 : decode cL_law 419 = .ok (.aload_n 1, 1) := by decide +kernel
theorem dL_law_420 : decode cL_law 420 = .ok (.aload_n 3, 1) := by decide +kernel
theorem dL_law_421 : decode cL_law 421 = .ok (.invokestatic 89, 3) := by decide +kernel
theorem dL_law_424 : decode cL_law 424 = .ok (.istore 5, 2) := by decide +kernel
theorem dL_law_426 : decode cL_law 426 = .ok (.aload_n 2, 1) := by decide +kernel
theorem dL_law_427 : decode cL_law 427 = .ok (.invokevirtual 92, 3) := by decide +kernel
theorem dL_law_430 : decode cL_law 430 = .ok (.istore 6, 2) := by decide +kernel
theorem dL_law_432 : decode cL_law 432 = .ok (.aload_n 2, 1) := by decide +kernel
theorem dL_law_433 : decode cL_law 433 = .ok (.invokevirtual 72, 3) := by decide +kernel
theorem dL_law_436 : decode cL_law 436 = .ok (.iload 5, 2) := by decide +kernel
theorem dL_law_438 : decode cL_law 438 = .ok (.if_icmp .eq 5, 3) := by decide +kernel
theorem dL_law_441 : decode cL_law 441 = .ok (.iconst 0, 1) := by decide +kernel
theorem dL_law_442 : decode cL_law 442 = .ok (.ireturn, 1) := by decide +kernel
theorem dL_law_443 : decode cL_law 443 = .ok (.iload 5, 2) := by decide +kernel
theorem dL_law_445 : decode cL_law 445 = .ok (.ifCond .ne 15, 3) := by decide +kernel
theorem dL_law_448 : decode cL_law 448 = .ok (.aload_n 3, 1) := by decide +kernel
theorem dL_law_449 : decode cL_law 449 = .ok (.iconst 0, 1) := by decide +kernel
theorem dL_law_450 : decode cL_law 450 = .ok (.laload, 1) := by decide +kernel
theorem dL_law_451 : decode cL_law 451 = .ok (.iload 6, 2) := by decide +kernel
theorem dL_law_453 : decode cL_law 453 = .ok (.i2l, 1) := by decide +kernel
theorem dL_law_454 : decode cL_law 454 = .ok (.lcmp, 1) := by decide +kernel
theorem dL_law_455 : decode cL_law 455 = .ok (.ifCond .eq 5, 3) := by decide +kernel
theorem dL_law_458 : decode cL_law 458 = .ok (.iconst 0, 1) := by decide +kernel
theorem dL_law_459 : decode cL_law 459 = .ok (.ireturn, 1) := by decide +kernel
theorem dL_law_460 : decode cL_law 460 = .ok (.goto 504, 3) := by decide +kernel
theorem dL_law_463 : decode cL_law 463 = .ok (.aload_n 1, 1) := by decide +kernel
theorem dL_law_464 : decode cL_law 464 = .ok (.invokevirtual 93, 3) := by decide +kernel
theorem dL_law_467 : decode cL_law 467 = .ok (.aload_n 2, 1) := by decide +kernel
theorem dL_law_468 : decode cL_law 468 = .ok (.invokevirtual 96, 3) := by decide +kernel
theorem dL_law_471 : decode cL_law 471 = .ok (.if_icmp .eq 493, 3) := by decide +kernel
theorem dL_law_474 : decode cL_law 474 = .ok (.iconst 0, 1) := by decide +kernel
theorem dL_law_475 : decode cL_law 475 = .ok (.ireturn, 1) := by decide +kernel
theorem dL_law_476 : decode cL_law 476 = .ok (.aload_n 1, 1) := by decide +kernel
theorem dL_law_477 : decode cL_law 477 = .ok (.invokevirtual 97, 3) := by decide +kernel
theorem dL_law_480 : decode cL_law 480 = .ok (.aload_n 2, 1) := by decide +kernel
theorem dL_law_481 : decode cL_law 481 = .ok (.invokevirtual 100, 3) := by decide +kernel
theorem dL_law_484 : decode cL_law 484 = .ok (.if_icmp .eq 480, 3) := by decide +kernel
theorem dL_law_487 : decode cL_law 487 = .ok (.iconst 0, 1) := by decide +kernel
theorem dL_law_488 : decode cL_law 488 = .ok (.ireturn, 1) := by decide +kernel
theorem dL_law_489 : decode cL_law 489 = .ok (.aload_n 1, 1) := by decide +kernel
theorem dL_law_490 : decode cL_law 490 = .ok (.aload_n 0, 1) := by decide +kernel
theorem dL_law_491 : decode cL_law 491 = .ok (.iload 4, 2) := by decide +kernel
theorem dL_law_493 : decode cL_law 493 = .ok (.iconst 1, 1) := by decide +kernel
theorem dL_law_494 : decode cL_law 494 = .ok (.iadd, 1) := by decide +kernel
theorem dL_law_495 : decode cL_law 495 = .ok (.iaload, 1) := by decide +kernel
theorem dL_law_496 : decode cL_law 496 = .ok (.aload_n 3, 1) := by decide +kernel
theorem dL_law_497 : decode cL_law 497 = .ok (.invokestatic 101, 3) := by decide +kernel
theorem dL_law_500 : decode cL_law 500 = .ok (.istore 5, 2) := by decide +kernel
theorem dL_law_502 : decode cL_law 502 = .ok (.aload_n 2, 1) := by decide +kernel
theorem dL_law_503 : decode cL_law 503 = .ok (.aload_n 0, 1) := by decide +kernel
theorem dL_law_504 : decode cL_law 504 = .ok (.iload 4, 2) := by decide +kernel
theorem dL_law_506 : decode cL_law 506 = .ok (.iconst 1, 1) := by decide +kernel
theorem dL_law_507 : decode cL_law 507 = .ok (.iadd, 1) := by decide +kernel
theorem dL_law_508 : decode cL_law 508 = .ok (.iaload, 1) := by decide +kernel
theorem dL_law_509 : decode cL_law 509 = .ok (.invokevirtual 103, 3) := by decide +kernel
theorem dL_law_512 : decode cL_law 512 = .ok (.istore 6, 2) := by decide +kernel
theorem dL_law_514 : decode cL_law 514 = .ok (.aload_n 2, 1) := by decide +kernel
theorem dL_law_515 : decode cL_law 515 = .ok (.invokevirtual 72, 3) := by decide +kernel
theorem dL_law_518 : decode cL_law 518 = .ok (.iload 5, 2) := by decide +kernel
theorem dL_law_520 : decode cL_law 520 = .ok (.if_icmp .eq 5, 3) := by decide +kernel
theorem dL_law_523 : decode cL_law 523 = .ok (.iconst 0, 1) := by decide +kernel
theorem dL_law_524 : decode cL_law 524 = .ok (.ireturn, 1) := by decide +kernel
theorem dL_law_525 : decode cL_law 525 = .ok (.iload 5, 2) := by decide +kernel
theorem dL_law_527 : decode cL_law 527 = .ok (.ifCond .ne 15, 3) := by decide +kernel
theorem dL_law_530 : decode cL_law 530 = .ok (.aload_n 3, 1) := by decide +kernel
theorem dL_law_531 : decode cL_law 531 = .ok (.iconst 0, 1) := by decide +kernel
theorem dL_law_532 : decode cL_law 532 = .ok (.laload, 1) := by decide +kernel
theorem dL_law_533 : decode cL_law 533 = .ok (.iload 6, 2) := by decide +kernel
theorem dL_law_535 : decode cL_law 535 = .ok (.i2l, 1) := by decide +kernel
theorem dL_law_536 : decode cL_law 536 = .ok (.lcmp, 1) := by decide +kernel
theorem dL_law_537 : decode cL_law 537 = .ok (.ifCond .eq 5, 3) := by decide +kernel
theorem dL_law_540 : decode cL_law 540 = .ok (.iconst 0, 1) := by decide +kernel
theorem dL_law_541 : decode cL_law 541 = .ok (.ireturn, 1) := by decide +kernel
theorem dL_law_542 : decode cL_law 542 = .ok (.goto 422, 3) := by decide +kernel
theorem dL_law_545 : decode cL_law 545 = .ok (.aload_n 1, 1) := by decide +kernel
theorem dL_law_546 : decode cL_law 546 = .ok (.aload_n 0, 1) := by decide +kernel
theorem dL_law_547 : decode cL_law 547 = .ok (.iload 4, 2) := by decide +kernel
theorem dL_law_549 : decode cL_law 549 = .ok (.iconst 1, 1) := by decide +kernel
theorem dL_law_550 : decode cL_law 550 = .ok (.iadd, 1) := by decide +kernel
theorem dL_law_551 : decode cL_law 551 = .ok (.iaload, 1) := by decide +kernel
theorem dL_law_552 : decode cL_law 552 = .ok (.aload_n 3, 1) := by decide +kernel
theorem dL_law_553 : decode cL_law 553 = .ok (.invokestatic 104, 3) := by decide +kernel
theorem dL_law_556 : decode cL_law 556 = .ok (.istore 5, 2) := by decide +kernel
theorem dL_law_558 : decode cL_law 558 = .ok (.aload_n 2, 1) := by decide +kernel
theorem dL_law_559 : decode cL_law 559 = .ok (.aload_n 0, 1) := by decide +kernel
theorem dL_law_560 : decode cL_law 560 = .ok (.iload 4, 2) := by decide +kernel
theorem dL_law_562 : decode cL_law 562 = .ok (.iconst 1, 1) := by decide +kernel
theorem dL_law_563 : decode cL_law 563 = .ok (.iadd, 1) := by decide +kernel
theorem dL_law_564 : decode cL_law 564 = .ok (.iaload, 1) := by decide +kernel
theorem dL_law_565 : decode cL_law 565 = .ok (.invokevirtual 106, 3) := by decide +kernel
theorem dL_law_568 : decode cL_law 568 = .ok (.istore 6, 2) := by decide +kernel
theorem dL_law_570 : decode cL_law 570 = .ok (.aload_n 2, 1) := by decide +kernel
theorem dL_law_571 : decode cL_law 571 = .ok (.invokevirtual 72, 3) := by decide +kernel
theorem dL_law_574 : decode cL_law 574 = .ok (.iload 5, 2) := by decide +kernel
theorem dL_law_576 : decode cL_law 576 = .ok (.if_icmp .eq 5, 3) := by decide +kernel
theorem dL_law_579 : decode cL_law 579 = .ok (.iconst 0, 1) := by decide +kernel
theorem dL_law_580 : decode cL_law 580 = .ok (.ireturn, 1) := by decide +kernel
theorem dL_law_581 : decode cL_law 581 = .ok (.iload 5, 2) := by decide +kernel
theorem dL_law_583 : decode cL_law 583 = .ok (.ifCond .ne 15, 3) := by decide +kernel
theorem dL_law_586 : decode cL_law 586 = .ok (.aload_n 3, 1) := by decide +kernel
theorem dL_law_587 : decode cL_law 587 = .ok (.iconst 0, 1) := by decide +kernel
theorem dL_law_588 : decode cL_law 588 = .ok (.laload, 1) := by decide +kernel
theorem dL_law_589 : decode cL_law 589 = .ok (.iload 6, 2) := by decide +kernel
theorem dL_law_591 : decode cL_law 591 = .ok (.i2l, 1) := by decide +kernel
theorem dL_law_592 : decode cL_law 592 = .ok (.lcmp, 1) := by decide +kernel
theorem dL_law_593 : decode cL_law 593 = .ok (.ifCond .eq 5, 3) := by decide +kernel
theorem dL_law_596 : decode cL_law 596 = .ok (.iconst 0, 1) := by decide +kernel
theorem dL_law_597 : decode cL_law 597 = .ok (.ireturn, 1) := by decide +kernel
theorem dL_law_598 : decode cL_law 598 = .ok (.goto 366, 3) := by decide +kernel
theorem dL_law_601 : decode cL_law 601 = .ok (.aload_n 1, 1) := by decide +kernel
theorem dL_law_602 : decode cL_law 602 = .ok (.aload_n 0, 1) := by decide +kernel
theorem dL_law_603 : decode cL_law 603 = .ok (.iload 4, 2) := by decide +kernel
theorem dL_law_605 : decode cL_law 605 = .ok (.iconst 1, 1) := by decide +kernel
theorem dL_law_606 : decode cL_law 606 = .ok (.iadd, 1) := by decide +kernel
theorem dL_law_607 : decode cL_law 607 = .ok (.iaload, 1) := by decide +kernel
theorem dL_law_608 : decode cL_law 608 = .ok (.aload_n 3, 1) := by decide +kernel
theorem dL_law_609 : decode cL_law 609 = .ok (.invokestatic 107, 3) := by decide +kernel
theorem dL_law_612 : decode cL_law 612 = .ok (.istore 5, 2) := by decide +kernel
theorem dL_law_614 : decode cL_law 614 = .ok (.aload_n 2, 1) := by decide +kernel
theorem dL_law_615 : decode cL_law 615 = .ok (.aload_n 0, 1) := by decide +kernel
theorem dL_law_616 : decode cL_law 616 = .ok (.iload 4, 2) := by decide +kernel
theorem dL_law_618 : decode cL_law 618 = .ok (.iconst 1, 1) := by decide +kernel
theorem dL_law_619 : decode cL_law 619 = .ok (.iadd, 1) := by decide +kernel
theorem dL_law_620 : decode cL_law 620 = .ok (.iaload, 1) := by decide +kernel
theorem dL_law_621 : decode cL_law 621 = .ok (.invokevirtual 109, 3) := by decide +kernel
theorem dL_law_624 : decode cL_law 624 = .ok (.istore 6, 2) := by decide +kernel
theorem dL_law_626 : decode cL_law 626 = .ok (.aload_n 2, 1) := by decide +kernel
theorem dL_law_627 : decode cL_law 627 = .ok (.invokevirtual 72, 3) := by decide +kernel
theorem dL_law_630 : decode cL_law 630 = .ok (.iload 5, 2) := by decide +kernel
theorem dL_law_632 : decode cL_law 632 = .ok (.if_icmp .eq 5, 3) := by decide +kernel
theorem dL_law_635 : decode cL_law 635 = .ok (.iconst 0, 1) := by decide +kernel
theorem dL_law_636 : decode cL_law 636 = .ok (.ireturn, 1) := by decide +kernel
theorem dL_law_637 : decode cL_law 637 = .ok (.iload 5, 2) := by decide +kernel
theorem dL_law_639 : decode cL_law 639 = .ok (.ifCond .ne 15, 3) := by decide +kernel
theorem dL_law_642 : decode cL_law 642 = .ok (.aload_n 3, 1) := by decide +kernel
theorem dL_law_643 : decode cL_law 643 = .ok (.iconst 0, 1) := by decide +kernel
theorem dL_law_644 : decode cL_law 644 = .ok (.laload, 1) := by decide +kernel
theorem dL_law_645 : decode cL_law 645 = .ok (.iload 6, 2) := by decide +kernel
theorem dL_law_647 : decode cL_law 647 = .ok (.i2l, 1) := by decide +kernel
theorem dL_law_648 : decode cL_law 648 = .ok (.lcmp, 1) := by decide +kernel
theorem dL_law_649 : decode cL_law 649 = .ok (.ifCond .eq 5, 3) := by decide +kernel
theorem dL_law_652 : decode cL_law 652 = .ok (.iconst 0, 1) := by decide +kernel
theorem dL_law_653 : decode cL_law 653 = .ok (.ireturn, 1) := by decide +kernel
theorem dL_law_654 : decode cL_law 654 = .ok (.goto 310, 3) := by decide +kernel
theorem dL_law_657 : decode cL_law 657 = .ok (.aload_n 1, 1) := by decide +kernel
theorem dL_law_658 : decode cL_law 658 = .ok (.aload_n 0, 1) := by decide +kernel
theorem dL_law_659 : decode cL_law 659 = .ok (.iload 4, 2) := by decide +kernel
theorem dL_law_661 : decode cL_law 661 = .ok (.iconst 1, 1) := by decide +kernel
theorem dL_law_662 : decode cL_law 662 = .ok (.iadd, 1) := by decide +kernel
theorem dL_law_663 : decode cL_law 663 = .ok (.iaload, 1) := by decide +kernel
theorem dL_law_664 : decode cL_law 664 = .ok (.aload_n 3, 1) := by decide +kernel
theorem dL_law_665 : decode cL_law 665 = .ok (.invokestatic 110, 3) := by decide +kernel
theorem dL_law_668 : decode cL_law 668 = .ok (.istore 5, 2) := by decide +kernel
theorem dL_law_670 : decode cL_law 670 = .ok (.aload_n 2, 1) := by decide +kernel
theorem dL_law_671 : decode cL_law 671 = .ok (.aload_n 0, 1) := by decide +kernel
theorem dL_law_672 : decode cL_law 672 = .ok (.iload 4, 2) := by decide +kernel
theorem dL_law_674 : decode cL_law 674 = .ok (.iconst 1, 1) := by decide +kernel
theorem dL_law_675 : decode cL_law 675 = .ok (.iadd, 1) := by decide +kernel
theorem dL_law_676 : decode cL_law 676 = .ok (.iaload, 1) := by decide +kernel
theorem dL_law_677 : decode cL_law 677 = .ok (.invokevirtual 112, 3) := by decide +kernel
theorem dL_law_680 : decode cL_law 680 = .ok (.istore 6, 2) := by decide +kernel
theorem dL_law_682 : decode cL_law 682 = .ok (.aload_n 2, 1) := by decide +kernel
theorem dL_law_683 : decode cL_law 683 = .ok (.invokevirtual 72, 3) := by decide +kernel
theorem dL_law_686 : decode cL_law 686 = .ok (.iload 5, 2) := by decide +kernel
theorem dL_law_688 : decode cL_law 688 = .ok (.if_icmp .eq 5, 3) := by decide +kernel
theorem dL_law_691 : decode cL_law 691 = .ok (.iconst 0, 1) := by decide +kernel
theorem dL_law_692 : decode cL_law 692 = .ok (.ireturn, 1) := by decide +kernel
theorem dL_law_693 : decode cL_law 693 = .ok (.iload 5, 2) := by decide +kernel
theorem dL_law_695 : decode cL_law 695 = .ok (.ifCond .ne 15, 3) := by decide +kernel
theorem dL_law_698 : decode cL_law 698 = .ok (.aload_n 3, 1) := by decide +kernel
theorem dL_law_699 : decode cL_law 699 = .ok (.iconst 0, 1) := by decide +kernel
theorem dL_law_700 : decode cL_law 700 = .ok (.laload, 1) := by decide +kernel
theorem dL_law_701 : decode cL_law 701 = .ok (.iload 6, 2) := by decide +kernel
theorem dL_law_703 : decode cL_law 703 = .ok (.i2l, 1) := by decide +kernel
theorem dL_law_704 : decode cL_law 704 = .ok (.lcmp, 1) := by decide +kernel
theorem dL_law_705 : decode cL_law 705 = .ok (.ifCond .eq 5, 3) := by decide +kernel
theorem dL_law_708 : decode cL_law 708 = .ok (.iconst 0, 1) := by decide +kernel
theorem dL_law_709 : decode cL_law 709 = .ok (.ireturn, 1) := by decide +kernel
theorem dL_law_710 : decode cL_law 710 = .ok (.goto 254, 3) := by decide +kernel
theorem dL_law_713 : decode cL_law 713 = .ok (.aload_n 1, 1) := by decide +kernel
theorem dL_law_714 : decode cL_law 714 = .ok (.aload_n 0, 1) := by decide +kernel
theorem dL_law_715 : decode cL_law 715 = .ok (.iload 4, 2) := by decide +kernel
theorem dL_law_717 : decode cL_law 717 = .ok (.iconst 1, 1) := by decide +kernel
theorem dL_law_718 : decode cL_law 718 = .ok (.iadd, 1) := by decide +kernel
theorem dL_law_719 : decode cL_law 719 = .ok (.iaload, 1) := by decide +kernel
theorem dL_law_720 : decode cL_law 720 = .ok (.aload_n 3, 1) := by decide +kernel
theorem dL_law_721 : decode cL_law 721 = .ok (.invokestatic 113, 3) := by decide +kernel
theorem dL_law_724 : decode cL_law 724 = .ok (.istore 5, 2) := by decide +kernel
theorem dL_law_726 : decode cL_law 726 = .ok (.aload_n 2, 1) := by decide +kernel
theorem dL_law_727 : decode cL_law 727 = .ok (.aload_n 0, 1) := by decide +kernel
theorem dL_law_728 : decode cL_law 728 = .ok (.iload 4, 2) := by decide +kernel
theorem dL_law_730 : decode cL_law 730 = .ok (.iconst 1, 1) := by decide +kernel
theorem dL_law_731 : decode cL_law 731 = .ok (.iadd, 1) := by decide +kernel
theorem dL_law_732 : decode cL_law 732 = .ok (.iaload, 1) := by decide +kernel
theorem dL_law_733 : decode cL_law 733 = .ok (.invokevirtual 115, 3) := by decide +kernel
theorem dL_law_736 : decode cL_law 736 = .ok (.istore 6, 2) := by decide +kernel
theorem dL_law_738 : decode cL_law 738 = .ok (.aload_n 2, 1) := by decide +kernel
theorem dL_law_739 : decode cL_law 739 = .ok (.invokevirtual 72, 3) := by decide +kernel
theorem dL_law_742 : decode cL_law 742 = .ok (.iload 5, 2) := by decide +kernel
theorem dL_law_744 : decode cL_law 744 = .ok (.if_icmp .eq 5, 3) := by decide +kernel
theorem dL_law_747 : decode cL_law 747 = .ok (.iconst 0, 1) := by decide +kernel
theorem dL_law_748 : decode cL_law 748 = .ok (.ireturn, 1) := by decide +kernel
theorem dL_law_749 : decode cL_law 749 = .ok (.iload 5, 2) := by decide +kernel
theorem dL_law_751 : decode cL_law 751 = .ok (.ifCond .ne 15, 3) := by decide +kernel
theorem dL_law_754 : decode cL_law 754 = .ok (.aload_n 3, 1) := by decide +kernel
theorem dL_law_755 : decode cL_law 755 = .ok (.iconst 0, 1) := by decide +kernel
theorem dL_law_756 : decode cL_law 756 = .ok (.laload, 1) := by decide +kernel
theorem dL_law_757 : decode cL_law 757 = .ok (.iload 6, 2) := by decide +kernel
theorem dL_law_759 : decode cL_law 759 = .ok (.i2l, 1) := by decide +kernel
theorem dL_law_760 : decode cL_law 760 = .ok (.lcmp, 1) := by decide +kernel
theorem dL_law_761 : decode cL_law 761 = .ok (.ifCond .eq 5, 3) := by decide +kernel
theorem dL_law_764 : decode cL_law 764 = .ok (.iconst 0, 1) := by decide +kernel
theorem dL_law_765 : decode cL_law 765 = .ok (.ireturn, 1) := by decide +kernel
theorem dL_law_766 : decode cL_law 766 = .ok (.goto 198, 3) := by decide +kernel
theorem dL_law_769 : decode cL_law 769 = .ok (.aload_n 1, 1) := by decide +kernel
theorem dL_law_770 : decode cL_law 770 = .ok (.aload_n 3, 1) := by decide +kernel
theorem dL_law_771 : decode cL_law 771 = .ok (.invokestatic 116, 3) := by decide +kernel
theorem dL_law_774 : decode cL_law 774 = .ok (.istore 5, 2) := by decide +kernel
theorem dL_law_776 : decode cL_law 776 = .ok (.aload_n 2, 1) := by decide +kernel
theorem dL_law_777 : decode cL_law 777 = .ok (.invokevirtual 118, 3) := by decide +kernel
theorem dL_law_780 : decode cL_law 780 = .ok (.istore 6, 2) := by decide +kernel
theorem dL_law_782 : decode cL_law 782 = .ok (.aload_n 2, 1) := by decide +kernel
theorem dL_law_783 : decode cL_law 783 = .ok (.invokevirtual 72, 3) := by decide +kernel
theorem dL_law_786 : decode cL_law 786 = .ok (.iload 5, 2) := by decide +kernel
theorem dL_law_788 : decode cL_law 788 = .ok (.if_icmp .eq 5, 3) := by decide +kernel
theorem dL_law_791 : decode cL_law 791 = .ok (.iconst 0, 1) := by decide +kernel
theorem dL_law_792 : decode cL_law 792 = .ok (.ireturn, 1) := by decide +kernel
theorem dL_law_793 : decode cL_law 793 = .ok (.iload 5, 2) := by decide +kernel
theorem dL_law_795 : decode cL_law 795 = .ok (.ifCond .ne 15, 3) := by decide +kernel
theorem dL_law_798 : decode cL_law 798 = .ok (.aload_n 3, 1) := by decide +kernel
theorem dL_law_799 : decode cL_law 799 = .ok (.iconst 0, 1) := by decide +kernel
theorem dL_law_800 : decode cL_law 800 = .ok (.laload, 1) := by decide +kernel
theorem dL_law_801 : decode cL_law 801 = .ok (.iload 6, 2) := by decide +kernel
theorem dL_law_803 : decode cL_law 803 = .ok (.i2l, 1) := by decide +kernel
theorem dL_law_804 : decode cL_law 804 = .ok (.lcmp, 1) := by decide +kernel
theorem dL_law_805 : decode cL_law 805 = .ok (.ifCond .eq 5, 3) := by decide +kernel
theorem dL_law_808 : decode cL_law 808 = .ok (.iconst 0, 1) := by decide +kernel
theorem dL_law_809 : decode cL_law 809 = .ok (.ireturn, 1) := by decide +kernel
theorem dL_law_810 : decode cL_law 810 = .ok (.goto 154, 3) := by decide +kernel
theorem dL_law_813 : decode cL_law 813 = .ok (.aload_n 1, 1) := by decide +kernel
theorem dL_law_814 : decode cL_law 814 = .ok (.aload_n 3, 1) := by decide +kernel
theorem dL_law_815 : decode cL_law 815 = .ok (.invokestatic 119, 3) := by decide +kernel
theorem dL_law_818 : decode cL_law 818 = .ok (.istore 5, 2) := by decide +kernel
theorem dL_law_820 : decode cL_law 820 = .ok (.aload_n 2, 1) := by decide +kernel
theorem dL_law_821 : decode cL_law 821 = .ok (.invokevirtual 121, 3) := by decide +kernel
theorem dL_law_824 : decode cL_law 824 = .ok (.istore 6, 2) := by decide +kernel
theorem dL_law_826 : decode cL_law 826 = .ok (.aload_n 2, 1) := by decide +kernel
theorem dL_law_827 : decode cL_law 827 = .ok (.invokevirtual 72, 3) := by decide +kernel
theorem dL_law_830 : decode cL_law 830 = .ok (.iload 5, 2) := by decide +kernel
theorem dL_law_832 : decode cL_law 832 = .ok (.if_icmp .eq 5, 3) := by decide +kernel
theorem dL_law_835 : decode cL_law 835 = .ok (.iconst 0, 1) := by decide +kernel
theorem dL_law_836 : decode cL_law 836 = .ok (.ireturn, 1) := by decide +kernel
theorem dL_law_837 : decode cL_law 837 = .ok (.iload 5, 2) := by decide +kernel
theorem dL_law_839 : decode cL_law 839 = .ok (.ifCond .ne 15, 3) := by decide +kernel
theorem dL_law_842 : decode cL_law 842 = .ok (.aload_n 3, 1) := by decide +kernel
theorem dL_law_843 : decode cL_law 843 = .ok (.iconst 0, 1) := by decide +kernel
theorem dL_law_844 : decode cL_law 844 = .ok (.laload, 1) := by decide +kernel
theorem dL_law_845 : decode cL_law 845 = .ok (.iload 6, 2) := by decide +kernel
theorem dL_law_847 : decode cL_law 847 = .ok (.i2l, 1) := by decide +kernel
theorem dL_law_848 : decode cL_law 848 = .ok (.lcmp, 1) := by decide +kernel
theorem dL_law_849 : decode cL_law 849 = .ok (.ifCond .eq 5, 3) := by decide +kernel
theorem dL_law_852 : decode cL_law 852 = .ok (.iconst 0, 1) := by decide +kernel
theorem dL_law_853 : decode cL_law 853 = .ok (.ireturn, 1) := by decide +kernel
theorem dL_law_854 : decode cL_law 854 = .ok (.goto 110, 3) := by decide +kernel
theorem dL_law_857 : decode cL_law 857 = .ok (.aload_n 1, 1) := by decide +kernel
theorem dL_law_858 : decode cL_law 858 = .ok (.invokevirtual 122, 3) := by decide +kernel
theorem dL_law_861 : decode cL_law 861 = .ok (.aload_n 2, 1) := by decide +kernel
theorem dL_law_862 : decode cL_law 862 = .ok (.invokevirtual 125, 3) := by decide +kernel
theorem dL_law_865 : decode cL_law 865 = .ok (.if_icmp .eq 99, 3) := by decide +kernel
theorem dL_law_868 : decode cL_law 868 = .ok (.iconst 0, 1) := by decide +kernel
theorem dL_law_869 : decode cL_law 869 = .ok (.ireturn, 1) := by decide +kernel
theorem dL_law_870 : decode cL_law 870 = .ok (.aload_n 1, 1) := by decide +kernel
theorem dL_law_871 : decode cL_law 871 = .ok (.aload_n 0, 1) := by decide +kernel
theorem dL_law_872 : decode cL_law 872 = .ok (.iload 4, 2) := by decide +kernel
theorem dL_law_874 : decode cL_law 874 = .ok (.iconst 1, 1) := by decide +kernel
theorem dL_law_875 : decode cL_law 875 = .ok (.iadd, 1) := by decide +kernel
theorem dL_law_876 : decode cL_law 876 = .ok (.iaload, 1) := by decide +kernel
theorem dL_law_877 : decode cL_law 877 = .ok (.aload_n 0, 1) := by decide +kernel
theorem dL_law_878 : decode cL_law 878 = .ok (.iload 4, 2) := by decide +kernel
theorem dL_law_880 : decode cL_law 880 = .ok (.iconst 2, 1) := by decide +kernel
theorem dL_law_881 : decode cL_law 881 = .ok (.iadd, 1) := by decide +kernel
theorem dL_law_882 : decode cL_law 882 = .ok (.iaload, 1) := by decide +kernel
theorem dL_law_883 : decode cL_law 883 = .ok (.aload_n 3, 1) := by decide +kernel
theorem dL_law_884 : decode cL_law 884 = .ok (.invokestatic 126, 3) := by decide +kernel
theorem dL_law_887 : decode cL_law 887 = .ok (.istore 5, 2) := by decide +kernel
theorem dL_law_889 : decode cL_law 889 = .ok (.aload_n 2, 1) := by decide +kernel
theorem dL_law_890 : decode cL_law 890 = .ok (.aload_n 0, 1) := by decide +kernel
theorem dL_law_891 : decode cL_law 891 = .ok (.iload 4, 2) := by decide +kernel
theorem dL_law_893 : decode cL_law 893 = .ok (.iconst 1, 1) := by decide +kernel
theorem dL_law_894 : decode cL_law 894 = .ok (.iadd, 1) := by decide +kernel
theorem dL_law_895 : decode cL_law 895 = .ok (.iaload, 1) := by decide +kernel
theorem dL_law_896 : decode cL_law 896 = .ok (.aload_n 0, 1) := by decide +kernel
theorem dL_law_897 : decode cL_law 897 = .ok (.iload 4, 2) := by decide +kernel
theorem dL_law_899 : decode cL_law 899 = .ok (.iconst 2, 1) := by decide +kernel
theorem dL_law_900 : decode cL_law 900 = .ok (.iadd, 1) := by decide +kernel
theorem dL_law_901 : decode cL_law 901 = .ok (.iaload, 1) := by decide +kernel
theorem dL_law_902 : decode cL_law 902 = .ok (.invokevirtual 128, 3) := by decide +kernel
theorem dL_law_905 : decode cL_law 905 = .ok (.istore 6, 2) := by decide +kernel
theorem dL_law_907 : decode cL_law 907 = .ok (.aload_n 2, 1) := by decide +kernel
theorem dL_law_908 : decode cL_law 908 = .ok (.invokevirtual 72, 3) := by decide +kernel
theorem dL_law_911 : decode cL_law 911 = .ok (.iload 5, 2) := by decide +kernel
theorem dL_law_913 : decode cL_law 913 = .ok (.if_icmp .eq 5, 3) := by decide +kernel
theorem dL_law_916 : decode cL_law 916 = .ok (.iconst 0, 1) := by decide +kernel
theorem dL_law_917 : decode cL_law 917 = .ok (.ireturn, 1) := by decide +kernel
theorem dL_law_918 : decode cL_law 918 = .ok (.iload 5, 2) := by decide +kernel
theorem dL_law_920 : decode cL_law 920 = .ok (.ifCond .ne 15, 3) := by decide +kernel
theorem dL_law_923 : decode cL_law 923 = .ok (.aload_n 3, 1) := by decide +kernel
theorem dL_law_924 : decode cL_law 924 = .ok (.iconst 0, 1) := by decide +kernel
theorem dL_law_925 : decode cL_law 925 = .ok (.laload, 1) := by decide +kernel
theorem dL_law_926 : decode cL_law 926 = .ok (.iload 6, 2) := by decide +kernel
theorem dL_law_928 : decode cL_law 928 = .ok (.i2l, 1) := by decide +kernel
theorem dL_law_929 : decode cL_law 929 = .ok (.lcmp, 1) := by decide +kernel
theorem dL_law_930 : decode cL_law 930 = .ok (.ifCond .eq 5, 3) := by decide +kernel
theorem dL_law_933 : decode cL_law 933 = .ok (.iconst 0, 1) := by decide +kernel
theorem dL_law_934 : decode cL_law 934 = .ok (.ireturn, 1) := by decide +kernel
theorem dL_law_935 : decode cL_law 935 = .ok (.goto 29, 3) := by decide +kernel
theorem dL_law_938 : decode cL_law 938 = .ok (.aload_n 1, 1) := by decide +kernel
theorem dL_law_939 : decode cL_law 939 = .ok (.invokevirtual 129, 3) := by decide +kernel
theorem dL_law_942 : decode cL_law 942 = .ok (.aload_n 2, 1) := by decide +kernel
theorem dL_law_943 : decode cL_law 943 = .ok (.invokevirtual 132, 3) := by decide +kernel
theorem dL_law_946 : decode cL_law 946 = .ok (.if_icmp .eq 18, 3) := by decide +kernel
theorem dL_law_949 : decode cL_law 949 = .ok (.iconst 0, 1) := by decide +kernel
theorem dL_law_950 : decode cL_law 950 = .ok (.ireturn, 1) := by decide +kernel
theorem dL_law_951 : decode cL_law 951 = .ok (.aload_n 1, 1) := by decide +kernel
theorem dL_law_952 : decode cL_law 952 = .ok (.invokevirtual 133, 3) := by decide +kernel
theorem dL_law_955 : decode cL_law 955 = .ok (.aload_n 2, 1) := by decide +kernel
theorem dL_law_956 : decode cL_law 956 = .ok (.invokevirtual 136, 3) := by decide +kernel
theorem dL_law_959 : decode cL_law 959 = .ok (.if_icmp .eq 5, 3) := by decide +kernel
theorem dL_law_962 : decode cL_law 962 = .ok (.iconst 0, 1) := by decide +kernel
theorem dL_law_963 : decode cL_law 963 = .ok (.ireturn, 1) := by decide +kernel
theorem dL_law_964 : decode cL_law 964 = .ok (.iinc 4 3, 3) := by decide +kernel
theorem dL_law_967 : decode cL_law 967 = .ok (.goto (-944), 3) := by decide +kernel
theorem dL_law_970 : decode cL_law 970 = .ok (.iconst 1, 1) := by decide +kernel
theorem dL_law_971 : decode cL_law 971 = .ok (.ireturn, 1) := by decide +kernel

