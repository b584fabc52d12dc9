theorem dL_cell_0 : decode cL_cell 0 = .ok (.iload_n 1, 1) := by decide +kernel
theorem dL_cell_1 : decode cL_cell 1 = .ok (.aload_n 0, 1) := by decide +kernel
theorem dL_cell_2 : decode cL_cell 2 = .ok (.arraylength, 1) := by decide +kernel
theorem dL_cell_3 : decode cL_cell 3 = .ok (.if_icmp .ge 9, 3) := by decide +kernel
theorem dL_cell_6 : decode cL_cell 6 = .ok (.aload_n 0, 1) := by decide +kernel
theorem dL_cell_7 : decode cL_cell 7 = .ok (.iload_n 1, 1) := by decide +kernel
theorem dL_cell_8 : decode cL_cell 8 = .ok (.iaload, 1) := by decide +kernel
theorem dL_cell_9 : decode cL_cell 9 = .ok (.goto 18, 3) := by decide +kernel
theorem dL_cell_12 : decode cL_cell 12 = .ok (.sipush 7919, 3) := by decide +kernel
theorem dL_cell_15 : decode cL_cell 15 = .ok (.iload_n 1, 1) := by decide +kernel
theorem dL_cell_16 : decode cL_cell 16 = .ok (.sipush 881, 3) := by decide +kernel
theorem dL_cell_19 : decode cL_cell 19 = .ok (.iadd, 1) := by decide +kernel
theorem dL_cell_20 : decode cL_cell 20 = .ok (.imul, 1) := by decide +kernel
theorem dL_cell_21 : decode cL_cell 21 = .ok (.iload_n 1, 1) := by decide +kernel
theorem dL_cell_22 : decode cL_cell 22 = .ok (.sipush 953, 3) := by decide +kernel
theorem dL_cell_25 : decode cL_cell 25 = .ok (.iadd, 1) := by decide +kernel
theorem dL_cell_26 : decode cL_cell 26 = .ok (.imul, 1) := by decide +kernel
theorem dL_cell_27 : decode cL_cell 27 = .ok (.ireturn, 1) := by decide +kernel
theorem dL_low_0 : decode cL_low 0 = .ok (.iload_n 0, 1) := by decide +kernel
theorem dL_low_1 : decode cL_low 1 = .ok (.ldc 7, 2) := by decide +kernel
theorem dL_low_3 : decode cL_low 3 = .ok (.iand, 1) := by decide +kernel
theorem dL_low_4 : decode cL_low 4 = .ok (.iload_n 1, 1) := by decide +kernel
theorem dL_low_5 : decode cL_low 5 = .ok (.irem, 1) := by decide +kernel
theorem dL_low_6 : decode cL_low 6 = .ok (.ireturn, 1) := by decide +kernel
set_option maxRecDepth 20000 in
theorem ggL_begin_X3_begin : GoodIn wsL_begin wsX3_begin := goodIn_ca (goodIn_r _ [7, 8, 9, 10, 11, 12, 13, 14, 15, 16, 17, 18, 19, 20, 21, 22, 23, 24, 25, 26, 27, 28, 29, 30, 31, 32, 33, 34, 35, 36, 37, 38, 39, 40, 41, 42, 6, 43, 44, 45, 46, 47, 48, 49, 50, 51, 52, 53, 54, 55, 56, 57, 58, 59, 60, 61, 62, 63, 64] (by decide +kernel) (by decide +kernel)) (goodIn_sub (fun _ h => List.mem_cons_of_mem _ (List.mem_append_right _ h)) (by decide +kernel))
set_option maxRecDepth 20000 in
theorem gL_begin_X3_begin : GoodIn wsL_begin (wsV RL 8 RX3 yX3_begin wsX3_begin) := goodIn_app (goodIn_of _ (by decide +kernel)) ggL_begin_X3_begin
theorem dL_begin_0 : decode cL_begin 0 = .ok (.aload_n 0, 1) := by decide +kernel
theorem dL_begin_1 : decode cL_begin 1 = .ok (.iload_n 1, 1) := by decide +kernel
theorem dL_begin_2 : decode cL_begin 2 = .ok (.invokevirtual 8, 3) := by decide +kernel
theorem dL_begin_5 : decode cL_begin 5 = .ok (.iconst 0, 1) := by decide +kernel
theorem dL_begin_6 : decode cL_begin 6 = .ok (.ireturn, 1) := by decide +kernel
theorem dL_begin_7 : decode cL_begin 7 = .ok (.astore_n 2, 1) := by decide +kernel
theorem dL_begin_8 : decode cL_begin 8 = .ok (.ldc 16, 2) := by decide +kernel
theorem dL_begin_10 : decode cL_begin 10 = .ok (.ireturn, 1) := by decide +kernel
set_option maxRecDepth 20000 in
theorem ggL_bar_X3_bar : GoodIn wsL_bar wsX3_bar := goodIn_ca (goodIn_r _ [7, 8, 9, 10, 11, 6, 12, 13, 14, 15, 16, 17, 18, 19, 20, 21, 22, 23, 24, 25, 26, 27, 28, 29, 30, 31, 32, 33, 34, 35, 36, 37, 38, 39, 40, 41, 42, 43, 44, 45, 46, 47, 48, 49, 50, 51, 52, 53, 54, 55, 56, 57, 58, 59, 60, 61, 62, 63, 64, 65, 66, 67, 68, 69, 70] (by decide +kernel) (by decide +kernel)) (goodIn_sub (fun _ h => List.mem_cons_of_mem _ (List.mem_append_right _ h)) (by decide +kernel))
set_option maxRecDepth 20000 in
theorem gL_bar_X3_bar : GoodIn wsL_bar (wsV RL 17 RX3 yX3_bar wsX3_bar) := goodIn_app (goodIn_of _ (by decide +kernel)) ggL_bar_X3_bar
theorem dL_bar_0 : decode cL_bar 0 = .ok (.aload_n 0, 1) := by decide +kernel
theorem dL_bar_1 : decode cL_bar 1 = .ok (.iload_n 1, 1) := by decide +kernel
theorem dL_bar_2 : decode cL_bar 2 = .ok (.invokevirtual 17, 3) := by decide +kernel
theorem dL_bar_5 : decode cL_bar 5 = .ok (.ifCond .eq 7, 3) := by decide +kernel
theorem dL_bar_8 : decode cL_bar 8 = .ok (.iconst 1, 1) := by decide +kernel
theorem dL_bar_9 : decode cL_bar 9 = .ok (.goto 4, 3) := by decide +kernel
theorem dL_bar_12 : decode cL_bar 12 = .ok (.iconst 0, 1) := by decide +kernel
theorem dL_bar_13 : decode cL_bar 13 = .ok (.ireturn, 1) := by decide +kernel
theorem dL_bar_14 : decode cL_bar 14 = .ok (.astore_n 2, 1) := by decide +kernel
theorem dL_bar_15 : decode cL_bar 15 = .ok (.ldc 16, 2) := by decide +kernel
theorem dL_bar_17 : decode cL_bar 17 = .ok (.ireturn, 1) := by decide +kernel
set_option maxRecDepth 20000 in
theorem ggL_barBoth_X3_barBoth : GoodIn wsL_barBoth wsX3_barBoth := goodIn_ca (goodIn_r _ [7, 8, 9, 10, 11, 6, 12, 13, 14, 15, 16, 17, 18, 19, 20, 21, 22, 23, 24, 25, 26, 27, 28, 29, 30, 31, 32, 33, 34, 35, 36, 37, 38, 39, 40, 41, 42, 43, 44, 45, 46, 47, 48, 49, 50, 51, 52, 53, 54, 55, 56, 57, 58, 59, 60, 61, 62, 63, 64, 65, 66, 67, 68, 69, 70, 71, 72, 73, 74, 75, 76, 77, 78, 79, 80, 81] (by decide +kernel) (by decide +kernel)) (goodIn_sub (fun _ h => List.mem_cons_of_mem _ (List.mem_append_right _ h)) (by decide +kernel))
set_option maxRecDepth 20000 in
theorem gL_barBoth_X3_barBoth : GoodIn wsL_barBoth (wsV RL 23 RX3 yX3_barBoth wsX3_barBoth) := goodIn_app (goodIn_of _ (by decide +kernel)) ggL_barBoth_X3_barBoth
theorem dL_barBoth_0 : decode cL_barBoth 0 = .ok (.aload_n 0, 1) := by decide +kernel
theorem dL_barBoth_1 : decode cL_barBoth 1 = .ok (.iload_n 1, 1) := by decide +kernel
theorem dL_barBoth_2 : decode cL_barBoth 2 = .ok (.invokevirtual 23, 3) := by decide +kernel
theorem dL_barBoth_5 : decode cL_barBoth 5 = .ok (.ireturn, 1) := by decide +kernel
theorem dL_barBoth_6 : decode cL_barBoth 6 = .ok (.astore_n 2, 1) := by decide +kernel
theorem dL_barBoth_7 : decode cL_barBoth 7 = .ok (.ldc 16, 2) := by decide +kernel
theorem dL_barBoth_9 : decode cL_barBoth 9 = .ok (.ireturn, 1) := by decide +kernel
set_option maxRecDepth 20000 in
theorem ggL_give_X3_give : GoodIn wsL_give wsX3_give := goodIn_ca (goodIn_ca (goodIn_ca (goodIn_r _ [9, 10, 11, 12, 13, 14, 15, 16, 17, 8, 18, 19, 20, 21, 22, 23, 24, 25, 26, 27, 28, 29, 30, 31, 32, 33, 34, 35, 36, 37, 38, 39, 40, 41, 42, 43, 44, 45, 46, 47, 48, 49, 50, 51, 52, 53, 54, 55, 56] (by decide +kernel) (by decide +kernel)) (goodIn_sub (fun _ h => List.mem_cons_of_mem _ (List.mem_append_left _ (List.mem_append_left _ (List.mem_append_right _ h)))) (by decide +kernel))) (goodIn_sub (fun _ h => List.mem_cons_of_mem _ (List.mem_append_left _ (List.mem_append_right _ h))) (by decide +kernel))) (goodIn_sub (fun _ h => List.mem_cons_of_mem _ (List.mem_append_right _ h)) (by decide +kernel))
set_option maxRecDepth 20000 in
theorem gL_give_X3_give : GoodIn wsL_give (wsV RL 27 RX3 yX3_give wsX3_give) := goodIn_app (goodIn_of _ (by decide +kernel)) ggL_give_X3_give
theorem dL_give_0 : decode cL_give 0 = .ok (.aload_n 0, 1) := by decide +kernel
theorem dL_give_1 : decode cL_give 1 = .ok (.iload_n 1, 1) := by decide +kernel
theorem dL_give_2 : decode cL_give 2 = .ok (.iload_n 2, 1) := by decide +kernel
theorem dL_give_3 : decode cL_give 3 = .ok (.invokevirtual 27, 3) := by decide +kernel
theorem dL_give_6 : decode cL_give 6 = .ok (.ireturn, 1) := by decide +kernel
theorem dL_give_7 : decode cL_give 7 = .ok (.astore_n 3, 1) := by decide +kernel
theorem dL_give_8 : decode cL_give 8 = .ok (.ldc 16, 2) := by decide +kernel
theorem dL_give_10 : decode cL_give 10 = .ok (.ireturn, 1) := by decide +kernel
theorem dL_give_11 : decode cL_give 11 = .ok (.astore_n 3, 1) := by decide +kernel
theorem dL_give_12 : decode cL_give 12 = .ok (.ldc 16, 2) := by decide +kernel
theorem dL_give_14 : decode cL_give 14 = .ok (.ireturn, 1) := by decide +kernel
theorem dL_give_15 : decode cL_give 15 = .ok (.astore_n 3, 1) := by decide +kernel
theorem dL_give_16 : decode cL_give 16 = .ok (.ldc 16, 2) := by decide +kernel
theorem dL_give_18 : decode cL_give 18 = .ok (.ireturn, 1) := by decide +kernel
set_option maxRecDepth 20000 in
theorem ggL_setSum_X3_setSum : GoodIn wsL_setSum wsX3_setSum := goodIn_ca (goodIn_ca (goodIn_r _ [8, 9, 10, 11, 12, 13, 14, 7, 15, 16, 17, 18, 19, 20, 21, 22, 23, 24, 25, 26, 27, 28, 29, 30, 31, 32, 33, 34, 35, 36, 37, 38, 39, 40, 41, 42, 43, 44, 45, 46, 47, 48] (by decide +kernel) (by decide +kernel)) (goodIn_sub (fun _ h => List.mem_cons_of_mem _ (List.mem_append_left _ (List.mem_append_right _ h))) (by decide +kernel))) (goodIn_sub (fun _ h => List.mem_cons_of_mem _ (List.mem_append_right _ h)) (by decide +kernel))
set_option maxRecDepth 20000 in
theorem gL_setSum_X3_setSum : GoodIn wsL_setSum (wsV RL 33 RX3 yX3_setSum wsX3_setSum) := goodIn_app (goodIn_of _ (by decide +kernel)) ggL_setSum_X3_setSum
theorem dL_setSum_0 : decode cL_setSum 0 = .ok (.aload_n 0, 1) := by decide +kernel
theorem dL_setSum_1 : decode cL_setSum 1 = .ok (.iload_n 1, 1) := by decide +kernel
theorem dL_setSum_2 : decode cL_setSum 2 = .ok (.iload_n 2, 1) := by decide +kernel
theorem dL_setSum_3 : decode cL_setSum 3 = .ok (.invokevirtual 33, 3) := by decide +kernel
theorem dL_setSum_6 : decode cL_setSum 6 = .ok (.ireturn, 1) := by decide +kernel
theorem dL_setSum_7 : decode cL_setSum 7 = .ok (.astore_n 3, 1) := by decide +kernel
theorem dL_setSum_8 : decode cL_setSum 8 = .ok (.ldc 16, 2) := by decide +kernel
theorem dL_setSum_10 : decode cL_setSum 10 = .ok (.ireturn, 1) := by decide +kernel
theorem dL_setSum_11 : decode cL_setSum 11 = .ok (.astore_n 3, 1) := by decide +kernel
theorem dL_setSum_12 : decode cL_setSum 12 = .ok (.ldc 16, 2) := by decide +kernel
theorem dL_setSum_14 : decode cL_setSum 14 = .ok (.ireturn, 1) := by decide +kernel
set_option maxRecDepth 20000 in
theorem ggL_press_X3_press : GoodIn wsL_press wsX3_press := goodIn_ca (goodIn_r _ [7, 8, 9, 10, 11, 12, 13, 14, 15, 16, 17, 18, 19, 20, 21, 22, 23, 24, 25, 26, 27, 28, 29, 30, 6, 31, 32, 33, 34, 35, 36, 37, 38, 39, 40, 41, 42, 43, 44, 45, 46, 47, 48, 49, 50, 51, 52, 53, 54, 55, 56, 57, 58, 59, 60, 61, 62, 63, 64, 65, 66, 67, 68, 69, 70, 71, 72, 73, 74, 75, 76, 77, 78, 79, 80, 81, 82] (by decide +kernel) (by decide +kernel)) (goodIn_sub (fun _ h => List.mem_cons_of_mem _ (List.mem_append_right _ h)) (by decide +kernel))
set_option maxRecDepth 20000 in
theorem gL_press_X3_press : GoodIn wsL_press (wsV RL 36 RX3 yX3_press wsX3_press) := goodIn_app (goodIn_of _ (by decide +kernel)) ggL_press_X3_press
theorem dL_press_0 : decode cL_press 0 = .ok (.aload_n 0, 1) := by decide +kernel
theorem dL_press_1 : decode cL_press 1 = .ok (.invokevirtual 36, 3) := by decide +kernel
theorem dL_press_4 : decode cL_press 4 = .ok (.ireturn, 1) := by decide +kernel
theorem dL_press_5 : decode cL_press 5 = .ok (.astore_n 1, 1) := by decide +kernel
theorem dL_press_6 : decode cL_press 6 = .ok (.ldc 16, 2) := by decide +kernel
theorem dL_press_8 : decode cL_press 8 = .ok (.ireturn, 1) := by decide +kernel
set_option maxRecDepth 20000 in
theorem ggL_mend_X3_mend : GoodIn wsL_mend wsX3_mend := goodIn_ca (goodIn_r _ [7, 8, 9, 10, 11, 12, 13, 14, 15, 16, 17, 18, 19, 20, 21, 22, 23, 24, 25, 26, 6, 27, 28, 29, 30, 31, 32, 33, 34, 35, 36, 37, 38, 39, 40, 41, 42, 43, 44, 45, 46, 47, 48, 49, 50, 51, 52, 53, 54, 55, 56, 57, 58, 59, 60, 61, 62, 63, 64, 65, 66, 67, 68, 69, 70, 71, 72, 73, 74, 75, 76, 77, 78, 79, 80, 81, 82, 83, 84, 85, 86, 87, 88, 89, 90, 91, 92, 93, 94, 95, 96, 97, 98, 99, 100, 101, 102, 103, 104, 105, 106, 107, 108, 109, 110, 111, 112, 113, 114, 115, 116, 117, 118, 119, 120, 121, 122, 123, 124, 125, 126, 127, 128, 129, 130, 131, 132, 133, 134, 135, 136, 137] (by decide +kernel) (by decide +kernel)) (goodIn_sub (fun _ h => List.mem_cons_of_mem _ (List.mem_append_right _ h)) (by decide +kernel))
set_option maxRecDepth 20000 in
theorem gL_mend_X3_mend : GoodIn wsL_mend (wsV RL 40 RX3 yX3_mend wsX3_mend) := goodIn_app (goodIn_of _ (by decide +kernel)) ggL_mend_X3_mend
theorem dL_mend_0 : decode cL_mend 0 = .ok (.aload_n 0, 1) := by decide +kernel
theorem dL_mend_1 : decode cL_mend 1 = .ok (.invokevirtual 40, 3) := by decide +kernel
theorem dL_mend_4 : decode cL_mend 4 = .ok (.ireturn, 1) := by decide +kernel
theorem dL_mend_5 : decode cL_mend 5 = .ok (.astore_n 1, 1) := by decide +kernel
theorem dL_mend_6 : decode cL_mend 6 = .ok (.ldc 16, 2) := by decide +kernel
theorem dL_mend_8 : decode cL_mend 8 = .ok (.ireturn, 1) := by decide +kernel
set_option maxRecDepth 20000 in
theorem ggL_digit_X3_digit : GoodIn wsL_digit wsX3_digit := goodIn_ca (goodIn_r _ [6, 7, 8, 9, 10, 5, 11, 12, 13, 14, 15, 16, 17, 18, 19, 20, 21, 22, 23, 24, 25, 26, 27, 28, 29, 30, 31, 32, 33, 34, 35, 36, 37, 38] (by decide +kernel) (by decide +kernel)) (goodIn_sub (fun _ h => List.mem_cons_of_mem _ (List.mem_append_right _ h)) (by decide +kernel))
set_option maxRecDepth 20000 in
theorem gL_digit_X3_digit : GoodIn wsL_digit (wsV RL 43 RX3 yX3_digit wsX3_digit) := goodIn_app (goodIn_of _ (by decide +kernel)) ggL_digit_X3_digit
theorem dL_digit_0 : decode cL_digit 0 = .ok (.aload_n 0, 1) := by decide +kernel
theorem dL_digit_1 : decode cL_digit 1 = .ok (.iload_n 1, 1) := by decide +kernel
theorem dL_digit_2 : decode cL_digit 2 = .ok (.invokevirtual 43, 3) := by decide +kernel
theorem dL_digit_5 : decode cL_digit 5 = .ok (.ireturn, 1) := by decide +kernel
theorem dL_digit_6 : decode cL_digit 6 = .ok (.astore_n 2, 1) := by decide +kernel
theorem dL_digit_7 : decode cL_digit 7 = .ok (.bipush (-2), 2) := by decide +kernel
theorem dL_digit_9 : decode cL_digit 9 = .ok (.ireturn, 1) := by decide +kernel
set_option maxRecDepth 20000 in
theorem ggL_candidates_X3_candidates : GoodIn wsL_candidates wsX3_candidates := goodIn_ca (goodIn_ca (goodIn_r _ [8, 9, 10, 11, 12, 13, 14, 7, 15, 16, 17, 18, 19, 20, 21, 22, 23, 24, 25, 26, 27, 28, 29, 30, 31, 32, 33, 34, 35, 36, 37, 38, 39, 40, 41, 42, 43, 44, 45, 46, 47, 48, 49, 50, 51, 52, 53, 54, 55, 56, 57, 58, 59, 60, 61, 62, 63, 64, 65, 66, 67, 68, 69, 70, 71, 72, 73, 74, 75, 76, 77, 78, 79, 80, 81, 82, 83, 84, 85, 86, 87, 88, 89, 90, 91, 92, 93, 94, 95, 96, 97, 98, 99, 100, 101, 102, 103, 104, 105, 106, 107, 108, 109, 110, 111, 112, 113, 114, 115, 116, 117, 118, 119, 120, 121, 122, 123, 124, 125, 126, 127, 128, 129, 130, 131, 132, 133, 134, 135, 136, 137, 138, 139, 140, 141, 142, 143, 144, 145, 146, 147, 148, 149] (by decide +kernel) (by decide +kernel)) (goodIn_sub (fun _ h => List.mem_cons_of_mem _ (List.mem_append_left _ (List.mem_append_right _ h))) (by decide +kernel))) (goodIn_sub (fun _ h => List.mem_cons_of_mem _ (List.mem_append_right _ h)) (by decide +kernel))
set_option maxRecDepth 20000 in
theorem gL_candidates_X3_candidates : GoodIn wsL_candidates (wsV RL 46 RX3 yX3_candidates wsX3_candidates) := goodIn_app (goodIn_of _ (by decide +kernel)) ggL_candidates_X3_candidates
theorem dL_candidates_0 : decode cL_candidates 0 = .ok (.aload_n 0, 1) := by decide +kernel
theorem dL_candidates_1 : decode cL_candidates 1 = .ok (.iload_n 1, 1) := by decide +kernel
theorem dL_candidates_2 : decode cL_candidates 2 = .ok (.iload_n 2, 1) := by decide +kernel
theorem dL_candidates_3 : decode cL_candidates 3 = .ok (.invokevirtual 46, 3) := by decide +kernel
theorem dL_candidates_6 : decode cL_candidates 6 = .ok (.ireturn, 1) := by decide +kernel
theorem dL_candidates_7 : decode cL_candidates 7 = .ok (.astore_n 3, 1) := by decide +kernel
theorem dL_candidates_8 : decode cL_candidates 8 = .ok (.bipush (-2), 2) := by decide +kernel
theorem dL_candidates_10 : decode cL_candidates 10 = .ok (.ireturn, 1) := by decide +kernel
theorem dL_candidates_11 : decode cL_candidates 11 = .ok (.astore_n 3, 1) := by decide +kernel
theorem dL_candidates_12 : decode cL_candidates 12 = .ok (.ldc 16, 2) := by decide +kernel
theorem dL_candidates_14 : decode cL_candidates 14 = .ok (.ireturn, 1) := by decide +kernel
set_option maxRecDepth 20000 in
theorem ggL_byAll_X3_answersByAll : GoodIn wsL_byAll wsX3_answersByAll := goodIn_ca (goodIn_r _ [6, 7, 8, 9, 10, 11, 12, 13, 14, 15, 16, 17, 18, 19, 20, 21, 22, 23, 24, 25, 26, 5, 27, 28, 29, 30, 31, 32, 33, 34, 35, 36, 37, 38, 39, 40, 41, 42, 43, 44, 45, 46, 47, 48, 49, 50, 51, 52, 53, 54, 55, 56, 57, 58, 59, 60, 61, 62, 63, 64, 65, 66, 67, 68, 69, 70, 71, 72, 73, 74, 75, 76, 77, 78, 79, 80, 81, 82, 83, 84, 85, 86, 87, 88, 89, 90, 91, 92, 93, 94, 95, 96, 97, 98, 99, 100, 101, 102, 103] (by decide +kernel) (by decide +kernel)) (goodIn_sub (fun _ h => List.mem_cons_of_mem _ (List.mem_append_right _ h)) (by decide +kernel))
set_option maxRecDepth 20000 in
theorem gL_byAll_X3_answersByAll : GoodIn wsL_byAll (wsV RL 49 RX3 yX3_answersByAll wsX3_answersByAll) := goodIn_app (goodIn_of _ (by decide +kernel)) ggL_byAll_X3_answersByAll
theorem dL_byAll_0 : decode cL_byAll 0 = .ok (.aload_n 0, 1) := by decide +kernel
theorem dL_byAll_1 : decode cL_byAll 1 = .ok (.invokevirtual 49, 3) := by decide +kernel
theorem dL_byAll_4 : decode cL_byAll 4 = .ok (.ireturn, 1) := by decide +kernel
theorem dL_byAll_5 : decode cL_byAll 5 = .ok (.astore_n 1, 1) := by decide +kernel
theorem dL_byAll_6 : decode cL_byAll 6 = .ok (.iconst (-1), 1) := by decide +kernel
theorem dL_byAll_7 : decode cL_byAll 7 = .ok (.ireturn, 1) := by decide +kernel
set_option maxRecDepth 20000 in
theorem ggL_act_L_low : GoodIn wsL_act wsL_low := goodIn_r _ [4, 5] (by decide +kernel) (by decide +kernel)
set_option maxRecDepth 20000 in
theorem gL_act_L_low : GoodIn wsL_act (va_wsS RL 52 yL_low wsL_low) := goodIn_app (goodIn_of _ (by decide +kernel)) ggL_act_L_low
set_option maxRecDepth 20000 in
theorem ggL_act_L_begin : GoodIn wsL_act wsL_begin := goodIn_ca (goodIn_r _ [8, 9, 10, 11, 12, 13, 14, 15, 16, 17, 18, 19, 20, 21, 22, 23, 24, 25, 26, 27, 28, 29, 30, 31, 32, 33, 34, 35, 36, 37, 38, 39, 40, 41, 42, 43, 44, 45, 46, 47, 48, 49, 50, 51, 52, 53, 54, 55, 56, 57, 58, 59, 60, 263, 264, 265, 266, 267, 268, 269, 270, 271, 272, 273, 274] (by decide +kernel) (by decide +kernel)) (goodIn_sub (fun _ h => List.mem_cons_of_mem _ (List.mem_append_left _ (List.mem_append_left _ (List.mem_append_right _ h)))) (by decide +kernel))
set_option maxRecDepth 20000 in
theorem gL_act_L_begin : GoodIn wsL_act (va_wsS RL 57 yL_begin wsL_begin) := goodIn_app (goodIn_of _ (by decide +kernel)) ggL_act_L_begin
set_option maxRecDepth 20000 in
theorem ggL_act_L_bar : GoodIn wsL_act wsL_bar := goodIn_ca (goodIn_r _ [63, 64, 10, 65, 66, 67, 14, 68, 18, 69, 70, 71, 72, 73, 74, 75, 47, 48, 22, 49, 24, 76, 77, 78, 79, 25, 42, 43, 44, 45, 46, 50, 51, 59, 60, 30, 31, 32, 33, 34, 35, 36, 37, 26, 27, 28, 29, 38, 39, 40, 41, 52, 53, 54, 55, 56, 57, 58, 80, 263, 264, 265, 266, 267, 268, 269, 270, 271, 272, 273, 274] (by decide +kernel) (by decide +kernel)) (goodIn_sub (fun _ h => List.mem_cons_of_mem _ (List.mem_append_left _ (List.mem_append_right _ h))) (by decide +kernel))
set_option maxRecDepth 20000 in
theorem gL_act_L_bar : GoodIn wsL_act (va_wsS RL 60 yL_bar wsL_bar) := goodIn_app (goodIn_of _ (by decide +kernel)) ggL_act_L_bar
set_option maxRecDepth 20000 in
theorem ggL_act_L_barBoth : GoodIn wsL_act wsL_barBoth := goodIn_ca (goodIn_r _ [83, 64, 10, 84, 85, 86, 14, 87, 18, 69, 70, 71, 72, 73, 74, 75, 47, 48, 22, 49, 24, 88, 89, 90, 91, 76, 77, 78, 79, 25, 42, 43, 44, 45, 46, 50, 51, 59, 60, 30, 31, 32, 33, 34, 35, 36, 37, 26, 27, 28, 29, 38, 39, 40, 41, 52, 53, 54, 55, 56, 57, 58, 92, 93, 94, 95, 96, 97, 98, 99, 263, 264, 265, 266, 267, 268, 269, 270, 271, 272, 273, 274] (by decide +kernel) (by decide +kernel)) (goodIn_sub (fun _ h => List.mem_cons_of_mem _ (List.mem_append_left _ (List.mem_append_right _ h))) (by decide +kernel))
set_option maxRecDepth 20000 in
theorem gL_act_L_barBoth : GoodIn wsL_act (va_wsS RL 62 yL_barBoth wsL_barBoth) := goodIn_app (goodIn_of _ (by decide +kernel)) ggL_act_L_barBoth
set_option maxRecDepth 20000 in
theorem ggL_act_L_press : GoodIn wsL_act wsL_press := goodIn_ca (goodIn_r _ [102, 103, 10, 104, 105, 106, 14, 107, 108, 109, 18, 110, 111, 112, 22, 113, 114, 115, 116, 117, 118, 119, 120, 121, 25, 46, 47, 48, 49, 24, 50, 51, 122, 123, 124, 125, 34, 126, 127, 128, 129, 130, 131, 132, 133, 58, 134, 135, 136, 137, 56, 57, 138, 139, 140, 141, 35, 142, 143, 144, 145, 59, 60, 42, 43, 44, 45, 146, 147, 148, 149, 263, 264, 265, 266, 267, 268, 269, 270, 271, 272, 273, 274] (by decide +kernel) (by decide +kernel)) (goodIn_sub (fun _ h => List.mem_cons_of_mem _ (List.mem_append_right _ h)) (by decide +kernel))
set_option maxRecDepth 20000 in
theorem gL_act_L_press : GoodIn wsL_act (va_wsS RL 64 yL_press wsL_press) := goodIn_app (goodIn_of _ (by decide +kernel)) ggL_act_L_press
set_option maxRecDepth 20000 in
theorem ggL_act_X3_open : GoodIn wsL_act wsX3_open := goodIn_r _ [153, 18, 154, 97, 98, 22, 99, 42, 43, 44, 45, 25, 46, 47, 48, 49, 24, 50, 14, 51, 263, 264, 265, 266, 267, 268, 269, 270, 271, 272, 273, 274] (by decide +kernel) (by decide +kernel)
set_option maxRecDepth 20000 in
theorem gL_act_X3_open : GoodIn wsL_act (wsV RL 67 RX3 yX3_open wsX3_open) := goodIn_app (goodIn_of _ (by decide +kernel)) ggL_act_X3_open
set_option maxRecDepth 20000 in
theorem ggL_act_L_mend : GoodIn wsL_act wsL_mend := goodIn_ca (goodIn_r _ [157, 103, 10, 158, 159, 160, 14, 161, 108, 109, 162, 18, 163, 164, 165, 166, 167, 168, 169, 170, 171, 172, 173, 174, 175, 176, 59, 60, 177, 43, 44, 22, 45, 25, 46, 47, 48, 49, 24, 50, 51, 178, 179, 180, 181, 182, 119, 120, 121, 183, 184, 185, 186, 34, 187, 188, 189, 190, 35, 126, 127, 128, 129, 130, 131, 132, 133, 58, 134, 135, 136, 137, 56, 57, 142, 143, 144, 145, 191, 192, 193, 194, 195, 196, 197, 198, 36, 199, 200, 201, 202, 203, 204, 205, 206, 207, 208, 209, 37, 210, 211, 212, 213, 214, 215, 216, 217, 218, 219, 220, 221, 222, 223, 224, 225, 226, 227, 228, 229, 230, 263, 264, 265, 275, 276, 277, 278, 279, 280, 266, 267, 268, 269, 270, 271, 272, 273, 274] (by decide +kernel) (by decide +kernel)) (goodIn_sub (fun _ h => List.mem_cons_of_mem _ (List.mem_append_right _ h)) (by decide +kernel))
set_option maxRecDepth 20000 in
theorem gL_act_L_mend : GoodIn wsL_act (va_wsS RL 70 yL_mend wsL_mend) := goodIn_app (goodIn_of _ (by decide +kernel)) ggL_act_L_mend
set_option maxRecDepth 20000 in
theorem ggL_act_X3_runs : GoodIn wsL_act wsX3_runs := goodIn_r _ [234, 18, 146, 147, 148, 22, 149, 34, 263, 264, 265, 266, 267, 268, 269, 270, 271, 272, 273, 274] (by decide +kernel) (by decide +kernel)
set_option maxRecDepth 20000 in
theorem gL_act_X3_runs : GoodIn wsL_act (wsV RL 72 RX3 yX3_runs wsX3_runs) := goodIn_app (goodIn_of _ (by decide +kernel)) ggL_act_X3_runs
set_option maxRecDepth 20000 in
theorem ggL_act_L_setSum : GoodIn wsL_act wsL_setSum := goodIn_ca (goodIn_ca (goodIn_r _ [237, 64, 9, 10, 238, 239, 240, 14, 241, 16, 17, 18, 242, 243, 244, 245, 73, 74, 246, 247, 248, 22, 249, 34, 250, 188, 189, 190, 35, 50, 51, 251, 252, 253, 254, 59, 60, 263, 264, 265, 266, 267, 268, 269, 270, 271, 272, 273, 274] (by decide +kernel) (by decide +kernel)) (goodIn_sub (fun _ h => List.mem_cons_of_mem _ (List.mem_append_left _ (List.mem_append_left _ (List.mem_append_right _ h)))) (by decide +kernel))) (goodIn_sub (fun _ h => List.mem_cons_of_mem _ (List.mem_append_left _ (List.mem_append_right _ h))) (by decide +kernel))
set_option maxRecDepth 20000 in
theorem gL_act_L_setSum : GoodIn wsL_act (va_wsS RL 75 yL_setSum wsL_setSum) := goodIn_app (goodIn_of _ (by decide +kernel)) ggL_act_L_setSum
set_option maxRecDepth 20000 in
theorem ggL_act_L_give : GoodIn wsL_act wsL_give := goodIn_ca (goodIn_ca (goodIn_ca (goodIn_r _ [257, 64, 9, 103, 10, 258, 259, 260, 14, 261, 16, 17, 108, 109, 18, 69, 70, 71, 72, 73, 74, 75, 47, 48, 22, 49, 24, 80, 43, 44, 45, 25, 46, 50, 51, 262, 179, 180, 181, 227, 228, 229, 230, 59, 60, 263, 264, 265, 266, 267, 268, 269, 270, 271, 272, 273, 274] (by decide +kernel) (by decide +kernel)) (goodIn_sub (fun _ h => List.mem_cons_of_mem _ (List.mem_append_left _ (List.mem_append_left _ (List.mem_append_right _ h)))) (by decide +kernel))) (goodIn_sub (fun _ h => List.mem_cons_of_mem _ (List.mem_append_right _ h)) (by decide +kernel))) (goodIn_sub (fun _ h => List.mem_cons_of_mem _ (List.mem_append_left _ (List.mem_append_right _ h))) (by decide +kernel))
set_option maxRecDepth 20000 in
theorem gL_act_L_give : GoodIn wsL_act (va_wsS RL 78 yL_give wsL_give) := goodIn_app (goodIn_of _ (by decide +kernel)) ggL_act_L_give
theorem dL_act_0 : decode cL_act 0 = .ok (.iload_n 1, 1) := by decide +kernel
theorem dL_act_1 : decode cL_act 1 = .ok (.bipush 24, 2) := by decide +kernel
theorem dL_act_3 : decode cL_act 3 = .ok (.ishr, 1) := by decide +kernel
theorem dL_act_4 : decode cL_act 4 = .ok (.bipush 9, 2) := by decide +kernel
theorem dL_act_6 : decode cL_act 6 = .ok (.invokestatic 52, 3) := by decide +kernel
theorem dL_act_9 : decode cL_act 9 = .ok (.ifCond .ne 7, 3) := by decide +kernel
theorem dL_act_12 : decode cL_act 12 = .ok (.iconst 1, 1) := by decide +kernel
theorem dL_act_13 : decode cL_act 13 = .ok (.goto 4, 3) := by decide +kernel
theorem dL_act_16 : decode cL_act 16 = .ok (.iconst 0, 1) := by decide +kernel
theorem dL_act_17 : decode cL_act 17 = .ok (.istore_n 2, 1) := by decide +kernel
theorem dL_act_18 : decode cL_act 18 = .ok (.iload_n 2, 1) := by decide +kernel
theorem dL_act_19 : decode cL_act 19 = .ok (.ifCond .eq 16, 3) := by decide +kernel
theorem dL_act_22 : decode cL_act 22 = .ok (.iload_n 1, 1) := by decide +kernel
theorem dL_act_23 : decode cL_act 23 = .ok (.iconst 4, 1) := by decide +kernel
theorem dL_act_24 : decode cL_act 24 = .ok (.ishr, 1) := by decide +kernel
theorem dL_act_25 : decode cL_act 25 = .ok (.bipush 19, 2) := by decide +kernel
theorem dL_act_27 : decode cL_act 27 = .ok (.invokestatic 52, 3) := by decide +kernel
theorem dL_act_30 : decode cL_act 30 = .ok (.iconst 1, 1) := by decide +kernel
theorem dL_act_31 : decode cL_act 31 = .ok (.isub, 1) := by decide +kernel
theorem dL_act_32 : decode cL_act 32 = .ok (.goto 21, 3) := by decide +kernel
theorem dL_act_35 : decode cL_act 35 = .ok (.iconst 4, 1) := by decide +kernel
theorem dL_act_36 : decode cL_act 36 = .ok (.iload_n 1, 1) := by decide +kernel
theorem dL_act_37 : decode cL_act 37 = .ok (.iconst 4, 1) := by decide +kernel
theorem dL_act_38 : decode cL_act 38 = .ok (.ishr, 1) := by decide +kernel
theorem dL_act_39 : decode cL_act 39 = .ok (.iconst 3, 1) := by decide +kernel
theorem dL_act_40 : decode cL_act 40 = .ok (.invokestatic 52, 3) := by decide +kernel
theorem dL_act_43 : decode cL_act 43 = .ok (.imul, 1) := by decide +kernel
theorem dL_act_44 : decode cL_act 44 = .ok (.iload_n 1, 1) := by decide +kernel
theorem dL_act_45 : decode cL_act 45 = .ok (.bipush 6, 2) := by decide +kernel
theorem dL_act_47 : decode cL_act 47 = .ok (.ishr, 1) := by decide +kernel
theorem dL_act_48 : decode cL_act 48 = .ok (.iconst 3, 1) := by decide +kernel
theorem dL_act_49 : decode cL_act 49 = .ok (.invokestatic 52, 3) := by decide +kernel
theorem dL_act_52 : decode cL_act 52 = .ok (.iadd, 1) := by decide +kernel
theorem dL_act_53 : decode cL_act 53 = .ok (.istore_n 3, 1) := by decide +kernel
theorem dL_act_54 : decode cL_act 54 = .ok (.iload_n 1, 1) := by decide +kernel
theorem dL_act_55 : decode cL_act 55 = .ok (.bipush 16, 2) := by decide +kernel
theorem dL_act_57 : decode cL_act 57 = .ok (.invokestatic 52, 3) := by decide +kernel
theorem dL_act_60 : decode cL_act 60 = .ok (.tableswitch 196 0 7 #[48, 96, 102, 108, 113, 131, 131, 131], 48) := by decide +kernel
theorem dL_act_108 : decode cL_act 108 = .ok (.iload_n 1, 1) := by decide +kernel
theorem dL_act_109 : decode cL_act 109 = .ok (.bipush 8, 2) := by decide +kernel
theorem dL_act_111 : decode cL_act 111 = .ok (.ishr, 1) := by decide +kernel
theorem dL_act_112 : decode cL_act 112 = .ok (.iconst 3, 1) := by decide +kernel
theorem dL_act_113 : decode cL_act 113 = .ok (.invokestatic 52, 3) := by decide +kernel
theorem dL_act_116 : decode cL_act 116 = .ok (.ifCond .ne 34, 3) := by decide +kernel
theorem dL_act_119 : decode cL_act 119 = .ok (.aload_n 0, 1) := by decide +kernel
theorem dL_act_120 : decode cL_act 120 = .ok (.iload_n 2, 1) := by decide +kernel
theorem dL_act_121 : decode cL_act 121 = .ok (.ifCond .eq 14, 3) := by decide +kernel
theorem dL_act_124 : decode cL_act 124 = .ok (.iload_n 1, 1) := by decide +kernel
theorem dL_act_125 : decode cL_act 125 = .ok (.iconst 4, 1) := by decide +kernel
theorem dL_act_126 : decode cL_act 126 = .ok (.ishr, 1) := by decide +kernel
theorem dL_act_127 : decode cL_act 127 = .ok (.bipush 7, 2) := by decide +kernel
theorem dL_act_129 : decode cL_act 129 = .ok (.invokestatic 52, 3) := by decide +kernel
theorem dL_act_132 : decode cL_act 132 = .ok (.goto 12, 3) := by decide +kernel
theorem dL_act_135 : decode cL_act 135 = .ok (.iconst 2, 1) := by decide +kernel
theorem dL_act_136 : decode cL_act 136 = .ok (.iload_n 1, 1) := by decide +kernel
theorem dL_act_137 : decode cL_act 137 = .ok (.iconst 4, 1) := by decide +kernel
theorem dL_act_138 : decode cL_act 138 = .ok (.ishr, 1) := by decide +kernel
theorem dL_act_139 : decode cL_act 139 = .ok (.iconst 2, 1) := by decide +kernel
theorem dL_act_140 : decode cL_act 140 = .ok (.invokestatic 52, 3) := by decide +kernel
theorem dL_act_143 : decode cL_act 143 = .ok (.iadd, 1) := by decide +kernel
theorem dL_act_144 : decode cL_act 144 = .ok (.invokestatic 57, 3) := by decide +kernel
theorem dL_act_147 : decode cL_act 147 = .ok (.goto 8, 3) := by decide +kernel
theorem dL_act_150 : decode cL_act 150 = .ok (.aload_n 0, 1) := by decide +kernel
theorem dL_act_151 : decode cL_act 151 = .ok (.iload_n 3, 1) := by decide +kernel
theorem dL_act_152 : decode cL_act 152 = .ok (.invokestatic 60, 3) := by decide +kernel
theorem dL_act_155 : decode cL_act 155 = .ok (.ireturn, 1) := by decide +kernel
theorem dL_act_156 : decode cL_act 156 = .ok (.aload_n 0, 1) := by decide +kernel
theorem dL_act_157 : decode cL_act 157 = .ok (.iload_n 3, 1) := by decide +kernel
theorem dL_act_158 : decode cL_act 158 = .ok (.invokestatic 60, 3) := by decide +kernel
theorem dL_act_161 : decode cL_act 161 = .ok (.ireturn, 1) := by decide +kernel
theorem dL_act_162 : decode cL_act 162 = .ok (.aload_n 0, 1) := by decide +kernel
theorem dL_act_163 : decode cL_act 163 = .ok (.iload_n 3, 1) := by decide +kernel
theorem dL_act_164 : decode cL_act 164 = .ok (.invokestatic 62, 3) := by decide +kernel
theorem dL_act_167 : decode cL_act 167 = .ok (.ireturn, 1) := by decide +kernel
theorem dL_act_168 : decode cL_act 168 = .ok (.aload_n 0, 1) := by decide +kernel
theorem dL_act_169 : decode cL_act 169 = .ok (.invokestatic 64, 3) := by decide +kernel
theorem dL_act_172 : decode cL_act 172 = .ok (.ireturn, 1) := by decide +kernel
theorem dL_act_173 : decode cL_act 173 = .ok (.aload_n 0, 1) := by decide +kernel
theorem dL_act_174 : decode cL_act 174 = .ok (.invokevirtual 67, 3) := by decide +kernel
theorem dL_act_177 : decode cL_act 177 = .ok (.bipush 9, 2) := by decide +kernel
theorem dL_act_179 : decode cL_act 179 = .ok (.if_icmp .le 7, 3) := by decide +kernel
theorem dL_act_182 : decode cL_act 182 = .ok (.iconst 0, 1) := by decide +kernel
theorem dL_act_183 : decode cL_act 183 = .ok (.goto 7, 3) := by decide +kernel
theorem dL_act_186 : decode cL_act 186 = .ok (.aload_n 0, 1) := by decide +kernel
theorem dL_act_187 : decode cL_act 187 = .ok (.invokestatic 70, 3) := by decide +kernel
theorem dL_act_190 : decode cL_act 190 = .ok (.ireturn, 1) := by decide +kernel
theorem dL_act_191 : decode cL_act 191 = .ok (.aload_n 0, 1) := by decide +kernel
theorem dL_act_192 : decode cL_act 192 = .ok (.iload_n 1, 1) := by decide +kernel
theorem dL_act_193 : decode cL_act 193 = .ok (.iconst 4, 1) := by decide +kernel
theorem dL_act_194 : decode cL_act 194 = .ok (.ishr, 1) := by decide +kernel
theorem dL_act_195 : decode cL_act 195 = .ok (.iload_n 2, 1) := by decide +kernel
theorem dL_act_196 : decode cL_act 196 = .ok (.ifCond .eq 8, 3) := by decide +kernel
theorem dL_act_199 : decode cL_act 199 = .ok (.bipush 9, 2) := by decide +kernel
theorem dL_act_201 : decode cL_act 201 = .ok (.goto 9, 3) := by decide +kernel
theorem dL_act_204 : decode cL_act 204 = .ok (.aload_n 0, 1) := by decide +kernel
theorem dL_act_205 : decode cL_act 205 = .ok (.invokevirtual 72, 3) := by decide +kernel
theorem dL_act_208 : decode cL_act 208 = .ok (.iconst 1, 1) := by decide +kernel
theorem dL_act_209 : decode cL_act 209 = .ok (.iadd, 1) := by decide +kernel
theorem dL_act_210 : decode cL_act 210 = .ok (.invokestatic 52, 3) := by decide +kernel
theorem dL_act_213 : decode cL_act 213 = .ok (.iload_n 2, 1) := by decide +kernel
theorem dL_act_214 : decode cL_act 214 = .ok (.ifCond .eq 7, 3) := by decide +kernel
theorem dL_act_217 : decode cL_act 217 = .ok (.iconst 1, 1) := by decide +kernel
theorem dL_act_218 : decode cL_act 218 = .ok (.goto 4, 3) := by decide +kernel
theorem dL_act_221 : decode cL_act 221 = .ok (.iconst 0, 1) := by decide +kernel
theorem dL_act_222 : decode cL_act 222 = .ok (.isub, 1) := by decide +kernel
theorem dL_act_223 : decode cL_act 223 = .ok (.iload_n 2, 1) := by decide +kernel
theorem dL_act_224 : decode cL_act 224 = .ok (.ifCond .eq 17, 3) := by decide +kernel
theorem dL_act_227 : decode cL_act 227 = .ok (.iload_n 1, 1) := by decide +kernel
theorem dL_act_228 : decode cL_act 228 = .ok (.bipush 8, 2) := by decide +kernel
theorem dL_act_230 : decode cL_act 230 = .ok (.ishr, 1) := by decide +kernel
theorem dL_act_231 : decode cL_act 231 = .ok (.bipush 50, 2) := by decide +kernel
theorem dL_act_233 : decode cL_act 233 = .ok (.invokestatic 52, 3) := by decide +kernel
theorem dL_act_236 : decode cL_act 236 = .ok (.iconst 2, 1) := by decide +kernel
theorem dL_act_237 : decode cL_act 237 = .ok (.isub, 1) := by decide +kernel
theorem dL_act_238 : decode cL_act 238 = .ok (.goto 14, 3) := by decide +kernel
theorem dL_act_241 : decode cL_act 241 = .ok (.iconst 3, 1) := by decide +kernel
theorem dL_act_242 : decode cL_act 242 = .ok (.iload_n 1, 1) := by decide +kernel
theorem dL_act_243 : decode cL_act 243 = .ok (.bipush 8, 2) := by decide +kernel
theorem dL_act_245 : decode cL_act 245 = .ok (.ishr, 1) := by decide +kernel
theorem dL_act_246 : decode cL_act 246 = .ok (.bipush 17, 2) := by decide +kernel
theorem dL_act_248 : decode cL_act 248 = .ok (.invokestatic 52, 3) := by decide +kernel
theorem dL_act_251 : decode cL_act 251 = .ok (.iadd, 1) := by decide +kernel
theorem dL_act_252 : decode cL_act 252 = .ok (.invokestatic 75, 3) := by decide +kernel
theorem dL_act_255 : decode cL_act 255 = .ok (.ireturn, 1) := by decide +kernel
theorem dL_act_256 : decode cL_act 256 = .ok (.aload_n 0, 1) := by decide +kernel
theorem dL_act_257 : decode cL_act 257 = .ok (.iload_n 3, 1) := by decide +kernel
theorem dL_act_258 : decode cL_act 258 = .ok (.iload_n 2, 1) := by decide +kernel
theorem dL_act_259 : decode cL_act 259 = .ok (.ifCond .eq 17, 3) := by decide +kernel
theorem dL_act_262 : decode cL_act 262 = .ok (.iload_n 1, 1) := by decide +kernel
theorem dL_act_263 : decode cL_act 263 = .ok (.bipush 8, 2) := by decide +kernel
theorem dL_act_265 : decode cL_act 265 = .ok (.ishr, 1) := by decide +kernel
theorem dL_act_266 : decode cL_act 266 = .ok (.bipush 13, 2) := by decide +kernel
theorem dL_act_268 : decode cL_act 268 = .ok (.invokestatic 52, 3) := by decide +kernel
theorem dL_act_271 : decode cL_act 271 = .ok (.iconst 2, 1) := by decide +kernel
theorem dL_act_272 : decode cL_act 272 = .ok (.isub, 1) := by decide +kernel
theorem dL_act_273 : decode cL_act 273 = .ok (.goto 12, 3) := by decide +kernel
theorem dL_act_276 : decode cL_act 276 = .ok (.iload_n 1, 1) := by decide +kernel
theorem dL_act_277 : decode cL_act 277 = .ok (.bipush 8, 2) := by decide +kernel
theorem dL_act_279 : decode cL_act 279 = .ok (.ishr, 1) := by decide +kernel
theorem dL_act_280 : decode cL_act 280 = .ok (.bipush 10, 2) := by decide +kernel
theorem dL_act_282 : decode cL_act 282 = .ok (.invokestatic 52, 3) := by decide +kernel
theorem dL_act_285 : decode cL_act 285 = .ok (.invokestatic 78, 3) := by decide +kernel
theorem dL_act_288 : decode cL_act 288 = .ok (.ireturn, 1) := by decide +kernel
set_option maxRecDepth 20000 in
theorem ggL_areAlike_X3_open : GoodIn wsL_areAlike wsX3_open := goodIn_r _ [5, 6, 7, 8, 9, 10, 11, 12, 13, 14, 15, 16, 17, 18, 19, 20, 21, 22, 4, 23, 88, 89, 90, 91, 92, 93, 94, 95, 96, 97, 98, 99] (by decide +kernel) (by decide +kernel)
set_option maxRecDepth 20000 in
theorem gL_areAlike_X3_open : GoodIn wsL_areAlike (wsV RL 67 RX3 yX3_open wsX3_open) := goodIn_app (goodIn_of _ (by decide +kernel)) ggL_areAlike_X3_open
set_option maxRecDepth 20000 in
theorem ggL_areAlike_X3_runs : GoodIn wsL_areAlike wsX3_runs := goodIn_r _ [27, 6, 28, 29, 30, 10, 31, 32, 88, 89, 90, 91, 92, 93, 94, 95, 96, 97, 98, 99] (by decide +kernel) (by decide +kernel)
set_option maxRecDepth 20000 in
theorem gL_areAlike_X3_runs : GoodIn wsL_areAlike (wsV RL 72 RX3 yX3_runs wsX3_runs) := goodIn_app (goodIn_of _ (by decide +kernel)) ggL_areAlike_X3_runs
set_option maxRecDepth 20000 in
theorem ggL_areAlike_X3_sumOf : GoodIn wsL_areAlike wsX3_sumOf := goodIn_ca (goodIn_r _ [36, 6, 37, 38, 39, 4, 40, 41, 42, 43, 44, 45, 10, 46, 32, 47, 48, 49, 50, 51, 22, 23, 88, 89, 90, 91, 92, 93, 94, 95, 96, 97, 98, 99] (by decide +kernel) (by decide +kernel)) (goodIn_sub (fun _ h => List.mem_cons_of_mem _ (List.mem_append_right _ h)) (by decide +kernel))
set_option maxRecDepth 20000 in
theorem gL_areAlike_X3_sumOf : GoodIn wsL_areAlike (wsV RL 80 RX3 yX3_sumOf wsX3_sumOf) := goodIn_app (goodIn_of _ (by decide +kernel)) ggL_areAlike_X3_sumOf
set_option maxRecDepth 20000 in
theorem ggL_areAlike_X3_firstOf : GoodIn wsL_areAlike wsX3_firstOf := goodIn_ca (goodIn_r _ [55, 6, 37, 38, 39, 4, 40, 41, 42, 43, 44, 45, 10, 46, 32, 56, 57, 58, 59, 60, 22, 23, 88, 89, 90, 91, 92, 93, 94, 95, 96, 97, 98, 99] (by decide +kernel) (by decide +kernel)) (goodIn_sub (fun _ h => List.mem_cons_of_mem _ (List.mem_append_right _ h)) (by decide +kernel))
set_option maxRecDepth 20000 in
theorem gL_areAlike_X3_firstOf : GoodIn wsL_areAlike (wsV RL 83 RX3 yX3_firstOf wsX3_firstOf) := goodIn_app (goodIn_of _ (by decide +kernel)) ggL_areAlike_X3_firstOf
set_option maxRecDepth 20000 in
theorem ggL_areAlike_X3_lengthOf : GoodIn wsL_areAlike wsX3_lengthOf := goodIn_ca (goodIn_r _ [64, 6, 37, 38, 39, 4, 40, 41, 42, 43, 44, 45, 10, 46, 32, 65, 66, 67, 68, 69, 22, 23, 88, 89, 90, 91, 92, 93, 94, 95, 96, 97, 98, 99] (by decide +kernel) (by decide +kernel)) (goodIn_sub (fun _ h => List.mem_cons_of_mem _ (List.mem_append_right _ h)) (by decide +kernel))
set_option maxRecDepth 20000 in
theorem gL_areAlike_X3_lengthOf : GoodIn wsL_areAlike (wsV RL 86 RX3 yX3_lengthOf wsX3_lengthOf) := goodIn_app (goodIn_of _ (by decide +kernel)) ggL_areAlike_X3_lengthOf
set_option maxRecDepth 20000 in
theorem ggL_areAlike_L_digit : GoodIn wsL_areAlike wsL_digit := goodIn_ca (goodIn_r _ [73, 74, 75, 76, 77, 4, 78, 6, 79, 80, 81, 82, 41, 42, 83, 18, 19, 10, 20, 21, 84, 85, 86, 87, 16, 22, 23, 88, 89, 90, 91, 92, 93, 94, 95, 96, 97, 98, 99] (by decide +kernel) (by decide +kernel)) (goodIn_sub (fun _ h => List.mem_cons_of_mem _ (List.mem_append_right _ h)) (by decide +kernel))
set_option maxRecDepth 20000 in
theorem gL_areAlike_L_digit : GoodIn wsL_areAlike (va_wsS RL 89 yL_digit wsL_digit) := goodIn_app (goodIn_of _ (by decide +kernel)) ggL_areAlike_L_digit
theorem dL_areAlike_0 : decode cL_areAlike 0 = .ok (.aload_n 0, 1) := by decide +kernel
theorem dL_areAlike_1 : decode cL_areAlike 1 = .ok (.invokevirtual 67, 3) := by decide +kernel
theorem dL_areAlike_4 : decode cL_areAlike 4 = .ok (.aload_n 1, 1) := by decide +kernel
theorem dL_areAlike_5 : decode cL_areAlike 5 = .ok (.invokevirtual 67, 3) := by decide +kernel
theorem dL_areAlike_8 : decode cL_areAlike 8 = .ok (.if_icmp .ne 18, 3) := by decide +kernel
theorem dL_areAlike_11 : decode cL_areAlike 11 = .ok (.aload_n 0, 1) := by decide +kernel
theorem dL_areAlike_12 : decode cL_areAlike 12 = .ok (.invokevirtual 72, 3) := by decide +kernel
theorem dL_areAlike_15 : decode cL_areAlike 15 = .ok (.aload_n 1, 1) := by decide +kernel
theorem dL_areAlike_16 : decode cL_areAlike 16 = .ok (.invokevirtual 72, 3) := by decide +kernel
theorem dL_areAlike_19 : decode cL_areAlike 19 = .ok (.if_icmp .ne 7, 3) := by decide +kernel
theorem dL_areAlike_22 : decode cL_areAlike 22 = .ok (.iconst 1, 1) := by decide +kernel
theorem dL_areAlike_23 : decode cL_areAlike 23 = .ok (.goto 4, 3) := by decide +kernel
theorem dL_areAlike_26 : decode cL_areAlike 26 = .ok (.iconst 0, 1) := by decide +kernel
theorem dL_areAlike_27 : decode cL_areAlike 27 = .ok (.istore_n 2, 1) := by decide +kernel
theorem dL_areAlike_28 : decode cL_areAlike 28 = .ok (.iconst 0, 1) := by decide +kernel
theorem dL_areAlike_29 : decode cL_areAlike 29 = .ok (.istore_n 3, 1) := by decide +kernel
theorem dL_areAlike_30 : decode cL_areAlike 30 = .ok (.iload_n 3, 1) := by decide +kernel
theorem dL_areAlike_31 : decode cL_areAlike 31 = .ok (.aload_n 0, 1) := by decide +kernel
theorem dL_areAlike_32 : decode cL_areAlike 32 = .ok (.invokevirtual 72, 3) := by decide +kernel
theorem dL_areAlike_35 : decode cL_areAlike 35 = .ok (.if_icmp .ge 58, 3) := by decide +kernel
theorem dL_areAlike_38 : decode cL_areAlike 38 = .ok (.iload_n 2, 1) := by decide +kernel
theorem dL_areAlike_39 : decode cL_areAlike 39 = .ok (.ifCond .eq 54, 3) := by decide +kernel
theorem dL_areAlike_42 : decode cL_areAlike 42 = .ok (.aload_n 0, 1) := by decide +kernel
theorem dL_areAlike_43 : decode cL_areAlike 43 = .ok (.iload_n 3, 1) := by decide +kernel
theorem dL_areAlike_44 : decode cL_areAlike 44 = .ok (.invokevirtual 80, 3) := by decide +kernel
theorem dL_areAlike_47 : decode cL_areAlike 47 = .ok (.aload_n 1, 1) := by decide +kernel
theorem dL_areAlike_48 : decode cL_areAlike 48 = .ok (.iload_n 3, 1) := by decide +kernel
theorem dL_areAlike_49 : decode cL_areAlike 49 = .ok (.invokevirtual 80, 3) := by decide +kernel
theorem dL_areAlike_52 : decode cL_areAlike 52 = .ok (.if_icmp .ne 33, 3) := by decide +kernel
theorem dL_areAlike_55 : decode cL_areAlike 55 = .ok (.aload_n 0, 1) := by decide +kernel
theorem dL_areAlike_56 : decode cL_areAlike 56 = .ok (.iload_n 3, 1) := by decide +kernel
theorem dL_areAlike_57 : decode cL_areAlike 57 = .ok (.invokevirtual 83, 3) := by decide +kernel
theorem dL_areAlike_60 : decode cL_areAlike 60 = .ok (.aload_n 1, 1) := by decide +kernel
theorem dL_areAlike_61 : decode cL_areAlike 61 = .ok (.iload_n 3, 1) := by decide +kernel
theorem dL_areAlike_62 : decode cL_areAlike 62 = .ok (.invokevirtual 83, 3) := by decide +kernel
theorem dL_areAlike_65 : decode cL_areAlike 65 = .ok (.if_icmp .ne 20, 3) := by decide +kernel
theorem dL_areAlike_68 : decode cL_areAlike 68 = .ok (.aload_n 0, 1) := by decide +kernel
theorem dL_areAlike_69 : decode cL_areAlike 69 = .ok (.iload_n 3, 1) := by decide +kernel
theorem dL_areAlike_70 : decode cL_areAlike 70 = .ok (.invokevirtual 86, 3) := by decide +kernel
theorem dL_areAlike_73 : decode cL_areAlike 73 = .ok (.aload_n 1, 1) := by decide +kernel
theorem dL_areAlike_74 : decode cL_areAlike 74 = .ok (.iload_n 3, 1) := by decide +kernel
theorem dL_areAlike_75 : decode cL_areAlike 75 = .ok (.invokevirtual 86, 3) := by decide +kernel
theorem dL_areAlike_78 : decode cL_areAlike 78 = .ok (.if_icmp .ne 7, 3) := by decide +kernel
theorem dL_areAlike_81 : decode cL_areAlike 81 = .ok (.iconst 1, 1) := by decide +kernel
theorem dL_areAlike_82 : decode cL_areAlike 82 = .ok (.goto 4, 3) := by decide +kernel
theorem dL_areAlike_85 : decode cL_areAlike 85 = .ok (.iconst 0, 1) := by decide +kernel
theorem dL_areAlike_86 : decode cL_areAlike 86 = .ok (.istore_n 2, 1) := by decide +kernel
theorem dL_areAlike_87 : decode cL_areAlike 87 = .ok (.iinc 3 1, 3) := by decide +kernel
theorem dL_areAlike_90 : decode cL_areAlike 90 = .ok (.goto (-60), 3) := by decide +kernel
theorem dL_areAlike_93 : decode cL_areAlike 93 = .ok (.iconst 0, 1) := by decide +kernel
theorem dL_areAlike_94 : decode cL_areAlike 94 = .ok (.istore_n 3, 1) := by decide +kernel
theorem dL_areAlike_95 : decode cL_areAlike 95 = .ok (.iload_n 3, 1) := by decide +kernel
theorem dL_areAlike_96 : decode cL_areAlike 96 = .ok (.bipush 9, 2) := by decide +kernel
theorem dL_areAlike_98 : decode cL_areAlike 98 = .ok (.if_icmp .ge 48, 3) := by decide +kernel
theorem dL_areAlike_101 : decode cL_areAlike 101 = .ok (.iload_n 2, 1) := by decide +kernel
theorem dL_areAlike_102 : decode cL_areAlike 102 = .ok (.ifCond .eq 44, 3) := by decide +kernel
theorem dL_areAlike_105 : decode cL_areAlike 105 = .ok (.aload_n 0, 1) := by decide +kernel
theorem dL_areAlike_106 : decode cL_areAlike 106 = .ok (.iload_n 3, 1) := by decide +kernel
theorem dL_areAlike_107 : decode cL_areAlike 107 = .ok (.iconst 3, 1) := by decide +kernel
theorem dL_areAlike_108 : decode cL_areAlike 108 = .ok (.idiv, 1) := by decide +kernel
theorem dL_areAlike_109 : decode cL_areAlike 109 = .ok (.iconst 4, 1) := by decide +kernel
theorem dL_areAlike_110 : decode cL_areAlike 110 = .ok (.imul, 1) := by decide +kernel
theorem dL_areAlike_111 : decode cL_areAlike 111 = .ok (.iload_n 3, 1) := by decide +kernel
theorem dL_areAlike_112 : decode cL_areAlike 112 = .ok (.iconst 3, 1) := by decide +kernel
theorem dL_areAlike_113 : decode cL_areAlike 113 = .ok (.irem, 1) := by decide +kernel
theorem dL_areAlike_114 : decode cL_areAlike 114 = .ok (.iadd, 1) := by decide +kernel
theorem dL_areAlike_115 : decode cL_areAlike 115 = .ok (.invokestatic 89, 3) := by decide +kernel
theorem dL_areAlike_118 : decode cL_areAlike 118 = .ok (.aload_n 1, 1) := by decide +kernel
theorem dL_areAlike_119 : decode cL_areAlike 119 = .ok (.iload_n 3, 1) := by decide +kernel
theorem dL_areAlike_120 : decode cL_areAlike 120 = .ok (.iconst 3, 1) := by decide +kernel
theorem dL_areAlike_121 : decode cL_areAlike 121 = .ok (.idiv, 1) := by decide +kernel
theorem dL_areAlike_122 : decode cL_areAlike 122 = .ok (.iconst 4, 1) := by decide +kernel
theorem dL_areAlike_123 : decode cL_areAlike 123 = .ok (.imul, 1) := by decide +kernel
theorem dL_areAlike_124 : decode cL_areAlike 124 = .ok (.iload_n 3, 1) := by decide +kernel
theorem dL_areAlike_125 : decode cL_areAlike 125 = .ok (.iconst 3, 1) := by decide +kernel
theorem dL_areAlike_126 : decode cL_areAlike 126 = .ok (.irem, 1) := by decide +kernel
theorem dL_areAlike_127 : decode cL_areAlike 127 = .ok (.iadd, 1) := by decide +kernel
theorem dL_areAlike_128 : decode cL_areAlike 128 = .ok (.invokestatic 89, 3) := by decide +kernel
theorem dL_areAlike_131 : decode cL_areAlike 131 = .ok (.if_icmp .ne 7, 3) := by decide +kernel
theorem dL_areAlike_134 : decode cL_areAlike 134 = .ok (.iconst 1, 1) := by decide +kernel
theorem dL_areAlike_135 : decode cL_areAlike 135 = .ok (.goto 4, 3) := by decide +kernel
theorem dL_areAlike_138 : decode cL_areAlike 138 = .ok (.iconst 0, 1) := by decide +kernel
theorem dL_areAlike_139 : decode cL_areAlike 139 = .ok (.istore_n 2, 1) := by decide +kernel
theorem dL_areAlike_140 : decode cL_areAlike 140 = .ok (.iinc 3 1, 3) := by decide +kernel
theorem dL_areAlike_143 : decode cL_areAlike 143 = .ok (.goto (-48), 3) := by decide +kernel
theorem dL_areAlike_146 : decode cL_areAlike 146 = .ok (.iload_n 2, 1) := by decide +kernel
theorem dL_areAlike_147 : decode cL_areAlike 147 = .ok (.ireturn, 1) := by decide +kernel
set_option maxRecDepth 20000 in
theorem ggL_areCandidatesSo_L_digit : GoodIn wsL_areCandidatesSo wsL_digit := goodIn_ca (goodIn_r _ [4, 5, 6, 7, 8, 9, 10, 11, 12, 13, 14, 15, 16, 17, 18, 19, 20, 21, 22, 23, 24, 25, 26, 27, 28, 29, 30, 175, 176, 177, 178, 179, 180, 181, 182, 183, 184, 185, 186] (by decide +kernel) (by decide +kernel)) (goodIn_sub (fun _ h => List.mem_cons_of_mem _ (List.mem_append_left _ (List.mem_append_right _ h))) (by decide +kernel))
set_option maxRecDepth 20000 in
theorem gL_areCandidatesSo_L_digit : GoodIn wsL_areCandidatesSo (va_wsS RL 89 yL_digit wsL_digit) := goodIn_app (goodIn_of _ (by decide +kernel)) ggL_areCandidatesSo_L_digit
set_option maxRecDepth 20000 in
theorem ggL_areCandidatesSo_L_candidates : GoodIn wsL_areCandidatesSo wsL_candidates := goodIn_ca (goodIn_ca (goodIn_r _ [33, 5, 34, 35, 36, 37, 38, 9, 39, 40, 41, 42, 12, 13, 14, 15, 16, 17, 11, 18, 19, 20, 21, 22, 23, 43, 44, 45, 46, 47, 48, 49, 50, 51, 52, 53, 54, 55, 56, 57, 58, 59, 60, 61, 62, 63, 64, 65, 66, 67, 28, 68, 29, 30, 69, 70, 71, 72, 73, 25, 26, 27, 74, 75, 76, 77, 78, 79, 80, 81, 82, 83, 84, 85, 86, 87, 88, 89, 90, 91, 92, 93, 94, 95, 96, 97, 98, 99, 100, 101, 102, 103, 104, 105, 106, 107, 108, 109, 110, 111, 112, 113, 114, 115, 116, 117, 118, 119, 120, 121, 122, 123, 124, 125, 126, 127, 128, 129, 130, 131, 132, 133, 134, 135, 136, 137, 138, 139, 140, 141, 142, 143, 144, 175, 176, 177, 178, 179, 180, 181, 182, 183, 184, 185, 186, 187, 188, 189, 190, 191] (by decide +kernel) (by decide +kernel)) (goodIn_sub (fun _ h => List.mem_cons_of_mem _ (List.mem_append_right _ h)) (by decide +kernel))) (goodIn_sub (fun _ h => List.mem_cons_of_mem _ (List.mem_append_left _ (List.mem_append_right _ h))) (by decide +kernel))
set_option maxRecDepth 20000 in
theorem gL_areCandidatesSo_L_candidates : GoodIn wsL_areCandidatesSo (va_wsS RL 91 yL_candidates wsL_candidates) := goodIn_app (goodIn_of _ (by decide +kernel)) ggL_areCandidatesSo_L_candidates
set_option maxRecDepth 20000 in
theorem ggL_areCandidatesSo_X3_level : GoodIn wsL_areCandidatesSo wsX3_level := goodIn_r _ [148, 42, 43, 44, 45, 46, 47, 48, 49, 50, 51, 52, 53, 54, 55, 56, 57, 58, 59, 60, 61, 62, 63, 64, 65, 66, 21, 67, 28, 68, 19, 20, 22, 23, 29, 9, 30, 69, 70, 71, 72, 73, 25, 26, 27, 74, 75, 76, 77, 78, 79, 80, 81, 82, 83, 84, 85, 86, 87, 88, 89, 90, 91, 92, 93, 94, 95, 96, 97, 98, 99, 100, 101, 102, 103, 104, 105, 106, 107, 108, 109, 110, 111, 112, 113, 114, 115, 116, 117, 118, 119, 120, 121, 122, 123, 124, 125, 126, 127, 128, 129, 130, 131, 132, 133, 134, 135, 136, 137, 138, 139, 140, 149, 150, 151, 152, 153, 154, 155, 156, 175, 176, 177, 187, 188, 189, 190, 191, 178, 179, 180, 181, 182, 183, 184, 185, 186] (by decide +kernel) (by decide +kernel)
set_option maxRecDepth 20000 in
theorem gL_areCandidatesSo_X3_level : GoodIn wsL_areCandidatesSo (wsV RL 93 RX3 yX3_level wsX3_level) := goodIn_app (goodIn_of _ (by decide +kernel)) ggL_areCandidatesSo_X3_level
set_option maxRecDepth 20000 in
theorem ggL_areCandidatesSo_X3_hint : GoodIn wsL_areCandidatesSo wsX3_hint := goodIn_r _ [160, 42, 161, 162, 163, 46, 164, 165, 44, 45, 47, 48, 49, 50, 51, 52, 53, 54, 55, 56, 57, 58, 59, 60, 61, 62, 63, 64, 65, 66, 21, 67, 28, 68, 19, 20, 22, 23, 29, 9, 30, 69, 70, 71, 72, 73, 25, 26, 27, 74, 75, 76, 77, 78, 79, 80, 81, 82, 83, 84, 85, 86, 87, 88, 89, 90, 91, 92, 93, 94, 95, 96, 97, 98, 99, 100, 101, 102, 103, 104, 105, 106, 107, 108, 109, 110, 111, 112, 113, 114, 115, 116, 117, 118, 119, 120, 121, 122, 123, 124, 125, 126, 127, 128, 129, 130, 131, 132, 133, 134, 135, 136, 137, 138, 139, 140, 166, 167, 168, 169, 170, 175, 176, 177, 187, 188, 189, 190, 191, 178, 179, 180, 181, 182, 183, 184, 185, 186] (by decide +kernel) (by decide +kernel)
set_option maxRecDepth 20000 in
theorem gL_areCandidatesSo_X3_hint : GoodIn wsL_areCandidatesSo (wsV RL 96 RX3 yX3_hint wsX3_hint) := goodIn_app (goodIn_of _ (by decide +kernel)) ggL_areCandidatesSo_X3_hint
set_option maxRecDepth 20000 in
theorem ggL_areCandidatesSo_X3_hintRules : GoodIn wsL_areCandidatesSo wsX3_hintRules := goodIn_r _ [174, 42, 161, 162, 163, 46, 164, 165, 44, 45, 47, 48, 49, 50, 51, 52, 53, 54, 55, 56, 57, 58, 59, 60, 61, 62, 63, 64, 65, 66, 21, 67, 28, 68, 19, 20, 22, 23, 29, 9, 30, 69, 70, 71, 72, 73, 25, 26, 27, 74, 75, 76, 77, 78, 79, 80, 81, 82, 83, 84, 85, 86, 87, 88, 89, 90, 91, 92, 93, 94, 95, 96, 97, 98, 99, 100, 101, 102, 103, 104, 105, 106, 107, 108, 109, 110, 111, 112, 113, 114, 115, 116, 117, 118, 119, 120, 121, 122, 123, 124, 125, 126, 127, 128, 129, 130, 131, 132, 133, 134, 135, 136, 137, 138, 139, 140, 166, 167, 168, 169, 175, 176, 177, 187, 188, 189, 190, 191, 178, 179, 180, 181, 182, 183, 184, 185, 186] (by decide +kernel) (by decide +kernel)
set_option maxRecDepth 20000 in
theorem gL_areCandidatesSo_X3_hintRules : GoodIn wsL_areCandidatesSo (wsV RL 99 RX3 yX3_hintRules wsX3_hintRules) := goodIn_app (goodIn_of _ (by decide +kernel)) ggL_areCandidatesSo_X3_hintRules
theorem dL_areCandidatesSo_0 : decode cL_areCandidatesSo 0 = .ok (.aload_n 0, 1) := by decide +kernel
theorem dL_areCandidatesSo_1 : decode cL_areCandidatesSo 1 = .ok (.iload_n 1, 1) := by decide +kernel
theorem dL_areCandidatesSo_2 : decode cL_areCandidatesSo 2 = .ok (.invokestatic 89, 3) := by decide +kernel
theorem dL_areCandidatesSo_5 : decode cL_areCandidatesSo 5 = .ok (.istore_n 2, 1) := by decide +kernel
theorem dL_areCandidatesSo_6 : decode cL_areCandidatesSo 6 = .ok (.aload_n 0, 1) := by decide +kernel
theorem dL_areCandidatesSo_7 : decode cL_areCandidatesSo 7 = .ok (.iload_n 1, 1) := by decide +kernel
theorem dL_areCandidatesSo_8 : decode cL_areCandidatesSo 8 = .ok (.iconst 0, 1) := by decide +kernel
theorem dL_areCandidatesSo_9 : decode cL_areCandidatesSo 9 = .ok (.invokestatic 91, 3) := by decide +kernel
theorem dL_areCandidatesSo_12 : decode cL_areCandidatesSo 12 = .ok (.istore_n 3, 1) := by decide +kernel
theorem dL_areCandidatesSo_13 : decode cL_areCandidatesSo 13 = .ok (.iload_n 2, 1) := by decide +kernel
theorem dL_areCandidatesSo_14 : decode cL_areCandidatesSo 14 = .ok (.ifCond .ge 24, 3) := by decide +kernel
theorem dL_areCandidatesSo_17 : decode cL_areCandidatesSo 17 = .ok (.iload_n 3, 1) := by decide +kernel
theorem dL_areCandidatesSo_18 : decode cL_areCandidatesSo 18 = .ok (.iload_n 2, 1) := by decide +kernel
theorem dL_areCandidatesSo_19 : decode cL_areCandidatesSo 19 = .ok (.iconst (-1), 1) := by decide +kernel
theorem dL_areCandidatesSo_20 : decode cL_areCandidatesSo 20 = .ok (.if_icmp .ne 7, 3) := by decide +kernel
theorem dL_areCandidatesSo_23 : decode cL_areCandidatesSo 23 = .ok (.iconst 0, 1) := by decide +kernel
theorem dL_areCandidatesSo_24 : decode cL_areCandidatesSo 24 = .ok (.goto 5, 3) := by decide +kernel
theorem dL_areCandidatesSo_27 : decode cL_areCandidatesSo 27 = .ok (.bipush (-2), 2) := by decide +kernel
theorem dL_areCandidatesSo_29 : decode cL_areCandidatesSo 29 = .ok (.if_icmp .ne 7, 3) := by decide +kernel
theorem dL_areCandidatesSo_32 : decode cL_areCandidatesSo 32 = .ok (.iconst 1, 1) := by decide +kernel
theorem dL_areCandidatesSo_33 : decode cL_areCandidatesSo 33 = .ok (.goto 4, 3) := by decide +kernel
theorem dL_areCandidatesSo_36 : decode cL_areCandidatesSo 36 = .ok (.iconst 0, 1) := by decide +kernel
theorem dL_areCandidatesSo_37 : decode cL_areCandidatesSo 37 = .ok (.ireturn, 1) := by decide +kernel
theorem dL_areCandidatesSo_38 : decode cL_areCandidatesSo 38 = .ok (.iload_n 3, 1) := by decide +kernel
theorem dL_areCandidatesSo_39 : decode cL_areCandidatesSo 39 = .ok (.iload_n 2, 1) := by decide +kernel
theorem dL_areCandidatesSo_40 : decode cL_areCandidatesSo 40 = .ok (.ifCond .le 9, 3) := by decide +kernel
theorem dL_areCandidatesSo_43 : decode cL_areCandidatesSo 43 = .ok (.iconst 1, 1) := by decide +kernel
theorem dL_areCandidatesSo_44 : decode cL_areCandidatesSo 44 = .ok (.iload_n 2, 1) := by decide +kernel
theorem dL_areCandidatesSo_45 : decode cL_areCandidatesSo 45 = .ok (.ishl, 1) := by decide +kernel
theorem dL_areCandidatesSo_46 : decode cL_areCandidatesSo 46 = .ok (.goto 6, 3) := by decide +kernel
theorem dL_areCandidatesSo_49 : decode cL_areCandidatesSo 49 = .ok (.sipush 1022, 3) := by decide +kernel
theorem dL_areCandidatesSo_52 : decode cL_areCandidatesSo 52 = .ok (.if_icmp .eq 5, 3) := by decide +kernel
theorem dL_areCandidatesSo_55 : decode cL_areCandidatesSo 55 = .ok (.iconst 0, 1) := by decide +kernel
theorem dL_areCandidatesSo_56 : decode cL_areCandidatesSo 56 = .ok (.ireturn, 1) := by decide +kernel
theorem dL_areCandidatesSo_57 : decode cL_areCandidatesSo 57 = .ok (.aload_n 0, 1) := by decide +kernel
theorem dL_areCandidatesSo_58 : decode cL_areCandidatesSo 58 = .ok (.invokevirtual 93, 3) := by decide +kernel
theorem dL_areCandidatesSo_61 : decode cL_areCandidatesSo 61 = .ok (.istore 4, 2) := by decide +kernel
theorem dL_areCandidatesSo_63 : decode cL_areCandidatesSo 63 = .ok (.aload_n 0, 1) := by decide +kernel
theorem dL_areCandidatesSo_64 : decode cL_areCandidatesSo 64 = .ok (.invokevirtual 96, 3) := by decide +kernel
theorem dL_areCandidatesSo_67 : decode cL_areCandidatesSo 67 = .ok (.istore 5, 2) := by decide +kernel
theorem dL_areCandidatesSo_69 : decode cL_areCandidatesSo 69 = .ok (.aload_n 0, 1) := by decide +kernel
theorem dL_areCandidatesSo_70 : decode cL_areCandidatesSo 70 = .ok (.invokevirtual 99, 3) := by decide +kernel
theorem dL_areCandidatesSo_73 : decode cL_areCandidatesSo 73 = .ok (.istore 6, 2) := by decide +kernel
theorem dL_areCandidatesSo_75 : decode cL_areCandidatesSo 75 = .ok (.aload_n 0, 1) := by decide +kernel
theorem dL_areCandidatesSo_76 : decode cL_areCandidatesSo 76 = .ok (.iload_n 1, 1) := by decide +kernel
theorem dL_areCandidatesSo_77 : decode cL_areCandidatesSo 77 = .ok (.iconst 3, 1) := by decide +kernel
theorem dL_areCandidatesSo_78 : decode cL_areCandidatesSo 78 = .ok (.invokestatic 91, 3) := by decide +kernel
theorem dL_areCandidatesSo_81 : decode cL_areCandidatesSo 81 = .ok (.istore 7, 2) := by decide +kernel
theorem dL_areCandidatesSo_83 : decode cL_areCandidatesSo 83 = .ok (.aload_n 0, 1) := by decide +kernel
theorem dL_areCandidatesSo_84 : decode cL_areCandidatesSo 84 = .ok (.iload_n 1, 1) := by decide +kernel
theorem dL_areCandidatesSo_85 : decode cL_areCandidatesSo 85 = .ok (.iconst 1, 1) := by decide +kernel
theorem dL_areCandidatesSo_86 : decode cL_areCandidatesSo 86 = .ok (.invokestatic 91, 3) := by decide +kernel
theorem dL_areCandidatesSo_89 : decode cL_areCandidatesSo 89 = .ok (.aload_n 0, 1) := by decide +kernel
theorem dL_areCandidatesSo_90 : decode cL_areCandidatesSo 90 = .ok (.iload_n 1, 1) := by decide +kernel
theorem dL_areCandidatesSo_91 : decode cL_areCandidatesSo 91 = .ok (.iconst 1, 1) := by decide +kernel
theorem dL_areCandidatesSo_92 : decode cL_areCandidatesSo 92 = .ok (.invokestatic 91, 3) := by decide +kernel
theorem dL_areCandidatesSo_95 : decode cL_areCandidatesSo 95 = .ok (.iload_n 3, 1) := by decide +kernel
theorem dL_areCandidatesSo_96 : decode cL_areCandidatesSo 96 = .ok (.iand, 1) := by decide +kernel
theorem dL_areCandidatesSo_97 : decode cL_areCandidatesSo 97 = .ok (.if_icmp .ne 73, 3) := by decide +kernel
theorem dL_areCandidatesSo_100 : decode cL_areCandidatesSo 100 = .ok (.iload 7, 2) := by decide +kernel
theorem dL_areCandidatesSo_102 : decode cL_areCandidatesSo 102 = .ok (.iload_n 3, 1) := by decide +kernel
theorem dL_areCandidatesSo_103 : decode cL_areCandidatesSo 103 = .ok (.iconst (-1), 1) := by decide +kernel
theorem dL_areCandidatesSo_104 : decode cL_areCandidatesSo 104 = .ok (.ixor, 1) := by decide +kernel
theorem dL_areCandidatesSo_105 : decode cL_areCandidatesSo 105 = .ok (.iand, 1) := by decide +kernel
theorem dL_areCandidatesSo_106 : decode cL_areCandidatesSo 106 = .ok (.ifCond .ne 64, 3) := by decide +kernel
theorem dL_areCandidatesSo_109 : decode cL_areCandidatesSo 109 = .ok (.iload 4, 2) := by decide +kernel
theorem dL_areCandidatesSo_111 : decode cL_areCandidatesSo 111 = .ok (.iconst (-1), 1) := by decide +kernel
theorem dL_areCandidatesSo_112 : decode cL_areCandidatesSo 112 = .ok (.if_icmp .lt 58, 3) := by decide +kernel
theorem dL_areCandidatesSo_115 : decode cL_areCandidatesSo 115 = .ok (.iload 4, 2) := by decide +kernel
theorem dL_areCandidatesSo_117 : decode cL_areCandidatesSo 117 = .ok (.iconst 3, 1) := by decide +kernel
theorem dL_areCandidatesSo_118 : decode cL_areCandidatesSo 118 = .ok (.if_icmp .gt 52, 3) := by decide +kernel
theorem dL_areCandidatesSo_121 : decode cL_areCandidatesSo 121 = .ok (.iload 5, 2) := by decide +kernel
theorem dL_areCandidatesSo_123 : decode cL_areCandidatesSo 123 = .ok (.iconst (-1), 1) := by decide +kernel
theorem dL_areCandidatesSo_124 : decode cL_areCandidatesSo 124 = .ok (.if_icmp .ne 7, 3) := by decide +kernel
theorem dL_areCandidatesSo_127 : decode cL_areCandidatesSo 127 = .ok (.iconst 1, 1) := by decide +kernel
theorem dL_areCandidatesSo_128 : decode cL_areCandidatesSo 128 = .ok (.goto 4, 3) := by decide +kernel
theorem dL_areCandidatesSo_131 : decode cL_areCandidatesSo 131 = .ok (.iconst 0, 1) := by decide +kernel
theorem dL_areCandidatesSo_132 : decode cL_areCandidatesSo 132 = .ok (.iload 6, 2) := by decide +kernel
theorem dL_areCandidatesSo_134 : decode cL_areCandidatesSo 134 = .ok (.iconst (-1), 1) := by decide +kernel
theorem dL_areCandidatesSo_135 : decode cL_areCandidatesSo 135 = .ok (.if_icmp .ne 7, 3) := by decide +kernel
theorem dL_areCandidatesSo_138 : decode cL_areCandidatesSo 138 = .ok (.iconst 1, 1) := by decide +kernel
theorem dL_areCandidatesSo_139 : decode cL_areCandidatesSo 139 = .ok (.goto 4, 3) := by decide +kernel
theorem dL_areCandidatesSo_142 : decode cL_areCandidatesSo 142 = .ok (.iconst 0, 1) := by decide +kernel
theorem dL_areCandidatesSo_143 : decode cL_areCandidatesSo 143 = .ok (.if_icmp .ne 27, 3) := by decide +kernel
theorem dL_areCandidatesSo_146 : decode cL_areCandidatesSo 146 = .ok (.iload 4, 2) := by decide +kernel
theorem dL_areCandidatesSo_148 : decode cL_areCandidatesSo 148 = .ok (.ifCond .lt 18, 3) := by decide +kernel
theorem dL_areCandidatesSo_151 : decode cL_areCandidatesSo 151 = .ok (.iload 7, 2) := by decide +kernel
theorem dL_areCandidatesSo_153 : decode cL_areCandidatesSo 153 = .ok (.ifCond .eq 17, 3) := by decide +kernel
theorem dL_areCandidatesSo_156 : decode cL_areCandidatesSo 156 = .ok (.iload 7, 2) := by decide +kernel
theorem dL_areCandidatesSo_158 : decode cL_areCandidatesSo 158 = .ok (.iload 7, 2) := by decide +kernel
theorem dL_areCandidatesSo_160 : decode cL_areCandidatesSo 160 = .ok (.iconst 1, 1) := by decide +kernel
theorem dL_areCandidatesSo_161 : decode cL_areCandidatesSo 161 = .ok (.isub, 1) := by decide +kernel
theorem dL_areCandidatesSo_162 : decode cL_areCandidatesSo 162 = .ok (.iand, 1) := by decide +kernel
theorem dL_areCandidatesSo_163 : decode cL_areCandidatesSo 163 = .ok (.ifCond .ne 7, 3) := by decide +kernel
theorem dL_areCandidatesSo_166 : decode cL_areCandidatesSo 166 = .ok (.iconst 1, 1) := by decide +kernel
theorem dL_areCandidatesSo_167 : decode cL_areCandidatesSo 167 = .ok (.goto 4, 3) := by decide +kernel
theorem dL_areCandidatesSo_170 : decode cL_areCandidatesSo 170 = .ok (.iconst 0, 1) := by decide +kernel
theorem dL_areCandidatesSo_171 : decode cL_areCandidatesSo 171 = .ok (.istore 8, 2) := by decide +kernel
theorem dL_areCandidatesSo_173 : decode cL_areCandidatesSo 173 = .ok (.iload 8, 2) := by decide +kernel
theorem dL_areCandidatesSo_175 : decode cL_areCandidatesSo 175 = .ok (.ifCond .eq 8, 3) := by decide +kernel
theorem dL_areCandidatesSo_178 : decode cL_areCandidatesSo 178 = .ok (.iload 5, 2) := by decide +kernel
theorem dL_areCandidatesSo_180 : decode cL_areCandidatesSo 180 = .ok (.ifCond .ge 25, 3) := by decide +kernel
theorem dL_areCandidatesSo_183 : decode cL_areCandidatesSo 183 = .ok (.iload 8, 2) := by decide +kernel
theorem dL_areCandidatesSo_185 : decode cL_areCandidatesSo 185 = .ok (.ifCond .eq 18, 3) := by decide +kernel
theorem dL_areCandidatesSo_188 : decode cL_areCandidatesSo 188 = .ok (.iload 4, 2) := by decide +kernel
theorem dL_areCandidatesSo_190 : decode cL_areCandidatesSo 190 = .ok (.iconst 1, 1) := by decide +kernel
theorem dL_areCandidatesSo_191 : decode cL_areCandidatesSo 191 = .ok (.if_icmp .lt 8, 3) := by decide +kernel
theorem dL_areCandidatesSo_194 : decode cL_areCandidatesSo 194 = .ok (.iload 5, 2) := by decide +kernel
theorem dL_areCandidatesSo_196 : decode cL_areCandidatesSo 196 = .ok (.ifCond .lt 7, 3) := by decide +kernel
theorem dL_areCandidatesSo_199 : decode cL_areCandidatesSo 199 = .ok (.iconst 1, 1) := by decide +kernel
theorem dL_areCandidatesSo_200 : decode cL_areCandidatesSo 200 = .ok (.goto 4, 3) := by decide +kernel
theorem dL_areCandidatesSo_203 : decode cL_areCandidatesSo 203 = .ok (.iconst 0, 1) := by decide +kernel
theorem dL_areCandidatesSo_204 : decode cL_areCandidatesSo 204 = .ok (.ireturn, 1) := by decide +kernel
theorem dL_areCandidatesSo_205 : decode cL_areCandidatesSo 205 = .ok (.aload_n 0, 1) := by decide +kernel
theorem dL_areCandidatesSo_206 : decode cL_areCandidatesSo 206 = .ok (.iload 5, 2) := by decide +kernel
theorem dL_areCandidatesSo_208 : decode cL_areCandidatesSo 208 = .ok (.iload 6, 2) := by decide +kernel
theorem dL_areCandidatesSo_210 : decode cL_areCandidatesSo 210 = .ok (.invokestatic 91, 3) := by decide +kernel
theorem dL_areCandidatesSo_213 : decode cL_areCandidatesSo 213 = .ok (.istore 9, 2) := by decide +kernel
theorem dL_areCandidatesSo_215 : decode cL_areCandidatesSo 215 = .ok (.aload_n 0, 1) := by decide +kernel
theorem dL_areCandidatesSo_216 : decode cL_areCandidatesSo 216 = .ok (.iload 5, 2) := by decide +kernel
theorem dL_areCandidatesSo_218 : decode cL_areCandidatesSo 218 = .ok (.invokestatic 89, 3) := by decide +kernel
theorem dL_areCandidatesSo_221 : decode cL_areCandidatesSo 221 = .ok (.ifCond .ne 34, 3) := by decide +kernel
theorem dL_areCandidatesSo_224 : decode cL_areCandidatesSo 224 = .ok (.iload 9, 2) := by decide +kernel
theorem dL_areCandidatesSo_226 : decode cL_areCandidatesSo 226 = .ok (.ifCond .eq 29, 3) := by decide +kernel
theorem dL_areCandidatesSo_229 : decode cL_areCandidatesSo 229 = .ok (.iload 9, 2) := by decide +kernel
theorem dL_areCandidatesSo_231 : decode cL_areCandidatesSo 231 = .ok (.iload 9, 2) := by decide +kernel
theorem dL_areCandidatesSo_233 : decode cL_areCandidatesSo 233 = .ok (.iconst 1, 1) := by decide +kernel
theorem dL_areCandidatesSo_234 : decode cL_areCandidatesSo 234 = .ok (.isub, 1) := by decide +kernel
theorem dL_areCandidatesSo_235 : decode cL_areCandidatesSo 235 = .ok (.iand, 1) := by decide +kernel
theorem dL_areCandidatesSo_236 : decode cL_areCandidatesSo 236 = .ok (.ifCond .ne 19, 3) := by decide +kernel
theorem dL_areCandidatesSo_239 : decode cL_areCandidatesSo 239 = .ok (.iload 6, 2) := by decide +kernel
theorem dL_areCandidatesSo_241 : decode cL_areCandidatesSo 241 = .ok (.iconst 1, 1) := by decide +kernel
theorem dL_areCandidatesSo_242 : decode cL_areCandidatesSo 242 = .ok (.if_icmp .lt 13, 3) := by decide +kernel
theorem dL_areCandidatesSo_245 : decode cL_areCandidatesSo 245 = .ok (.iload 6, 2) := by decide +kernel
theorem dL_areCandidatesSo_247 : decode cL_areCandidatesSo 247 = .ok (.iconst 3, 1) := by decide +kernel
theorem dL_areCandidatesSo_248 : decode cL_areCandidatesSo 248 = .ok (.if_icmp .gt 7, 3) := by decide +kernel
theorem dL_areCandidatesSo_251 : decode cL_areCandidatesSo 251 = .ok (.iconst 1, 1) := by decide +kernel
theorem dL_areCandidatesSo_252 : decode cL_areCandidatesSo 252 = .ok (.goto 4, 3) := by decide +kernel
theorem dL_areCandidatesSo_255 : decode cL_areCandidatesSo 255 = .ok (.iconst 0, 1) := by decide +kernel
theorem dL_areCandidatesSo_256 : decode cL_areCandidatesSo 256 = .ok (.ireturn, 1) := by decide +kernel
set_option maxRecDepth 20000 in
theorem ggL_areAnswersSo_L_byAll : GoodIn wsL_areAnswersSo wsL_byAll := goodIn_ca (goodIn_r _ [5, 6, 7, 8, 9, 10, 11, 12, 13, 14, 15, 16, 17, 18, 19, 20, 21, 22, 23, 24, 25, 26, 27, 28, 29, 30, 31, 32, 33, 34, 35, 36, 37, 38, 39, 40, 41, 42, 43, 44, 45, 46, 47, 48, 49, 50, 51, 52, 53, 54, 55, 56, 57, 58, 59, 60, 61, 62, 63, 64, 65, 66, 67, 68, 69, 70, 71, 72, 73, 74, 75, 76, 77, 78, 79, 80, 81, 82, 83, 84, 85, 86, 87, 88, 89, 90, 166, 167, 168, 169, 170, 171, 172, 173, 174, 175, 176, 177, 178, 179, 180, 181, 182, 183] (by decide +kernel) (by decide +kernel)) (goodIn_sub (fun _ h => List.mem_cons_of_mem _ (List.mem_append_left _ (List.mem_append_left _ (List.mem_append_right _ h)))) (by decide +kernel))
set_option maxRecDepth 20000 in
theorem gL_areAnswersSo_L_byAll : GoodIn wsL_areAnswersSo (va_wsS RL 102 yL_byAll wsL_byAll) := goodIn_app (goodIn_of _ (by decide +kernel)) ggL_areAnswersSo_L_byAll
set_option maxRecDepth 20000 in
theorem ggL_areAnswersSo_X3_answers : GoodIn wsL_areAnswersSo wsX3_answers := goodIn_ca (goodIn_r _ [94, 95, 96, 15, 97, 98, 99, 36, 100, 38, 39, 40, 46, 41, 42, 43, 44, 45, 47, 10, 48, 49, 50, 51, 19, 52, 25, 26, 27, 28, 29, 30, 31, 32, 53, 54, 55, 56, 57, 22, 23, 24, 62, 63, 64, 65, 66, 67, 68, 69, 70, 71, 72, 73, 74, 75, 76, 77, 78, 79, 80, 81, 82, 83, 84, 85, 86, 87, 88, 89, 90, 101, 102, 103, 104, 105, 106, 107, 108, 109, 110, 111, 112, 113, 114, 115, 116, 117, 118, 119, 120, 121, 122, 123, 124, 125, 126, 127, 128, 129, 130, 166, 167, 168, 178, 179, 180, 181, 182, 183, 169, 170, 171, 172, 173, 174, 175, 176, 177] (by decide +kernel) (by decide +kernel)) (goodIn_sub (fun _ h => List.mem_cons_of_mem _ (List.mem_append_left _ (List.mem_append_right _ h))) (by decide +kernel))
set_option maxRecDepth 20000 in
theorem gL_areAnswersSo_X3_answers : GoodIn wsL_areAnswersSo (wsV RL 105 RX3 yX3_answers wsX3_answers) := goodIn_app (goodIn_of _ (by decide +kernel)) ggL_areAnswersSo_X3_answers
set_option maxRecDepth 20000 in
theorem ggL_areAnswersSo_L_digit : GoodIn wsL_areAnswersSo wsL_digit := goodIn_ca (goodIn_r _ [133, 134, 135, 136, 137, 10, 138, 14, 139, 140, 141, 142, 143, 144, 145, 27, 28, 19, 29, 30, 146, 54, 55, 56, 25, 31, 32, 166, 167, 168, 169, 170, 171, 172, 173, 174, 175, 176, 177] (by decide +kernel) (by decide +kernel)) (goodIn_sub (fun _ h => List.mem_cons_of_mem _ (List.mem_append_right _ h)) (by decide +kernel))
set_option maxRecDepth 20000 in
theorem gL_areAnswersSo_L_digit : GoodIn wsL_areAnswersSo (va_wsS RL 89 yL_digit wsL_digit) := goodIn_app (goodIn_of _ (by decide +kernel)) ggL_areAnswersSo_L_digit
set_option maxRecDepth 20000 in
theorem ggL_areAnswersSo_L_mend : GoodIn wsL_areAnswersSo wsL_mend := goodIn_ca (goodIn_r _ [149, 6, 1, 150, 151, 152, 10, 153, 12, 13, 15, 14, 97, 98, 99, 36, 100, 38, 39, 40, 46, 41, 42, 43, 44, 45, 47, 48, 49, 50, 51, 19, 52, 25, 26, 27, 28, 29, 30, 31, 32, 53, 54, 55, 56, 57, 22, 23, 24, 62, 63, 64, 65, 66, 67, 68, 69, 70, 71, 72, 73, 74, 75, 76, 77, 78, 79, 80, 81, 82, 83, 84, 85, 86, 87, 88, 89, 90, 101, 102, 103, 104, 105, 106, 107, 108, 109, 110, 111, 112, 113, 114, 115, 116, 117, 118, 119, 120, 121, 122, 123, 124, 125, 126, 127, 128, 129, 130, 154, 155, 156, 157, 158, 159, 160, 161, 162, 163, 164, 165, 166, 167, 168, 178, 179, 180, 181, 182, 183, 169, 170, 171, 172, 173, 174, 175, 176, 177] (by decide +kernel) (by decide +kernel)) (goodIn_sub (fun _ h => List.mem_cons_of_mem _ (List.mem_append_left _ (List.mem_append_left _ (List.mem_append_right _ h)))) (by decide +kernel))
set_option maxRecDepth 20000 in
theorem gL_areAnswersSo_L_mend : GoodIn wsL_areAnswersSo (va_wsS RL 70 yL_mend wsL_mend) := goodIn_app (goodIn_of _ (by decide +kernel)) ggL_areAnswersSo_L_mend
theorem dL_areAnswersSo_0 : decode cL_areAnswersSo 0 = .ok (.aload_n 0, 1) := by decide +kernel
theorem dL_areAnswersSo_1 : decode cL_areAnswersSo 1 = .ok (.invokestatic 102, 3) := by decide +kernel
theorem dL_areAnswersSo_4 : decode cL_areAnswersSo 4 = .ok (.istore_n 2, 1) := by decide +kernel
theorem dL_areAnswersSo_5 : decode cL_areAnswersSo 5 = .ok (.aload_n 0, 1) := by decide +kernel
theorem dL_areAnswersSo_6 : decode cL_areAnswersSo 6 = .ok (.iconst 2, 1) := by decide +kernel
theorem dL_areAnswersSo_7 : decode cL_areAnswersSo 7 = .ok (.invokevirtual 105, 3) := by decide +kernel
theorem dL_areAnswersSo_10 : decode cL_areAnswersSo 10 = .ok (.istore_n 3, 1) := by decide +kernel
theorem dL_areAnswersSo_11 : decode cL_areAnswersSo 11 = .ok (.iconst 0, 1) := by decide +kernel
theorem dL_areAnswersSo_12 : decode cL_areAnswersSo 12 = .ok (.istore 4, 2) := by decide +kernel
theorem dL_areAnswersSo_14 : decode cL_areAnswersSo 14 = .ok (.iconst 0, 1) := by decide +kernel
theorem dL_areAnswersSo_15 : decode cL_areAnswersSo 15 = .ok (.istore 5, 2) := by decide +kernel
theorem dL_areAnswersSo_17 : decode cL_areAnswersSo 17 = .ok (.iload 5, 2) := by decide +kernel
theorem dL_areAnswersSo_19 : decode cL_areAnswersSo 19 = .ok (.bipush 16, 2) := by decide +kernel
theorem dL_areAnswersSo_21 : decode cL_areAnswersSo 21 = .ok (.if_icmp .ge 28, 3) := by decide +kernel
theorem dL_areAnswersSo_24 : decode cL_areAnswersSo 24 = .ok (.iload 4, 2) := by decide +kernel
theorem dL_areAnswersSo_26 : decode cL_areAnswersSo 26 = .ok (.aload_n 0, 1) := by decide +kernel
theorem dL_areAnswersSo_27 : decode cL_areAnswersSo 27 = .ok (.iload 5, 2) := by decide +kernel
theorem dL_areAnswersSo_29 : decode cL_areAnswersSo 29 = .ok (.invokestatic 89, 3) := by decide +kernel
theorem dL_areAnswersSo_32 : decode cL_areAnswersSo 32 = .ok (.ifCond .ne 7, 3) := by decide +kernel
theorem dL_areAnswersSo_35 : decode cL_areAnswersSo 35 = .ok (.iconst 1, 1) := by decide +kernel
theorem dL_areAnswersSo_36 : decode cL_areAnswersSo 36 = .ok (.goto 4, 3) := by decide +kernel
theorem dL_areAnswersSo_39 : decode cL_areAnswersSo 39 = .ok (.iconst 0, 1) := by decide +kernel
theorem dL_areAnswersSo_40 : decode cL_areAnswersSo 40 = .ok (.iadd, 1) := by decide +kernel
theorem dL_areAnswersSo_41 : decode cL_areAnswersSo 41 = .ok (.istore 4, 2) := by decide +kernel
theorem dL_areAnswersSo_43 : decode cL_areAnswersSo 43 = .ok (.iinc 5 1, 3) := by decide +kernel
theorem dL_areAnswersSo_46 : decode cL_areAnswersSo 46 = .ok (.goto (-29), 3) := by decide +kernel
theorem dL_areAnswersSo_49 : decode cL_areAnswersSo 49 = .ok (.iload_n 2, 1) := by decide +kernel
theorem dL_areAnswersSo_50 : decode cL_areAnswersSo 50 = .ok (.iconst (-1), 1) := by decide +kernel
theorem dL_areAnswersSo_51 : decode cL_areAnswersSo 51 = .ok (.if_icmp .ne 7, 3) := by decide +kernel
theorem dL_areAnswersSo_54 : decode cL_areAnswersSo 54 = .ok (.iconst 1, 1) := by decide +kernel
theorem dL_areAnswersSo_55 : decode cL_areAnswersSo 55 = .ok (.goto 4, 3) := by decide +kernel
theorem dL_areAnswersSo_58 : decode cL_areAnswersSo 58 = .ok (.iconst 0, 1) := by decide +kernel
theorem dL_areAnswersSo_59 : decode cL_areAnswersSo 59 = .ok (.iload 4, 2) := by decide +kernel
theorem dL_areAnswersSo_61 : decode cL_areAnswersSo 61 = .ok (.iconst 4, 1) := by decide +kernel
theorem dL_areAnswersSo_62 : decode cL_areAnswersSo 62 = .ok (.if_icmp .le 7, 3) := by decide +kernel
theorem dL_areAnswersSo_65 : decode cL_areAnswersSo 65 = .ok (.iconst 1, 1) := by decide +kernel
theorem dL_areAnswersSo_66 : decode cL_areAnswersSo 66 = .ok (.goto 4, 3) := by decide +kernel
theorem dL_areAnswersSo_69 : decode cL_areAnswersSo 69 = .ok (.iconst 0, 1) := by decide +kernel
theorem dL_areAnswersSo_70 : decode cL_areAnswersSo 70 = .ok (.if_icmp .ne 39, 3) := by decide +kernel
theorem dL_areAnswersSo_73 : decode cL_areAnswersSo 73 = .ok (.iload_n 2, 1) := by decide +kernel
theorem dL_areAnswersSo_74 : decode cL_areAnswersSo 74 = .ok (.ifCond .lt 37, 3) := by decide +kernel
theorem dL_areAnswersSo_77 : decode cL_areAnswersSo 77 = .ok (.aload_n 0, 1) := by decide +kernel
theorem dL_areAnswersSo_78 : decode cL_areAnswersSo 78 = .ok (.iconst 5, 1) := by decide +kernel
theorem dL_areAnswersSo_79 : decode cL_areAnswersSo 79 = .ok (.invokevirtual 105, 3) := by decide +kernel
theorem dL_areAnswersSo_82 : decode cL_areAnswersSo 82 = .ok (.iload_n 2, 1) := by decide +kernel
theorem dL_areAnswersSo_83 : decode cL_areAnswersSo 83 = .ok (.iconst 5, 1) := by decide +kernel
theorem dL_areAnswersSo_84 : decode cL_areAnswersSo 84 = .ok (.if_icmp .ge 7, 3) := by decide +kernel
theorem dL_areAnswersSo_87 : decode cL_areAnswersSo 87 = .ok (.iload_n 2, 1) := by decide +kernel
theorem dL_areAnswersSo_88 : decode cL_areAnswersSo 88 = .ok (.goto 4, 3) := by decide +kernel
theorem dL_areAnswersSo_91 : decode cL_areAnswersSo 91 = .ok (.iconst 5, 1) := by decide +kernel
theorem dL_areAnswersSo_92 : decode cL_areAnswersSo 92 = .ok (.if_icmp .ne 17, 3) := by decide +kernel
theorem dL_areAnswersSo_95 : decode cL_areAnswersSo 95 = .ok (.iload_n 3, 1) := by decide +kernel
theorem dL_areAnswersSo_96 : decode cL_areAnswersSo 96 = .ok (.iload_n 2, 1) := by decide +kernel
theorem dL_areAnswersSo_97 : decode cL_areAnswersSo 97 = .ok (.iconst 2, 1) := by decide +kernel
theorem dL_areAnswersSo_98 : decode cL_areAnswersSo 98 = .ok (.if_icmp .ge 7, 3) := by decide +kernel
theorem dL_areAnswersSo_101 : decode cL_areAnswersSo 101 = .ok (.iload_n 2, 1) := by decide +kernel
theorem dL_areAnswersSo_102 : decode cL_areAnswersSo 102 = .ok (.goto 4, 3) := by decide +kernel
theorem dL_areAnswersSo_105 : decode cL_areAnswersSo 105 = .ok (.iconst 2, 1) := by decide +kernel
theorem dL_areAnswersSo_106 : decode cL_areAnswersSo 106 = .ok (.if_icmp .eq 5, 3) := by decide +kernel
theorem dL_areAnswersSo_109 : decode cL_areAnswersSo 109 = .ok (.iconst 0, 1) := by decide +kernel
theorem dL_areAnswersSo_110 : decode cL_areAnswersSo 110 = .ok (.ireturn, 1) := by decide +kernel
theorem dL_areAnswersSo_111 : decode cL_areAnswersSo 111 = .ok (.iload_n 3, 1) := by decide +kernel
theorem dL_areAnswersSo_112 : decode cL_areAnswersSo 112 = .ok (.ifCond .lt 89, 3) := by decide +kernel
theorem dL_areAnswersSo_115 : decode cL_areAnswersSo 115 = .ok (.aload_n 0, 1) := by decide +kernel
theorem dL_areAnswersSo_116 : decode cL_areAnswersSo 116 = .ok (.invokestatic 70, 3) := by decide +kernel
theorem dL_areAnswersSo_119 : decode cL_areAnswersSo 119 = .ok (.istore 5, 2) := by decide +kernel
theorem dL_areAnswersSo_121 : decode cL_areAnswersSo 121 = .ok (.iload 5, 2) := by decide +kernel
theorem dL_areAnswersSo_123 : decode cL_areAnswersSo 123 = .ok (.iconst (-1), 1) := by decide +kernel
theorem dL_areAnswersSo_124 : decode cL_areAnswersSo 124 = .ok (.if_icmp .ne 7, 3) := by decide +kernel
theorem dL_areAnswersSo_127 : decode cL_areAnswersSo 127 = .ok (.iconst 1, 1) := by decide +kernel
theorem dL_areAnswersSo_128 : decode cL_areAnswersSo 128 = .ok (.goto 4, 3) := by decide +kernel
theorem dL_areAnswersSo_131 : decode cL_areAnswersSo 131 = .ok (.iconst 0, 1) := by decide +kernel
theorem dL_areAnswersSo_132 : decode cL_areAnswersSo 132 = .ok (.iload_n 3, 1) := by decide +kernel
theorem dL_areAnswersSo_133 : decode cL_areAnswersSo 133 = .ok (.iconst 2, 1) := by decide +kernel
theorem dL_areAnswersSo_134 : decode cL_areAnswersSo 134 = .ok (.if_icmp .ge 7, 3) := by decide +kernel
theorem dL_areAnswersSo_137 : decode cL_areAnswersSo 137 = .ok (.iconst 1, 1) := by decide +kernel
theorem dL_areAnswersSo_138 : decode cL_areAnswersSo 138 = .ok (.goto 4, 3) := by decide +kernel
theorem dL_areAnswersSo_141 : decode cL_areAnswersSo 141 = .ok (.iconst 0, 1) := by decide +kernel
theorem dL_areAnswersSo_142 : decode cL_areAnswersSo 142 = .ok (.if_icmp .ne 17, 3) := by decide +kernel
theorem dL_areAnswersSo_145 : decode cL_areAnswersSo 145 = .ok (.aload_n 1, 1) := by decide +kernel
theorem dL_areAnswersSo_146 : decode cL_areAnswersSo 146 = .ok (.invokestatic 70, 3) := by decide +kernel
theorem dL_areAnswersSo_149 : decode cL_areAnswersSo 149 = .ok (.iload 5, 2) := by decide +kernel
theorem dL_areAnswersSo_151 : decode cL_areAnswersSo 151 = .ok (.if_icmp .eq 10, 3) := by decide +kernel
theorem dL_areAnswersSo_154 : decode cL_areAnswersSo 154 = .ok (.iload 5, 2) := by decide +kernel
theorem dL_areAnswersSo_156 : decode cL_areAnswersSo 156 = .ok (.ifCond .lt 5, 3) := by decide +kernel
theorem dL_areAnswersSo_159 : decode cL_areAnswersSo 159 = .ok (.iconst 0, 1) := by decide +kernel
theorem dL_areAnswersSo_160 : decode cL_areAnswersSo 160 = .ok (.ireturn, 1) := by decide +kernel
theorem dL_areAnswersSo_161 : decode cL_areAnswersSo 161 = .ok (.iload_n 3, 1) := by decide +kernel
theorem dL_areAnswersSo_162 : decode cL_areAnswersSo 162 = .ok (.iconst 2, 1) := by decide +kernel
theorem dL_areAnswersSo_163 : decode cL_areAnswersSo 163 = .ok (.if_icmp .lt 32, 3) := by decide +kernel
theorem dL_areAnswersSo_166 : decode cL_areAnswersSo 166 = .ok (.aload_n 0, 1) := by decide +kernel
theorem dL_areAnswersSo_167 : decode cL_areAnswersSo 167 = .ok (.iload 5, 2) := by decide +kernel
theorem dL_areAnswersSo_169 : decode cL_areAnswersSo 169 = .ok (.invokestatic 89, 3) := by decide +kernel
theorem dL_areAnswersSo_172 : decode cL_areAnswersSo 172 = .ok (.ifCond .le 27, 3) := by decide +kernel
theorem dL_areAnswersSo_175 : decode cL_areAnswersSo 175 = .ok (.iload_n 2, 1) := by decide +kernel
theorem dL_areAnswersSo_176 : decode cL_areAnswersSo 176 = .ok (.ifCond .lt 19, 3) := by decide +kernel
theorem dL_areAnswersSo_179 : decode cL_areAnswersSo 179 = .ok (.aload_n 0, 1) := by decide +kernel
theorem dL_areAnswersSo_180 : decode cL_areAnswersSo 180 = .ok (.invokestatic 102, 3) := by decide +kernel
theorem dL_areAnswersSo_183 : decode cL_areAnswersSo 183 = .ok (.iconst 1, 1) := by decide +kernel
theorem dL_areAnswersSo_184 : decode cL_areAnswersSo 184 = .ok (.if_icmp .lt 15, 3) := by decide +kernel
theorem dL_areAnswersSo_187 : decode cL_areAnswersSo 187 = .ok (.aload_n 0, 1) := by decide +kernel
theorem dL_areAnswersSo_188 : decode cL_areAnswersSo 188 = .ok (.invokestatic 102, 3) := by decide +kernel
theorem dL_areAnswersSo_191 : decode cL_areAnswersSo 191 = .ok (.iload_n 2, 1) := by decide +kernel
theorem dL_areAnswersSo_192 : decode cL_areAnswersSo 192 = .ok (.if_icmp .ge 7, 3) := by decide +kernel
theorem dL_areAnswersSo_195 : decode cL_areAnswersSo 195 = .ok (.iconst 1, 1) := by decide +kernel
theorem dL_areAnswersSo_196 : decode cL_areAnswersSo 196 = .ok (.goto 4, 3) := by decide +kernel
theorem dL_areAnswersSo_199 : decode cL_areAnswersSo 199 = .ok (.iconst 0, 1) := by decide +kernel
theorem dL_areAnswersSo_200 : decode cL_areAnswersSo 200 = .ok (.ireturn, 1) := by decide +kernel
theorem dL_areAnswersSo_201 : decode cL_areAnswersSo 201 = .ok (.aload_n 0, 1) := by decide +kernel
theorem dL_areAnswersSo_202 : decode cL_areAnswersSo 202 = .ok (.invokestatic 70, 3) := by decide +kernel
theorem dL_areAnswersSo_205 : decode cL_areAnswersSo 205 = .ok (.ldc 16, 2) := by decide +kernel
theorem dL_areAnswersSo_207 : decode cL_areAnswersSo 207 = .ok (.if_icmp .ne 7, 3) := by decide +kernel
theorem dL_areAnswersSo_210 : decode cL_areAnswersSo 210 = .ok (.iconst 1, 1) := by decide +kernel
theorem dL_areAnswersSo_211 : decode cL_areAnswersSo 211 = .ok (.goto 4, 3) := by decide +kernel
theorem dL_areAnswersSo_214 : decode cL_areAnswersSo 214 = .ok (.iconst 0, 1) := by decide +kernel
theorem dL_areAnswersSo_215 : decode cL_areAnswersSo 215 = .ok (.ireturn, 1) := by decide +kernel
set_option maxRecDepth 20000 in
theorem ggL_law_X3_init : GoodIn wsL_law wsX3_init := goodIn_r _ [6, 7, 8, 9, 10, 11, 12, 13, 14, 15, 16, 17, 18, 19, 20, 21, 22, 23, 24, 25, 26, 27, 28, 29, 30, 31, 32, 33, 34, 35, 36, 37, 38, 39, 40, 41, 42, 43, 44, 45, 46, 47, 48, 49, 50, 51, 52, 53, 54, 55, 56, 57, 58, 59, 60, 61, 62, 63, 64, 65, 66, 67, 68, 69, 70, 71, 72, 73, 74, 75, 2, 76, 77, 78, 79, 80, 81, 82, 464, 465, 466, 467, 468, 469, 470, 471, 472, 461, 462, 463, 473, 474, 475, 476, 477, 478, 479, 480, 481, 482, 483] (by decide +kernel) (by decide +kernel)
set_option maxRecDepth 20000 in
theorem gL_law_X3_init : GoodIn wsL_law (wsX3_init) := ggL_law_X3_init
set_option maxRecDepth 20000 in
theorem ggL_law_L_cell : GoodIn wsL_law wsL_cell := goodIn_r _ [86] (by decide +kernel) (by decide +kernel)
set_option maxRecDepth 20000 in
theorem gL_law_L_cell : GoodIn wsL_law (va_wsS RL 109 yL_cell wsL_cell) := goodIn_app (goodIn_of _ (by decide +kernel)) ggL_law_L_cell
set_option maxRecDepth 20000 in
theorem ggL_law_L_act : GoodIn wsL_law wsL_act := goodIn_ca (goodIn_ca (goodIn_ca (goodIn_r _ [89, 90, 91, 85, 92, 93, 94, 95, 96, 97, 3, 98, 99, 100, 2, 101, 102, 103, 13, 49, 50, 51, 12, 52, 53, 26, 54, 55, 56, 57, 58, 59, 60, 61, 62, 30, 31, 32, 63, 64, 65, 66, 67, 68, 69, 70, 71, 72, 73, 74, 75, 76, 77, 78, 79, 80, 27, 28, 29, 81, 82, 104, 105, 106, 107, 108, 109, 110, 111, 112, 113, 114, 115, 116, 117, 118, 119, 120, 121, 122, 123, 124, 125, 126, 127, 128, 129, 130, 131, 132, 133, 134, 135, 136, 137, 138, 139, 140, 141, 142, 143, 144, 145, 146, 147, 148, 149, 150, 151, 152, 153, 154, 155, 156, 157, 158, 159, 160, 161, 162, 163, 164, 165, 166, 167, 168, 169, 170, 171, 172, 173, 174, 175, 176, 177, 178, 179, 180, 181, 182, 183, 184, 185, 186, 187, 188, 189, 190, 191, 192, 193, 194, 195, 196, 197, 198, 199, 200, 201, 202, 203, 204, 17, 205, 206, 207, 16, 208, 209, 41, 39, 37, 210, 211, 212, 213, 38, 214, 215, 216, 217, 218, 219, 220, 221, 222, 223, 224, 225, 226, 227, 228, 229, 230, 231, 232, 233, 234, 235, 236, 237, 238, 239, 240, 241, 242, 243, 244, 245, 246, 247, 248, 249, 250, 40, 251, 252, 253, 254, 255, 256, 257, 258, 259, 260, 261, 262, 263, 264, 265, 266, 267, 268, 269, 270, 271, 272, 273, 274, 275, 276, 277, 278, 279, 280, 281, 282, 283, 284, 285, 286, 287, 288, 289, 290, 291, 292, 293, 294, 295, 296, 297, 298, 461, 462, 463, 464, 465, 466, 467, 468, 469, 470, 471, 472, 473, 474, 475, 476, 477, 478] (by decide +kernel) (by decide +kernel)) (goodIn_sub (fun _ h => List.mem_append_left _ (List.mem_append_left _ (List.mem_append_right _ h))) (by decide +kernel))) (goodIn_sub (fun _ h => List.mem_append_left _ (List.mem_append_right _ h)) (by decide +kernel))) (goodIn_sub (fun _ h => List.mem_append_right _ h) (by decide +kernel))
set_option maxRecDepth 20000 in
theorem gL_law_L_act : GoodIn wsL_law (va_wsS RL 113 yL_act wsL_act) := goodIn_app (goodIn_of _ (by decide +kernel)) ggL_law_L_act
set_option maxRecDepth 20000 in
theorem ggL_law_L_areAlike : GoodIn wsL_law wsL_areAlike := goodIn_ca (goodIn_r _ [301, 193, 194, 195, 2, 196, 13, 197, 140, 141, 12, 142, 67, 68, 69, 70, 26, 71, 72, 73, 74, 53, 75, 76, 267, 268, 269, 270, 189, 190, 191, 192, 62, 302, 303, 304, 305, 278, 279, 280, 281, 116, 117, 282, 283, 284, 285, 286, 225, 226, 227, 30, 306, 307, 308, 309, 310, 311, 312, 313, 27, 314, 315, 316, 317, 318, 174, 175, 176, 29, 319, 320, 85, 321, 107, 322, 323, 324, 325, 112, 113, 114, 115, 118, 298, 216, 217, 218, 461, 462, 463, 464, 465, 466, 467, 468, 469, 470, 471, 472] (by decide +kernel) (by decide +kernel)) (goodIn_sub (fun _ h => List.mem_append_left _ (List.mem_append_right _ h)) (by decide +kernel))
set_option maxRecDepth 20000 in
theorem gL_law_L_areAlike : GoodIn wsL_law (va_wsS RL 116 yL_areAlike wsL_areAlike) := goodIn_app (goodIn_of _ (by decide +kernel)) ggL_law_L_areAlike
set_option maxRecDepth 20000 in
theorem ggL_law_L_low : GoodIn wsL_law wsL_low := goodIn_r _ [92, 93] (by decide +kernel) (by decide +kernel)
set_option maxRecDepth 20000 in
theorem gL_law_L_low : GoodIn wsL_law (va_wsS RL 52 yL_low wsL_low) := goodIn_app (goodIn_of _ (by decide +kernel)) ggL_law_L_low
set_option maxRecDepth 20000 in
theorem ggL_law_L_areCandidatesSo : GoodIn wsL_law wsL_areCandidatesSo := goodIn_ca (goodIn_ca (goodIn_r _ [328, 319, 320, 85, 321, 107, 322, 323, 324, 2, 325, 13, 112, 113, 114, 115, 116, 117, 118, 72, 73, 12, 74, 53, 298, 216, 217, 218, 26, 75, 76, 329, 330, 331, 97, 3, 332, 333, 334, 335, 102, 103, 21, 336, 337, 338, 20, 339, 340, 341, 342, 343, 344, 345, 346, 347, 348, 349, 46, 350, 351, 352, 353, 48, 354, 68, 69, 70, 71, 355, 162, 163, 164, 356, 81, 82, 357, 358, 359, 360, 361, 190, 191, 192, 62, 362, 363, 364, 365, 366, 174, 175, 176, 29, 367, 178, 179, 180, 27, 28, 368, 369, 370, 371, 372, 373, 374, 375, 376, 377, 378, 379, 380, 381, 382, 225, 226, 227, 30, 383, 384, 385, 386, 387, 388, 389, 390, 391, 392, 393, 394, 395, 396, 47, 397, 398, 399, 400, 401, 402, 403, 404, 405, 406, 407, 408, 409, 410, 411, 412, 413, 414, 415, 416, 417, 418, 419, 420, 421, 422, 423, 424, 425, 426, 427, 428, 429, 430, 431, 432, 433, 434, 435, 436, 437, 461, 462, 463, 464, 465, 466, 467, 468, 469, 470, 471, 472, 479, 480, 481, 482, 483] (by decide +kernel) (by decide +kernel)) (goodIn_sub (fun _ h => List.mem_append_left _ (List.mem_append_right _ h)) (by decide +kernel))) (goodIn_sub (fun _ h => List.mem_append_left _ (List.mem_append_left _ (List.mem_append_right _ h))) (by decide +kernel))
set_option maxRecDepth 20000 in
theorem gL_law_L_areCandidatesSo : GoodIn wsL_law (va_wsS RL 120 yL_areCandidatesSo wsL_areCandidatesSo) := goodIn_app (goodIn_of _ (by decide +kernel)) ggL_law_L_areCandidatesSo
set_option maxRecDepth 20000 in
theorem ggL_law_L_areAnswersSo : GoodIn wsL_law wsL_areAnswersSo := goodIn_ca (goodIn_ca (goodIn_ca (goodIn_r _ [440, 3, 441, 442, 85, 443, 146, 444, 445, 446, 2, 447, 151, 152, 13, 17, 448, 158, 159, 12, 160, 161, 162, 163, 164, 26, 71, 72, 73, 74, 53, 75, 76, 449, 450, 451, 16, 452, 209, 41, 39, 210, 211, 212, 213, 38, 37, 81, 82, 214, 68, 69, 70, 215, 216, 217, 218, 219, 453, 454, 455, 456, 220, 221, 222, 223, 62, 224, 225, 226, 227, 30, 169, 170, 171, 172, 173, 174, 175, 176, 29, 177, 178, 179, 180, 27, 28, 185, 186, 187, 188, 457, 458, 459, 460, 102, 103, 205, 206, 207, 208, 228, 229, 230, 231, 232, 233, 234, 235, 31, 236, 237, 238, 239, 240, 241, 242, 243, 244, 245, 246, 32, 247, 248, 249, 250, 40, 251, 252, 253, 254, 319, 320, 321, 107, 322, 323, 324, 325, 112, 113, 114, 115, 116, 117, 118, 298, 198, 199, 200, 201, 202, 203, 204, 255, 256, 257, 258, 259, 260, 261, 262, 263, 264, 265, 266, 461, 462, 463, 464, 465, 466, 467, 468, 469, 470, 471, 472, 473, 474, 475, 476, 477, 478] (by decide +kernel) (by decide +kernel)) (goodIn_sub (fun _ h => List.mem_append_right _ h) (by decide +kernel))) (goodIn_sub (fun _ h => List.mem_append_left _ (List.mem_append_left _ (List.mem_append_right _ h))) (by decide +kernel))) (goodIn_sub (fun _ h => List.mem_append_left _ (List.mem_append_right _ h)) (by decide +kernel))
set_option maxRecDepth 20000 in
theorem gL_law_L_areAnswersSo : GoodIn wsL_law (va_wsS RL 124 yL_areAnswersSo wsL_areAnswersSo) := goodIn_app (goodIn_of _ (by decide +kernel)) ggL_law_L_areAnswersSo
theorem dL_law_0 : decode cL_law 0 = .ok (.new 9, 3) := by decide +kernel
theorem dL_law_3 : decode cL_law 3 = .ok (.dup, 1) := by decide +kernel
theorem dL_law_4 : decode cL_law 4 = .ok (.invokespecial 108, 3) := by decide +kernel
theorem dL_law_7 : decode cL_law 7 = .ok (.astore_n 1, 1) := by decide +kernel
theorem dL_law_8 : decode cL_law 8 = .ok (.new 9, 3) := by decide +kernel
theorem dL_law_11 : decode cL_law 11 = .ok (.dup, 1) := by decide +kernel
theorem dL_law_12 : decode cL_law 12 = .ok (.invokespecial 108, 3) := by decide +kernel
theorem dL_law_15 : decode cL_law 15 = .ok (.astore_n 2, 1) := by decide +kernel
theorem dL_law_16 : decode cL_law 16 = .ok (.iconst 0, 1) := by decide +kernel
theorem dL_law_17 : decode cL_law 17 = .ok (.istore_n 3, 1) := by decide +kernel
theorem dL_law_18 : decode cL_law 18 = .ok (.iload_n 3, 1) := by decide +kernel
theorem dL_law_19 : decode cL_law 19 = .ok (.bipush 60, 2) := by decide +kernel
theorem dL_law_21 : decode cL_law 21 = .ok (.if_icmp .ge 107, 3) := by decide +kernel
theorem dL_law_24 : decode cL_law 24 = .ok (.aload_n 0, 1) := by decide +kernel
theorem dL_law_25 : decode cL_law 25 = .ok (.iload_n 3, 1) := by decide +kernel
theorem dL_law_26 : decode cL_law 26 = .ok (.invokestatic 109, 3) := by decide +kernel
theorem dL_law_29 : decode cL_law 29 = .ok (.istore 4, 2) := by decide +kernel
theorem dL_law_31 : decode cL_law 31 = .ok (.aload_n 1, 1) := by decide +kernel
theorem dL_law_32 : decode cL_law 32 = .ok (.iload 4, 2) := by decide +kernel
theorem dL_law_34 : decode cL_law 34 = .ok (.invokestatic 113, 3) := by decide +kernel
theorem dL_law_37 : decode cL_law 37 = .ok (.istore 5, 2) := by decide +kernel
theorem dL_law_39 : decode cL_law 39 = .ok (.iload 5, 2) := by decide +kernel
theorem dL_law_41 : decode cL_law 41 = .ok (.ldc 16, 2) := by decide +kernel
theorem dL_law_43 : decode cL_law 43 = .ok (.if_icmp .eq 14, 3) := by decide +kernel
theorem dL_law_46 : decode cL_law 46 = .ok (.aload_n 2, 1) := by decide +kernel
theorem dL_law_47 : decode cL_law 47 = .ok (.iload 4, 2) := by decide +kernel
theorem dL_law_49 : decode cL_law 49 = .ok (.invokestatic 113, 3) := by decide +kernel
theorem dL_law_52 : decode cL_law 52 = .ok (.iload 5, 2) := by decide +kernel
theorem dL_law_54 : decode cL_law 54 = .ok (.if_icmp .ne 11, 3) := by decide +kernel
theorem dL_law_57 : decode cL_law 57 = .ok (.aload_n 1, 1) := by decide +kernel
theorem dL_law_58 : decode cL_law 58 = .ok (.aload_n 2, 1) := by decide +kernel
theorem dL_law_59 : decode cL_law 59 = .ok (.invokestatic 116, 3) := by decide +kernel
theorem dL_law_62 : decode cL_law 62 = .ok (.ifCond .ne 5, 3) := by decide +kernel
theorem dL_law_65 : decode cL_law 65 = .ok (.iconst 0, 1) := by decide +kernel
theorem dL_law_66 : decode cL_law 66 = .ok (.ireturn, 1) := by decide +kernel
theorem dL_law_67 : decode cL_law 67 = .ok (.iload_n 3, 1) := by decide +kernel
theorem dL_law_68 : decode cL_law 68 = .ok (.bipush 8, 2) := by decide +kernel
theorem dL_law_70 : decode cL_law 70 = .ok (.irem, 1) := by decide +kernel
theorem dL_law_71 : decode cL_law 71 = .ok (.bipush 7, 2) := by decide +kernel
theorem dL_law_73 : decode cL_law 73 = .ok (.if_icmp .ne 30, 3) := by decide +kernel
theorem dL_law_76 : decode cL_law 76 = .ok (.aload_n 1, 1) := by decide +kernel
theorem dL_law_77 : decode cL_law 77 = .ok (.iconst 4, 1) := by decide +kernel
theorem dL_law_78 : decode cL_law 78 = .ok (.iload 4, 2) := by decide +kernel
theorem dL_law_80 : decode cL_law 80 = .ok (.iconst 4, 1) := by decide +kernel
theorem dL_law_81 : decode cL_law 81 = .ok (.ishr, 1) := by decide +kernel
theorem dL_law_82 : decode cL_law 82 = .ok (.iconst 3, 1) := by decide +kernel
theorem dL_law_83 : decode cL_law 83 = .ok (.invokestatic 52, 3) := by decide +kernel
theorem dL_law_86 : decode cL_law 86 = .ok (.imul, 1) := by decide +kernel
theorem dL_law_87 : decode cL_law 87 = .ok (.iload 4, 2) := by decide +kernel
theorem dL_law_89 : decode cL_law 89 = .ok (.bipush 7, 2) := by decide +kernel
theorem dL_law_91 : decode cL_law 91 = .ok (.ishr, 1) := by decide +kernel
theorem dL_law_92 : decode cL_law 92 = .ok (.iconst 3, 1) := by decide +kernel
theorem dL_law_93 : decode cL_law 93 = .ok (.invokestatic 52, 3) := by decide +kernel
theorem dL_law_96 : decode cL_law 96 = .ok (.iadd, 1) := by decide +kernel
theorem dL_law_97 : decode cL_law 97 = .ok (.invokestatic 120, 3) := by decide +kernel
theorem dL_law_100 : decode cL_law 100 = .ok (.ifCond .eq 20, 3) := by decide +kernel
theorem dL_law_103 : decode cL_law 103 = .ok (.iload_n 3, 1) := by decide +kernel
theorem dL_law_104 : decode cL_law 104 = .ok (.bipush 12, 2) := by decide +kernel
theorem dL_law_106 : decode cL_law 106 = .ok (.irem, 1) := by decide +kernel
theorem dL_law_107 : decode cL_law 107 = .ok (.bipush 11, 2) := by decide +kernel
theorem dL_law_109 : decode cL_law 109 = .ok (.if_icmp .ne 13, 3) := by decide +kernel
theorem dL_law_112 : decode cL_law 112 = .ok (.aload_n 1, 1) := by decide +kernel
theorem dL_law_113 : decode cL_law 113 = .ok (.aload_n 2, 1) := by decide +kernel
theorem dL_law_114 : decode cL_law 114 = .ok (.invokestatic 124, 3) := by decide +kernel
theorem dL_law_117 : decode cL_law 117 = .ok (.ifCond .ne 5, 3) := by decide +kernel
theorem dL_law_120 : decode cL_law 120 = .ok (.iconst 0, 1) := by decide +kernel
theorem dL_law_121 : decode cL_law 121 = .ok (.ireturn, 1) := by decide +kernel
theorem dL_law_122 : decode cL_law 122 = .ok (.iinc 3 1, 3) := by decide +kernel
theorem dL_law_125 : decode cL_law 125 = .ok (.goto (-107), 3) := by decide +kernel
theorem dL_law_128 : decode cL_law 128 = .ok (.aload_n 1, 1) := by decide +kernel
theorem dL_law_129 : decode cL_law 129 = .ok (.aload_n 2, 1) := by decide +kernel
theorem dL_law_130 : decode cL_law 130 = .ok (.invokestatic 116, 3) := by decide +kernel
theorem dL_law_133 : decode cL_law 133 = .ok (.ireturn, 1) := by decide +kernel
