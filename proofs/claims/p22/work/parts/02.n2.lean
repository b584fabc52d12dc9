theorem dX0_init_0 : decode cX0_init 0 = .ok (.aload_n 0, 1) := by decide +kernel
theorem dX0_init_1 : decode cX0_init 1 = .ok (.invokespecial 3, 3) := by decide +kernel
theorem dX0_init_4 : decode cX0_init 4 = .ok (.aload_n 0, 1) := by decide +kernel
theorem dX0_init_5 : decode cX0_init 5 = .ok (.bipush 16, 2) := by decide +kernel
theorem dX0_init_7 : decode cX0_init 7 = .ok (.newarray .int, 2) := by decide +kernel
theorem dX0_init_9 : decode cX0_init 9 = .ok (.putfield 9, 3) := by decide +kernel
theorem dX0_init_12 : decode cX0_init 12 = .ok (.aload_n 0, 1) := by decide +kernel
theorem dX0_init_13 : decode cX0_init 13 = .ok (.bipush 8, 2) := by decide +kernel
theorem dX0_init_15 : decode cX0_init 15 = .ok (.newarray .int, 2) := by decide +kernel
theorem dX0_init_17 : decode cX0_init 17 = .ok (.putfield 15, 3) := by decide +kernel
theorem dX0_init_20 : decode cX0_init 20 = .ok (.aload_n 0, 1) := by decide +kernel
theorem dX0_init_21 : decode cX0_init 21 = .ok (.bipush 8, 2) := by decide +kernel
theorem dX0_init_23 : decode cX0_init 23 = .ok (.newarray .int, 2) := by decide +kernel
theorem dX0_init_25 : decode cX0_init 25 = .ok (.putfield 18, 3) := by decide +kernel
theorem dX0_init_28 : decode cX0_init 28 = .ok (.aload_n 0, 1) := by decide +kernel
theorem dX0_init_29 : decode cX0_init 29 = .ok (.bipush 8, 2) := by decide +kernel
theorem dX0_init_31 : decode cX0_init 31 = .ok (.newarray .int, 2) := by decide +kernel
theorem dX0_init_33 : decode cX0_init 33 = .ok (.putfield 21, 3) := by decide +kernel
theorem dX0_init_36 : decode cX0_init 36 = .ok (.aload_n 0, 1) := by decide +kernel
theorem dX0_init_37 : decode cX0_init 37 = .ok (.bipush 8, 2) := by decide +kernel
theorem dX0_init_39 : decode cX0_init 39 = .ok (.newarray .int, 2) := by decide +kernel
theorem dX0_init_41 : decode cX0_init 41 = .ok (.putfield 24, 3) := by decide +kernel
theorem dX0_init_44 : decode cX0_init 44 = .ok (.aload_n 0, 1) := by decide +kernel
theorem dX0_init_45 : decode cX0_init 45 = .ok (.bipush 16, 2) := by decide +kernel
theorem dX0_init_47 : decode cX0_init 47 = .ok (.newarray .int, 2) := by decide +kernel
theorem dX0_init_49 : decode cX0_init 49 = .ok (.putfield 27, 3) := by decide +kernel
theorem dX0_init_52 : decode cX0_init 52 = .ok (.aload_n 0, 1) := by decide +kernel
theorem dX0_init_53 : decode cX0_init 53 = .ok (.bipush 16, 2) := by decide +kernel
theorem dX0_init_55 : decode cX0_init 55 = .ok (.newarray .int, 2) := by decide +kernel
theorem dX0_init_57 : decode cX0_init 57 = .ok (.putfield 30, 3) := by decide +kernel
theorem dX0_init_60 : decode cX0_init 60 = .ok (.return_, 1) := by decide +kernel
set_option maxRecDepth 20000 in
theorem ggX0_clear_J7_fill_53178 : GoodIn wsX0_clear wsJ7_fill_53178 := goodIn_r _ [6] (by decide +kernel) (by decide +kernel)
set_option maxRecDepth 20000 in
theorem gX0_clear_J7_fill_53178 : GoodIn wsX0_clear (va_wsS RX0 37 yJ7_fill_53178 wsJ7_fill_53178) := goodIn_app (goodIn_of _ (by decide +kernel)) ggX0_clear_J7_fill_53178
set_option maxRecDepth 20000 in
theorem ggX0_clear_X0_findRuns : GoodIn wsX0_clear wsX0_findRuns := goodIn_r _ [11, 12, 13, 14, 15, 1, 3, 4, 5, 6, 16, 17, 18, 10, 19, 20, 21, 22, 23, 2, 24, 25, 26, 27, 28, 29, 30, 31, 32, 33, 34, 35, 36, 37, 38, 39, 40, 41, 42, 43, 44, 45, 46, 47, 48] (by decide +kernel) (by decide +kernel)
set_option maxRecDepth 20000 in
theorem gX0_clear_X0_findRuns : GoodIn wsX0_clear (wsV RX0 43 RX0 yX0_findRuns wsX0_findRuns) := goodIn_app (goodIn_of _ (by decide +kernel)) ggX0_clear_X0_findRuns
theorem dX0_clear_0 : decode cX0_clear 0 = .ok (.aload_n 0, 1) := by decide +kernel
theorem dX0_clear_1 : decode cX0_clear 1 = .ok (.iload_n 1, 1) := by decide +kernel
theorem dX0_clear_2 : decode cX0_clear 2 = .ok (.putfield 33, 3) := by decide +kernel
theorem dX0_clear_5 : decode cX0_clear 5 = .ok (.aload_n 0, 1) := by decide +kernel
theorem dX0_clear_6 : decode cX0_clear 6 = .ok (.getfield 9, 3) := by decide +kernel
theorem dX0_clear_9 : decode cX0_clear 9 = .ok (.iconst 0, 1) := by decide +kernel
theorem dX0_clear_10 : decode cX0_clear 10 = .ok (.invokestatic 37, 3) := by decide +kernel
theorem dX0_clear_13 : decode cX0_clear 13 = .ok (.aload_n 0, 1) := by decide +kernel
theorem dX0_clear_14 : decode cX0_clear 14 = .ok (.invokevirtual 43, 3) := by decide +kernel
theorem dX0_clear_17 : decode cX0_clear 17 = .ok (.return_, 1) := by decide +kernel
theorem dX0_hasCell_0 : decode cX0_hasCell 0 = .ok (.iload_n 1, 1) := by decide +kernel
theorem dX0_hasCell_1 : decode cX0_hasCell 1 = .ok (.ifCond .lt 33, 3) := by decide +kernel
theorem dX0_hasCell_4 : decode cX0_hasCell 4 = .ok (.iload_n 1, 1) := by decide +kernel
theorem dX0_hasCell_5 : decode cX0_hasCell 5 = .ok (.bipush 16, 2) := by decide +kernel
theorem dX0_hasCell_7 : decode cX0_hasCell 7 = .ok (.if_icmp .ge 27, 3) := by decide +kernel
theorem dX0_hasCell_10 : decode cX0_hasCell 10 = .ok (.iload_n 1, 1) := by decide +kernel
theorem dX0_hasCell_11 : decode cX0_hasCell 11 = .ok (.iconst 4, 1) := by decide +kernel
theorem dX0_hasCell_12 : decode cX0_hasCell 12 = .ok (.idiv, 1) := by decide +kernel
theorem dX0_hasCell_13 : decode cX0_hasCell 13 = .ok (.aload_n 0, 1) := by decide +kernel
theorem dX0_hasCell_14 : decode cX0_hasCell 14 = .ok (.getfield 33, 3) := by decide +kernel
theorem dX0_hasCell_17 : decode cX0_hasCell 17 = .ok (.if_icmp .ge 17, 3) := by decide +kernel
theorem dX0_hasCell_20 : decode cX0_hasCell 20 = .ok (.iload_n 1, 1) := by decide +kernel
theorem dX0_hasCell_21 : decode cX0_hasCell 21 = .ok (.iconst 4, 1) := by decide +kernel
theorem dX0_hasCell_22 : decode cX0_hasCell 22 = .ok (.irem, 1) := by decide +kernel
theorem dX0_hasCell_23 : decode cX0_hasCell 23 = .ok (.aload_n 0, 1) := by decide +kernel
theorem dX0_hasCell_24 : decode cX0_hasCell 24 = .ok (.getfield 33, 3) := by decide +kernel
theorem dX0_hasCell_27 : decode cX0_hasCell 27 = .ok (.if_icmp .ge 7, 3) := by decide +kernel
theorem dX0_hasCell_30 : decode cX0_hasCell 30 = .ok (.iconst 1, 1) := by decide +kernel
theorem dX0_hasCell_31 : decode cX0_hasCell 31 = .ok (.goto 4, 3) := by decide +kernel
theorem dX0_hasCell_34 : decode cX0_hasCell 34 = .ok (.iconst 0, 1) := by decide +kernel
theorem dX0_hasCell_35 : decode cX0_hasCell 35 = .ok (.ireturn, 1) := by decide +kernel
set_option maxRecDepth 20000 in
theorem ggX0_isOpen_X0_hasCell : GoodIn wsX0_isOpen wsX0_hasCell := goodIn_r _ [6, 7, 11, 12, 13, 14, 15, 16, 17, 18, 19] (by decide +kernel) (by decide +kernel)
set_option maxRecDepth 20000 in
theorem gX0_isOpen_X0_hasCell : GoodIn wsX0_isOpen (wsV RX0 46 RX0 yX0_hasCell wsX0_hasCell) := goodIn_app (goodIn_of _ (by decide +kernel)) ggX0_isOpen_X0_hasCell
set_option maxRecDepth 20000 in
theorem ggX0_isOpen_X3_at : GoodIn wsX0_isOpen wsX3_at := goodIn_r _ [10] (by decide +kernel) (by decide +kernel)
set_option maxRecDepth 20000 in
theorem gX0_isOpen_X3_at_n50 : GoodIn wsX0_isOpen (wsX3_at) := ggX0_isOpen_X3_at
theorem dX0_isOpen_0 : decode cX0_isOpen 0 = .ok (.aload_n 0, 1) := by decide +kernel
theorem dX0_isOpen_1 : decode cX0_isOpen 1 = .ok (.iload_n 1, 1) := by decide +kernel
theorem dX0_isOpen_2 : decode cX0_isOpen 2 = .ok (.invokevirtual 46, 3) := by decide +kernel
theorem dX0_isOpen_5 : decode cX0_isOpen 5 = .ok (.ifCond .eq 19, 3) := by decide +kernel
theorem dX0_isOpen_8 : decode cX0_isOpen 8 = .ok (.aload_n 0, 1) := by decide +kernel
theorem dX0_isOpen_9 : decode cX0_isOpen 9 = .ok (.getfield 9, 3) := by decide +kernel
theorem dX0_isOpen_12 : decode cX0_isOpen 12 = .ok (.iload_n 1, 1) := by decide +kernel
theorem dX0_isOpen_13 : decode cX0_isOpen 13 = .ok (.invokestatic 50, 3) := by decide +kernel
theorem dX0_isOpen_16 : decode cX0_isOpen 16 = .ok (.iconst (-1), 1) := by decide +kernel
theorem dX0_isOpen_17 : decode cX0_isOpen 17 = .ok (.if_icmp .eq 7, 3) := by decide +kernel
theorem dX0_isOpen_20 : decode cX0_isOpen 20 = .ok (.iconst 1, 1) := by decide +kernel
theorem dX0_isOpen_21 : decode cX0_isOpen 21 = .ok (.goto 4, 3) := by decide +kernel
theorem dX0_isOpen_24 : decode cX0_isOpen 24 = .ok (.iconst 0, 1) := by decide +kernel
theorem dX0_isOpen_25 : decode cX0_isOpen 25 = .ok (.ireturn, 1) := by decide +kernel
set_option maxRecDepth 20000 in
theorem ggX0_givenAt_X3_at : GoodIn wsX0_givenAt wsX3_at := goodIn_r _ [4] (by decide +kernel) (by decide +kernel)
set_option maxRecDepth 20000 in
theorem gX0_givenAt_X3_at_n50 : GoodIn wsX0_givenAt (wsX3_at) := ggX0_givenAt_X3_at
theorem dX0_givenAt_0 : decode cX0_givenAt 0 = .ok (.aload_n 0, 1) := by decide +kernel
theorem dX0_givenAt_1 : decode cX0_givenAt 1 = .ok (.getfield 9, 3) := by decide +kernel
theorem dX0_givenAt_4 : decode cX0_givenAt 4 = .ok (.iload_n 1, 1) := by decide +kernel
theorem dX0_givenAt_5 : decode cX0_givenAt 5 = .ok (.invokestatic 50, 3) := by decide +kernel
theorem dX0_givenAt_8 : decode cX0_givenAt 8 = .ok (.ireturn, 1) := by decide +kernel
set_option maxRecDepth 20000 in
theorem ggX0_putGiven_X3_put : GoodIn wsX0_putGiven wsX3_put := goodIn_r _ [4] (by decide +kernel) (by decide +kernel)
set_option maxRecDepth 20000 in
theorem gX0_putGiven_X3_put_n54 : GoodIn wsX0_putGiven (wsX3_put) := ggX0_putGiven_X3_put
theorem dX0_putGiven_0 : decode cX0_putGiven 0 = .ok (.aload_n 0, 1) := by decide +kernel
theorem dX0_putGiven_1 : decode cX0_putGiven 1 = .ok (.getfield 9, 3) := by decide +kernel
theorem dX0_putGiven_4 : decode cX0_putGiven 4 = .ok (.iload_n 1, 1) := by decide +kernel
theorem dX0_putGiven_5 : decode cX0_putGiven 5 = .ok (.iload_n 2, 1) := by decide +kernel
theorem dX0_putGiven_6 : decode cX0_putGiven 6 = .ok (.invokestatic 54, 3) := by decide +kernel
theorem dX0_putGiven_9 : decode cX0_putGiven 9 = .ok (.return_, 1) := by decide +kernel
set_option maxRecDepth 20000 in
theorem ggX0_turn_X0_isOpen : GoodIn wsX0_turn wsX0_isOpen := goodIn_r _ [6, 1, 7, 8, 9, 5, 10, 11, 12, 13, 14, 40, 41, 42, 43, 44, 45, 46, 47, 48] (by decide +kernel) (by decide +kernel)
set_option maxRecDepth 20000 in
theorem gX0_turn_X0_isOpen : GoodIn wsX0_turn (wsV RX0 58 RX0 yX0_isOpen wsX0_isOpen) := goodIn_app (goodIn_of _ (by decide +kernel)) ggX0_turn_X0_isOpen
set_option maxRecDepth 20000 in
theorem ggX0_turn_X3_put : GoodIn wsX0_turn wsX3_put := goodIn_r _ [16] (by decide +kernel) (by decide +kernel)
set_option maxRecDepth 20000 in
theorem gX0_turn_X3_put_n54 : GoodIn wsX0_turn (wsX3_put) := ggX0_turn_X3_put
set_option maxRecDepth 20000 in
theorem ggX0_turn_X0_findRuns : GoodIn wsX0_turn wsX0_findRuns := goodIn_r _ [20, 21, 22, 23, 24, 11, 25, 26, 27, 28, 29, 30, 31, 5, 32, 2, 3, 4, 6, 1, 7, 8, 9, 10, 12, 13, 14, 33, 34, 35, 36, 37, 38, 39, 15, 16, 40, 41, 42, 43, 44, 45, 46, 47, 48] (by decide +kernel) (by decide +kernel)
set_option maxRecDepth 20000 in
theorem gX0_turn_X0_findRuns : GoodIn wsX0_turn (wsV RX0 43 RX0 yX0_findRuns wsX0_findRuns) := goodIn_app (goodIn_of _ (by decide +kernel)) ggX0_turn_X0_findRuns
theorem dX0_turn_0 : decode cX0_turn 0 = .ok (.aload_n 0, 1) := by decide +kernel
theorem dX0_turn_1 : decode cX0_turn 1 = .ok (.getfield 9, 3) := by decide +kernel
theorem dX0_turn_4 : decode cX0_turn 4 = .ok (.iload_n 1, 1) := by decide +kernel
theorem dX0_turn_5 : decode cX0_turn 5 = .ok (.aload_n 0, 1) := by decide +kernel
theorem dX0_turn_6 : decode cX0_turn 6 = .ok (.iload_n 1, 1) := by decide +kernel
theorem dX0_turn_7 : decode cX0_turn 7 = .ok (.invokevirtual 58, 3) := by decide +kernel
theorem dX0_turn_10 : decode cX0_turn 10 = .ok (.ifCond .eq 7, 3) := by decide +kernel
theorem dX0_turn_13 : decode cX0_turn 13 = .ok (.iconst (-1), 1) := by decide +kernel
theorem dX0_turn_14 : decode cX0_turn 14 = .ok (.goto 4, 3) := by decide +kernel
theorem dX0_turn_17 : decode cX0_turn 17 = .ok (.iconst 0, 1) := by decide +kernel
theorem dX0_turn_18 : decode cX0_turn 18 = .ok (.invokestatic 54, 3) := by decide +kernel
theorem dX0_turn_21 : decode cX0_turn 21 = .ok (.aload_n 0, 1) := by decide +kernel
theorem dX0_turn_22 : decode cX0_turn 22 = .ok (.invokevirtual 43, 3) := by decide +kernel
theorem dX0_turn_25 : decode cX0_turn 25 = .ok (.return_, 1) := by decide +kernel
theorem dX0_oppositeOf_0 : decode cX0_oppositeOf 0 = .ok (.aload_n 0, 1) := by decide +kernel
theorem dX0_oppositeOf_1 : decode cX0_oppositeOf 1 = .ok (.getfield 33, 3) := by decide +kernel
theorem dX0_oppositeOf_4 : decode cX0_oppositeOf 4 = .ok (.iconst 1, 1) := by decide +kernel
theorem dX0_oppositeOf_5 : decode cX0_oppositeOf 5 = .ok (.isub, 1) := by decide +kernel
theorem dX0_oppositeOf_6 : decode cX0_oppositeOf 6 = .ok (.iload_n 1, 1) := by decide +kernel
theorem dX0_oppositeOf_7 : decode cX0_oppositeOf 7 = .ok (.iconst 4, 1) := by decide +kernel
theorem dX0_oppositeOf_8 : decode cX0_oppositeOf 8 = .ok (.idiv, 1) := by decide +kernel
theorem dX0_oppositeOf_9 : decode cX0_oppositeOf 9 = .ok (.isub, 1) := by decide +kernel
theorem dX0_oppositeOf_10 : decode cX0_oppositeOf 10 = .ok (.istore_n 2, 1) := by decide +kernel
theorem dX0_oppositeOf_11 : decode cX0_oppositeOf 11 = .ok (.aload_n 0, 1) := by decide +kernel
theorem dX0_oppositeOf_12 : decode cX0_oppositeOf 12 = .ok (.getfield 33, 3) := by decide +kernel
theorem dX0_oppositeOf_15 : decode cX0_oppositeOf 15 = .ok (.iconst 1, 1) := by decide +kernel
theorem dX0_oppositeOf_16 : decode cX0_oppositeOf 16 = .ok (.isub, 1) := by decide +kernel
theorem dX0_oppositeOf_17 : decode cX0_oppositeOf 17 = .ok (.iload_n 1, 1) := by decide +kernel
theorem dX0_oppositeOf_18 : decode cX0_oppositeOf 18 = .ok (.iconst 4, 1) := by decide +kernel
theorem dX0_oppositeOf_19 : decode cX0_oppositeOf 19 = .ok (.irem, 1) := by decide +kernel
theorem dX0_oppositeOf_20 : decode cX0_oppositeOf 20 = .ok (.isub, 1) := by decide +kernel
theorem dX0_oppositeOf_21 : decode cX0_oppositeOf 21 = .ok (.istore_n 3, 1) := by decide +kernel
theorem dX0_oppositeOf_22 : decode cX0_oppositeOf 22 = .ok (.iload_n 2, 1) := by decide +kernel
theorem dX0_oppositeOf_23 : decode cX0_oppositeOf 23 = .ok (.iconst 4, 1) := by decide +kernel
theorem dX0_oppositeOf_24 : decode cX0_oppositeOf 24 = .ok (.imul, 1) := by decide +kernel
theorem dX0_oppositeOf_25 : decode cX0_oppositeOf 25 = .ok (.iload_n 3, 1) := by decide +kernel
theorem dX0_oppositeOf_26 : decode cX0_oppositeOf 26 = .ok (.iadd, 1) := by decide +kernel
theorem dX0_oppositeOf_27 : decode cX0_oppositeOf 27 = .ok (.ireturn, 1) := by decide +kernel
set_option maxRecDepth 20000 in
theorem ggX0_countOpen_X0_isOpen : GoodIn wsX0_countOpen wsX0_isOpen := goodIn_r _ [5, 6, 7, 8, 9, 4, 10, 11, 12, 13, 14, 15, 16, 17, 18, 19, 20, 21, 22, 23] (by decide +kernel) (by decide +kernel)
set_option maxRecDepth 20000 in
theorem gX0_countOpen_X0_isOpen : GoodIn wsX0_countOpen (wsV RX0 58 RX0 yX0_isOpen wsX0_isOpen) := goodIn_app (goodIn_of _ (by decide +kernel)) ggX0_countOpen_X0_isOpen
theorem dX0_countOpen_0 : decode cX0_countOpen 0 = .ok (.iconst 0, 1) := by decide +kernel
theorem dX0_countOpen_1 : decode cX0_countOpen 1 = .ok (.istore_n 1, 1) := by decide +kernel
theorem dX0_countOpen_2 : decode cX0_countOpen 2 = .ok (.iconst 0, 1) := by decide +kernel
theorem dX0_countOpen_3 : decode cX0_countOpen 3 = .ok (.istore_n 2, 1) := by decide +kernel
theorem dX0_countOpen_4 : decode cX0_countOpen 4 = .ok (.iload_n 2, 1) := by decide +kernel
theorem dX0_countOpen_5 : decode cX0_countOpen 5 = .ok (.bipush 16, 2) := by decide +kernel
theorem dX0_countOpen_7 : decode cX0_countOpen 7 = .ok (.if_icmp .ge 20, 3) := by decide +kernel
theorem dX0_countOpen_10 : decode cX0_countOpen 10 = .ok (.aload_n 0, 1) := by decide +kernel
theorem dX0_countOpen_11 : decode cX0_countOpen 11 = .ok (.iload_n 2, 1) := by decide +kernel
theorem dX0_countOpen_12 : decode cX0_countOpen 12 = .ok (.invokevirtual 58, 3) := by decide +kernel
theorem dX0_countOpen_15 : decode cX0_countOpen 15 = .ok (.ifCond .eq 6, 3) := by decide +kernel
theorem dX0_countOpen_18 : decode cX0_countOpen 18 = .ok (.iinc 1 1, 3) := by decide +kernel
theorem dX0_countOpen_21 : decode cX0_countOpen 21 = .ok (.iinc 2 1, 3) := by decide +kernel
theorem dX0_countOpen_24 : decode cX0_countOpen 24 = .ok (.goto (-20), 3) := by decide +kernel
theorem dX0_countOpen_27 : decode cX0_countOpen 27 = .ok (.iload_n 1, 1) := by decide +kernel
theorem dX0_countOpen_28 : decode cX0_countOpen 28 = .ok (.ireturn, 1) := by decide +kernel
set_option maxRecDepth 20000 in
theorem ggX0_countBarred_X0_countOpen : GoodIn wsX0_countBarred wsX0_countOpen := goodIn_r _ [6, 7, 8, 9, 5, 10, 11, 12, 13, 14, 15, 1, 16, 17, 18, 19, 20, 21, 22, 23, 24, 25, 26, 27] (by decide +kernel) (by decide +kernel)
set_option maxRecDepth 20000 in
theorem gX0_countBarred_X0_countOpen : GoodIn wsX0_countBarred (wsV RX0 61 RX0 yX0_countOpen wsX0_countOpen) := goodIn_app (goodIn_of _ (by decide +kernel)) ggX0_countBarred_X0_countOpen
theorem dX0_countBarred_0 : decode cX0_countBarred 0 = .ok (.aload_n 0, 1) := by decide +kernel
theorem dX0_countBarred_1 : decode cX0_countBarred 1 = .ok (.getfield 33, 3) := by decide +kernel
theorem dX0_countBarred_4 : decode cX0_countBarred 4 = .ok (.aload_n 0, 1) := by decide +kernel
theorem dX0_countBarred_5 : decode cX0_countBarred 5 = .ok (.getfield 33, 3) := by decide +kernel
theorem dX0_countBarred_8 : decode cX0_countBarred 8 = .ok (.imul, 1) := by decide +kernel
theorem dX0_countBarred_9 : decode cX0_countBarred 9 = .ok (.aload_n 0, 1) := by decide +kernel
theorem dX0_countBarred_10 : decode cX0_countBarred 10 = .ok (.invokevirtual 61, 3) := by decide +kernel
theorem dX0_countBarred_13 : decode cX0_countBarred 13 = .ok (.isub, 1) := by decide +kernel
theorem dX0_countBarred_14 : decode cX0_countBarred 14 = .ok (.ireturn, 1) := by decide +kernel
set_option maxRecDepth 20000 in
theorem ggX0_isBlank_X0_hasCell : GoodIn wsX0_isBlank wsX0_hasCell := goodIn_r _ [6, 7, 11, 12, 13, 14, 15, 16, 17, 18, 19] (by decide +kernel) (by decide +kernel)
set_option maxRecDepth 20000 in
theorem gX0_isBlank_X0_hasCell : GoodIn wsX0_isBlank (wsV RX0 46 RX0 yX0_hasCell wsX0_hasCell) := goodIn_app (goodIn_of _ (by decide +kernel)) ggX0_isBlank_X0_hasCell
set_option maxRecDepth 20000 in
theorem ggX0_isBlank_X3_at : GoodIn wsX0_isBlank wsX3_at := goodIn_r _ [10] (by decide +kernel) (by decide +kernel)
set_option maxRecDepth 20000 in
theorem gX0_isBlank_X3_at_n50 : GoodIn wsX0_isBlank (wsX3_at) := ggX0_isBlank_X3_at
theorem dX0_isBlank_0 : decode cX0_isBlank 0 = .ok (.aload_n 0, 1) := by decide +kernel
theorem dX0_isBlank_1 : decode cX0_isBlank 1 = .ok (.iload_n 1, 1) := by decide +kernel
theorem dX0_isBlank_2 : decode cX0_isBlank 2 = .ok (.invokevirtual 46, 3) := by decide +kernel
theorem dX0_isBlank_5 : decode cX0_isBlank 5 = .ok (.ifCond .eq 18, 3) := by decide +kernel
theorem dX0_isBlank_8 : decode cX0_isBlank 8 = .ok (.aload_n 0, 1) := by decide +kernel
theorem dX0_isBlank_9 : decode cX0_isBlank 9 = .ok (.getfield 9, 3) := by decide +kernel
theorem dX0_isBlank_12 : decode cX0_isBlank 12 = .ok (.iload_n 1, 1) := by decide +kernel
theorem dX0_isBlank_13 : decode cX0_isBlank 13 = .ok (.invokestatic 50, 3) := by decide +kernel
theorem dX0_isBlank_16 : decode cX0_isBlank 16 = .ok (.ifCond .ne 7, 3) := by decide +kernel
theorem dX0_isBlank_19 : decode cX0_isBlank 19 = .ok (.iconst 1, 1) := by decide +kernel
theorem dX0_isBlank_20 : decode cX0_isBlank 20 = .ok (.goto 4, 3) := by decide +kernel
theorem dX0_isBlank_23 : decode cX0_isBlank 23 = .ok (.iconst 0, 1) := by decide +kernel
theorem dX0_isBlank_24 : decode cX0_isBlank 24 = .ok (.ireturn, 1) := by decide +kernel
set_option maxRecDepth 20000 in
theorem ggX0_countBlanks_X0_isBlank : GoodIn wsX0_countBlanks wsX0_isBlank := goodIn_r _ [5, 6, 7, 8, 9, 4, 10, 11, 12, 13, 14, 15, 16, 17, 18, 19, 20, 21, 22, 23] (by decide +kernel) (by decide +kernel)
set_option maxRecDepth 20000 in
theorem gX0_countBlanks_X0_isBlank : GoodIn wsX0_countBlanks (wsV RX0 65 RX0 yX0_isBlank wsX0_isBlank) := goodIn_app (goodIn_of _ (by decide +kernel)) ggX0_countBlanks_X0_isBlank
theorem dX0_countBlanks_0 : decode cX0_countBlanks 0 = .ok (.iconst 0, 1) := by decide +kernel
theorem dX0_countBlanks_1 : decode cX0_countBlanks 1 = .ok (.istore_n 1, 1) := by decide +kernel
theorem dX0_countBlanks_2 : decode cX0_countBlanks 2 = .ok (.iconst 0, 1) := by decide +kernel
theorem dX0_countBlanks_3 : decode cX0_countBlanks 3 = .ok (.istore_n 2, 1) := by decide +kernel
theorem dX0_countBlanks_4 : decode cX0_countBlanks 4 = .ok (.iload_n 2, 1) := by decide +kernel
theorem dX0_countBlanks_5 : decode cX0_countBlanks 5 = .ok (.bipush 16, 2) := by decide +kernel
theorem dX0_countBlanks_7 : decode cX0_countBlanks 7 = .ok (.if_icmp .ge 20, 3) := by decide +kernel
theorem dX0_countBlanks_10 : decode cX0_countBlanks 10 = .ok (.aload_n 0, 1) := by decide +kernel
theorem dX0_countBlanks_11 : decode cX0_countBlanks 11 = .ok (.iload_n 2, 1) := by decide +kernel
theorem dX0_countBlanks_12 : decode cX0_countBlanks 12 = .ok (.invokevirtual 65, 3) := by decide +kernel
theorem dX0_countBlanks_15 : decode cX0_countBlanks 15 = .ok (.ifCond .eq 6, 3) := by decide +kernel
theorem dX0_countBlanks_18 : decode cX0_countBlanks 18 = .ok (.iinc 1 1, 3) := by decide +kernel
theorem dX0_countBlanks_21 : decode cX0_countBlanks 21 = .ok (.iinc 2 1, 3) := by decide +kernel
theorem dX0_countBlanks_24 : decode cX0_countBlanks 24 = .ok (.goto (-20), 3) := by decide +kernel
theorem dX0_countBlanks_27 : decode cX0_countBlanks 27 = .ok (.iload_n 1, 1) := by decide +kernel
theorem dX0_countBlanks_28 : decode cX0_countBlanks 28 = .ok (.ireturn, 1) := by decide +kernel
theorem dX0_countRuns_0 : decode cX0_countRuns 0 = .ok (.aload_n 0, 1) := by decide +kernel
theorem dX0_countRuns_1 : decode cX0_countRuns 1 = .ok (.getfield 68, 3) := by decide +kernel
theorem dX0_countRuns_4 : decode cX0_countRuns 4 = .ok (.ireturn, 1) := by decide +kernel
theorem dX0_hasRun_0 : decode cX0_hasRun 0 = .ok (.iload_n 1, 1) := by decide +kernel
theorem dX0_hasRun_1 : decode cX0_hasRun 1 = .ok (.ifCond .lt 15, 3) := by decide +kernel
theorem dX0_hasRun_4 : decode cX0_hasRun 4 = .ok (.iload_n 1, 1) := by decide +kernel
theorem dX0_hasRun_5 : decode cX0_hasRun 5 = .ok (.aload_n 0, 1) := by decide +kernel
theorem dX0_hasRun_6 : decode cX0_hasRun 6 = .ok (.getfield 68, 3) := by decide +kernel
theorem dX0_hasRun_9 : decode cX0_hasRun 9 = .ok (.if_icmp .ge 7, 3) := by decide +kernel
theorem dX0_hasRun_12 : decode cX0_hasRun 12 = .ok (.iconst 1, 1) := by decide +kernel
theorem dX0_hasRun_13 : decode cX0_hasRun 13 = .ok (.goto 4, 3) := by decide +kernel
theorem dX0_hasRun_16 : decode cX0_hasRun 16 = .ok (.iconst 0, 1) := by decide +kernel
theorem dX0_hasRun_17 : decode cX0_hasRun 17 = .ok (.ireturn, 1) := by decide +kernel
set_option maxRecDepth 20000 in
theorem ggX0_firstAt_X3_at : GoodIn wsX0_firstAt wsX3_at := goodIn_r _ [4] (by decide +kernel) (by decide +kernel)
set_option maxRecDepth 20000 in
theorem gX0_firstAt_X3_at_n50 : GoodIn wsX0_firstAt (wsX3_at) := ggX0_firstAt_X3_at
theorem dX0_firstAt_0 : decode cX0_firstAt 0 = .ok (.aload_n 0, 1) := by decide +kernel
theorem dX0_firstAt_1 : decode cX0_firstAt 1 = .ok (.getfield 15, 3) := by decide +kernel
theorem dX0_firstAt_4 : decode cX0_firstAt 4 = .ok (.iload_n 1, 1) := by decide +kernel
theorem dX0_firstAt_5 : decode cX0_firstAt 5 = .ok (.invokestatic 50, 3) := by decide +kernel
theorem dX0_firstAt_8 : decode cX0_firstAt 8 = .ok (.ireturn, 1) := by decide +kernel
set_option maxRecDepth 20000 in
theorem ggX0_lengthAt_X3_at : GoodIn wsX0_lengthAt wsX3_at := goodIn_r _ [4] (by decide +kernel) (by decide +kernel)
set_option maxRecDepth 20000 in
theorem gX0_lengthAt_X3_at_n50 : GoodIn wsX0_lengthAt (wsX3_at) := ggX0_lengthAt_X3_at
theorem dX0_lengthAt_0 : decode cX0_lengthAt 0 = .ok (.aload_n 0, 1) := by decide +kernel
theorem dX0_lengthAt_1 : decode cX0_lengthAt 1 = .ok (.getfield 21, 3) := by decide +kernel
theorem dX0_lengthAt_4 : decode cX0_lengthAt 4 = .ok (.iload_n 1, 1) := by decide +kernel
theorem dX0_lengthAt_5 : decode cX0_lengthAt 5 = .ok (.invokestatic 50, 3) := by decide +kernel
theorem dX0_lengthAt_8 : decode cX0_lengthAt 8 = .ok (.ireturn, 1) := by decide +kernel
set_option maxRecDepth 20000 in
theorem ggX0_sumAt_X3_at : GoodIn wsX0_sumAt wsX3_at := goodIn_r _ [4] (by decide +kernel) (by decide +kernel)
set_option maxRecDepth 20000 in
theorem gX0_sumAt_X3_at_n50 : GoodIn wsX0_sumAt (wsX3_at) := ggX0_sumAt_X3_at
theorem dX0_sumAt_0 : decode cX0_sumAt 0 = .ok (.aload_n 0, 1) := by decide +kernel
theorem dX0_sumAt_1 : decode cX0_sumAt 1 = .ok (.getfield 24, 3) := by decide +kernel
theorem dX0_sumAt_4 : decode cX0_sumAt 4 = .ok (.iload_n 1, 1) := by decide +kernel
theorem dX0_sumAt_5 : decode cX0_sumAt 5 = .ok (.invokestatic 50, 3) := by decide +kernel
theorem dX0_sumAt_8 : decode cX0_sumAt 8 = .ok (.ireturn, 1) := by decide +kernel
set_option maxRecDepth 20000 in
theorem ggX0_putSum_X3_put : GoodIn wsX0_putSum wsX3_put := goodIn_r _ [4] (by decide +kernel) (by decide +kernel)
set_option maxRecDepth 20000 in
theorem gX0_putSum_X3_put_n54 : GoodIn wsX0_putSum (wsX3_put) := ggX0_putSum_X3_put
theorem dX0_putSum_0 : decode cX0_putSum 0 = .ok (.aload_n 0, 1) := by decide +kernel
theorem dX0_putSum_1 : decode cX0_putSum 1 = .ok (.getfield 24, 3) := by decide +kernel
theorem dX0_putSum_4 : decode cX0_putSum 4 = .ok (.iload_n 1, 1) := by decide +kernel
theorem dX0_putSum_5 : decode cX0_putSum 5 = .ok (.iload_n 2, 1) := by decide +kernel
theorem dX0_putSum_6 : decode cX0_putSum 6 = .ok (.invokestatic 54, 3) := by decide +kernel
theorem dX0_putSum_9 : decode cX0_putSum 9 = .ok (.return_, 1) := by decide +kernel
set_option maxRecDepth 20000 in
theorem ggX0_cellAt_X3_at : GoodIn wsX0_cellAt wsX3_at := goodIn_r _ [5] (by decide +kernel) (by decide +kernel)
set_option maxRecDepth 20000 in
theorem gX0_cellAt_X3_at_n50 : GoodIn wsX0_cellAt (wsX3_at) := ggX0_cellAt_X3_at
theorem dX0_cellAt_0 : decode cX0_cellAt 0 = .ok (.aload_n 0, 1) := by decide +kernel
theorem dX0_cellAt_1 : decode cX0_cellAt 1 = .ok (.getfield 15, 3) := by decide +kernel
theorem dX0_cellAt_4 : decode cX0_cellAt 4 = .ok (.iload_n 1, 1) := by decide +kernel
theorem dX0_cellAt_5 : decode cX0_cellAt 5 = .ok (.invokestatic 50, 3) := by decide +kernel
theorem dX0_cellAt_8 : decode cX0_cellAt 8 = .ok (.iload_n 2, 1) := by decide +kernel
theorem dX0_cellAt_9 : decode cX0_cellAt 9 = .ok (.aload_n 0, 1) := by decide +kernel
theorem dX0_cellAt_10 : decode cX0_cellAt 10 = .ok (.getfield 18, 3) := by decide +kernel
theorem dX0_cellAt_13 : decode cX0_cellAt 13 = .ok (.iload_n 1, 1) := by decide +kernel
theorem dX0_cellAt_14 : decode cX0_cellAt 14 = .ok (.invokestatic 50, 3) := by decide +kernel
theorem dX0_cellAt_17 : decode cX0_cellAt 17 = .ok (.imul, 1) := by decide +kernel
theorem dX0_cellAt_18 : decode cX0_cellAt 18 = .ok (.iadd, 1) := by decide +kernel
theorem dX0_cellAt_19 : decode cX0_cellAt 19 = .ok (.ireturn, 1) := by decide +kernel
set_option maxRecDepth 20000 in
theorem ggX0_rowRunOf_X3_at : GoodIn wsX0_rowRunOf wsX3_at := goodIn_r _ [4] (by decide +kernel) (by decide +kernel)
set_option maxRecDepth 20000 in
theorem gX0_rowRunOf_X3_at_n50 : GoodIn wsX0_rowRunOf (wsX3_at) := ggX0_rowRunOf_X3_at
theorem dX0_rowRunOf_0 : decode cX0_rowRunOf 0 = .ok (.aload_n 0, 1) := by decide +kernel
theorem dX0_rowRunOf_1 : decode cX0_rowRunOf 1 = .ok (.getfield 27, 3) := by decide +kernel
theorem dX0_rowRunOf_4 : decode cX0_rowRunOf 4 = .ok (.iload_n 1, 1) := by decide +kernel
theorem dX0_rowRunOf_5 : decode cX0_rowRunOf 5 = .ok (.invokestatic 50, 3) := by decide +kernel
theorem dX0_rowRunOf_8 : decode cX0_rowRunOf 8 = .ok (.ireturn, 1) := by decide +kernel
set_option maxRecDepth 20000 in
theorem ggX0_columnRunOf_X3_at : GoodIn wsX0_columnRunOf wsX3_at := goodIn_r _ [4] (by decide +kernel) (by decide +kernel)
set_option maxRecDepth 20000 in
theorem gX0_columnRunOf_X3_at_n50 : GoodIn wsX0_columnRunOf (wsX3_at) := ggX0_columnRunOf_X3_at
theorem dX0_columnRunOf_0 : decode cX0_columnRunOf 0 = .ok (.aload_n 0, 1) := by decide +kernel
theorem dX0_columnRunOf_1 : decode cX0_columnRunOf 1 = .ok (.getfield 30, 3) := by decide +kernel
theorem dX0_columnRunOf_4 : decode cX0_columnRunOf 4 = .ok (.iload_n 1, 1) := by decide +kernel
theorem dX0_columnRunOf_5 : decode cX0_columnRunOf 5 = .ok (.invokestatic 50, 3) := by decide +kernel
theorem dX0_columnRunOf_8 : decode cX0_columnRunOf 8 = .ok (.ireturn, 1) := by decide +kernel
set_option maxRecDepth 20000 in
theorem ggX0_findRuns_J7_fill_53178 : GoodIn wsX0_findRuns wsJ7_fill_53178 := goodIn_r _ [9] (by decide +kernel) (by decide +kernel)
set_option maxRecDepth 20000 in
theorem gX0_findRuns_J7_fill_53178 : GoodIn wsX0_findRuns (va_wsS RX0 37 yJ7_fill_53178 wsJ7_fill_53178) := goodIn_app (goodIn_of _ (by decide +kernel)) ggX0_findRuns_J7_fill_53178
set_option maxRecDepth 20000 in
theorem ggX0_findRuns_X0_findRunsOfLine : GoodIn wsX0_findRuns wsX0_findRunsOfLine := goodIn_r _ [14, 5, 15, 16, 17, 13, 18, 19, 20, 21, 22, 23, 24, 25, 26, 27, 28, 29, 30, 31, 1, 32, 33, 3, 4, 34, 35, 36, 37, 38, 39, 40, 41, 42, 43, 44] (by decide +kernel) (by decide +kernel)
set_option maxRecDepth 20000 in
theorem gX0_findRuns_X0_findRunsOfLine : GoodIn wsX0_findRuns (wsV RX0 71 RX0 yX0_findRunsOfLine wsX0_findRunsOfLine) := goodIn_app (goodIn_of _ (by decide +kernel)) ggX0_findRuns_X0_findRunsOfLine
theorem dX0_findRuns_0 : decode cX0_findRuns 0 = .ok (.aload_n 0, 1) := by decide +kernel
theorem dX0_findRuns_1 : decode cX0_findRuns 1 = .ok (.iconst 0, 1) := by decide +kernel
theorem dX0_findRuns_2 : decode cX0_findRuns 2 = .ok (.putfield 68, 3) := by decide +kernel
theorem dX0_findRuns_5 : decode cX0_findRuns 5 = .ok (.aload_n 0, 1) := by decide +kernel
theorem dX0_findRuns_6 : decode cX0_findRuns 6 = .ok (.getfield 24, 3) := by decide +kernel
theorem dX0_findRuns_9 : decode cX0_findRuns 9 = .ok (.iconst 0, 1) := by decide +kernel
theorem dX0_findRuns_10 : decode cX0_findRuns 10 = .ok (.invokestatic 37, 3) := by decide +kernel
theorem dX0_findRuns_13 : decode cX0_findRuns 13 = .ok (.aload_n 0, 1) := by decide +kernel
theorem dX0_findRuns_14 : decode cX0_findRuns 14 = .ok (.getfield 27, 3) := by decide +kernel
theorem dX0_findRuns_17 : decode cX0_findRuns 17 = .ok (.iconst (-1), 1) := by decide +kernel
theorem dX0_findRuns_18 : decode cX0_findRuns 18 = .ok (.invokestatic 37, 3) := by decide +kernel
theorem dX0_findRuns_21 : decode cX0_findRuns 21 = .ok (.aload_n 0, 1) := by decide +kernel
theorem dX0_findRuns_22 : decode cX0_findRuns 22 = .ok (.getfield 30, 3) := by decide +kernel
theorem dX0_findRuns_25 : decode cX0_findRuns 25 = .ok (.iconst (-1), 1) := by decide +kernel
theorem dX0_findRuns_26 : decode cX0_findRuns 26 = .ok (.invokestatic 37, 3) := by decide +kernel
theorem dX0_findRuns_29 : decode cX0_findRuns 29 = .ok (.iconst 0, 1) := by decide +kernel
theorem dX0_findRuns_30 : decode cX0_findRuns 30 = .ok (.istore_n 1, 1) := by decide +kernel
theorem dX0_findRuns_31 : decode cX0_findRuns 31 = .ok (.iload_n 1, 1) := by decide +kernel
theorem dX0_findRuns_32 : decode cX0_findRuns 32 = .ok (.aload_n 0, 1) := by decide +kernel
theorem dX0_findRuns_33 : decode cX0_findRuns 33 = .ok (.getfield 33, 3) := by decide +kernel
theorem dX0_findRuns_36 : decode cX0_findRuns 36 = .ok (.if_icmp .ge 17, 3) := by decide +kernel
theorem dX0_findRuns_39 : decode cX0_findRuns 39 = .ok (.aload_n 0, 1) := by decide +kernel
theorem dX0_findRuns_40 : decode cX0_findRuns 40 = .ok (.iload_n 1, 1) := by decide +kernel
theorem dX0_findRuns_41 : decode cX0_findRuns 41 = .ok (.iconst 4, 1) := by decide +kernel
theorem dX0_findRuns_42 : decode cX0_findRuns 42 = .ok (.imul, 1) := by decide +kernel
theorem dX0_findRuns_43 : decode cX0_findRuns 43 = .ok (.iconst 1, 1) := by decide +kernel
theorem dX0_findRuns_44 : decode cX0_findRuns 44 = .ok (.invokevirtual 71, 3) := by decide +kernel
theorem dX0_findRuns_47 : decode cX0_findRuns 47 = .ok (.iinc 1 1, 3) := by decide +kernel
theorem dX0_findRuns_50 : decode cX0_findRuns 50 = .ok (.goto (-19), 3) := by decide +kernel
theorem dX0_findRuns_53 : decode cX0_findRuns 53 = .ok (.iconst 0, 1) := by decide +kernel
theorem dX0_findRuns_54 : decode cX0_findRuns 54 = .ok (.istore_n 1, 1) := by decide +kernel
theorem dX0_findRuns_55 : decode cX0_findRuns 55 = .ok (.iload_n 1, 1) := by decide +kernel
theorem dX0_findRuns_56 : decode cX0_findRuns 56 = .ok (.aload_n 0, 1) := by decide +kernel
theorem dX0_findRuns_57 : decode cX0_findRuns 57 = .ok (.getfield 33, 3) := by decide +kernel
theorem dX0_findRuns_60 : decode cX0_findRuns 60 = .ok (.if_icmp .ge 15, 3) := by decide +kernel
theorem dX0_findRuns_63 : decode cX0_findRuns 63 = .ok (.aload_n 0, 1) := by decide +kernel
theorem dX0_findRuns_64 : decode cX0_findRuns 64 = .ok (.iload_n 1, 1) := by decide +kernel
theorem dX0_findRuns_65 : decode cX0_findRuns 65 = .ok (.iconst 4, 1) := by decide +kernel
theorem dX0_findRuns_66 : decode cX0_findRuns 66 = .ok (.invokevirtual 71, 3) := by decide +kernel
theorem dX0_findRuns_69 : decode cX0_findRuns 69 = .ok (.iinc 1 1, 3) := by decide +kernel
theorem dX0_findRuns_72 : decode cX0_findRuns 72 = .ok (.goto (-17), 3) := by decide +kernel
theorem dX0_findRuns_75 : decode cX0_findRuns 75 = .ok (.return_, 1) := by decide +kernel
set_option maxRecDepth 20000 in
theorem ggX0_findRunsOfLine_X0_isOpen : GoodIn wsX0_findRunsOfLine wsX0_isOpen := goodIn_r _ [6, 7, 8, 9, 10, 5, 11, 1, 12, 13, 14, 27, 28, 29, 30, 31, 32, 33, 34, 35] (by decide +kernel) (by decide +kernel)
set_option maxRecDepth 20000 in
theorem gX0_findRunsOfLine_X0_isOpen : GoodIn wsX0_findRunsOfLine (wsV RX0 58 RX0 yX0_isOpen wsX0_isOpen) := goodIn_app (goodIn_of _ (by decide +kernel)) ggX0_findRunsOfLine_X0_isOpen
set_option maxRecDepth 20000 in
theorem ggX0_findRunsOfLine_X0_addRun : GoodIn wsX0_findRunsOfLine wsX0_addRun := goodIn_r _ [18, 19, 20, 21, 22, 23, 24, 25, 13, 26, 27, 28, 29, 30, 31, 32, 33, 34, 35] (by decide +kernel) (by decide +kernel)
set_option maxRecDepth 20000 in
theorem gX0_findRunsOfLine_X0_addRun : GoodIn wsX0_findRunsOfLine (wsV RX0 75 RX0 yX0_addRun wsX0_addRun) := goodIn_app (goodIn_of _ (by decide +kernel)) ggX0_findRunsOfLine_X0_addRun
theorem dX0_findRunsOfLine_0 : decode cX0_findRunsOfLine 0 = .ok (.iconst 0, 1) := by decide +kernel
theorem dX0_findRunsOfLine_1 : decode cX0_findRunsOfLine 1 = .ok (.istore_n 3, 1) := by decide +kernel
theorem dX0_findRunsOfLine_2 : decode cX0_findRunsOfLine 2 = .ok (.iconst 0, 1) := by decide +kernel
theorem dX0_findRunsOfLine_3 : decode cX0_findRunsOfLine 3 = .ok (.istore 4, 2) := by decide +kernel
theorem dX0_findRunsOfLine_5 : decode cX0_findRunsOfLine 5 = .ok (.iload 4, 2) := by decide +kernel
theorem dX0_findRunsOfLine_7 : decode cX0_findRunsOfLine 7 = .ok (.aload_n 0, 1) := by decide +kernel
theorem dX0_findRunsOfLine_8 : decode cX0_findRunsOfLine 8 = .ok (.getfield 33, 3) := by decide +kernel
theorem dX0_findRunsOfLine_11 : decode cX0_findRunsOfLine 11 = .ok (.if_icmp .gt 53, 3) := by decide +kernel
theorem dX0_findRunsOfLine_14 : decode cX0_findRunsOfLine 14 = .ok (.iload 4, 2) := by decide +kernel
theorem dX0_findRunsOfLine_16 : decode cX0_findRunsOfLine 16 = .ok (.aload_n 0, 1) := by decide +kernel
theorem dX0_findRunsOfLine_17 : decode cX0_findRunsOfLine 17 = .ok (.getfield 33, 3) := by decide +kernel
theorem dX0_findRunsOfLine_20 : decode cX0_findRunsOfLine 20 = .ok (.if_icmp .ge 22, 3) := by decide +kernel
theorem dX0_findRunsOfLine_23 : decode cX0_findRunsOfLine 23 = .ok (.aload_n 0, 1) := by decide +kernel
theorem dX0_findRunsOfLine_24 : decode cX0_findRunsOfLine 24 = .ok (.iload_n 1, 1) := by decide +kernel
theorem dX0_findRunsOfLine_25 : decode cX0_findRunsOfLine 25 = .ok (.iload 4, 2) := by decide +kernel
theorem dX0_findRunsOfLine_27 : decode cX0_findRunsOfLine 27 = .ok (.iload_n 2, 1) := by decide +kernel
theorem dX0_findRunsOfLine_28 : decode cX0_findRunsOfLine 28 = .ok (.imul, 1) := by decide +kernel
theorem dX0_findRunsOfLine_29 : decode cX0_findRunsOfLine 29 = .ok (.iadd, 1) := by decide +kernel
theorem dX0_findRunsOfLine_30 : decode cX0_findRunsOfLine 30 = .ok (.invokevirtual 58, 3) := by decide +kernel
theorem dX0_findRunsOfLine_33 : decode cX0_findRunsOfLine 33 = .ok (.ifCond .eq 9, 3) := by decide +kernel
theorem dX0_findRunsOfLine_36 : decode cX0_findRunsOfLine 36 = .ok (.iinc 3 1, 3) := by decide +kernel
theorem dX0_findRunsOfLine_39 : decode cX0_findRunsOfLine 39 = .ok (.goto 19, 3) := by decide +kernel
theorem dX0_findRunsOfLine_42 : decode cX0_findRunsOfLine 42 = .ok (.aload_n 0, 1) := by decide +kernel
theorem dX0_findRunsOfLine_43 : decode cX0_findRunsOfLine 43 = .ok (.iload_n 1, 1) := by decide +kernel
theorem dX0_findRunsOfLine_44 : decode cX0_findRunsOfLine 44 = .ok (.iload 4, 2) := by decide +kernel
theorem dX0_findRunsOfLine_46 : decode cX0_findRunsOfLine 46 = .ok (.iload_n 3, 1) := by decide +kernel
theorem dX0_findRunsOfLine_47 : decode cX0_findRunsOfLine 47 = .ok (.isub, 1) := by decide +kernel
theorem dX0_findRunsOfLine_48 : decode cX0_findRunsOfLine 48 = .ok (.iload_n 2, 1) := by decide +kernel
theorem dX0_findRunsOfLine_49 : decode cX0_findRunsOfLine 49 = .ok (.imul, 1) := by decide +kernel
theorem dX0_findRunsOfLine_50 : decode cX0_findRunsOfLine 50 = .ok (.iadd, 1) := by decide +kernel
theorem dX0_findRunsOfLine_51 : decode cX0_findRunsOfLine 51 = .ok (.iload_n 2, 1) := by decide +kernel
theorem dX0_findRunsOfLine_52 : decode cX0_findRunsOfLine 52 = .ok (.iload_n 3, 1) := by decide +kernel
theorem dX0_findRunsOfLine_53 : decode cX0_findRunsOfLine 53 = .ok (.invokevirtual 75, 3) := by decide +kernel
theorem dX0_findRunsOfLine_56 : decode cX0_findRunsOfLine 56 = .ok (.iconst 0, 1) := by decide +kernel
theorem dX0_findRunsOfLine_57 : decode cX0_findRunsOfLine 57 = .ok (.istore_n 3, 1) := by decide +kernel
theorem dX0_findRunsOfLine_58 : decode cX0_findRunsOfLine 58 = .ok (.iinc 4 1, 3) := by decide +kernel
theorem dX0_findRunsOfLine_61 : decode cX0_findRunsOfLine 61 = .ok (.goto (-56), 3) := by decide +kernel
theorem dX0_findRunsOfLine_64 : decode cX0_findRunsOfLine 64 = .ok (.return_, 1) := by decide +kernel
set_option maxRecDepth 20000 in
theorem ggX0_addRun_X3_put : GoodIn wsX0_addRun wsX3_put := goodIn_r _ [9] (by decide +kernel) (by decide +kernel)
set_option maxRecDepth 20000 in
theorem gX0_addRun_X3_put_n54 : GoodIn wsX0_addRun (wsX3_put) := ggX0_addRun_X3_put
theorem dX0_addRun_0 : decode cX0_addRun 0 = .ok (.iload_n 3, 1) := by decide +kernel
theorem dX0_addRun_1 : decode cX0_addRun 1 = .ok (.iconst 2, 1) := by decide +kernel
theorem dX0_addRun_2 : decode cX0_addRun 2 = .ok (.if_icmp .ge 4, 3) := by decide +kernel
theorem dX0_addRun_5 : decode cX0_addRun 5 = .ok (.return_, 1) := by decide +kernel
theorem dX0_addRun_6 : decode cX0_addRun 6 = .ok (.aload_n 0, 1) := by decide +kernel
theorem dX0_addRun_7 : decode cX0_addRun 7 = .ok (.getfield 15, 3) := by decide +kernel
theorem dX0_addRun_10 : decode cX0_addRun 10 = .ok (.aload_n 0, 1) := by decide +kernel
theorem dX0_addRun_11 : decode cX0_addRun 11 = .ok (.getfield 68, 3) := by decide +kernel
theorem dX0_addRun_14 : decode cX0_addRun 14 = .ok (.iload_n 1, 1) := by decide +kernel
theorem dX0_addRun_15 : decode cX0_addRun 15 = .ok (.invokestatic 54, 3) := by decide +kernel
theorem dX0_addRun_18 : decode cX0_addRun 18 = .ok (.aload_n 0, 1) := by decide +kernel
theorem dX0_addRun_19 : decode cX0_addRun 19 = .ok (.getfield 18, 3) := by decide +kernel
theorem dX0_addRun_22 : decode cX0_addRun 22 = .ok (.aload_n 0, 1) := by decide +kernel
theorem dX0_addRun_23 : decode cX0_addRun 23 = .ok (.getfield 68, 3) := by decide +kernel
theorem dX0_addRun_26 : decode cX0_addRun 26 = .ok (.iload_n 2, 1) := by decide +kernel
theorem dX0_addRun_27 : decode cX0_addRun 27 = .ok (.invokestatic 54, 3) := by decide +kernel
theorem dX0_addRun_30 : decode cX0_addRun 30 = .ok (.aload_n 0, 1) := by decide +kernel
theorem dX0_addRun_31 : decode cX0_addRun 31 = .ok (.getfield 21, 3) := by decide +kernel
theorem dX0_addRun_34 : decode cX0_addRun 34 = .ok (.aload_n 0, 1) := by decide +kernel
theorem dX0_addRun_35 : decode cX0_addRun 35 = .ok (.getfield 68, 3) := by decide +kernel
theorem dX0_addRun_38 : decode cX0_addRun 38 = .ok (.iload_n 3, 1) := by decide +kernel
theorem dX0_addRun_39 : decode cX0_addRun 39 = .ok (.invokestatic 54, 3) := by decide +kernel
theorem dX0_addRun_42 : decode cX0_addRun 42 = .ok (.iconst 0, 1) := by decide +kernel
theorem dX0_addRun_43 : decode cX0_addRun 43 = .ok (.istore 4, 2) := by decide +kernel
theorem dX0_addRun_45 : decode cX0_addRun 45 = .ok (.iload 4, 2) := by decide +kernel
theorem dX0_addRun_47 : decode cX0_addRun 47 = .ok (.iload_n 3, 1) := by decide +kernel
theorem dX0_addRun_48 : decode cX0_addRun 48 = .ok (.if_icmp .ge 38, 3) := by decide +kernel
theorem dX0_addRun_51 : decode cX0_addRun 51 = .ok (.iload_n 2, 1) := by decide +kernel
theorem dX0_addRun_52 : decode cX0_addRun 52 = .ok (.iconst 1, 1) := by decide +kernel
theorem dX0_addRun_53 : decode cX0_addRun 53 = .ok (.if_icmp .ne 10, 3) := by decide +kernel
theorem dX0_addRun_56 : decode cX0_addRun 56 = .ok (.aload_n 0, 1) := by decide +kernel
theorem dX0_addRun_57 : decode cX0_addRun 57 = .ok (.getfield 27, 3) := by decide +kernel
theorem dX0_addRun_60 : decode cX0_addRun 60 = .ok (.goto 7, 3) := by decide +kernel
theorem dX0_addRun_63 : decode cX0_addRun 63 = .ok (.aload_n 0, 1) := by decide +kernel
theorem dX0_addRun_64 : decode cX0_addRun 64 = .ok (.getfield 30, 3) := by decide +kernel
theorem dX0_addRun_67 : decode cX0_addRun 67 = .ok (.iload_n 1, 1) := by decide +kernel
theorem dX0_addRun_68 : decode cX0_addRun 68 = .ok (.iload 4, 2) := by decide +kernel
theorem dX0_addRun_70 : decode cX0_addRun 70 = .ok (.iload_n 2, 1) := by decide +kernel
theorem dX0_addRun_71 : decode cX0_addRun 71 = .ok (.imul, 1) := by decide +kernel
theorem dX0_addRun_72 : decode cX0_addRun 72 = .ok (.iadd, 1) := by decide +kernel
theorem dX0_addRun_73 : decode cX0_addRun 73 = .ok (.aload_n 0, 1) := by decide +kernel
theorem dX0_addRun_74 : decode cX0_addRun 74 = .ok (.getfield 68, 3) := by decide +kernel
theorem dX0_addRun_77 : decode cX0_addRun 77 = .ok (.invokestatic 54, 3) := by decide +kernel
theorem dX0_addRun_80 : decode cX0_addRun 80 = .ok (.iinc 4 1, 3) := by decide +kernel
theorem dX0_addRun_83 : decode cX0_addRun 83 = .ok (.goto (-38), 3) := by decide +kernel
theorem dX0_addRun_86 : decode cX0_addRun 86 = .ok (.aload_n 0, 1) := by decide +kernel
theorem dX0_addRun_87 : decode cX0_addRun 87 = .ok (.dup, 1) := by decide +kernel
theorem dX0_addRun_88 : decode cX0_addRun 88 = .ok (.getfield 68, 3) := by decide +kernel
theorem dX0_addRun_91 : decode cX0_addRun 91 = .ok (.iconst 1, 1) := by decide +kernel
theorem dX0_addRun_92 : decode cX0_addRun 92 = .ok (.iadd, 1) := by decide +kernel
theorem dX0_addRun_93 : decode cX0_addRun 93 = .ok (.putfield 68, 3) := by decide +kernel
theorem dX0_addRun_96 : decode cX0_addRun 96 = .ok (.return_, 1) := by decide +kernel
set_option maxRecDepth 20000 in
theorem ggX0_isFilled_X0_countBlanks : GoodIn wsX0_isFilled wsX0_countBlanks := goodIn_r _ [5, 6, 7, 8, 4, 9, 10, 11, 12, 13, 14, 15, 16, 17, 18, 19, 20, 21, 22, 23, 24, 25, 26, 27] (by decide +kernel) (by decide +kernel)
set_option maxRecDepth 20000 in
theorem gX0_isFilled_X0_countBlanks : GoodIn wsX0_isFilled (wsV RX0 79 RX0 yX0_countBlanks wsX0_countBlanks) := goodIn_app (goodIn_of _ (by decide +kernel)) ggX0_isFilled_X0_countBlanks
theorem dX0_isFilled_0 : decode cX0_isFilled 0 = .ok (.aload_n 0, 1) := by decide +kernel
theorem dX0_isFilled_1 : decode cX0_isFilled 1 = .ok (.invokevirtual 79, 3) := by decide +kernel
theorem dX0_isFilled_4 : decode cX0_isFilled 4 = .ok (.ifCond .ne 7, 3) := by decide +kernel
theorem dX0_isFilled_7 : decode cX0_isFilled 7 = .ok (.iconst 1, 1) := by decide +kernel
theorem dX0_isFilled_8 : decode cX0_isFilled 8 = .ok (.goto 4, 3) := by decide +kernel
theorem dX0_isFilled_11 : decode cX0_isFilled 11 = .ok (.iconst 0, 1) := by decide +kernel
theorem dX0_isFilled_12 : decode cX0_isFilled 12 = .ok (.ireturn, 1) := by decide +kernel
set_option maxRecDepth 20000 in
theorem ggX0_givesTwice_X0_hasTwice : GoodIn wsX0_givesTwice wsX0_hasTwice := goodIn_r _ [7, 8, 9, 10, 6, 11, 12, 13, 14, 15, 16, 17, 18, 19, 20, 21, 22, 23, 24, 25, 26, 27, 28, 29, 30] (by decide +kernel) (by decide +kernel)
set_option maxRecDepth 20000 in
theorem gX0_givesTwice_X0_hasTwice : GoodIn wsX0_givesTwice (wsV RX0 82 RX0 yX0_hasTwice wsX0_hasTwice) := goodIn_app (goodIn_of _ (by decide +kernel)) ggX0_givesTwice_X0_hasTwice
theorem dX0_givesTwice_0 : decode cX0_givesTwice 0 = .ok (.iconst 0, 1) := by decide +kernel
theorem dX0_givesTwice_1 : decode cX0_givesTwice 1 = .ok (.istore_n 1, 1) := by decide +kernel
theorem dX0_givesTwice_2 : decode cX0_givesTwice 2 = .ok (.iload_n 1, 1) := by decide +kernel
theorem dX0_givesTwice_3 : decode cX0_givesTwice 3 = .ok (.aload_n 0, 1) := by decide +kernel
theorem dX0_givesTwice_4 : decode cX0_givesTwice 4 = .ok (.getfield 68, 3) := by decide +kernel
theorem dX0_givesTwice_7 : decode cX0_givesTwice 7 = .ok (.if_icmp .ge 23, 3) := by decide +kernel
theorem dX0_givesTwice_10 : decode cX0_givesTwice 10 = .ok (.aload_n 0, 1) := by decide +kernel
theorem dX0_givesTwice_11 : decode cX0_givesTwice 11 = .ok (.iload_n 1, 1) := by decide +kernel
theorem dX0_givesTwice_12 : decode cX0_givesTwice 12 = .ok (.aload_n 0, 1) := by decide +kernel
theorem dX0_givesTwice_13 : decode cX0_givesTwice 13 = .ok (.getfield 9, 3) := by decide +kernel
theorem dX0_givesTwice_16 : decode cX0_givesTwice 16 = .ok (.invokevirtual 82, 3) := by decide +kernel
theorem dX0_givesTwice_19 : decode cX0_givesTwice 19 = .ok (.ifCond .eq 5, 3) := by decide +kernel
theorem dX0_givesTwice_22 : decode cX0_givesTwice 22 = .ok (.iconst 1, 1) := by decide +kernel
theorem dX0_givesTwice_23 : decode cX0_givesTwice 23 = .ok (.ireturn, 1) := by decide +kernel
theorem dX0_givesTwice_24 : decode cX0_givesTwice 24 = .ok (.iinc 1 1, 3) := by decide +kernel
theorem dX0_givesTwice_27 : decode cX0_givesTwice 27 = .ok (.goto (-25), 3) := by decide +kernel
theorem dX0_givesTwice_30 : decode cX0_givesTwice 30 = .ok (.iconst 0, 1) := by decide +kernel
theorem dX0_givesTwice_31 : decode cX0_givesTwice 31 = .ok (.ireturn, 1) := by decide +kernel
set_option maxRecDepth 20000 in
theorem ggX0_sumAndEmpty_X0_totalOf : GoodIn wsX0_sumAndEmpty wsX0_totalOf := goodIn_r _ [8, 9, 10, 11, 7, 12, 13, 14, 15, 16, 17, 18, 19, 20, 21, 22, 34, 35, 36, 37, 38, 39, 40, 41, 42] (by decide +kernel) (by decide +kernel)
set_option maxRecDepth 20000 in
theorem gX0_sumAndEmpty_X0_totalOf : GoodIn wsX0_sumAndEmpty (wsV RX0 86 RX0 yX0_totalOf wsX0_totalOf) := goodIn_app (goodIn_of _ (by decide +kernel)) ggX0_sumAndEmpty_X0_totalOf
set_option maxRecDepth 20000 in
theorem ggX0_sumAndEmpty_X3_put : GoodIn wsX0_sumAndEmpty wsX3_put := goodIn_r _ [24] (by decide +kernel) (by decide +kernel)
set_option maxRecDepth 20000 in
theorem gX0_sumAndEmpty_X3_put_n54 : GoodIn wsX0_sumAndEmpty (wsX3_put) := ggX0_sumAndEmpty_X3_put
set_option maxRecDepth 20000 in
theorem ggX0_sumAndEmpty_X0_isOpen : GoodIn wsX0_sumAndEmpty wsX0_isOpen := goodIn_r _ [28, 3, 29, 30, 31, 7, 32, 33, 14, 15, 16, 34, 35, 36, 37, 38, 39, 40, 41, 42] (by decide +kernel) (by decide +kernel)
set_option maxRecDepth 20000 in
theorem gX0_sumAndEmpty_X0_isOpen : GoodIn wsX0_sumAndEmpty (wsV RX0 58 RX0 yX0_isOpen wsX0_isOpen) := goodIn_app (goodIn_of _ (by decide +kernel)) ggX0_sumAndEmpty_X0_isOpen
theorem dX0_sumAndEmpty_0 : decode cX0_sumAndEmpty 0 = .ok (.iconst 0, 1) := by decide +kernel
theorem dX0_sumAndEmpty_1 : decode cX0_sumAndEmpty 1 = .ok (.istore_n 1, 1) := by decide +kernel
theorem dX0_sumAndEmpty_2 : decode cX0_sumAndEmpty 2 = .ok (.iload_n 1, 1) := by decide +kernel
theorem dX0_sumAndEmpty_3 : decode cX0_sumAndEmpty 3 = .ok (.aload_n 0, 1) := by decide +kernel
theorem dX0_sumAndEmpty_4 : decode cX0_sumAndEmpty 4 = .ok (.getfield 68, 3) := by decide +kernel
theorem dX0_sumAndEmpty_7 : decode cX0_sumAndEmpty 7 = .ok (.if_icmp .ge 26, 3) := by decide +kernel
theorem dX0_sumAndEmpty_10 : decode cX0_sumAndEmpty 10 = .ok (.aload_n 0, 1) := by decide +kernel
theorem dX0_sumAndEmpty_11 : decode cX0_sumAndEmpty 11 = .ok (.getfield 24, 3) := by decide +kernel
theorem dX0_sumAndEmpty_14 : decode cX0_sumAndEmpty 14 = .ok (.iload_n 1, 1) := by decide +kernel
theorem dX0_sumAndEmpty_15 : decode cX0_sumAndEmpty 15 = .ok (.aload_n 0, 1) := by decide +kernel
theorem dX0_sumAndEmpty_16 : decode cX0_sumAndEmpty 16 = .ok (.iload_n 1, 1) := by decide +kernel
theorem dX0_sumAndEmpty_17 : decode cX0_sumAndEmpty 17 = .ok (.aload_n 0, 1) := by decide +kernel
theorem dX0_sumAndEmpty_18 : decode cX0_sumAndEmpty 18 = .ok (.getfield 9, 3) := by decide +kernel
theorem dX0_sumAndEmpty_21 : decode cX0_sumAndEmpty 21 = .ok (.invokevirtual 86, 3) := by decide +kernel
theorem dX0_sumAndEmpty_24 : decode cX0_sumAndEmpty 24 = .ok (.invokestatic 54, 3) := by decide +kernel
theorem dX0_sumAndEmpty_27 : decode cX0_sumAndEmpty 27 = .ok (.iinc 1 1, 3) := by decide +kernel
theorem dX0_sumAndEmpty_30 : decode cX0_sumAndEmpty 30 = .ok (.goto (-28), 3) := by decide +kernel
theorem dX0_sumAndEmpty_33 : decode cX0_sumAndEmpty 33 = .ok (.iconst 0, 1) := by decide +kernel
theorem dX0_sumAndEmpty_34 : decode cX0_sumAndEmpty 34 = .ok (.istore_n 1, 1) := by decide +kernel
theorem dX0_sumAndEmpty_35 : decode cX0_sumAndEmpty 35 = .ok (.iload_n 1, 1) := by decide +kernel
theorem dX0_sumAndEmpty_36 : decode cX0_sumAndEmpty 36 = .ok (.bipush 16, 2) := by decide +kernel
theorem dX0_sumAndEmpty_38 : decode cX0_sumAndEmpty 38 = .ok (.if_icmp .ge 26, 3) := by decide +kernel
theorem dX0_sumAndEmpty_41 : decode cX0_sumAndEmpty 41 = .ok (.aload_n 0, 1) := by decide +kernel
theorem dX0_sumAndEmpty_42 : decode cX0_sumAndEmpty 42 = .ok (.iload_n 1, 1) := by decide +kernel
theorem dX0_sumAndEmpty_43 : decode cX0_sumAndEmpty 43 = .ok (.invokevirtual 58, 3) := by decide +kernel
theorem dX0_sumAndEmpty_46 : decode cX0_sumAndEmpty 46 = .ok (.ifCond .eq 12, 3) := by decide +kernel
theorem dX0_sumAndEmpty_49 : decode cX0_sumAndEmpty 49 = .ok (.aload_n 0, 1) := by decide +kernel
theorem dX0_sumAndEmpty_50 : decode cX0_sumAndEmpty 50 = .ok (.getfield 9, 3) := by decide +kernel
theorem dX0_sumAndEmpty_53 : decode cX0_sumAndEmpty 53 = .ok (.iload_n 1, 1) := by decide +kernel
theorem dX0_sumAndEmpty_54 : decode cX0_sumAndEmpty 54 = .ok (.iconst 0, 1) := by decide +kernel
theorem dX0_sumAndEmpty_55 : decode cX0_sumAndEmpty 55 = .ok (.invokestatic 54, 3) := by decide +kernel
theorem dX0_sumAndEmpty_58 : decode cX0_sumAndEmpty 58 = .ok (.iinc 1 1, 3) := by decide +kernel
theorem dX0_sumAndEmpty_61 : decode cX0_sumAndEmpty 61 = .ok (.goto (-26), 3) := by decide +kernel
theorem dX0_sumAndEmpty_64 : decode cX0_sumAndEmpty 64 = .ok (.return_, 1) := by decide +kernel
set_option maxRecDepth 20000 in
theorem ggX0_isAnswer_X0_sumAt : GoodIn wsX0_isAnswer wsX0_sumAt := goodIn_r _ [6, 7, 8, 9, 10, 30, 31, 32, 33, 34, 35, 36, 37, 38] (by decide +kernel) (by decide +kernel)
set_option maxRecDepth 20000 in
theorem gX0_isAnswer_X0_sumAt : GoodIn wsX0_isAnswer (wsV RX0 90 RX0 yX0_sumAt wsX0_sumAt) := goodIn_app (goodIn_of _ (by decide +kernel)) ggX0_isAnswer_X0_sumAt
set_option maxRecDepth 20000 in
theorem ggX0_isAnswer_X0_hasTwice : GoodIn wsX0_isAnswer wsX0_hasTwice := goodIn_r _ [14, 15, 16, 17, 5, 18, 19, 8, 9, 10, 20, 21, 22, 23, 24, 25, 30, 31, 32, 33, 34, 35, 36, 37, 38] (by decide +kernel) (by decide +kernel)
set_option maxRecDepth 20000 in
theorem gX0_isAnswer_X0_hasTwice : GoodIn wsX0_isAnswer (wsV RX0 82 RX0 yX0_hasTwice wsX0_hasTwice) := goodIn_app (goodIn_of _ (by decide +kernel)) ggX0_isAnswer_X0_hasTwice
set_option maxRecDepth 20000 in
theorem ggX0_isAnswer_X0_totalOf : GoodIn wsX0_isAnswer wsX0_totalOf := goodIn_r _ [29, 15, 16, 17, 5, 18, 19, 8, 9, 10, 20, 21, 22, 23, 24, 25, 30, 31, 32, 33, 34, 35, 36, 37, 38] (by decide +kernel) (by decide +kernel)
set_option maxRecDepth 20000 in
theorem gX0_isAnswer_X0_totalOf : GoodIn wsX0_isAnswer (wsV RX0 86 RX0 yX0_totalOf wsX0_totalOf) := goodIn_app (goodIn_of _ (by decide +kernel)) ggX0_isAnswer_X0_totalOf
theorem dX0_isAnswer_0 : decode cX0_isAnswer 0 = .ok (.iconst 0, 1) := by decide +kernel
theorem dX0_isAnswer_1 : decode cX0_isAnswer 1 = .ok (.istore_n 2, 1) := by decide +kernel
theorem dX0_isAnswer_2 : decode cX0_isAnswer 2 = .ok (.iload_n 2, 1) := by decide +kernel
theorem dX0_isAnswer_3 : decode cX0_isAnswer 3 = .ok (.aload_n 0, 1) := by decide +kernel
theorem dX0_isAnswer_4 : decode cX0_isAnswer 4 = .ok (.getfield 68, 3) := by decide +kernel
theorem dX0_isAnswer_7 : decode cX0_isAnswer 7 = .ok (.if_icmp .ge 40, 3) := by decide +kernel
theorem dX0_isAnswer_10 : decode cX0_isAnswer 10 = .ok (.aload_n 0, 1) := by decide +kernel
theorem dX0_isAnswer_11 : decode cX0_isAnswer 11 = .ok (.iload_n 2, 1) := by decide +kernel
theorem dX0_isAnswer_12 : decode cX0_isAnswer 12 = .ok (.invokevirtual 90, 3) := by decide +kernel
theorem dX0_isAnswer_15 : decode cX0_isAnswer 15 = .ok (.istore_n 3, 1) := by decide +kernel
theorem dX0_isAnswer_16 : decode cX0_isAnswer 16 = .ok (.aload_n 0, 1) := by decide +kernel
theorem dX0_isAnswer_17 : decode cX0_isAnswer 17 = .ok (.iload_n 2, 1) := by decide +kernel
theorem dX0_isAnswer_18 : decode cX0_isAnswer 18 = .ok (.aload_n 1, 1) := by decide +kernel
theorem dX0_isAnswer_19 : decode cX0_isAnswer 19 = .ok (.invokevirtual 82, 3) := by decide +kernel
theorem dX0_isAnswer_22 : decode cX0_isAnswer 22 = .ok (.ifCond .ne 17, 3) := by decide +kernel
theorem dX0_isAnswer_25 : decode cX0_isAnswer 25 = .ok (.iload_n 3, 1) := by decide +kernel
theorem dX0_isAnswer_26 : decode cX0_isAnswer 26 = .ok (.ifCond .eq 15, 3) := by decide +kernel
theorem dX0_isAnswer_29 : decode cX0_isAnswer 29 = .ok (.aload_n 0, 1) := by decide +kernel
theorem dX0_isAnswer_30 : decode cX0_isAnswer 30 = .ok (.iload_n 2, 1) := by decide +kernel
theorem dX0_isAnswer_31 : decode cX0_isAnswer 31 = .ok (.aload_n 1, 1) := by decide +kernel
theorem dX0_isAnswer_32 : decode cX0_isAnswer 32 = .ok (.invokevirtual 86, 3) := by decide +kernel
theorem dX0_isAnswer_35 : decode cX0_isAnswer 35 = .ok (.iload_n 3, 1) := by decide +kernel
theorem dX0_isAnswer_36 : decode cX0_isAnswer 36 = .ok (.if_icmp .eq 5, 3) := by decide +kernel
theorem dX0_isAnswer_39 : decode cX0_isAnswer 39 = .ok (.iconst 0, 1) := by decide +kernel
theorem dX0_isAnswer_40 : decode cX0_isAnswer 40 = .ok (.ireturn, 1) := by decide +kernel
theorem dX0_isAnswer_41 : decode cX0_isAnswer 41 = .ok (.iinc 2 1, 3) := by decide +kernel
theorem dX0_isAnswer_44 : decode cX0_isAnswer 44 = .ok (.goto (-42), 3) := by decide +kernel
theorem dX0_isAnswer_47 : decode cX0_isAnswer 47 = .ok (.iconst 1, 1) := by decide +kernel
theorem dX0_isAnswer_48 : decode cX0_isAnswer 48 = .ok (.ireturn, 1) := by decide +kernel
set_option maxRecDepth 20000 in
theorem ggX0_hasTwice_X0_lengthAt : GoodIn wsX0_hasTwice wsX0_lengthAt := goodIn_r _ [5, 6, 7, 8, 9, 16, 17, 18, 19, 20, 21, 22, 23, 24] (by decide +kernel) (by decide +kernel)
set_option maxRecDepth 20000 in
theorem gX0_hasTwice_X0_lengthAt : GoodIn wsX0_hasTwice (wsV RX0 94 RX0 yX0_lengthAt wsX0_lengthAt) := goodIn_app (goodIn_of _ (by decide +kernel)) ggX0_hasTwice_X0_lengthAt
set_option maxRecDepth 20000 in
theorem ggX0_hasTwice_X0_cellAt : GoodIn wsX0_hasTwice wsX0_cellAt := goodIn_r _ [13, 14, 15, 7, 8, 9, 16, 17, 18, 19, 20, 21, 22, 23, 24] (by decide +kernel) (by decide +kernel)
set_option maxRecDepth 20000 in
theorem gX0_hasTwice_X0_cellAt : GoodIn wsX0_hasTwice (wsV RX0 97 RX0 yX0_cellAt wsX0_cellAt) := goodIn_app (goodIn_of _ (by decide +kernel)) ggX0_hasTwice_X0_cellAt
set_option maxRecDepth 20000 in
theorem ggX0_hasTwice_X3_at : GoodIn wsX0_hasTwice wsX3_at := goodIn_r _ [9] (by decide +kernel) (by decide +kernel)
set_option maxRecDepth 20000 in
theorem gX0_hasTwice_X3_at_n50 : GoodIn wsX0_hasTwice (wsX3_at) := ggX0_hasTwice_X3_at
theorem dX0_hasTwice_0 : decode cX0_hasTwice 0 = .ok (.iconst 0, 1) := by decide +kernel
theorem dX0_hasTwice_1 : decode cX0_hasTwice 1 = .ok (.istore_n 3, 1) := by decide +kernel
theorem dX0_hasTwice_2 : decode cX0_hasTwice 2 = .ok (.aload_n 0, 1) := by decide +kernel
theorem dX0_hasTwice_3 : decode cX0_hasTwice 3 = .ok (.iload_n 1, 1) := by decide +kernel
theorem dX0_hasTwice_4 : decode cX0_hasTwice 4 = .ok (.invokevirtual 94, 3) := by decide +kernel
theorem dX0_hasTwice_7 : decode cX0_hasTwice 7 = .ok (.istore 4, 2) := by decide +kernel
theorem dX0_hasTwice_9 : decode cX0_hasTwice 9 = .ok (.iconst 0, 1) := by decide +kernel
theorem dX0_hasTwice_10 : decode cX0_hasTwice 10 = .ok (.istore 5, 2) := by decide +kernel
theorem dX0_hasTwice_12 : decode cX0_hasTwice 12 = .ok (.iload 5, 2) := by decide +kernel
theorem dX0_hasTwice_14 : decode cX0_hasTwice 14 = .ok (.iload 4, 2) := by decide +kernel
theorem dX0_hasTwice_16 : decode cX0_hasTwice 16 = .ok (.if_icmp .ge 38, 3) := by decide +kernel
theorem dX0_hasTwice_19 : decode cX0_hasTwice 19 = .ok (.iconst 1, 1) := by decide +kernel
theorem dX0_hasTwice_20 : decode cX0_hasTwice 20 = .ok (.aload_n 2, 1) := by decide +kernel
theorem dX0_hasTwice_21 : decode cX0_hasTwice 21 = .ok (.aload_n 0, 1) := by decide +kernel
theorem dX0_hasTwice_22 : decode cX0_hasTwice 22 = .ok (.iload_n 1, 1) := by decide +kernel
theorem dX0_hasTwice_23 : decode cX0_hasTwice 23 = .ok (.iload 5, 2) := by decide +kernel
theorem dX0_hasTwice_25 : decode cX0_hasTwice 25 = .ok (.invokevirtual 97, 3) := by decide +kernel
theorem dX0_hasTwice_28 : decode cX0_hasTwice 28 = .ok (.invokestatic 50, 3) := by decide +kernel
theorem dX0_hasTwice_31 : decode cX0_hasTwice 31 = .ok (.ishl, 1) := by decide +kernel
theorem dX0_hasTwice_32 : decode cX0_hasTwice 32 = .ok (.istore 6, 2) := by decide +kernel
theorem dX0_hasTwice_34 : decode cX0_hasTwice 34 = .ok (.iload_n 3, 1) := by decide +kernel
theorem dX0_hasTwice_35 : decode cX0_hasTwice 35 = .ok (.iload 6, 2) := by decide +kernel
theorem dX0_hasTwice_37 : decode cX0_hasTwice 37 = .ok (.iand, 1) := by decide +kernel
theorem dX0_hasTwice_38 : decode cX0_hasTwice 38 = .ok (.ifCond .eq 5, 3) := by decide +kernel
theorem dX0_hasTwice_41 : decode cX0_hasTwice 41 = .ok (.iconst 1, 1) := by decide +kernel
theorem dX0_hasTwice_42 : decode cX0_hasTwice 42 = .ok (.ireturn, 1) := by decide +kernel
theorem dX0_hasTwice_43 : decode cX0_hasTwice 43 = .ok (.iload_n 3, 1) := by decide +kernel
theorem dX0_hasTwice_44 : decode cX0_hasTwice 44 = .ok (.iload 6, 2) := by decide +kernel
theorem dX0_hasTwice_46 : decode cX0_hasTwice 46 = .ok (.ior, 1) := by decide +kernel
theorem dX0_hasTwice_47 : decode cX0_hasTwice 47 = .ok (.istore_n 3, 1) := by decide +kernel
theorem dX0_hasTwice_48 : decode cX0_hasTwice 48 = .ok (.iinc 5 1, 3) := by decide +kernel
theorem dX0_hasTwice_51 : decode cX0_hasTwice 51 = .ok (.goto (-39), 3) := by decide +kernel
theorem dX0_hasTwice_54 : decode cX0_hasTwice 54 = .ok (.iconst 0, 1) := by decide +kernel
theorem dX0_hasTwice_55 : decode cX0_hasTwice 55 = .ok (.ireturn, 1) := by decide +kernel
set_option maxRecDepth 20000 in
theorem ggX0_totalOf_X0_lengthAt : GoodIn wsX0_totalOf wsX0_lengthAt := goodIn_r _ [5, 6, 7, 8, 9, 16, 17, 18, 19, 20, 21, 22, 23, 24] (by decide +kernel) (by decide +kernel)
set_option maxRecDepth 20000 in
theorem gX0_totalOf_X0_lengthAt : GoodIn wsX0_totalOf (wsV RX0 94 RX0 yX0_lengthAt wsX0_lengthAt) := goodIn_app (goodIn_of _ (by decide +kernel)) ggX0_totalOf_X0_lengthAt
set_option maxRecDepth 20000 in
theorem ggX0_totalOf_X0_cellAt : GoodIn wsX0_totalOf wsX0_cellAt := goodIn_r _ [13, 14, 15, 7, 8, 9, 16, 17, 18, 19, 20, 21, 22, 23, 24] (by decide +kernel) (by decide +kernel)
set_option maxRecDepth 20000 in
theorem gX0_totalOf_X0_cellAt : GoodIn wsX0_totalOf (wsV RX0 97 RX0 yX0_cellAt wsX0_cellAt) := goodIn_app (goodIn_of _ (by decide +kernel)) ggX0_totalOf_X0_cellAt
set_option maxRecDepth 20000 in
theorem ggX0_totalOf_X3_at : GoodIn wsX0_totalOf wsX3_at := goodIn_r _ [9] (by decide +kernel) (by decide +kernel)
set_option maxRecDepth 20000 in
theorem gX0_totalOf_X3_at_n50 : GoodIn wsX0_totalOf (wsX3_at) := ggX0_totalOf_X3_at
theorem dX0_totalOf_0 : decode cX0_totalOf 0 = .ok (.iconst 0, 1) := by decide +kernel
theorem dX0_totalOf_1 : decode cX0_totalOf 1 = .ok (.istore_n 3, 1) := by decide +kernel
theorem dX0_totalOf_2 : decode cX0_totalOf 2 = .ok (.aload_n 0, 1) := by decide +kernel
theorem dX0_totalOf_3 : decode cX0_totalOf 3 = .ok (.iload_n 1, 1) := by decide +kernel
theorem dX0_totalOf_4 : decode cX0_totalOf 4 = .ok (.invokevirtual 94, 3) := by decide +kernel
theorem dX0_totalOf_7 : decode cX0_totalOf 7 = .ok (.istore 4, 2) := by decide +kernel
theorem dX0_totalOf_9 : decode cX0_totalOf 9 = .ok (.iconst 0, 1) := by decide +kernel
theorem dX0_totalOf_10 : decode cX0_totalOf 10 = .ok (.istore 5, 2) := by decide +kernel
theorem dX0_totalOf_12 : decode cX0_totalOf 12 = .ok (.iload 5, 2) := by decide +kernel
theorem dX0_totalOf_14 : decode cX0_totalOf 14 = .ok (.iload 4, 2) := by decide +kernel
theorem dX0_totalOf_16 : decode cX0_totalOf 16 = .ok (.if_icmp .ge 23, 3) := by decide +kernel
theorem dX0_totalOf_19 : decode cX0_totalOf 19 = .ok (.iload_n 3, 1) := by decide +kernel
theorem dX0_totalOf_20 : decode cX0_totalOf 20 = .ok (.aload_n 2, 1) := by decide +kernel
theorem dX0_totalOf_21 : decode cX0_totalOf 21 = .ok (.aload_n 0, 1) := by decide +kernel
theorem dX0_totalOf_22 : decode cX0_totalOf 22 = .ok (.iload_n 1, 1) := by decide +kernel
theorem dX0_totalOf_23 : decode cX0_totalOf 23 = .ok (.iload 5, 2) := by decide +kernel
theorem dX0_totalOf_25 : decode cX0_totalOf 25 = .ok (.invokevirtual 97, 3) := by decide +kernel
theorem dX0_totalOf_28 : decode cX0_totalOf 28 = .ok (.invokestatic 50, 3) := by decide +kernel
theorem dX0_totalOf_31 : decode cX0_totalOf 31 = .ok (.iadd, 1) := by decide +kernel
theorem dX0_totalOf_32 : decode cX0_totalOf 32 = .ok (.istore_n 3, 1) := by decide +kernel
theorem dX0_totalOf_33 : decode cX0_totalOf 33 = .ok (.iinc 5 1, 3) := by decide +kernel
theorem dX0_totalOf_36 : decode cX0_totalOf 36 = .ok (.goto (-24), 3) := by decide +kernel
theorem dX0_totalOf_39 : decode cX0_totalOf 39 = .ok (.iload_n 3, 1) := by decide +kernel
theorem dX0_totalOf_40 : decode cX0_totalOf 40 = .ok (.ireturn, 1) := by decide +kernel
theorem dX1_init_0 : decode cX1_init 0 = .ok (.aload_n 0, 1) := by decide +kernel
theorem dX1_init_1 : decode cX1_init 1 = .ok (.invokespecial 3, 3) := by decide +kernel
theorem dX1_init_4 : decode cX1_init 4 = .ok (.aload_n 0, 1) := by decide +kernel
theorem dX1_init_5 : decode cX1_init 5 = .ok (.bipush 16, 2) := by decide +kernel
theorem dX1_init_7 : decode cX1_init 7 = .ok (.newarray .int, 2) := by decide +kernel
theorem dX1_init_9 : decode cX1_init 9 = .ok (.putfield 9, 3) := by decide +kernel
theorem dX1_init_12 : decode cX1_init 12 = .ok (.aload_n 0, 1) := by decide +kernel
theorem dX1_init_13 : decode cX1_init 13 = .ok (.iconst 4, 1) := by decide +kernel
theorem dX1_init_14 : decode cX1_init 14 = .ok (.newarray .int, 2) := by decide +kernel
theorem dX1_init_16 : decode cX1_init 16 = .ok (.putfield 15, 3) := by decide +kernel
theorem dX1_init_19 : decode cX1_init 19 = .ok (.aload_n 0, 1) := by decide +kernel
theorem dX1_init_20 : decode cX1_init 20 = .ok (.aload_n 1, 1) := by decide +kernel
theorem dX1_init_21 : decode cX1_init 21 = .ok (.putfield 18, 3) := by decide +kernel
theorem dX1_init_24 : decode cX1_init 24 = .ok (.return_, 1) := by decide +kernel
set_option maxRecDepth 20000 in
theorem ggX1_solve_X1_start : GoodIn wsX1_solve wsX1_start := goodIn_r _ [11, 2, 12, 13, 14, 15, 10, 16, 17, 18, 19, 20, 21, 22, 23, 24, 25, 26, 27, 28, 29, 30, 31, 32, 33, 34, 35, 36, 37, 38, 39, 40, 41, 107, 108, 109, 110, 111, 112, 113, 114, 115, 116, 117, 118, 119, 120] (by decide +kernel) (by decide +kernel)
set_option maxRecDepth 20000 in
theorem gX1_solve_X1_start : GoodIn wsX1_solve (wsV RX1 22 RX1 yX1_start wsX1_start) := goodIn_app (goodIn_of _ (by decide +kernel)) ggX1_solve_X1_start
set_option maxRecDepth 20000 in
theorem ggX1_solve_X1_goThrough : GoodIn wsX1_solve wsX1_goThrough := goodIn_r _ [45, 1, 17, 46, 47, 48, 21, 49, 50, 51, 52, 53, 10, 54, 12, 55, 56, 57, 58, 59, 29, 30, 31, 60, 61, 62, 63, 64, 65, 66, 67, 68, 69, 70, 71, 72, 73, 74, 75, 76, 77, 78, 79, 40, 41, 80, 81, 82, 83, 84, 85, 86, 87, 88, 89, 90, 91, 92, 93, 94, 95, 96, 97, 98, 99, 100, 101, 102, 107, 108, 109, 110, 111, 112, 113, 114, 115, 116, 117, 118, 119, 120] (by decide +kernel) (by decide +kernel)
set_option maxRecDepth 20000 in
theorem gX1_solve_X1_goThrough : GoodIn wsX1_solve (wsV RX1 25 RX1 yX1_goThrough wsX1_goThrough) := goodIn_app (goodIn_of _ (by decide +kernel)) ggX1_solve_X1_goThrough
set_option maxRecDepth 20000 in
theorem ggX1_solve_X1_hasEmptyCell : GoodIn wsX1_solve wsX1_hasEmptyCell := goodIn_r _ [106, 17, 12, 18, 19, 20, 21, 22, 23, 24, 25, 26, 27, 28, 29, 30, 31, 107, 108, 109, 110, 111, 112, 113, 114, 115, 116, 117, 118, 119, 120] (by decide +kernel) (by decide +kernel)
set_option maxRecDepth 20000 in
theorem gX1_solve_X1_hasEmptyCell : GoodIn wsX1_solve (wsV RX1 43 RX1 yX1_hasEmptyCell wsX1_hasEmptyCell) := goodIn_app (goodIn_of _ (by decide +kernel)) ggX1_solve_X1_hasEmptyCell
theorem dX1_solve_0 : decode cX1_solve 0 = .ok (.aload_n 0, 1) := by decide +kernel
theorem dX1_solve_1 : decode cX1_solve 1 = .ok (.invokevirtual 22, 3) := by decide +kernel
theorem dX1_solve_4 : decode cX1_solve 4 = .ok (.iconst 1, 1) := by decide +kernel
theorem dX1_solve_5 : decode cX1_solve 5 = .ok (.istore_n 2, 1) := by decide +kernel
theorem dX1_solve_6 : decode cX1_solve 6 = .ok (.iconst 0, 1) := by decide +kernel
theorem dX1_solve_7 : decode cX1_solve 7 = .ok (.istore_n 3, 1) := by decide +kernel
theorem dX1_solve_8 : decode cX1_solve 8 = .ok (.iload_n 3, 1) := by decide +kernel
theorem dX1_solve_9 : decode cX1_solve 9 = .ok (.sipush 1000, 3) := by decide +kernel
theorem dX1_solve_12 : decode cX1_solve 12 = .ok (.if_icmp .ge 61, 3) := by decide +kernel
theorem dX1_solve_15 : decode cX1_solve 15 = .ok (.iload_n 2, 1) := by decide +kernel
theorem dX1_solve_16 : decode cX1_solve 16 = .ok (.iload_n 1, 1) := by decide +kernel
theorem dX1_solve_17 : decode cX1_solve 17 = .ok (.if_icmp .gt 56, 3) := by decide +kernel
theorem dX1_solve_20 : decode cX1_solve 20 = .ok (.aload_n 0, 1) := by decide +kernel
theorem dX1_solve_21 : decode cX1_solve 21 = .ok (.iload_n 2, 1) := by decide +kernel
theorem dX1_solve_22 : decode cX1_solve 22 = .ok (.invokevirtual 25, 3) := by decide +kernel
theorem dX1_solve_25 : decode cX1_solve 25 = .ok (.aload_n 0, 1) := by decide +kernel
theorem dX1_solve_26 : decode cX1_solve 26 = .ok (.getfield 29, 3) := by decide +kernel
theorem dX1_solve_29 : decode cX1_solve 29 = .ok (.ifCond .eq 15, 3) := by decide +kernel
theorem dX1_solve_32 : decode cX1_solve 32 = .ok (.aload_n 0, 1) := by decide +kernel
theorem dX1_solve_33 : decode cX1_solve 33 = .ok (.aload_n 0, 1) := by decide +kernel
theorem dX1_solve_34 : decode cX1_solve 34 = .ok (.getfield 33, 3) := by decide +kernel
theorem dX1_solve_37 : decode cX1_solve 37 = .ok (.iload_n 2, 1) := by decide +kernel
theorem dX1_solve_38 : decode cX1_solve 38 = .ok (.invokestatic 37, 3) := by decide +kernel
theorem dX1_solve_41 : decode cX1_solve 41 = .ok (.putfield 33, 3) := by decide +kernel
theorem dX1_solve_44 : decode cX1_solve 44 = .ok (.aload_n 0, 1) := by decide +kernel
theorem dX1_solve_45 : decode cX1_solve 45 = .ok (.invokevirtual 43, 3) := by decide +kernel
theorem dX1_solve_48 : decode cX1_solve 48 = .ok (.ifCond .eq 4, 3) := by decide +kernel
theorem dX1_solve_51 : decode cX1_solve 51 = .ok (.return_, 1) := by decide +kernel
theorem dX1_solve_52 : decode cX1_solve 52 = .ok (.aload_n 0, 1) := by decide +kernel
theorem dX1_solve_53 : decode cX1_solve 53 = .ok (.getfield 29, 3) := by decide +kernel
theorem dX1_solve_56 : decode cX1_solve 56 = .ok (.ifCond .eq 7, 3) := by decide +kernel
theorem dX1_solve_59 : decode cX1_solve 59 = .ok (.iconst 1, 1) := by decide +kernel
theorem dX1_solve_60 : decode cX1_solve 60 = .ok (.goto 6, 3) := by decide +kernel
theorem dX1_solve_63 : decode cX1_solve 63 = .ok (.iload_n 2, 1) := by decide +kernel
theorem dX1_solve_64 : decode cX1_solve 64 = .ok (.iconst 1, 1) := by decide +kernel
theorem dX1_solve_65 : decode cX1_solve 65 = .ok (.iadd, 1) := by decide +kernel
theorem dX1_solve_66 : decode cX1_solve 66 = .ok (.istore_n 2, 1) := by decide +kernel
theorem dX1_solve_67 : decode cX1_solve 67 = .ok (.iinc 3 1, 3) := by decide +kernel
theorem dX1_solve_70 : decode cX1_solve 70 = .ok (.goto (-62), 3) := by decide +kernel
theorem dX1_solve_73 : decode cX1_solve 73 = .ok (.return_, 1) := by decide +kernel
set_option maxRecDepth 20000 in
theorem ggX1_solveToHint_X1_solve : GoodIn wsX1_solveToHint wsX1_solve := goodIn_r _ [5, 6, 7, 8, 9, 10, 11, 12, 13, 14, 4, 15, 16, 17, 18, 19, 20, 21, 22, 23, 24, 25, 26, 27, 28, 29, 30, 31, 32, 33, 34, 35, 36, 37, 38, 39, 40, 41, 42, 43, 44, 45, 46, 47, 48, 49, 50, 51, 52, 53, 54, 55, 56, 57, 58, 59, 60, 61, 62, 63, 64, 65, 66, 67, 68, 69, 70, 71, 72, 73, 74, 75, 76, 77, 78, 79, 80, 81, 82, 83, 84, 85, 86, 87, 88, 89, 90, 91, 92, 93, 94, 95, 96, 97, 98, 99, 100, 101, 102, 103, 104, 105, 106, 107, 108, 109, 110, 115, 116, 117, 118, 119, 120, 121, 122, 123, 124, 125, 126, 127, 128] (by decide +kernel) (by decide +kernel)
set_option maxRecDepth 20000 in
theorem gX1_solveToHint_X1_solve : GoodIn wsX1_solveToHint (wsV RX1 47 RX1 yX1_solve wsX1_solve) := goodIn_app (goodIn_of _ (by decide +kernel)) ggX1_solveToHint_X1_solve
set_option maxRecDepth 20000 in
theorem ggX1_solveToHint_X1_firstFound : GoodIn wsX1_solveToHint wsX1_firstFound := goodIn_r _ [114, 21, 16, 36, 37, 38, 25, 39, 27, 28, 29, 30, 31, 32, 33, 34, 35, 70, 71, 4, 72, 73, 74, 75, 76, 77, 78, 79, 115, 116, 117, 118, 119, 120, 121, 122, 123, 124, 125, 126, 127, 128] (by decide +kernel) (by decide +kernel)
set_option maxRecDepth 20000 in
theorem gX1_solveToHint_X1_firstFound : GoodIn wsX1_solveToHint (wsV RX1 50 RX1 yX1_firstFound wsX1_firstFound) := goodIn_app (goodIn_of _ (by decide +kernel)) ggX1_solveToHint_X1_firstFound
theorem dX1_solveToHint_0 : decode cX1_solveToHint 0 = .ok (.iconst 1, 1) := by decide +kernel
theorem dX1_solveToHint_1 : decode cX1_solveToHint 1 = .ok (.istore_n 1, 1) := by decide +kernel
theorem dX1_solveToHint_2 : decode cX1_solveToHint 2 = .ok (.iload_n 1, 1) := by decide +kernel
theorem dX1_solveToHint_3 : decode cX1_solveToHint 3 = .ok (.iconst 3, 1) := by decide +kernel
theorem dX1_solveToHint_4 : decode cX1_solveToHint 4 = .ok (.if_icmp .gt 24, 3) := by decide +kernel
theorem dX1_solveToHint_7 : decode cX1_solveToHint 7 = .ok (.aload_n 0, 1) := by decide +kernel
theorem dX1_solveToHint_8 : decode cX1_solveToHint 8 = .ok (.iload_n 1, 1) := by decide +kernel
theorem dX1_solveToHint_9 : decode cX1_solveToHint 9 = .ok (.invokevirtual 47, 3) := by decide +kernel
theorem dX1_solveToHint_12 : decode cX1_solveToHint 12 = .ok (.aload_n 0, 1) := by decide +kernel
theorem dX1_solveToHint_13 : decode cX1_solveToHint 13 = .ok (.invokevirtual 50, 3) := by decide +kernel
theorem dX1_solveToHint_16 : decode cX1_solveToHint 16 = .ok (.iconst (-1), 1) := by decide +kernel
theorem dX1_solveToHint_17 : decode cX1_solveToHint 17 = .ok (.if_icmp .eq 5, 3) := by decide +kernel
theorem dX1_solveToHint_20 : decode cX1_solveToHint 20 = .ok (.iload_n 1, 1) := by decide +kernel
theorem dX1_solveToHint_21 : decode cX1_solveToHint 21 = .ok (.ireturn, 1) := by decide +kernel
theorem dX1_solveToHint_22 : decode cX1_solveToHint 22 = .ok (.iinc 1 1, 3) := by decide +kernel
theorem dX1_solveToHint_25 : decode cX1_solveToHint 25 = .ok (.goto (-23), 3) := by decide +kernel
theorem dX1_solveToHint_28 : decode cX1_solveToHint 28 = .ok (.iconst (-1), 1) := by decide +kernel
theorem dX1_solveToHint_29 : decode cX1_solveToHint 29 = .ok (.ireturn, 1) := by decide +kernel
theorem dX1_greatestRule_0 : decode cX1_greatestRule 0 = .ok (.aload_n 0, 1) := by decide +kernel
theorem dX1_greatestRule_1 : decode cX1_greatestRule 1 = .ok (.getfield 33, 3) := by decide +kernel
theorem dX1_greatestRule_4 : decode cX1_greatestRule 4 = .ok (.ireturn, 1) := by decide +kernel
set_option maxRecDepth 20000 in
theorem ggX1_setAt_X3_at : GoodIn wsX1_setAt wsX3_at := goodIn_r _ [4] (by decide +kernel) (by decide +kernel)
set_option maxRecDepth 20000 in
theorem gX1_setAt_X3_at_n54 : GoodIn wsX1_setAt (wsX3_at) := ggX1_setAt_X3_at
theorem dX1_setAt_0 : decode cX1_setAt 0 = .ok (.aload_n 0, 1) := by decide +kernel
theorem dX1_setAt_1 : decode cX1_setAt 1 = .ok (.getfield 9, 3) := by decide +kernel
theorem dX1_setAt_4 : decode cX1_setAt 4 = .ok (.iload_n 1, 1) := by decide +kernel
theorem dX1_setAt_5 : decode cX1_setAt 5 = .ok (.invokestatic 54, 3) := by decide +kernel
theorem dX1_setAt_8 : decode cX1_setAt 8 = .ok (.ireturn, 1) := by decide +kernel
set_option maxRecDepth 20000 in
theorem ggX1_isSolved_X0_isOpen : GoodIn wsX1_isSolved wsX0_isOpen := goodIn_r _ [7, 8, 9, 10, 11, 6, 12, 13, 14, 15, 16, 33, 34, 35, 36, 37, 38, 39, 40, 41] (by decide +kernel) (by decide +kernel)
set_option maxRecDepth 20000 in
theorem gX1_isSolved_X0_isOpen : GoodIn wsX1_isSolved (wsV RX1 58 RX0 yX0_isOpen wsX0_isOpen) := goodIn_app (goodIn_of _ (by decide +kernel)) ggX1_isSolved_X0_isOpen
set_option maxRecDepth 20000 in
theorem ggX1_isSolved_X3_at : GoodIn wsX1_isSolved wsX3_at := goodIn_r _ [16] (by decide +kernel) (by decide +kernel)
set_option maxRecDepth 20000 in
theorem gX1_isSolved_X3_at_n54 : GoodIn wsX1_isSolved (wsX3_at) := ggX1_isSolved_X3_at
set_option maxRecDepth 20000 in
theorem ggX1_isSolved_X1_isSingle : GoodIn wsX1_isSolved wsX1_isSingle := goodIn_r _ [20, 21, 22, 23, 24, 25, 26, 27] (by decide +kernel) (by decide +kernel)
set_option maxRecDepth 20000 in
theorem gX1_isSolved_X1_isSingle : GoodIn wsX1_isSolved (va_wsS RX1 64 yX1_isSingle wsX1_isSingle) := goodIn_app (goodIn_of _ (by decide +kernel)) ggX1_isSolved_X1_isSingle
theorem dX1_isSolved_0 : decode cX1_isSolved 0 = .ok (.iconst 0, 1) := by decide +kernel
theorem dX1_isSolved_1 : decode cX1_isSolved 1 = .ok (.istore_n 1, 1) := by decide +kernel
theorem dX1_isSolved_2 : decode cX1_isSolved 2 = .ok (.iload_n 1, 1) := by decide +kernel
theorem dX1_isSolved_3 : decode cX1_isSolved 3 = .ok (.bipush 16, 2) := by decide +kernel
theorem dX1_isSolved_5 : decode cX1_isSolved 5 = .ok (.if_icmp .ge 36, 3) := by decide +kernel
theorem dX1_isSolved_8 : decode cX1_isSolved 8 = .ok (.aload_n 0, 1) := by decide +kernel
theorem dX1_isSolved_9 : decode cX1_isSolved 9 = .ok (.getfield 18, 3) := by decide +kernel
theorem dX1_isSolved_12 : decode cX1_isSolved 12 = .ok (.iload_n 1, 1) := by decide +kernel
theorem dX1_isSolved_13 : decode cX1_isSolved 13 = .ok (.invokevirtual 58, 3) := by decide +kernel
theorem dX1_isSolved_16 : decode cX1_isSolved 16 = .ok (.ifCond .eq 19, 3) := by decide +kernel
theorem dX1_isSolved_19 : decode cX1_isSolved 19 = .ok (.aload_n 0, 1) := by decide +kernel
theorem dX1_isSolved_20 : decode cX1_isSolved 20 = .ok (.getfield 9, 3) := by decide +kernel
theorem dX1_isSolved_23 : decode cX1_isSolved 23 = .ok (.iload_n 1, 1) := by decide +kernel
theorem dX1_isSolved_24 : decode cX1_isSolved 24 = .ok (.invokestatic 54, 3) := by decide +kernel
theorem dX1_isSolved_27 : decode cX1_isSolved 27 = .ok (.invokestatic 64, 3) := by decide +kernel
theorem dX1_isSolved_30 : decode cX1_isSolved 30 = .ok (.ifCond .ne 5, 3) := by decide +kernel
theorem dX1_isSolved_33 : decode cX1_isSolved 33 = .ok (.iconst 0, 1) := by decide +kernel
theorem dX1_isSolved_34 : decode cX1_isSolved 34 = .ok (.ireturn, 1) := by decide +kernel
theorem dX1_isSolved_35 : decode cX1_isSolved 35 = .ok (.iinc 1 1, 3) := by decide +kernel
theorem dX1_isSolved_38 : decode cX1_isSolved 38 = .ok (.goto (-36), 3) := by decide +kernel
theorem dX1_isSolved_41 : decode cX1_isSolved 41 = .ok (.iconst 1, 1) := by decide +kernel
theorem dX1_isSolved_42 : decode cX1_isSolved 42 = .ok (.ireturn, 1) := by decide +kernel
set_option maxRecDepth 20000 in
theorem ggX1_firstFound_X0_isBlank : GoodIn wsX1_firstFound wsX0_isBlank := goodIn_r _ [7, 8, 9, 10, 11, 6, 12, 13, 14, 15, 16, 33, 34, 35, 36, 37, 38, 39, 40, 41] (by decide +kernel) (by decide +kernel)
set_option maxRecDepth 20000 in
theorem gX1_firstFound_X0_isBlank : GoodIn wsX1_firstFound (wsV RX1 67 RX0 yX0_isBlank wsX0_isBlank) := goodIn_app (goodIn_of _ (by decide +kernel)) ggX1_firstFound_X0_isBlank
set_option maxRecDepth 20000 in
theorem ggX1_firstFound_X3_at : GoodIn wsX1_firstFound wsX3_at := goodIn_r _ [16] (by decide +kernel) (by decide +kernel)
set_option maxRecDepth 20000 in
theorem gX1_firstFound_X3_at_n54 : GoodIn wsX1_firstFound (wsX3_at) := ggX1_firstFound_X3_at
set_option maxRecDepth 20000 in
theorem ggX1_firstFound_X1_isSingle : GoodIn wsX1_firstFound wsX1_isSingle := goodIn_r _ [20, 21, 22, 23, 24, 25, 26, 27] (by decide +kernel) (by decide +kernel)
set_option maxRecDepth 20000 in
theorem gX1_firstFound_X1_isSingle : GoodIn wsX1_firstFound (va_wsS RX1 64 yX1_isSingle wsX1_isSingle) := goodIn_app (goodIn_of _ (by decide +kernel)) ggX1_firstFound_X1_isSingle
theorem dX1_firstFound_0 : decode cX1_firstFound 0 = .ok (.iconst 0, 1) := by decide +kernel
theorem dX1_firstFound_1 : decode cX1_firstFound 1 = .ok (.istore_n 1, 1) := by decide +kernel
theorem dX1_firstFound_2 : decode cX1_firstFound 2 = .ok (.iload_n 1, 1) := by decide +kernel
theorem dX1_firstFound_3 : decode cX1_firstFound 3 = .ok (.bipush 16, 2) := by decide +kernel
theorem dX1_firstFound_5 : decode cX1_firstFound 5 = .ok (.if_icmp .ge 36, 3) := by decide +kernel
theorem dX1_firstFound_8 : decode cX1_firstFound 8 = .ok (.aload_n 0, 1) := by decide +kernel
theorem dX1_firstFound_9 : decode cX1_firstFound 9 = .ok (.getfield 18, 3) := by decide +kernel
theorem dX1_firstFound_12 : decode cX1_firstFound 12 = .ok (.iload_n 1, 1) := by decide +kernel
theorem dX1_firstFound_13 : decode cX1_firstFound 13 = .ok (.invokevirtual 67, 3) := by decide +kernel
theorem dX1_firstFound_16 : decode cX1_firstFound 16 = .ok (.ifCond .eq 19, 3) := by decide +kernel
theorem dX1_firstFound_19 : decode cX1_firstFound 19 = .ok (.aload_n 0, 1) := by decide +kernel
theorem dX1_firstFound_20 : decode cX1_firstFound 20 = .ok (.getfield 9, 3) := by decide +kernel
theorem dX1_firstFound_23 : decode cX1_firstFound 23 = .ok (.iload_n 1, 1) := by decide +kernel
theorem dX1_firstFound_24 : decode cX1_firstFound 24 = .ok (.invokestatic 54, 3) := by decide +kernel
theorem dX1_firstFound_27 : decode cX1_firstFound 27 = .ok (.invokestatic 64, 3) := by decide +kernel
theorem dX1_firstFound_30 : decode cX1_firstFound 30 = .ok (.ifCond .eq 5, 3) := by decide +kernel
theorem dX1_firstFound_33 : decode cX1_firstFound 33 = .ok (.iload_n 1, 1) := by decide +kernel
theorem dX1_firstFound_34 : decode cX1_firstFound 34 = .ok (.ireturn, 1) := by decide +kernel
theorem dX1_firstFound_35 : decode cX1_firstFound 35 = .ok (.iinc 1 1, 3) := by decide +kernel
theorem dX1_firstFound_38 : decode cX1_firstFound 38 = .ok (.goto (-36), 3) := by decide +kernel
theorem dX1_firstFound_41 : decode cX1_firstFound 41 = .ok (.iconst (-1), 1) := by decide +kernel
theorem dX1_firstFound_42 : decode cX1_firstFound 42 = .ok (.ireturn, 1) := by decide +kernel
set_option maxRecDepth 20000 in
theorem ggX1_start_X1_firstSetOf : GoodIn wsX1_start wsX1_firstSetOf := goodIn_r _ [7, 8, 9, 10, 11, 12, 13, 14, 15, 16, 17, 18, 19, 20, 21, 22, 23, 24, 25, 26, 27, 28, 29, 30, 33, 34, 35, 36, 37, 38, 39, 40, 41, 42, 43, 44, 45, 46] (by decide +kernel) (by decide +kernel)
set_option maxRecDepth 20000 in
theorem gX1_start_X1_firstSetOf : GoodIn wsX1_start (wsV RX1 70 RX1 yX1_firstSetOf wsX1_firstSetOf) := goodIn_app (goodIn_of _ (by decide +kernel)) ggX1_start_X1_firstSetOf
set_option maxRecDepth 20000 in
theorem ggX1_start_X3_put : GoodIn wsX1_start wsX3_put := goodIn_r _ [32] (by decide +kernel) (by decide +kernel)
set_option maxRecDepth 20000 in
theorem gX1_start_X3_put_n74 : GoodIn wsX1_start (wsX3_put) := ggX1_start_X3_put
theorem dX1_start_0 : decode cX1_start 0 = .ok (.aload_n 0, 1) := by decide +kernel
theorem dX1_start_1 : decode cX1_start 1 = .ok (.iconst 0, 1) := by decide +kernel
theorem dX1_start_2 : decode cX1_start 2 = .ok (.putfield 33, 3) := by decide +kernel
theorem dX1_start_5 : decode cX1_start 5 = .ok (.iconst 0, 1) := by decide +kernel
theorem dX1_start_6 : decode cX1_start 6 = .ok (.istore_n 1, 1) := by decide +kernel
theorem dX1_start_7 : decode cX1_start 7 = .ok (.iload_n 1, 1) := by decide +kernel
theorem dX1_start_8 : decode cX1_start 8 = .ok (.bipush 16, 2) := by decide +kernel
theorem dX1_start_10 : decode cX1_start 10 = .ok (.if_icmp .ge 22, 3) := by decide +kernel
theorem dX1_start_13 : decode cX1_start 13 = .ok (.aload_n 0, 1) := by decide +kernel
theorem dX1_start_14 : decode cX1_start 14 = .ok (.getfield 9, 3) := by decide +kernel
theorem dX1_start_17 : decode cX1_start 17 = .ok (.iload_n 1, 1) := by decide +kernel
theorem dX1_start_18 : decode cX1_start 18 = .ok (.aload_n 0, 1) := by decide +kernel
theorem dX1_start_19 : decode cX1_start 19 = .ok (.iload_n 1, 1) := by decide +kernel
theorem dX1_start_20 : decode cX1_start 20 = .ok (.invokevirtual 70, 3) := by decide +kernel
theorem dX1_start_23 : decode cX1_start 23 = .ok (.invokestatic 74, 3) := by decide +kernel
theorem dX1_start_26 : decode cX1_start 26 = .ok (.iinc 1 1, 3) := by decide +kernel
theorem dX1_start_29 : decode cX1_start 29 = .ok (.goto (-22), 3) := by decide +kernel
theorem dX1_start_32 : decode cX1_start 32 = .ok (.return_, 1) := by decide +kernel
set_option maxRecDepth 20000 in
theorem ggX1_firstSetOf_X0_isOpen : GoodIn wsX1_firstSetOf wsX0_isOpen := goodIn_r _ [6, 7, 8, 9, 10, 5, 11, 12, 13, 14, 15, 29, 30, 31, 32, 33, 34, 35, 36, 37] (by decide +kernel) (by decide +kernel)
set_option maxRecDepth 20000 in
theorem gX1_firstSetOf_X0_isOpen : GoodIn wsX1_firstSetOf (wsV RX1 58 RX0 yX0_isOpen wsX0_isOpen) := goodIn_app (goodIn_of _ (by decide +kernel)) ggX1_firstSetOf_X0_isOpen
set_option maxRecDepth 20000 in
theorem ggX1_firstSetOf_X0_isBlank : GoodIn wsX1_firstSetOf wsX0_isBlank := goodIn_r _ [19, 7, 8, 9, 10, 5, 11, 12, 13, 14, 15, 29, 30, 31, 32, 33, 34, 35, 36, 37] (by decide +kernel) (by decide +kernel)
set_option maxRecDepth 20000 in
theorem gX1_firstSetOf_X0_isBlank : GoodIn wsX1_firstSetOf (wsV RX1 67 RX0 yX0_isBlank wsX0_isBlank) := goodIn_app (goodIn_of _ (by decide +kernel)) ggX1_firstSetOf_X0_isBlank
set_option maxRecDepth 20000 in
theorem ggX1_firstSetOf_X0_givenAt : GoodIn wsX1_firstSetOf wsX0_givenAt := goodIn_r _ [23, 7, 13, 14, 15, 29, 30, 31, 32, 33, 34, 35, 36, 37] (by decide +kernel) (by decide +kernel)
set_option maxRecDepth 20000 in
theorem gX1_firstSetOf_X0_givenAt : GoodIn wsX1_firstSetOf (wsV RX1 78 RX0 yX0_givenAt wsX0_givenAt) := goodIn_app (goodIn_of _ (by decide +kernel)) ggX1_firstSetOf_X0_givenAt
theorem dX1_firstSetOf_0 : decode cX1_firstSetOf 0 = .ok (.aload_n 0, 1) := by decide +kernel
theorem dX1_firstSetOf_1 : decode cX1_firstSetOf 1 = .ok (.getfield 18, 3) := by decide +kernel
theorem dX1_firstSetOf_4 : decode cX1_firstSetOf 4 = .ok (.iload_n 1, 1) := by decide +kernel
theorem dX1_firstSetOf_5 : decode cX1_firstSetOf 5 = .ok (.invokevirtual 58, 3) := by decide +kernel
theorem dX1_firstSetOf_8 : decode cX1_firstSetOf 8 = .ok (.ifCond .ne 5, 3) := by decide +kernel
theorem dX1_firstSetOf_11 : decode cX1_firstSetOf 11 = .ok (.iconst 0, 1) := by decide +kernel
theorem dX1_firstSetOf_12 : decode cX1_firstSetOf 12 = .ok (.ireturn, 1) := by decide +kernel
theorem dX1_firstSetOf_13 : decode cX1_firstSetOf 13 = .ok (.aload_n 0, 1) := by decide +kernel
theorem dX1_firstSetOf_14 : decode cX1_firstSetOf 14 = .ok (.getfield 18, 3) := by decide +kernel
theorem dX1_firstSetOf_17 : decode cX1_firstSetOf 17 = .ok (.iload_n 1, 1) := by decide +kernel
theorem dX1_firstSetOf_18 : decode cX1_firstSetOf 18 = .ok (.invokevirtual 67, 3) := by decide +kernel
theorem dX1_firstSetOf_21 : decode cX1_firstSetOf 21 = .ok (.ifCond .eq 9, 3) := by decide +kernel
theorem dX1_firstSetOf_24 : decode cX1_firstSetOf 24 = .ok (.sipush 1022, 3) := by decide +kernel
theorem dX1_firstSetOf_27 : decode cX1_firstSetOf 27 = .ok (.goto 13, 3) := by decide +kernel
theorem dX1_firstSetOf_30 : decode cX1_firstSetOf 30 = .ok (.iconst 1, 1) := by decide +kernel
theorem dX1_firstSetOf_31 : decode cX1_firstSetOf 31 = .ok (.aload_n 0, 1) := by decide +kernel
theorem dX1_firstSetOf_32 : decode cX1_firstSetOf 32 = .ok (.getfield 18, 3) := by decide +kernel
theorem dX1_firstSetOf_35 : decode cX1_firstSetOf 35 = .ok (.iload_n 1, 1) := by decide +kernel
theorem dX1_firstSetOf_36 : decode cX1_firstSetOf 36 = .ok (.invokevirtual 78, 3) := by decide +kernel
theorem dX1_firstSetOf_39 : decode cX1_firstSetOf 39 = .ok (.ishl, 1) := by decide +kernel
theorem dX1_firstSetOf_40 : decode cX1_firstSetOf 40 = .ok (.ireturn, 1) := by decide +kernel
set_option maxRecDepth 20000 in
theorem ggX1_hasEmptyCell_X0_isOpen : GoodIn wsX1_hasEmptyCell wsX0_isOpen := goodIn_r _ [7, 8, 9, 10, 11, 6, 12, 13, 14, 15, 16, 22, 23, 24, 25, 26, 27, 28, 29, 30] (by decide +kernel) (by decide +kernel)
set_option maxRecDepth 20000 in
theorem gX1_hasEmptyCell_X0_isOpen : GoodIn wsX1_hasEmptyCell (wsV RX1 58 RX0 yX0_isOpen wsX0_isOpen) := goodIn_app (goodIn_of _ (by decide +kernel)) ggX1_hasEmptyCell_X0_isOpen
set_option maxRecDepth 20000 in
theorem ggX1_hasEmptyCell_X3_at : GoodIn wsX1_hasEmptyCell wsX3_at := goodIn_r _ [16] (by decide +kernel) (by decide +kernel)
set_option maxRecDepth 20000 in
theorem gX1_hasEmptyCell_X3_at_n54 : GoodIn wsX1_hasEmptyCell (wsX3_at) := ggX1_hasEmptyCell_X3_at
theorem dX1_hasEmptyCell_0 : decode cX1_hasEmptyCell 0 = .ok (.iconst 0, 1) := by decide +kernel
theorem dX1_hasEmptyCell_1 : decode cX1_hasEmptyCell 1 = .ok (.istore_n 1, 1) := by decide +kernel
theorem dX1_hasEmptyCell_2 : decode cX1_hasEmptyCell 2 = .ok (.iload_n 1, 1) := by decide +kernel
theorem dX1_hasEmptyCell_3 : decode cX1_hasEmptyCell 3 = .ok (.bipush 16, 2) := by decide +kernel
theorem dX1_hasEmptyCell_5 : decode cX1_hasEmptyCell 5 = .ok (.if_icmp .ge 33, 3) := by decide +kernel
theorem dX1_hasEmptyCell_8 : decode cX1_hasEmptyCell 8 = .ok (.aload_n 0, 1) := by decide +kernel
theorem dX1_hasEmptyCell_9 : decode cX1_hasEmptyCell 9 = .ok (.getfield 18, 3) := by decide +kernel
theorem dX1_hasEmptyCell_12 : decode cX1_hasEmptyCell 12 = .ok (.iload_n 1, 1) := by decide +kernel
theorem dX1_hasEmptyCell_13 : decode cX1_hasEmptyCell 13 = .ok (.invokevirtual 58, 3) := by decide +kernel
theorem dX1_hasEmptyCell_16 : decode cX1_hasEmptyCell 16 = .ok (.ifCond .eq 16, 3) := by decide +kernel
theorem dX1_hasEmptyCell_19 : decode cX1_hasEmptyCell 19 = .ok (.aload_n 0, 1) := by decide +kernel
theorem dX1_hasEmptyCell_20 : decode cX1_hasEmptyCell 20 = .ok (.getfield 9, 3) := by decide +kernel
theorem dX1_hasEmptyCell_23 : decode cX1_hasEmptyCell 23 = .ok (.iload_n 1, 1) := by decide +kernel
theorem dX1_hasEmptyCell_24 : decode cX1_hasEmptyCell 24 = .ok (.invokestatic 54, 3) := by decide +kernel
theorem dX1_hasEmptyCell_27 : decode cX1_hasEmptyCell 27 = .ok (.ifCond .ne 5, 3) := by decide +kernel
theorem dX1_hasEmptyCell_30 : decode cX1_hasEmptyCell 30 = .ok (.iconst 1, 1) := by decide +kernel
theorem dX1_hasEmptyCell_31 : decode cX1_hasEmptyCell 31 = .ok (.ireturn, 1) := by decide +kernel
theorem dX1_hasEmptyCell_32 : decode cX1_hasEmptyCell 32 = .ok (.iinc 1 1, 3) := by decide +kernel
theorem dX1_hasEmptyCell_35 : decode cX1_hasEmptyCell 35 = .ok (.goto (-33), 3) := by decide +kernel
theorem dX1_hasEmptyCell_38 : decode cX1_hasEmptyCell 38 = .ok (.iconst 0, 1) := by decide +kernel
theorem dX1_hasEmptyCell_39 : decode cX1_hasEmptyCell 39 = .ok (.ireturn, 1) := by decide +kernel
set_option maxRecDepth 20000 in
theorem ggX1_goThrough_X0_countRuns : GoodIn wsX1_goThrough wsX0_countRuns := goodIn_r _ [7, 8, 73, 74, 75, 76, 77, 78, 79, 80, 81] (by decide +kernel) (by decide +kernel)
set_option maxRecDepth 20000 in
theorem gX1_goThrough_X0_countRuns : GoodIn wsX1_goThrough (wsV RX1 81 RX0 yX0_countRuns wsX0_countRuns) := goodIn_app (goodIn_of _ (by decide +kernel)) ggX1_goThrough_X0_countRuns
set_option maxRecDepth 20000 in
theorem ggX1_goThrough_X1_takeSingles : GoodIn wsX1_goThrough wsX1_takeSingles := goodIn_r _ [13, 2, 14, 15, 16, 17, 6, 18, 19, 20, 21, 22, 23, 24, 25, 26, 27, 28, 29, 30, 12, 31, 32, 33, 34, 35, 36, 37, 38, 39, 40, 41, 42, 1, 43, 44, 68, 69, 70, 71, 72, 73, 74, 75, 76, 77, 78, 79, 80, 81] (by decide +kernel) (by decide +kernel)
set_option maxRecDepth 20000 in
theorem gX1_goThrough_X1_takeSingles : GoodIn wsX1_goThrough (wsV RX1 84 RX1 yX1_takeSingles wsX1_takeSingles) := goodIn_app (goodIn_of _ (by decide +kernel)) ggX1_goThrough_X1_takeSingles
set_option maxRecDepth 20000 in
theorem ggX1_goThrough_X0_sumAt : GoodIn wsX1_goThrough wsX0_sumAt := goodIn_r _ [48, 49, 20, 21, 22, 73, 74, 75, 76, 77, 78, 79, 80, 81] (by decide +kernel) (by decide +kernel)
set_option maxRecDepth 20000 in
theorem gX1_goThrough_X0_sumAt : GoodIn wsX1_goThrough (wsV RX1 87 RX0 yX0_sumAt wsX0_sumAt) := goodIn_app (goodIn_of _ (by decide +kernel)) ggX1_goThrough_X0_sumAt
set_option maxRecDepth 20000 in
theorem ggX1_goThrough_X1_takeOutsideSets : GoodIn wsX1_goThrough wsX1_takeOutsideSets := goodIn_r _ [53, 2, 14, 15, 16, 17, 6, 18, 19, 20, 21, 22, 23, 24, 25, 26, 27, 28, 29, 30, 12, 31, 32, 33, 34, 35, 36, 37, 38, 45, 46, 47, 48, 49, 54, 55, 56, 57, 58, 59, 39, 40, 41, 42, 1, 43, 44, 68, 69, 70, 71, 72, 73, 74, 75, 76, 77, 78, 79, 80, 81] (by decide +kernel) (by decide +kernel)
set_option maxRecDepth 20000 in
theorem gX1_goThrough_X1_takeOutsideSets : GoodIn wsX1_goThrough (wsV RX1 90 RX1 yX1_takeOutsideSets wsX1_takeOutsideSets) := goodIn_app (goodIn_of _ (by decide +kernel)) ggX1_goThrough_X1_takeOutsideSets
set_option maxRecDepth 20000 in
theorem ggX1_goThrough_X1_takeUnfit : GoodIn wsX1_goThrough wsX1_takeUnfit := goodIn_r _ [63, 2, 64, 14, 15, 16, 17, 6, 18, 19, 20, 21, 22, 23, 24, 25, 26, 27, 28, 43, 44, 45, 46, 47, 48, 49, 65, 66, 12, 67, 39, 40, 41, 42, 1, 68, 69, 70, 71, 72, 73, 74, 75, 76, 77, 78, 79, 80, 81] (by decide +kernel) (by decide +kernel)
set_option maxRecDepth 20000 in
theorem gX1_goThrough_X1_takeUnfit : GoodIn wsX1_goThrough (wsV RX1 93 RX1 yX1_takeUnfit wsX1_takeUnfit) := goodIn_app (goodIn_of _ (by decide +kernel)) ggX1_goThrough_X1_takeUnfit
theorem dX1_goThrough_0 : decode cX1_goThrough 0 = .ok (.aload_n 0, 1) := by decide +kernel
theorem dX1_goThrough_1 : decode cX1_goThrough 1 = .ok (.iconst 0, 1) := by decide +kernel
theorem dX1_goThrough_2 : decode cX1_goThrough 2 = .ok (.putfield 29, 3) := by decide +kernel
theorem dX1_goThrough_5 : decode cX1_goThrough 5 = .ok (.aload_n 0, 1) := by decide +kernel
theorem dX1_goThrough_6 : decode cX1_goThrough 6 = .ok (.getfield 18, 3) := by decide +kernel
theorem dX1_goThrough_9 : decode cX1_goThrough 9 = .ok (.invokevirtual 81, 3) := by decide +kernel
theorem dX1_goThrough_12 : decode cX1_goThrough 12 = .ok (.istore_n 2, 1) := by decide +kernel
theorem dX1_goThrough_13 : decode cX1_goThrough 13 = .ok (.iconst 0, 1) := by decide +kernel
theorem dX1_goThrough_14 : decode cX1_goThrough 14 = .ok (.istore_n 3, 1) := by decide +kernel
theorem dX1_goThrough_15 : decode cX1_goThrough 15 = .ok (.iload_n 3, 1) := by decide +kernel
theorem dX1_goThrough_16 : decode cX1_goThrough 16 = .ok (.iload_n 2, 1) := by decide +kernel
theorem dX1_goThrough_17 : decode cX1_goThrough 17 = .ok (.if_icmp .ge 51, 3) := by decide +kernel
theorem dX1_goThrough_20 : decode cX1_goThrough 20 = .ok (.iload_n 1, 1) := by decide +kernel
theorem dX1_goThrough_21 : decode cX1_goThrough 21 = .ok (.iconst 1, 1) := by decide +kernel
theorem dX1_goThrough_22 : decode cX1_goThrough 22 = .ok (.if_icmp .ne 11, 3) := by decide +kernel
theorem dX1_goThrough_25 : decode cX1_goThrough 25 = .ok (.aload_n 0, 1) := by decide +kernel
theorem dX1_goThrough_26 : decode cX1_goThrough 26 = .ok (.iload_n 3, 1) := by decide +kernel
theorem dX1_goThrough_27 : decode cX1_goThrough 27 = .ok (.invokevirtual 84, 3) := by decide +kernel
theorem dX1_goThrough_30 : decode cX1_goThrough 30 = .ok (.goto 32, 3) := by decide +kernel
theorem dX1_goThrough_33 : decode cX1_goThrough 33 = .ok (.aload_n 0, 1) := by decide +kernel
theorem dX1_goThrough_34 : decode cX1_goThrough 34 = .ok (.getfield 18, 3) := by decide +kernel
theorem dX1_goThrough_37 : decode cX1_goThrough 37 = .ok (.iload_n 3, 1) := by decide +kernel
theorem dX1_goThrough_38 : decode cX1_goThrough 38 = .ok (.invokevirtual 87, 3) := by decide +kernel
theorem dX1_goThrough_41 : decode cX1_goThrough 41 = .ok (.ifCond .eq 21, 3) := by decide +kernel
theorem dX1_goThrough_44 : decode cX1_goThrough 44 = .ok (.iload_n 1, 1) := by decide +kernel
theorem dX1_goThrough_45 : decode cX1_goThrough 45 = .ok (.iconst 2, 1) := by decide +kernel
theorem dX1_goThrough_46 : decode cX1_goThrough 46 = .ok (.if_icmp .ne 11, 3) := by decide +kernel
theorem dX1_goThrough_49 : decode cX1_goThrough 49 = .ok (.aload_n 0, 1) := by decide +kernel
theorem dX1_goThrough_50 : decode cX1_goThrough 50 = .ok (.iload_n 3, 1) := by decide +kernel
theorem dX1_goThrough_51 : decode cX1_goThrough 51 = .ok (.invokevirtual 90, 3) := by decide +kernel
theorem dX1_goThrough_54 : decode cX1_goThrough 54 = .ok (.goto 8, 3) := by decide +kernel
theorem dX1_goThrough_57 : decode cX1_goThrough 57 = .ok (.aload_n 0, 1) := by decide +kernel
theorem dX1_goThrough_58 : decode cX1_goThrough 58 = .ok (.iload_n 3, 1) := by decide +kernel
theorem dX1_goThrough_59 : decode cX1_goThrough 59 = .ok (.invokevirtual 93, 3) := by decide +kernel
theorem dX1_goThrough_62 : decode cX1_goThrough 62 = .ok (.iinc 3 1, 3) := by decide +kernel
theorem dX1_goThrough_65 : decode cX1_goThrough 65 = .ok (.goto (-50), 3) := by decide +kernel
theorem dX1_goThrough_68 : decode cX1_goThrough 68 = .ok (.return_, 1) := by decide +kernel
set_option maxRecDepth 20000 in
theorem ggX1_takeSingles_X0_lengthAt : GoodIn wsX1_takeSingles wsX0_lengthAt := goodIn_r _ [7, 8, 9, 10, 11, 41, 42, 43, 44, 45, 46, 47, 48, 49] (by decide +kernel) (by decide +kernel)
set_option maxRecDepth 20000 in
theorem gX1_takeSingles_X0_lengthAt : GoodIn wsX1_takeSingles (wsV RX1 96 RX0 yX0_lengthAt wsX0_lengthAt) := goodIn_app (goodIn_of _ (by decide +kernel)) ggX1_takeSingles_X0_lengthAt
set_option maxRecDepth 20000 in
theorem ggX1_takeSingles_X0_cellAt : GoodIn wsX1_takeSingles wsX0_cellAt := goodIn_r _ [15, 16, 17, 9, 10, 11, 41, 42, 43, 44, 45, 46, 47, 48, 49] (by decide +kernel) (by decide +kernel)
set_option maxRecDepth 20000 in
theorem gX1_takeSingles_X0_cellAt : GoodIn wsX1_takeSingles (wsV RX1 99 RX0 yX0_cellAt wsX0_cellAt) := goodIn_app (goodIn_of _ (by decide +kernel)) ggX1_takeSingles_X0_cellAt
set_option maxRecDepth 20000 in
theorem ggX1_takeSingles_X3_at : GoodIn wsX1_takeSingles wsX3_at := goodIn_r _ [11] (by decide +kernel) (by decide +kernel)
set_option maxRecDepth 20000 in
theorem gX1_takeSingles_X3_at_n54 : GoodIn wsX1_takeSingles (wsX3_at) := ggX1_takeSingles_X3_at
set_option maxRecDepth 20000 in
theorem ggX1_takeSingles_X1_isSingle : GoodIn wsX1_takeSingles wsX1_isSingle := goodIn_r _ [21, 22, 23, 24, 25, 26, 27, 28] (by decide +kernel) (by decide +kernel)
set_option maxRecDepth 20000 in
theorem gX1_takeSingles_X1_isSingle : GoodIn wsX1_takeSingles (va_wsS RX1 64 yX1_isSingle wsX1_isSingle) := goodIn_app (goodIn_of _ (by decide +kernel)) ggX1_takeSingles_X1_isSingle
set_option maxRecDepth 20000 in
theorem ggX1_takeSingles_X1_take : GoodIn wsX1_takeSingles wsX1_take := goodIn_r _ [32, 2, 33, 9, 10, 11, 34, 35, 36, 37, 38, 39, 40] (by decide +kernel) (by decide +kernel)
set_option maxRecDepth 20000 in
theorem gX1_takeSingles_X1_take : GoodIn wsX1_takeSingles (wsV RX1 102 RX1 yX1_take wsX1_take) := goodIn_app (goodIn_of _ (by decide +kernel)) ggX1_takeSingles_X1_take
theorem dX1_takeSingles_0 : decode cX1_takeSingles 0 = .ok (.aload_n 0, 1) := by decide +kernel
theorem dX1_takeSingles_1 : decode cX1_takeSingles 1 = .ok (.getfield 18, 3) := by decide +kernel
theorem dX1_takeSingles_4 : decode cX1_takeSingles 4 = .ok (.iload_n 1, 1) := by decide +kernel
theorem dX1_takeSingles_5 : decode cX1_takeSingles 5 = .ok (.invokevirtual 96, 3) := by decide +kernel
theorem dX1_takeSingles_8 : decode cX1_takeSingles 8 = .ok (.istore_n 2, 1) := by decide +kernel
theorem dX1_takeSingles_9 : decode cX1_takeSingles 9 = .ok (.iconst 0, 1) := by decide +kernel
theorem dX1_takeSingles_10 : decode cX1_takeSingles 10 = .ok (.istore_n 3, 1) := by decide +kernel
theorem dX1_takeSingles_11 : decode cX1_takeSingles 11 = .ok (.iload_n 3, 1) := by decide +kernel
theorem dX1_takeSingles_12 : decode cX1_takeSingles 12 = .ok (.iload_n 2, 1) := by decide +kernel
theorem dX1_takeSingles_13 : decode cX1_takeSingles 13 = .ok (.if_icmp .ge 75, 3) := by decide +kernel
theorem dX1_takeSingles_16 : decode cX1_takeSingles 16 = .ok (.aload_n 0, 1) := by decide +kernel
theorem dX1_takeSingles_17 : decode cX1_takeSingles 17 = .ok (.getfield 9, 3) := by decide +kernel
theorem dX1_takeSingles_20 : decode cX1_takeSingles 20 = .ok (.aload_n 0, 1) := by decide +kernel
theorem dX1_takeSingles_21 : decode cX1_takeSingles 21 = .ok (.getfield 18, 3) := by decide +kernel
theorem dX1_takeSingles_24 : decode cX1_takeSingles 24 = .ok (.iload_n 1, 1) := by decide +kernel
theorem dX1_takeSingles_25 : decode cX1_takeSingles 25 = .ok (.iload_n 3, 1) := by decide +kernel
theorem dX1_takeSingles_26 : decode cX1_takeSingles 26 = .ok (.invokevirtual 99, 3) := by decide +kernel
theorem dX1_takeSingles_29 : decode cX1_takeSingles 29 = .ok (.invokestatic 54, 3) := by decide +kernel
theorem dX1_takeSingles_32 : decode cX1_takeSingles 32 = .ok (.istore 4, 2) := by decide +kernel
theorem dX1_takeSingles_34 : decode cX1_takeSingles 34 = .ok (.iload 4, 2) := by decide +kernel
theorem dX1_takeSingles_36 : decode cX1_takeSingles 36 = .ok (.invokestatic 64, 3) := by decide +kernel
theorem dX1_takeSingles_39 : decode cX1_takeSingles 39 = .ok (.ifCond .ne 6, 3) := by decide +kernel
theorem dX1_takeSingles_42 : decode cX1_takeSingles 42 = .ok (.goto 40, 3) := by decide +kernel
theorem dX1_takeSingles_45 : decode cX1_takeSingles 45 = .ok (.iconst 0, 1) := by decide +kernel
theorem dX1_takeSingles_46 : decode cX1_takeSingles 46 = .ok (.istore 5, 2) := by decide +kernel
theorem dX1_takeSingles_48 : decode cX1_takeSingles 48 = .ok (.iload 5, 2) := by decide +kernel
theorem dX1_takeSingles_50 : decode cX1_takeSingles 50 = .ok (.iload_n 2, 1) := by decide +kernel
theorem dX1_takeSingles_51 : decode cX1_takeSingles 51 = .ok (.if_icmp .ge 31, 3) := by decide +kernel
theorem dX1_takeSingles_54 : decode cX1_takeSingles 54 = .ok (.iload 5, 2) := by decide +kernel
theorem dX1_takeSingles_56 : decode cX1_takeSingles 56 = .ok (.iload_n 3, 1) := by decide +kernel
theorem dX1_takeSingles_57 : decode cX1_takeSingles 57 = .ok (.if_icmp .eq 19, 3) := by decide +kernel
theorem dX1_takeSingles_60 : decode cX1_takeSingles 60 = .ok (.aload_n 0, 1) := by decide +kernel
theorem dX1_takeSingles_61 : decode cX1_takeSingles 61 = .ok (.aload_n 0, 1) := by decide +kernel
theorem dX1_takeSingles_62 : decode cX1_takeSingles 62 = .ok (.getfield 18, 3) := by decide +kernel
theorem dX1_takeSingles_65 : decode cX1_takeSingles 65 = .ok (.iload_n 1, 1) := by decide +kernel
theorem dX1_takeSingles_66 : decode cX1_takeSingles 66 = .ok (.iload 5, 2) := by decide +kernel
theorem dX1_takeSingles_68 : decode cX1_takeSingles 68 = .ok (.invokevirtual 99, 3) := by decide +kernel
theorem dX1_takeSingles_71 : decode cX1_takeSingles 71 = .ok (.iload 4, 2) := by decide +kernel
theorem dX1_takeSingles_73 : decode cX1_takeSingles 73 = .ok (.invokevirtual 102, 3) := by decide +kernel
theorem dX1_takeSingles_76 : decode cX1_takeSingles 76 = .ok (.iinc 5 1, 3) := by decide +kernel
theorem dX1_takeSingles_79 : decode cX1_takeSingles 79 = .ok (.goto (-31), 3) := by decide +kernel
theorem dX1_takeSingles_82 : decode cX1_takeSingles 82 = .ok (.iinc 3 1, 3) := by decide +kernel
theorem dX1_takeSingles_85 : decode cX1_takeSingles 85 = .ok (.goto (-74), 3) := by decide +kernel
theorem dX1_takeSingles_88 : decode cX1_takeSingles 88 = .ok (.return_, 1) := by decide +kernel
set_option maxRecDepth 20000 in
theorem ggX1_takeOutsideSets_X0_lengthAt : GoodIn wsX1_takeOutsideSets wsX0_lengthAt := goodIn_r _ [7, 8, 9, 10, 11, 52, 53, 54, 55, 56, 57, 58, 59, 60] (by decide +kernel) (by decide +kernel)
set_option maxRecDepth 20000 in
theorem gX1_takeOutsideSets_X0_lengthAt : GoodIn wsX1_takeOutsideSets (wsV RX1 96 RX0 yX0_lengthAt wsX0_lengthAt) := goodIn_app (goodIn_of _ (by decide +kernel)) ggX1_takeOutsideSets_X0_lengthAt
set_option maxRecDepth 20000 in
theorem ggX1_takeOutsideSets_X0_cellAt : GoodIn wsX1_takeOutsideSets wsX0_cellAt := goodIn_r _ [15, 16, 17, 9, 10, 11, 52, 53, 54, 55, 56, 57, 58, 59, 60] (by decide +kernel) (by decide +kernel)
set_option maxRecDepth 20000 in
theorem gX1_takeOutsideSets_X0_cellAt : GoodIn wsX1_takeOutsideSets (wsV RX1 99 RX0 yX0_cellAt wsX0_cellAt) := goodIn_app (goodIn_of _ (by decide +kernel)) ggX1_takeOutsideSets_X0_cellAt
set_option maxRecDepth 20000 in
theorem ggX1_takeOutsideSets_X3_at : GoodIn wsX1_takeOutsideSets wsX3_at := goodIn_r _ [11] (by decide +kernel) (by decide +kernel)
set_option maxRecDepth 20000 in
theorem gX1_takeOutsideSets_X3_at_n54 : GoodIn wsX1_takeOutsideSets (wsX3_at) := ggX1_takeOutsideSets_X3_at
set_option maxRecDepth 20000 in
theorem ggX1_takeOutsideSets_X1_isSingle : GoodIn wsX1_takeOutsideSets wsX1_isSingle := goodIn_r _ [21, 22, 23, 24, 25, 26, 27, 28] (by decide +kernel) (by decide +kernel)
set_option maxRecDepth 20000 in
theorem gX1_takeOutsideSets_X1_isSingle : GoodIn wsX1_takeOutsideSets (va_wsS RX1 64 yX1_isSingle wsX1_isSingle) := goodIn_app (goodIn_of _ (by decide +kernel)) ggX1_takeOutsideSets_X1_isSingle
set_option maxRecDepth 20000 in
theorem ggX1_takeOutsideSets_X0_sumAt : GoodIn wsX1_takeOutsideSets wsX0_sumAt := goodIn_r _ [32, 33, 9, 10, 11, 52, 53, 54, 55, 56, 57, 58, 59, 60] (by decide +kernel) (by decide +kernel)
set_option maxRecDepth 20000 in
theorem gX1_takeOutsideSets_X0_sumAt : GoodIn wsX1_takeOutsideSets (wsV RX1 87 RX0 yX0_sumAt wsX0_sumAt) := goodIn_app (goodIn_of _ (by decide +kernel)) ggX1_takeOutsideSets_X0_sumAt
set_option maxRecDepth 20000 in
theorem ggX1_takeOutsideSets_X1_digitsOfSets : GoodIn wsX1_takeOutsideSets wsX1_digitsOfSets := goodIn_r _ [36, 22, 23, 24, 25, 26, 27, 28, 37, 38, 20, 39] (by decide +kernel) (by decide +kernel)
set_option maxRecDepth 20000 in
theorem gX1_takeOutsideSets_X1_digitsOfSets : GoodIn wsX1_takeOutsideSets (va_wsS RX1 106 yX1_digitsOfSets wsX1_digitsOfSets) := goodIn_app (goodIn_of _ (by decide +kernel)) ggX1_takeOutsideSets_X1_digitsOfSets
set_option maxRecDepth 20000 in
theorem ggX1_takeOutsideSets_X1_take : GoodIn wsX1_takeOutsideSets wsX1_take := goodIn_r _ [43, 2, 44, 9, 10, 11, 45, 46, 47, 48, 49, 50, 51] (by decide +kernel) (by decide +kernel)
set_option maxRecDepth 20000 in
theorem gX1_takeOutsideSets_X1_take : GoodIn wsX1_takeOutsideSets (wsV RX1 102 RX1 yX1_take wsX1_take) := goodIn_app (goodIn_of _ (by decide +kernel)) ggX1_takeOutsideSets_X1_take
theorem dX1_takeOutsideSets_0 : decode cX1_takeOutsideSets 0 = .ok (.aload_n 0, 1) := by decide +kernel
theorem dX1_takeOutsideSets_1 : decode cX1_takeOutsideSets 1 = .ok (.getfield 18, 3) := by decide +kernel
theorem dX1_takeOutsideSets_4 : decode cX1_takeOutsideSets 4 = .ok (.iload_n 1, 1) := by decide +kernel
theorem dX1_takeOutsideSets_5 : decode cX1_takeOutsideSets 5 = .ok (.invokevirtual 96, 3) := by decide +kernel
theorem dX1_takeOutsideSets_8 : decode cX1_takeOutsideSets 8 = .ok (.istore_n 2, 1) := by decide +kernel
theorem dX1_takeOutsideSets_9 : decode cX1_takeOutsideSets 9 = .ok (.iconst 0, 1) := by decide +kernel
theorem dX1_takeOutsideSets_10 : decode cX1_takeOutsideSets 10 = .ok (.istore_n 3, 1) := by decide +kernel
theorem dX1_takeOutsideSets_11 : decode cX1_takeOutsideSets 11 = .ok (.iconst 0, 1) := by decide +kernel
theorem dX1_takeOutsideSets_12 : decode cX1_takeOutsideSets 12 = .ok (.istore 4, 2) := by decide +kernel
theorem dX1_takeOutsideSets_14 : decode cX1_takeOutsideSets 14 = .ok (.iload 4, 2) := by decide +kernel
theorem dX1_takeOutsideSets_16 : decode cX1_takeOutsideSets 16 = .ok (.iload_n 2, 1) := by decide +kernel
theorem dX1_takeOutsideSets_17 : decode cX1_takeOutsideSets 17 = .ok (.if_icmp .ge 41, 3) := by decide +kernel
theorem dX1_takeOutsideSets_20 : decode cX1_takeOutsideSets 20 = .ok (.aload_n 0, 1) := by decide +kernel
theorem dX1_takeOutsideSets_21 : decode cX1_takeOutsideSets 21 = .ok (.getfield 9, 3) := by decide +kernel
theorem dX1_takeOutsideSets_24 : decode cX1_takeOutsideSets 24 = .ok (.aload_n 0, 1) := by decide +kernel
theorem dX1_takeOutsideSets_25 : decode cX1_takeOutsideSets 25 = .ok (.getfield 18, 3) := by decide +kernel
theorem dX1_takeOutsideSets_28 : decode cX1_takeOutsideSets 28 = .ok (.iload_n 1, 1) := by decide +kernel
theorem dX1_takeOutsideSets_29 : decode cX1_takeOutsideSets 29 = .ok (.iload 4, 2) := by decide +kernel
theorem dX1_takeOutsideSets_31 : decode cX1_takeOutsideSets 31 = .ok (.invokevirtual 99, 3) := by decide +kernel
theorem dX1_takeOutsideSets_34 : decode cX1_takeOutsideSets 34 = .ok (.invokestatic 54, 3) := by decide +kernel
theorem dX1_takeOutsideSets_37 : decode cX1_takeOutsideSets 37 = .ok (.istore 5, 2) := by decide +kernel
theorem dX1_takeOutsideSets_39 : decode cX1_takeOutsideSets 39 = .ok (.iload 5, 2) := by decide +kernel
theorem dX1_takeOutsideSets_41 : decode cX1_takeOutsideSets 41 = .ok (.invokestatic 64, 3) := by decide +kernel
theorem dX1_takeOutsideSets_44 : decode cX1_takeOutsideSets 44 = .ok (.ifCond .eq 8, 3) := by decide +kernel
theorem dX1_takeOutsideSets_47 : decode cX1_takeOutsideSets 47 = .ok (.iload_n 3, 1) := by decide +kernel
theorem dX1_takeOutsideSets_48 : decode cX1_takeOutsideSets 48 = .ok (.iload 5, 2) := by decide +kernel
theorem dX1_takeOutsideSets_50 : decode cX1_takeOutsideSets 50 = .ok (.ior, 1) := by decide +kernel
theorem dX1_takeOutsideSets_51 : decode cX1_takeOutsideSets 51 = .ok (.istore_n 3, 1) := by decide +kernel
theorem dX1_takeOutsideSets_52 : decode cX1_takeOutsideSets 52 = .ok (.iinc 4 1, 3) := by decide +kernel
theorem dX1_takeOutsideSets_55 : decode cX1_takeOutsideSets 55 = .ok (.goto (-41), 3) := by decide +kernel
theorem dX1_takeOutsideSets_58 : decode cX1_takeOutsideSets 58 = .ok (.iload_n 2, 1) := by decide +kernel
theorem dX1_takeOutsideSets_59 : decode cX1_takeOutsideSets 59 = .ok (.aload_n 0, 1) := by decide +kernel
theorem dX1_takeOutsideSets_60 : decode cX1_takeOutsideSets 60 = .ok (.getfield 18, 3) := by decide +kernel
theorem dX1_takeOutsideSets_63 : decode cX1_takeOutsideSets 63 = .ok (.iload_n 1, 1) := by decide +kernel
theorem dX1_takeOutsideSets_64 : decode cX1_takeOutsideSets 64 = .ok (.invokevirtual 87, 3) := by decide +kernel
theorem dX1_takeOutsideSets_67 : decode cX1_takeOutsideSets 67 = .ok (.iload_n 3, 1) := by decide +kernel
theorem dX1_takeOutsideSets_68 : decode cX1_takeOutsideSets 68 = .ok (.invokestatic 106, 3) := by decide +kernel
theorem dX1_takeOutsideSets_71 : decode cX1_takeOutsideSets 71 = .ok (.istore 4, 2) := by decide +kernel
theorem dX1_takeOutsideSets_73 : decode cX1_takeOutsideSets 73 = .ok (.iconst 0, 1) := by decide +kernel
theorem dX1_takeOutsideSets_74 : decode cX1_takeOutsideSets 74 = .ok (.istore 5, 2) := by decide +kernel
theorem dX1_takeOutsideSets_76 : decode cX1_takeOutsideSets 76 = .ok (.iload 5, 2) := by decide +kernel
theorem dX1_takeOutsideSets_78 : decode cX1_takeOutsideSets 78 = .ok (.iload_n 2, 1) := by decide +kernel
theorem dX1_takeOutsideSets_79 : decode cX1_takeOutsideSets 79 = .ok (.if_icmp .ge 31, 3) := by decide +kernel
theorem dX1_takeOutsideSets_82 : decode cX1_takeOutsideSets 82 = .ok (.aload_n 0, 1) := by decide +kernel
theorem dX1_takeOutsideSets_83 : decode cX1_takeOutsideSets 83 = .ok (.aload_n 0, 1) := by decide +kernel
theorem dX1_takeOutsideSets_84 : decode cX1_takeOutsideSets 84 = .ok (.getfield 18, 3) := by decide +kernel
theorem dX1_takeOutsideSets_87 : decode cX1_takeOutsideSets 87 = .ok (.iload_n 1, 1) := by decide +kernel
theorem dX1_takeOutsideSets_88 : decode cX1_takeOutsideSets 88 = .ok (.iload 5, 2) := by decide +kernel
theorem dX1_takeOutsideSets_90 : decode cX1_takeOutsideSets 90 = .ok (.invokevirtual 99, 3) := by decide +kernel
theorem dX1_takeOutsideSets_93 : decode cX1_takeOutsideSets 93 = .ok (.sipush 1022, 3) := by decide +kernel
theorem dX1_takeOutsideSets_96 : decode cX1_takeOutsideSets 96 = .ok (.iload 4, 2) := by decide +kernel
theorem dX1_takeOutsideSets_98 : decode cX1_takeOutsideSets 98 = .ok (.iconst (-1), 1) := by decide +kernel
theorem dX1_takeOutsideSets_99 : decode cX1_takeOutsideSets 99 = .ok (.ixor, 1) := by decide +kernel
theorem dX1_takeOutsideSets_100 : decode cX1_takeOutsideSets 100 = .ok (.iand, 1) := by decide +kernel
theorem dX1_takeOutsideSets_101 : decode cX1_takeOutsideSets 101 = .ok (.invokevirtual 102, 3) := by decide +kernel
theorem dX1_takeOutsideSets_104 : decode cX1_takeOutsideSets 104 = .ok (.iinc 5 1, 3) := by decide +kernel
theorem dX1_takeOutsideSets_107 : decode cX1_takeOutsideSets 107 = .ok (.goto (-31), 3) := by decide +kernel
theorem dX1_takeOutsideSets_110 : decode cX1_takeOutsideSets 110 = .ok (.return_, 1) := by decide +kernel
set_option maxRecDepth 20000 in
theorem ggX1_digitsOfSets_J6_bitCount_0f7a4 : GoodIn wsX1_digitsOfSets wsJ6_bitCount_0f7a4 := goodIn_r _ [4, 5, 6, 7] (by decide +kernel) (by decide +kernel)
set_option maxRecDepth 20000 in
theorem gX1_digitsOfSets_J6_bitCount_0f7a4 : GoodIn wsX1_digitsOfSets (va_wsS RX1 110 yJ6_bitCount_0f7a4 wsJ6_bitCount_0f7a4) := goodIn_app (goodIn_of _ (by decide +kernel)) ggX1_digitsOfSets_J6_bitCount_0f7a4
set_option maxRecDepth 20000 in
theorem ggX1_digitsOfSets_X1_sumOfSet : GoodIn wsX1_digitsOfSets wsX1_sumOfSet := goodIn_r _ [11] (by decide +kernel) (by decide +kernel)
set_option maxRecDepth 20000 in
theorem gX1_digitsOfSets_X1_sumOfSet : GoodIn wsX1_digitsOfSets (va_wsS RX1 115 yX1_sumOfSet wsX1_sumOfSet) := goodIn_app (goodIn_of _ (by decide +kernel)) ggX1_digitsOfSets_X1_sumOfSet
theorem dX1_digitsOfSets_0 : decode cX1_digitsOfSets 0 = .ok (.iconst 0, 1) := by decide +kernel
theorem dX1_digitsOfSets_1 : decode cX1_digitsOfSets 1 = .ok (.istore_n 3, 1) := by decide +kernel
theorem dX1_digitsOfSets_2 : decode cX1_digitsOfSets 2 = .ok (.iconst 0, 1) := by decide +kernel
theorem dX1_digitsOfSets_3 : decode cX1_digitsOfSets 3 = .ok (.istore 4, 2) := by decide +kernel
theorem dX1_digitsOfSets_5 : decode cX1_digitsOfSets 5 = .ok (.iload 4, 2) := by decide +kernel
theorem dX1_digitsOfSets_7 : decode cX1_digitsOfSets 7 = .ok (.sipush 1022, 3) := by decide +kernel
theorem dX1_digitsOfSets_10 : decode cX1_digitsOfSets 10 = .ok (.if_icmp .gt 40, 3) := by decide +kernel
theorem dX1_digitsOfSets_13 : decode cX1_digitsOfSets 13 = .ok (.iload 4, 2) := by decide +kernel
theorem dX1_digitsOfSets_15 : decode cX1_digitsOfSets 15 = .ok (.invokestatic 110, 3) := by decide +kernel
theorem dX1_digitsOfSets_18 : decode cX1_digitsOfSets 18 = .ok (.iload_n 0, 1) := by decide +kernel
theorem dX1_digitsOfSets_19 : decode cX1_digitsOfSets 19 = .ok (.if_icmp .ne 25, 3) := by decide +kernel
theorem dX1_digitsOfSets_22 : decode cX1_digitsOfSets 22 = .ok (.iload 4, 2) := by decide +kernel
theorem dX1_digitsOfSets_24 : decode cX1_digitsOfSets 24 = .ok (.iload_n 2, 1) := by decide +kernel
theorem dX1_digitsOfSets_25 : decode cX1_digitsOfSets 25 = .ok (.iand, 1) := by decide +kernel
theorem dX1_digitsOfSets_26 : decode cX1_digitsOfSets 26 = .ok (.iload_n 2, 1) := by decide +kernel
theorem dX1_digitsOfSets_27 : decode cX1_digitsOfSets 27 = .ok (.if_icmp .ne 17, 3) := by decide +kernel
theorem dX1_digitsOfSets_30 : decode cX1_digitsOfSets 30 = .ok (.iload 4, 2) := by decide +kernel
theorem dX1_digitsOfSets_32 : decode cX1_digitsOfSets 32 = .ok (.invokestatic 115, 3) := by decide +kernel
theorem dX1_digitsOfSets_35 : decode cX1_digitsOfSets 35 = .ok (.iload_n 1, 1) := by decide +kernel
theorem dX1_digitsOfSets_36 : decode cX1_digitsOfSets 36 = .ok (.if_icmp .ne 8, 3) := by decide +kernel
theorem dX1_digitsOfSets_39 : decode cX1_digitsOfSets 39 = .ok (.iload_n 3, 1) := by decide +kernel
theorem dX1_digitsOfSets_40 : decode cX1_digitsOfSets 40 = .ok (.iload 4, 2) := by decide +kernel
theorem dX1_digitsOfSets_42 : decode cX1_digitsOfSets 42 = .ok (.ior, 1) := by decide +kernel
theorem dX1_digitsOfSets_43 : decode cX1_digitsOfSets 43 = .ok (.istore_n 3, 1) := by decide +kernel
theorem dX1_digitsOfSets_44 : decode cX1_digitsOfSets 44 = .ok (.iinc 4 2, 3) := by decide +kernel
theorem dX1_digitsOfSets_47 : decode cX1_digitsOfSets 47 = .ok (.goto (-42), 3) := by decide +kernel
theorem dX1_digitsOfSets_50 : decode cX1_digitsOfSets 50 = .ok (.iload_n 3, 1) := by decide +kernel
theorem dX1_digitsOfSets_51 : decode cX1_digitsOfSets 51 = .ok (.ireturn, 1) := by decide +kernel
theorem dX1_sumOfSet_0 : decode cX1_sumOfSet 0 = .ok (.iconst 0, 1) := by decide +kernel
theorem dX1_sumOfSet_1 : decode cX1_sumOfSet 1 = .ok (.istore_n 1, 1) := by decide +kernel
theorem dX1_sumOfSet_2 : decode cX1_sumOfSet 2 = .ok (.iconst 1, 1) := by decide +kernel
theorem dX1_sumOfSet_3 : decode cX1_sumOfSet 3 = .ok (.istore_n 2, 1) := by decide +kernel
theorem dX1_sumOfSet_4 : decode cX1_sumOfSet 4 = .ok (.iload_n 2, 1) := by decide +kernel
theorem dX1_sumOfSet_5 : decode cX1_sumOfSet 5 = .ok (.bipush 9, 2) := by decide +kernel
theorem dX1_sumOfSet_7 : decode cX1_sumOfSet 7 = .ok (.if_icmp .gt 21, 3) := by decide +kernel
theorem dX1_sumOfSet_10 : decode cX1_sumOfSet 10 = .ok (.iload_n 0, 1) := by decide +kernel
theorem dX1_sumOfSet_11 : decode cX1_sumOfSet 11 = .ok (.iconst 1, 1) := by decide +kernel
theorem dX1_sumOfSet_12 : decode cX1_sumOfSet 12 = .ok (.iload_n 2, 1) := by decide +kernel
theorem dX1_sumOfSet_13 : decode cX1_sumOfSet 13 = .ok (.ishl, 1) := by decide +kernel
theorem dX1_sumOfSet_14 : decode cX1_sumOfSet 14 = .ok (.iand, 1) := by decide +kernel
theorem dX1_sumOfSet_15 : decode cX1_sumOfSet 15 = .ok (.ifCond .eq 7, 3) := by decide +kernel
theorem dX1_sumOfSet_18 : decode cX1_sumOfSet 18 = .ok (.iload_n 1, 1) := by decide +kernel
theorem dX1_sumOfSet_19 : decode cX1_sumOfSet 19 = .ok (.iload_n 2, 1) := by decide +kernel
theorem dX1_sumOfSet_20 : decode cX1_sumOfSet 20 = .ok (.iadd, 1) := by decide +kernel
theorem dX1_sumOfSet_21 : decode cX1_sumOfSet 21 = .ok (.istore_n 1, 1) := by decide +kernel
theorem dX1_sumOfSet_22 : decode cX1_sumOfSet 22 = .ok (.iinc 2 1, 3) := by decide +kernel
theorem dX1_sumOfSet_25 : decode cX1_sumOfSet 25 = .ok (.goto (-21), 3) := by decide +kernel
theorem dX1_sumOfSet_28 : decode cX1_sumOfSet 28 = .ok (.iload_n 1, 1) := by decide +kernel
theorem dX1_sumOfSet_29 : decode cX1_sumOfSet 29 = .ok (.ireturn, 1) := by decide +kernel
set_option maxRecDepth 20000 in
theorem ggX1_takeUnfit_X0_lengthAt : GoodIn wsX1_takeUnfit wsX0_lengthAt := goodIn_r _ [8, 9, 10, 11, 12, 40, 41, 42, 43, 44, 45, 46, 47, 48] (by decide +kernel) (by decide +kernel)
set_option maxRecDepth 20000 in
theorem gX1_takeUnfit_X0_lengthAt : GoodIn wsX1_takeUnfit (wsV RX1 96 RX0 yX0_lengthAt wsX0_lengthAt) := goodIn_app (goodIn_of _ (by decide +kernel)) ggX1_takeUnfit_X0_lengthAt
set_option maxRecDepth 20000 in
theorem ggX1_takeUnfit_X0_cellAt : GoodIn wsX1_takeUnfit wsX0_cellAt := goodIn_r _ [16, 17, 18, 10, 11, 12, 40, 41, 42, 43, 44, 45, 46, 47, 48] (by decide +kernel) (by decide +kernel)
set_option maxRecDepth 20000 in
theorem gX1_takeUnfit_X0_cellAt : GoodIn wsX1_takeUnfit (wsV RX1 99 RX0 yX0_cellAt wsX0_cellAt) := goodIn_app (goodIn_of _ (by decide +kernel)) ggX1_takeUnfit_X0_cellAt
set_option maxRecDepth 20000 in
theorem ggX1_takeUnfit_X3_at : GoodIn wsX1_takeUnfit wsX3_at := goodIn_r _ [12] (by decide +kernel) (by decide +kernel)
set_option maxRecDepth 20000 in
theorem gX1_takeUnfit_X3_at_n54 : GoodIn wsX1_takeUnfit (wsX3_at) := ggX1_takeUnfit_X3_at
set_option maxRecDepth 20000 in
theorem ggX1_takeUnfit_X3_put : GoodIn wsX1_takeUnfit wsX3_put := goodIn_r _ [20] (by decide +kernel) (by decide +kernel)
set_option maxRecDepth 20000 in
theorem gX1_takeUnfit_X3_put_n74 : GoodIn wsX1_takeUnfit (wsX3_put) := ggX1_takeUnfit_X3_put
set_option maxRecDepth 20000 in
theorem ggX1_takeUnfit_X0_sumAt : GoodIn wsX1_takeUnfit wsX0_sumAt := goodIn_r _ [24, 25, 10, 11, 12, 40, 41, 42, 43, 44, 45, 46, 47, 48] (by decide +kernel) (by decide +kernel)
set_option maxRecDepth 20000 in
theorem gX1_takeUnfit_X0_sumAt : GoodIn wsX1_takeUnfit (wsV RX1 87 RX0 yX0_sumAt wsX0_sumAt) := goodIn_app (goodIn_of _ (by decide +kernel)) ggX1_takeUnfit_X0_sumAt
set_option maxRecDepth 20000 in
theorem ggX1_takeUnfit_X1_canMake : GoodIn wsX1_takeUnfit wsX1_canMake := goodIn_r _ [29, 10, 11, 12, 26, 27, 28] (by decide +kernel) (by decide +kernel)
set_option maxRecDepth 20000 in
theorem gX1_takeUnfit_X1_canMake : GoodIn wsX1_takeUnfit (va_wsS RX1 118 yX1_canMake wsX1_canMake) := goodIn_app (goodIn_of _ (by decide +kernel)) ggX1_takeUnfit_X1_canMake
set_option maxRecDepth 20000 in
theorem ggX1_takeUnfit_X1_take : GoodIn wsX1_takeUnfit wsX1_take := goodIn_r _ [33, 3, 34, 10, 11, 12, 19, 20, 35, 36, 37, 38, 39] (by decide +kernel) (by decide +kernel)
set_option maxRecDepth 20000 in
theorem gX1_takeUnfit_X1_take : GoodIn wsX1_takeUnfit (wsV RX1 102 RX1 yX1_take wsX1_take) := goodIn_app (goodIn_of _ (by decide +kernel)) ggX1_takeUnfit_X1_take
theorem dX1_takeUnfit_0 : decode cX1_takeUnfit 0 = .ok (.aload_n 0, 1) := by decide +kernel
theorem dX1_takeUnfit_1 : decode cX1_takeUnfit 1 = .ok (.getfield 18, 3) := by decide +kernel
theorem dX1_takeUnfit_4 : decode cX1_takeUnfit 4 = .ok (.iload_n 1, 1) := by decide +kernel
theorem dX1_takeUnfit_5 : decode cX1_takeUnfit 5 = .ok (.invokevirtual 96, 3) := by decide +kernel
theorem dX1_takeUnfit_8 : decode cX1_takeUnfit 8 = .ok (.istore_n 2, 1) := by decide +kernel
theorem dX1_takeUnfit_9 : decode cX1_takeUnfit 9 = .ok (.iconst 0, 1) := by decide +kernel
theorem dX1_takeUnfit_10 : decode cX1_takeUnfit 10 = .ok (.istore_n 3, 1) := by decide +kernel
theorem dX1_takeUnfit_11 : decode cX1_takeUnfit 11 = .ok (.iload_n 3, 1) := by decide +kernel
theorem dX1_takeUnfit_12 : decode cX1_takeUnfit 12 = .ok (.iload_n 2, 1) := by decide +kernel
theorem dX1_takeUnfit_13 : decode cX1_takeUnfit 13 = .ok (.if_icmp .ge 33, 3) := by decide +kernel
theorem dX1_takeUnfit_16 : decode cX1_takeUnfit 16 = .ok (.aload_n 0, 1) := by decide +kernel
theorem dX1_takeUnfit_17 : decode cX1_takeUnfit 17 = .ok (.getfield 15, 3) := by decide +kernel
theorem dX1_takeUnfit_20 : decode cX1_takeUnfit 20 = .ok (.iload_n 3, 1) := by decide +kernel
theorem dX1_takeUnfit_21 : decode cX1_takeUnfit 21 = .ok (.aload_n 0, 1) := by decide +kernel
theorem dX1_takeUnfit_22 : decode cX1_takeUnfit 22 = .ok (.getfield 9, 3) := by decide +kernel
theorem dX1_takeUnfit_25 : decode cX1_takeUnfit 25 = .ok (.aload_n 0, 1) := by decide +kernel
theorem dX1_takeUnfit_26 : decode cX1_takeUnfit 26 = .ok (.getfield 18, 3) := by decide +kernel
theorem dX1_takeUnfit_29 : decode cX1_takeUnfit 29 = .ok (.iload_n 1, 1) := by decide +kernel
theorem dX1_takeUnfit_30 : decode cX1_takeUnfit 30 = .ok (.iload_n 3, 1) := by decide +kernel
theorem dX1_takeUnfit_31 : decode cX1_takeUnfit 31 = .ok (.invokevirtual 99, 3) := by decide +kernel
theorem dX1_takeUnfit_34 : decode cX1_takeUnfit 34 = .ok (.invokestatic 54, 3) := by decide +kernel
theorem dX1_takeUnfit_37 : decode cX1_takeUnfit 37 = .ok (.invokestatic 74, 3) := by decide +kernel
theorem dX1_takeUnfit_40 : decode cX1_takeUnfit 40 = .ok (.iinc 3 1, 3) := by decide +kernel
theorem dX1_takeUnfit_43 : decode cX1_takeUnfit 43 = .ok (.goto (-32), 3) := by decide +kernel
theorem dX1_takeUnfit_46 : decode cX1_takeUnfit 46 = .ok (.iconst 0, 1) := by decide +kernel
theorem dX1_takeUnfit_47 : decode cX1_takeUnfit 47 = .ok (.istore_n 3, 1) := by decide +kernel
theorem dX1_takeUnfit_48 : decode cX1_takeUnfit 48 = .ok (.iload_n 3, 1) := by decide +kernel
theorem dX1_takeUnfit_49 : decode cX1_takeUnfit 49 = .ok (.iload_n 2, 1) := by decide +kernel
theorem dX1_takeUnfit_50 : decode cX1_takeUnfit 50 = .ok (.if_icmp .ge 112, 3) := by decide +kernel
theorem dX1_takeUnfit_53 : decode cX1_takeUnfit 53 = .ok (.aload_n 0, 1) := by decide +kernel
theorem dX1_takeUnfit_54 : decode cX1_takeUnfit 54 = .ok (.getfield 18, 3) := by decide +kernel
theorem dX1_takeUnfit_57 : decode cX1_takeUnfit 57 = .ok (.iload_n 1, 1) := by decide +kernel
theorem dX1_takeUnfit_58 : decode cX1_takeUnfit 58 = .ok (.iload_n 3, 1) := by decide +kernel
theorem dX1_takeUnfit_59 : decode cX1_takeUnfit 59 = .ok (.invokevirtual 99, 3) := by decide +kernel
theorem dX1_takeUnfit_62 : decode cX1_takeUnfit 62 = .ok (.istore 4, 2) := by decide +kernel
theorem dX1_takeUnfit_64 : decode cX1_takeUnfit 64 = .ok (.iconst 1, 1) := by decide +kernel
theorem dX1_takeUnfit_65 : decode cX1_takeUnfit 65 = .ok (.istore 5, 2) := by decide +kernel
theorem dX1_takeUnfit_67 : decode cX1_takeUnfit 67 = .ok (.iload 5, 2) := by decide +kernel
theorem dX1_takeUnfit_69 : decode cX1_takeUnfit 69 = .ok (.bipush 9, 2) := by decide +kernel
theorem dX1_takeUnfit_71 : decode cX1_takeUnfit 71 = .ok (.if_icmp .gt 68, 3) := by decide +kernel
theorem dX1_takeUnfit_74 : decode cX1_takeUnfit 74 = .ok (.aload_n 0, 1) := by decide +kernel
theorem dX1_takeUnfit_75 : decode cX1_takeUnfit 75 = .ok (.getfield 9, 3) := by decide +kernel
theorem dX1_takeUnfit_78 : decode cX1_takeUnfit 78 = .ok (.iload 4, 2) := by decide +kernel
theorem dX1_takeUnfit_80 : decode cX1_takeUnfit 80 = .ok (.invokestatic 54, 3) := by decide +kernel
theorem dX1_takeUnfit_83 : decode cX1_takeUnfit 83 = .ok (.iconst 1, 1) := by decide +kernel
theorem dX1_takeUnfit_84 : decode cX1_takeUnfit 84 = .ok (.iload 5, 2) := by decide +kernel
theorem dX1_takeUnfit_86 : decode cX1_takeUnfit 86 = .ok (.ishl, 1) := by decide +kernel
theorem dX1_takeUnfit_87 : decode cX1_takeUnfit 87 = .ok (.iand, 1) := by decide +kernel
theorem dX1_takeUnfit_88 : decode cX1_takeUnfit 88 = .ok (.istore 6, 2) := by decide +kernel
theorem dX1_takeUnfit_90 : decode cX1_takeUnfit 90 = .ok (.aload_n 0, 1) := by decide +kernel
theorem dX1_takeUnfit_91 : decode cX1_takeUnfit 91 = .ok (.getfield 15, 3) := by decide +kernel
theorem dX1_takeUnfit_94 : decode cX1_takeUnfit 94 = .ok (.iload_n 3, 1) := by decide +kernel
theorem dX1_takeUnfit_95 : decode cX1_takeUnfit 95 = .ok (.iload 6, 2) := by decide +kernel
theorem dX1_takeUnfit_97 : decode cX1_takeUnfit 97 = .ok (.invokestatic 74, 3) := by decide +kernel
theorem dX1_takeUnfit_100 : decode cX1_takeUnfit 100 = .ok (.iload 6, 2) := by decide +kernel
theorem dX1_takeUnfit_102 : decode cX1_takeUnfit 102 = .ok (.ifCond .eq 31, 3) := by decide +kernel
theorem dX1_takeUnfit_105 : decode cX1_takeUnfit 105 = .ok (.aload_n 0, 1) := by decide +kernel
theorem dX1_takeUnfit_106 : decode cX1_takeUnfit 106 = .ok (.getfield 15, 3) := by decide +kernel
theorem dX1_takeUnfit_109 : decode cX1_takeUnfit 109 = .ok (.iload_n 2, 1) := by decide +kernel
theorem dX1_takeUnfit_110 : decode cX1_takeUnfit 110 = .ok (.aload_n 0, 1) := by decide +kernel
theorem dX1_takeUnfit_111 : decode cX1_takeUnfit 111 = .ok (.getfield 18, 3) := by decide +kernel
theorem dX1_takeUnfit_114 : decode cX1_takeUnfit 114 = .ok (.iload_n 1, 1) := by decide +kernel
theorem dX1_takeUnfit_115 : decode cX1_takeUnfit 115 = .ok (.invokevirtual 87, 3) := by decide +kernel
theorem dX1_takeUnfit_118 : decode cX1_takeUnfit 118 = .ok (.iconst 0, 1) := by decide +kernel
theorem dX1_takeUnfit_119 : decode cX1_takeUnfit 119 = .ok (.invokestatic 118, 3) := by decide +kernel
theorem dX1_takeUnfit_122 : decode cX1_takeUnfit 122 = .ok (.ifCond .ne 11, 3) := by decide +kernel
theorem dX1_takeUnfit_125 : decode cX1_takeUnfit 125 = .ok (.aload_n 0, 1) := by decide +kernel
theorem dX1_takeUnfit_126 : decode cX1_takeUnfit 126 = .ok (.iload 4, 2) := by decide +kernel
theorem dX1_takeUnfit_128 : decode cX1_takeUnfit 128 = .ok (.iload 6, 2) := by decide +kernel
theorem dX1_takeUnfit_130 : decode cX1_takeUnfit 130 = .ok (.invokevirtual 102, 3) := by decide +kernel
theorem dX1_takeUnfit_133 : decode cX1_takeUnfit 133 = .ok (.iinc 5 1, 3) := by decide +kernel
theorem dX1_takeUnfit_136 : decode cX1_takeUnfit 136 = .ok (.goto (-69), 3) := by decide +kernel
theorem dX1_takeUnfit_139 : decode cX1_takeUnfit 139 = .ok (.aload_n 0, 1) := by decide +kernel
theorem dX1_takeUnfit_140 : decode cX1_takeUnfit 140 = .ok (.getfield 15, 3) := by decide +kernel
theorem dX1_takeUnfit_143 : decode cX1_takeUnfit 143 = .ok (.iload_n 3, 1) := by decide +kernel
theorem dX1_takeUnfit_144 : decode cX1_takeUnfit 144 = .ok (.aload_n 0, 1) := by decide +kernel
theorem dX1_takeUnfit_145 : decode cX1_takeUnfit 145 = .ok (.getfield 9, 3) := by decide +kernel
theorem dX1_takeUnfit_148 : decode cX1_takeUnfit 148 = .ok (.iload 4, 2) := by decide +kernel
theorem dX1_takeUnfit_150 : decode cX1_takeUnfit 150 = .ok (.invokestatic 54, 3) := by decide +kernel
theorem dX1_takeUnfit_153 : decode cX1_takeUnfit 153 = .ok (.invokestatic 74, 3) := by decide +kernel
theorem dX1_takeUnfit_156 : decode cX1_takeUnfit 156 = .ok (.iinc 3 1, 3) := by decide +kernel
theorem dX1_takeUnfit_159 : decode cX1_takeUnfit 159 = .ok (.goto (-111), 3) := by decide +kernel
theorem dX1_takeUnfit_162 : decode cX1_takeUnfit 162 = .ok (.return_, 1) := by decide +kernel
set_option maxRecDepth 20000 in
theorem ggX1_canMake_X3_at : GoodIn wsX1_canMake wsX3_at := goodIn_r _ [3] (by decide +kernel) (by decide +kernel)
set_option maxRecDepth 20000 in
theorem gX1_canMake_X3_at_n54 : GoodIn wsX1_canMake (wsX3_at) := ggX1_canMake_X3_at
set_option maxRecDepth 20000 in
theorem ggX1_canMake_X1_canMake : GoodIn wsX1_canMake wsX1_canMake := goodIn_r _ [0, 1, 2, 3, 4, 5, 6] (by decide +kernel) (by decide +kernel)
set_option maxRecDepth 20000 in
theorem gX1_canMake_X1_canMake : GoodIn wsX1_canMake (va_wsS RX1 118 yX1_canMake wsX1_canMake) := goodIn_app (goodIn_of _ (by decide +kernel)) ggX1_canMake_X1_canMake
theorem dX1_canMake_0 : decode cX1_canMake 0 = .ok (.iload_n 1, 1) := by decide +kernel
theorem dX1_canMake_1 : decode cX1_canMake 1 = .ok (.ifCond .gt 13, 3) := by decide +kernel
theorem dX1_canMake_4 : decode cX1_canMake 4 = .ok (.iload_n 2, 1) := by decide +kernel
theorem dX1_canMake_5 : decode cX1_canMake 5 = .ok (.ifCond .ne 7, 3) := by decide +kernel
theorem dX1_canMake_8 : decode cX1_canMake 8 = .ok (.iconst 1, 1) := by decide +kernel
theorem dX1_canMake_9 : decode cX1_canMake 9 = .ok (.goto 4, 3) := by decide +kernel
theorem dX1_canMake_12 : decode cX1_canMake 12 = .ok (.iconst 0, 1) := by decide +kernel
theorem dX1_canMake_13 : decode cX1_canMake 13 = .ok (.ireturn, 1) := by decide +kernel
theorem dX1_canMake_14 : decode cX1_canMake 14 = .ok (.iload_n 1, 1) := by decide +kernel
theorem dX1_canMake_15 : decode cX1_canMake 15 = .ok (.iconst 4, 1) := by decide +kernel
theorem dX1_canMake_16 : decode cX1_canMake 16 = .ok (.if_icmp .le 5, 3) := by decide +kernel
theorem dX1_canMake_19 : decode cX1_canMake 19 = .ok (.iconst 0, 1) := by decide +kernel
theorem dX1_canMake_20 : decode cX1_canMake 20 = .ok (.ireturn, 1) := by decide +kernel
theorem dX1_canMake_21 : decode cX1_canMake 21 = .ok (.aload_n 0, 1) := by decide +kernel
theorem dX1_canMake_22 : decode cX1_canMake 22 = .ok (.iload_n 1, 1) := by decide +kernel
theorem dX1_canMake_23 : decode cX1_canMake 23 = .ok (.iconst 1, 1) := by decide +kernel
theorem dX1_canMake_24 : decode cX1_canMake 24 = .ok (.isub, 1) := by decide +kernel
theorem dX1_canMake_25 : decode cX1_canMake 25 = .ok (.invokestatic 54, 3) := by decide +kernel
theorem dX1_canMake_28 : decode cX1_canMake 28 = .ok (.iload_n 3, 1) := by decide +kernel
theorem dX1_canMake_29 : decode cX1_canMake 29 = .ok (.iconst (-1), 1) := by decide +kernel
theorem dX1_canMake_30 : decode cX1_canMake 30 = .ok (.ixor, 1) := by decide +kernel
theorem dX1_canMake_31 : decode cX1_canMake 31 = .ok (.iand, 1) := by decide +kernel
theorem dX1_canMake_32 : decode cX1_canMake 32 = .ok (.istore 4, 2) := by decide +kernel
theorem dX1_canMake_34 : decode cX1_canMake 34 = .ok (.iconst 1, 1) := by decide +kernel
theorem dX1_canMake_35 : decode cX1_canMake 35 = .ok (.istore 5, 2) := by decide +kernel
theorem dX1_canMake_37 : decode cX1_canMake 37 = .ok (.iload 5, 2) := by decide +kernel
theorem dX1_canMake_39 : decode cX1_canMake 39 = .ok (.bipush 9, 2) := by decide +kernel
theorem dX1_canMake_41 : decode cX1_canMake 41 = .ok (.if_icmp .gt 49, 3) := by decide +kernel
theorem dX1_canMake_44 : decode cX1_canMake 44 = .ok (.iload 5, 2) := by decide +kernel
theorem dX1_canMake_46 : decode cX1_canMake 46 = .ok (.iload_n 2, 1) := by decide +kernel
theorem dX1_canMake_47 : decode cX1_canMake 47 = .ok (.if_icmp .gt 43, 3) := by decide +kernel
theorem dX1_canMake_50 : decode cX1_canMake 50 = .ok (.iconst 1, 1) := by decide +kernel
theorem dX1_canMake_51 : decode cX1_canMake 51 = .ok (.iload 5, 2) := by decide +kernel
theorem dX1_canMake_53 : decode cX1_canMake 53 = .ok (.ishl, 1) := by decide +kernel
theorem dX1_canMake_54 : decode cX1_canMake 54 = .ok (.istore 6, 2) := by decide +kernel
theorem dX1_canMake_56 : decode cX1_canMake 56 = .ok (.iload 4, 2) := by decide +kernel
theorem dX1_canMake_58 : decode cX1_canMake 58 = .ok (.iload 6, 2) := by decide +kernel
theorem dX1_canMake_60 : decode cX1_canMake 60 = .ok (.iand, 1) := by decide +kernel
theorem dX1_canMake_61 : decode cX1_canMake 61 = .ok (.ifCond .eq 23, 3) := by decide +kernel
theorem dX1_canMake_64 : decode cX1_canMake 64 = .ok (.aload_n 0, 1) := by decide +kernel
theorem dX1_canMake_65 : decode cX1_canMake 65 = .ok (.iload_n 1, 1) := by decide +kernel
theorem dX1_canMake_66 : decode cX1_canMake 66 = .ok (.iconst 1, 1) := by decide +kernel
theorem dX1_canMake_67 : decode cX1_canMake 67 = .ok (.isub, 1) := by decide +kernel
theorem dX1_canMake_68 : decode cX1_canMake 68 = .ok (.iload_n 2, 1) := by decide +kernel
theorem dX1_canMake_69 : decode cX1_canMake 69 = .ok (.iload 5, 2) := by decide +kernel
theorem dX1_canMake_71 : decode cX1_canMake 71 = .ok (.isub, 1) := by decide +kernel
theorem dX1_canMake_72 : decode cX1_canMake 72 = .ok (.iload_n 3, 1) := by decide +kernel
theorem dX1_canMake_73 : decode cX1_canMake 73 = .ok (.iload 6, 2) := by decide +kernel
theorem dX1_canMake_75 : decode cX1_canMake 75 = .ok (.ior, 1) := by decide +kernel
theorem dX1_canMake_76 : decode cX1_canMake 76 = .ok (.invokestatic 118, 3) := by decide +kernel
theorem dX1_canMake_79 : decode cX1_canMake 79 = .ok (.ifCond .eq 5, 3) := by decide +kernel
theorem dX1_canMake_82 : decode cX1_canMake 82 = .ok (.iconst 1, 1) := by decide +kernel
theorem dX1_canMake_83 : decode cX1_canMake 83 = .ok (.ireturn, 1) := by decide +kernel
theorem dX1_canMake_84 : decode cX1_canMake 84 = .ok (.iinc 5 1, 3) := by decide +kernel
theorem dX1_canMake_87 : decode cX1_canMake 87 = .ok (.goto (-50), 3) := by decide +kernel
theorem dX1_canMake_90 : decode cX1_canMake 90 = .ok (.iconst 0, 1) := by decide +kernel
theorem dX1_canMake_91 : decode cX1_canMake 91 = .ok (.ireturn, 1) := by decide +kernel
set_option maxRecDepth 20000 in
theorem ggX1_take_X3_at : GoodIn wsX1_take wsX3_at := goodIn_r _ [5] (by decide +kernel) (by decide +kernel)
set_option maxRecDepth 20000 in
theorem gX1_take_X3_at_n54 : GoodIn wsX1_take (wsX3_at) := ggX1_take_X3_at
set_option maxRecDepth 20000 in
theorem ggX1_take_X3_put : GoodIn wsX1_take wsX3_put := goodIn_r _ [7] (by decide +kernel) (by decide +kernel)
set_option maxRecDepth 20000 in
theorem gX1_take_X3_put_n74 : GoodIn wsX1_take (wsX3_put) := ggX1_take_X3_put
theorem dX1_take_0 : decode cX1_take 0 = .ok (.aload_n 0, 1) := by decide +kernel
theorem dX1_take_1 : decode cX1_take 1 = .ok (.getfield 9, 3) := by decide +kernel
theorem dX1_take_4 : decode cX1_take 4 = .ok (.iload_n 1, 1) := by decide +kernel
theorem dX1_take_5 : decode cX1_take 5 = .ok (.invokestatic 54, 3) := by decide +kernel
theorem dX1_take_8 : decode cX1_take 8 = .ok (.istore_n 3, 1) := by decide +kernel
theorem dX1_take_9 : decode cX1_take 9 = .ok (.iload_n 3, 1) := by decide +kernel
theorem dX1_take_10 : decode cX1_take 10 = .ok (.iload_n 2, 1) := by decide +kernel
theorem dX1_take_11 : decode cX1_take 11 = .ok (.iand, 1) := by decide +kernel
theorem dX1_take_12 : decode cX1_take 12 = .ok (.ifCond .eq 21, 3) := by decide +kernel
theorem dX1_take_15 : decode cX1_take 15 = .ok (.aload_n 0, 1) := by decide +kernel
theorem dX1_take_16 : decode cX1_take 16 = .ok (.getfield 9, 3) := by decide +kernel
theorem dX1_take_19 : decode cX1_take 19 = .ok (.iload_n 1, 1) := by decide +kernel
theorem dX1_take_20 : decode cX1_take 20 = .ok (.iload_n 3, 1) := by decide +kernel
theorem dX1_take_21 : decode cX1_take 21 = .ok (.iload_n 2, 1) := by decide +kernel
theorem dX1_take_22 : decode cX1_take 22 = .ok (.iconst (-1), 1) := by decide +kernel
theorem dX1_take_23 : decode cX1_take 23 = .ok (.ixor, 1) := by decide +kernel
theorem dX1_take_24 : decode cX1_take 24 = .ok (.iand, 1) := by decide +kernel
theorem dX1_take_25 : decode cX1_take 25 = .ok (.invokestatic 74, 3) := by decide +kernel
theorem dX1_take_28 : decode cX1_take 28 = .ok (.aload_n 0, 1) := by decide +kernel
theorem dX1_take_29 : decode cX1_take 29 = .ok (.iconst 1, 1) := by decide +kernel
theorem dX1_take_30 : decode cX1_take 30 = .ok (.putfield 29, 3) := by decide +kernel
theorem dX1_take_33 : decode cX1_take 33 = .ok (.return_, 1) := by decide +kernel
set_option maxRecDepth 20000 in
theorem ggX1_isSingle_J6_bitCount_0f7a4 : GoodIn wsX1_isSingle wsJ6_bitCount_0f7a4 := goodIn_r _ [4, 5, 6, 7] (by decide +kernel) (by decide +kernel)
set_option maxRecDepth 20000 in
theorem gX1_isSingle_J6_bitCount_0f7a4 : GoodIn wsX1_isSingle (va_wsS RX1 110 yJ6_bitCount_0f7a4 wsJ6_bitCount_0f7a4) := goodIn_app (goodIn_of _ (by decide +kernel)) ggX1_isSingle_J6_bitCount_0f7a4
theorem dX1_isSingle_0 : decode cX1_isSingle 0 = .ok (.iload_n 0, 1) := by decide +kernel
theorem dX1_isSingle_1 : decode cX1_isSingle 1 = .ok (.invokestatic 110, 3) := by decide +kernel
theorem dX1_isSingle_4 : decode cX1_isSingle 4 = .ok (.iconst 1, 1) := by decide +kernel
theorem dX1_isSingle_5 : decode cX1_isSingle 5 = .ok (.if_icmp .ne 7, 3) := by decide +kernel
theorem dX1_isSingle_8 : decode cX1_isSingle 8 = .ok (.iconst 1, 1) := by decide +kernel
theorem dX1_isSingle_9 : decode cX1_isSingle 9 = .ok (.goto 4, 3) := by decide +kernel
theorem dX1_isSingle_12 : decode cX1_isSingle 12 = .ok (.iconst 0, 1) := by decide +kernel
theorem dX1_isSingle_13 : decode cX1_isSingle 13 = .ok (.ireturn, 1) := by decide +kernel
theorem dX2_init_0 : decode cX2_init 0 = .ok (.aload_n 0, 1) := by decide +kernel
theorem dX2_init_1 : decode cX2_init 1 = .ok (.invokespecial 3, 3) := by decide +kernel
theorem dX2_init_4 : decode cX2_init 4 = .ok (.aload_n 0, 1) := by decide +kernel
theorem dX2_init_5 : decode cX2_init 5 = .ok (.bipush 16, 2) := by decide +kernel
theorem dX2_init_7 : decode cX2_init 7 = .ok (.newarray .int, 2) := by decide +kernel
theorem dX2_init_9 : decode cX2_init 9 = .ok (.putfield 9, 3) := by decide +kernel
theorem dX2_init_12 : decode cX2_init 12 = .ok (.aload_n 0, 1) := by decide +kernel
theorem dX2_init_13 : decode cX2_init 13 = .ok (.bipush 16, 2) := by decide +kernel
theorem dX2_init_15 : decode cX2_init 15 = .ok (.newarray .int, 2) := by decide +kernel
theorem dX2_init_17 : decode cX2_init 17 = .ok (.putfield 15, 3) := by decide +kernel
theorem dX2_init_20 : decode cX2_init 20 = .ok (.aload_n 0, 1) := by decide +kernel
theorem dX2_init_21 : decode cX2_init 21 = .ok (.bipush 16, 2) := by decide +kernel
theorem dX2_init_23 : decode cX2_init 23 = .ok (.newarray .int, 2) := by decide +kernel
theorem dX2_init_25 : decode cX2_init 25 = .ok (.putfield 18, 3) := by decide +kernel
theorem dX2_init_28 : decode cX2_init 28 = .ok (.aload_n 0, 1) := by decide +kernel
theorem dX2_init_29 : decode cX2_init 29 = .ok (.bipush 16, 2) := by decide +kernel
theorem dX2_init_31 : decode cX2_init 31 = .ok (.newarray .int, 2) := by decide +kernel
theorem dX2_init_33 : decode cX2_init 33 = .ok (.putfield 21, 3) := by decide +kernel
theorem dX2_init_36 : decode cX2_init 36 = .ok (.aload_n 0, 1) := by decide +kernel
theorem dX2_init_37 : decode cX2_init 37 = .ok (.aload_n 1, 1) := by decide +kernel
theorem dX2_init_38 : decode cX2_init 38 = .ok (.putfield 24, 3) := by decide +kernel
theorem dX2_init_41 : decode cX2_init 41 = .ok (.return_, 1) := by decide +kernel
set_option maxRecDepth 20000 in
theorem ggX2_find_X2_start : GoodIn wsX2_find wsX2_start := goodIn_r _ [9, 1, 10, 3, 2, 4, 11, 12, 13, 14, 15, 16, 17, 18, 19, 20, 21, 22, 23, 24, 25, 26, 27, 28, 29, 30, 31, 32, 33, 34, 94, 95, 96, 97, 98, 99, 100, 101, 102, 103, 104, 105, 106, 107, 108] (by decide +kernel) (by decide +kernel)
set_option maxRecDepth 20000 in
theorem gX2_find_X2_start : GoodIn wsX2_find (wsV RX2 28 RX2 yX2_start wsX2_start) := goodIn_app (goodIn_of _ (by decide +kernel)) ggX2_find_X2_start
set_option maxRecDepth 20000 in
theorem ggX2_find_X0_isAnswer : GoodIn wsX2_find wsX0_isAnswer := goodIn_r _ [38, 39, 40, 41, 42, 17, 43, 44, 25, 12, 26, 45, 46, 47, 48, 49, 50, 51, 52, 53, 54, 55, 56, 57, 58, 59, 60, 61, 62, 63, 100, 101, 102, 103, 104, 105, 106, 107, 108] (by decide +kernel) (by decide +kernel)
set_option maxRecDepth 20000 in
theorem gX2_find_X0_isAnswer : GoodIn wsX2_find (wsV RX2 35 RX0 yX0_isAnswer wsX0_isAnswer) := goodIn_app (goodIn_of _ (by decide +kernel)) ggX2_find_X0_isAnswer
set_option maxRecDepth 20000 in
theorem ggX2_find_X3_at : GoodIn wsX2_find wsX3_at := goodIn_r _ [26] (by decide +kernel) (by decide +kernel)
set_option maxRecDepth 20000 in
theorem gX2_find_X3_at_n41 : GoodIn wsX2_find (wsX3_at) := ggX2_find_X3_at
set_option maxRecDepth 20000 in
theorem ggX2_find_X2_tryNext : GoodIn wsX2_find wsX2_tryNext := goodIn_r _ [67, 10, 3, 2, 25, 12, 26, 11, 13, 68, 69, 70, 17, 71, 72, 73, 74, 75, 8, 76, 77, 50, 51, 52, 53, 78, 55, 56, 57, 58, 59, 79, 41, 42, 43, 44, 80, 81, 82, 83, 84, 94, 95, 96, 97, 98, 99, 100, 101, 102, 103, 104, 105, 106, 107, 108] (by decide +kernel) (by decide +kernel)
set_option maxRecDepth 20000 in
theorem gX2_find_X2_tryNext : GoodIn wsX2_find (wsV RX2 45 RX2 yX2_tryNext wsX2_tryNext) := goodIn_app (goodIn_of _ (by decide +kernel)) ggX2_find_X2_tryNext
set_option maxRecDepth 20000 in
theorem ggX2_find_X2_keepFirstAnswer : GoodIn wsX2_find wsX2_keepFirstAnswer := goodIn_r _ [88, 89, 3, 25, 12, 26, 11, 13, 94, 95, 96, 97, 98, 99] (by decide +kernel) (by decide +kernel)
set_option maxRecDepth 20000 in
theorem gX2_find_X2_keepFirstAnswer : GoodIn wsX2_find (wsV RX2 49 RX2 yX2_keepFirstAnswer wsX2_keepFirstAnswer) := goodIn_app (goodIn_of _ (by decide +kernel)) ggX2_find_X2_keepFirstAnswer
set_option maxRecDepth 20000 in
theorem ggX2_find_X2_backFrom : GoodIn wsX2_find wsX2_backFrom := goodIn_r _ [93, 10, 4, 3, 25, 12, 26, 11, 13, 94, 95, 96, 97, 98, 99] (by decide +kernel) (by decide +kernel)
set_option maxRecDepth 20000 in
theorem gX2_find_X2_backFrom : GoodIn wsX2_find (wsV RX2 52 RX2 yX2_backFrom wsX2_backFrom) := goodIn_app (goodIn_of _ (by decide +kernel)) ggX2_find_X2_backFrom
theorem dX2_find_0 : decode cX2_find 0 = .ok (.aload_n 0, 1) := by decide +kernel
theorem dX2_find_1 : decode cX2_find 1 = .ok (.invokevirtual 28, 3) := by decide +kernel
theorem dX2_find_4 : decode cX2_find 4 = .ok (.aload_n 0, 1) := by decide +kernel
theorem dX2_find_5 : decode cX2_find 5 = .ok (.getfield 31, 3) := by decide +kernel
theorem dX2_find_8 : decode cX2_find 8 = .ok (.ifCond .ne 23, 3) := by decide +kernel
theorem dX2_find_11 : decode cX2_find 11 = .ok (.aload_n 0, 1) := by decide +kernel
theorem dX2_find_12 : decode cX2_find 12 = .ok (.getfield 24, 3) := by decide +kernel
theorem dX2_find_15 : decode cX2_find 15 = .ok (.aload_n 0, 1) := by decide +kernel
theorem dX2_find_16 : decode cX2_find 16 = .ok (.getfield 18, 3) := by decide +kernel
theorem dX2_find_19 : decode cX2_find 19 = .ok (.invokevirtual 35, 3) := by decide +kernel
theorem dX2_find_22 : decode cX2_find 22 = .ok (.ifCond .eq 7, 3) := by decide +kernel
theorem dX2_find_25 : decode cX2_find 25 = .ok (.iconst 1, 1) := by decide +kernel
theorem dX2_find_26 : decode cX2_find 26 = .ok (.goto 4, 3) := by decide +kernel
theorem dX2_find_29 : decode cX2_find 29 = .ok (.iconst 0, 1) := by decide +kernel
theorem dX2_find_30 : decode cX2_find 30 = .ok (.ireturn, 1) := by decide +kernel
theorem dX2_find_31 : decode cX2_find 31 = .ok (.iconst 0, 1) := by decide +kernel
theorem dX2_find_32 : decode cX2_find 32 = .ok (.istore_n 2, 1) := by decide +kernel
theorem dX2_find_33 : decode cX2_find 33 = .ok (.iconst 0, 1) := by decide +kernel
theorem dX2_find_34 : decode cX2_find 34 = .ok (.istore_n 3, 1) := by decide +kernel
theorem dX2_find_35 : decode cX2_find 35 = .ok (.iconst 0, 1) := by decide +kernel
theorem dX2_find_36 : decode cX2_find 36 = .ok (.istore 4, 2) := by decide +kernel
theorem dX2_find_38 : decode cX2_find 38 = .ok (.iload 4, 2) := by decide +kernel
theorem dX2_find_40 : decode cX2_find 40 = .ok (.sipush 20000, 3) := by decide +kernel
theorem dX2_find_43 : decode cX2_find 43 = .ok (.if_icmp .ge 94, 3) := by decide +kernel
theorem dX2_find_46 : decode cX2_find 46 = .ok (.aload_n 0, 1) := by decide +kernel
theorem dX2_find_47 : decode cX2_find 47 = .ok (.aload_n 0, 1) := by decide +kernel
theorem dX2_find_48 : decode cX2_find 48 = .ok (.getfield 9, 3) := by decide +kernel
theorem dX2_find_51 : decode cX2_find 51 = .ok (.iload_n 3, 1) := by decide +kernel
theorem dX2_find_52 : decode cX2_find 52 = .ok (.invokestatic 41, 3) := by decide +kernel
theorem dX2_find_55 : decode cX2_find 55 = .ok (.invokevirtual 45, 3) := by decide +kernel
theorem dX2_find_58 : decode cX2_find 58 = .ok (.istore 5, 2) := by decide +kernel
theorem dX2_find_60 : decode cX2_find 60 = .ok (.iload 5, 2) := by decide +kernel
theorem dX2_find_62 : decode cX2_find 62 = .ok (.ifCond .eq 19, 3) := by decide +kernel
theorem dX2_find_65 : decode cX2_find 65 = .ok (.iload_n 3, 1) := by decide +kernel
theorem dX2_find_66 : decode cX2_find 66 = .ok (.iconst 1, 1) := by decide +kernel
theorem dX2_find_67 : decode cX2_find 67 = .ok (.iadd, 1) := by decide +kernel
theorem dX2_find_68 : decode cX2_find 68 = .ok (.aload_n 0, 1) := by decide +kernel
theorem dX2_find_69 : decode cX2_find 69 = .ok (.getfield 31, 3) := by decide +kernel
theorem dX2_find_72 : decode cX2_find 72 = .ok (.if_icmp .ge 9, 3) := by decide +kernel
theorem dX2_find_75 : decode cX2_find 75 = .ok (.iinc 3 1, 3) := by decide +kernel
theorem dX2_find_78 : decode cX2_find 78 = .ok (.goto 41, 3) := by decide +kernel
theorem dX2_find_81 : decode cX2_find 81 = .ok (.iload 5, 2) := by decide +kernel
theorem dX2_find_83 : decode cX2_find 83 = .ok (.ifCond .eq 36, 3) := by decide +kernel
theorem dX2_find_86 : decode cX2_find 86 = .ok (.aload_n 0, 1) := by decide +kernel
theorem dX2_find_87 : decode cX2_find 87 = .ok (.getfield 24, 3) := by decide +kernel
theorem dX2_find_90 : decode cX2_find 90 = .ok (.aload_n 0, 1) := by decide +kernel
theorem dX2_find_91 : decode cX2_find 91 = .ok (.getfield 18, 3) := by decide +kernel
theorem dX2_find_94 : decode cX2_find 94 = .ok (.invokevirtual 35, 3) := by decide +kernel
theorem dX2_find_97 : decode cX2_find 97 = .ok (.ifCond .eq 22, 3) := by decide +kernel
theorem dX2_find_100 : decode cX2_find 100 = .ok (.iinc 2 1, 3) := by decide +kernel
theorem dX2_find_103 : decode cX2_find 103 = .ok (.iload_n 2, 1) := by decide +kernel
theorem dX2_find_104 : decode cX2_find 104 = .ok (.iconst 1, 1) := by decide +kernel
theorem dX2_find_105 : decode cX2_find 105 = .ok (.if_icmp .ne 7, 3) := by decide +kernel
theorem dX2_find_108 : decode cX2_find 108 = .ok (.aload_n 0, 1) := by decide +kernel
theorem dX2_find_109 : decode cX2_find 109 = .ok (.invokevirtual 49, 3) := by decide +kernel
theorem dX2_find_112 : decode cX2_find 112 = .ok (.iload_n 2, 1) := by decide +kernel
theorem dX2_find_113 : decode cX2_find 113 = .ok (.iload_n 1, 1) := by decide +kernel
theorem dX2_find_114 : decode cX2_find 114 = .ok (.if_icmp .lt 5, 3) := by decide +kernel
theorem dX2_find_117 : decode cX2_find 117 = .ok (.iload_n 2, 1) := by decide +kernel
theorem dX2_find_118 : decode cX2_find 118 = .ok (.ireturn, 1) := by decide +kernel
theorem dX2_find_119 : decode cX2_find 119 = .ok (.aload_n 0, 1) := by decide +kernel
theorem dX2_find_120 : decode cX2_find 120 = .ok (.iload_n 3, 1) := by decide +kernel
theorem dX2_find_121 : decode cX2_find 121 = .ok (.invokevirtual 52, 3) := by decide +kernel
theorem dX2_find_124 : decode cX2_find 124 = .ok (.istore_n 3, 1) := by decide +kernel
theorem dX2_find_125 : decode cX2_find 125 = .ok (.iload_n 3, 1) := by decide +kernel
theorem dX2_find_126 : decode cX2_find 126 = .ok (.ifCond .ge 5, 3) := by decide +kernel
theorem dX2_find_129 : decode cX2_find 129 = .ok (.iload_n 2, 1) := by decide +kernel
theorem dX2_find_130 : decode cX2_find 130 = .ok (.ireturn, 1) := by decide +kernel
theorem dX2_find_131 : decode cX2_find 131 = .ok (.iinc 4 1, 3) := by decide +kernel
theorem dX2_find_134 : decode cX2_find 134 = .ok (.goto (-96), 3) := by decide +kernel
theorem dX2_find_137 : decode cX2_find 137 = .ok (.iconst (-1), 1) := by decide +kernel
theorem dX2_find_138 : decode cX2_find 138 = .ok (.ireturn, 1) := by decide +kernel
set_option maxRecDepth 20000 in
theorem ggX2_countByAll_X2_start : GoodIn wsX2_countByAll wsX2_start := goodIn_r _ [8, 1, 9, 3, 2, 10, 11, 12, 13, 14, 15, 16, 17, 18, 19, 20, 21, 22, 23, 24, 25, 26, 27, 28, 29, 30, 31, 32, 33, 34, 68, 69, 70, 71, 72, 73, 74, 75, 76, 77, 78, 79, 80, 81, 82] (by decide +kernel) (by decide +kernel)
set_option maxRecDepth 20000 in
theorem gX2_countByAll_X2_start : GoodIn wsX2_countByAll (wsV RX2 28 RX2 yX2_start wsX2_start) := goodIn_app (goodIn_of _ (by decide +kernel)) ggX2_countByAll_X2_start
set_option maxRecDepth 20000 in
theorem ggX2_countByAll_X2_fillBy : GoodIn wsX2_countByAll wsX2_fillBy := goodIn_r _ [38, 1, 3, 10, 25, 12, 26, 11, 13, 68, 69, 70, 71, 72, 73] (by decide +kernel) (by decide +kernel)
set_option maxRecDepth 20000 in
theorem gX2_countByAll_X2_fillBy : GoodIn wsX2_countByAll (wsV RX2 56 RX2 yX2_fillBy wsX2_fillBy) := goodIn_app (goodIn_of _ (by decide +kernel)) ggX2_countByAll_X2_fillBy
set_option maxRecDepth 20000 in
theorem ggX2_countByAll_X0_isAnswer : GoodIn wsX2_countByAll wsX0_isAnswer := goodIn_r _ [42, 43, 44, 45, 46, 17, 47, 48, 25, 12, 26, 49, 50, 51, 52, 53, 54, 55, 56, 57, 58, 59, 60, 61, 62, 63, 64, 65, 66, 67, 74, 75, 76, 77, 78, 79, 80, 81, 82] (by decide +kernel) (by decide +kernel)
set_option maxRecDepth 20000 in
theorem gX2_countByAll_X0_isAnswer : GoodIn wsX2_countByAll (wsV RX2 35 RX0 yX0_isAnswer wsX0_isAnswer) := goodIn_app (goodIn_of _ (by decide +kernel)) ggX2_countByAll_X0_isAnswer
theorem dX2_countByAll_0 : decode cX2_countByAll 0 = .ok (.aload_n 0, 1) := by decide +kernel
theorem dX2_countByAll_1 : decode cX2_countByAll 1 = .ok (.invokevirtual 28, 3) := by decide +kernel
theorem dX2_countByAll_4 : decode cX2_countByAll 4 = .ok (.iconst 1, 1) := by decide +kernel
theorem dX2_countByAll_5 : decode cX2_countByAll 5 = .ok (.istore_n 1, 1) := by decide +kernel
theorem dX2_countByAll_6 : decode cX2_countByAll 6 = .ok (.iconst 0, 1) := by decide +kernel
theorem dX2_countByAll_7 : decode cX2_countByAll 7 = .ok (.istore_n 2, 1) := by decide +kernel
theorem dX2_countByAll_8 : decode cX2_countByAll 8 = .ok (.iload_n 2, 1) := by decide +kernel
theorem dX2_countByAll_9 : decode cX2_countByAll 9 = .ok (.aload_n 0, 1) := by decide +kernel
theorem dX2_countByAll_10 : decode cX2_countByAll 10 = .ok (.getfield 31, 3) := by decide +kernel
theorem dX2_countByAll_13 : decode cX2_countByAll 13 = .ok (.if_icmp .ge 14, 3) := by decide +kernel
theorem dX2_countByAll_16 : decode cX2_countByAll 16 = .ok (.iload_n 1, 1) := by decide +kernel
theorem dX2_countByAll_17 : decode cX2_countByAll 17 = .ok (.bipush 9, 2) := by decide +kernel
theorem dX2_countByAll_19 : decode cX2_countByAll 19 = .ok (.imul, 1) := by decide +kernel
theorem dX2_countByAll_20 : decode cX2_countByAll 20 = .ok (.istore_n 1, 1) := by decide +kernel
theorem dX2_countByAll_21 : decode cX2_countByAll 21 = .ok (.iinc 2 1, 3) := by decide +kernel
theorem dX2_countByAll_24 : decode cX2_countByAll 24 = .ok (.goto (-16), 3) := by decide +kernel
theorem dX2_countByAll_27 : decode cX2_countByAll 27 = .ok (.iconst 0, 1) := by decide +kernel
theorem dX2_countByAll_28 : decode cX2_countByAll 28 = .ok (.istore_n 2, 1) := by decide +kernel
theorem dX2_countByAll_29 : decode cX2_countByAll 29 = .ok (.iconst 0, 1) := by decide +kernel
theorem dX2_countByAll_30 : decode cX2_countByAll 30 = .ok (.istore_n 3, 1) := by decide +kernel
theorem dX2_countByAll_31 : decode cX2_countByAll 31 = .ok (.iload_n 3, 1) := by decide +kernel
theorem dX2_countByAll_32 : decode cX2_countByAll 32 = .ok (.iload_n 1, 1) := by decide +kernel
theorem dX2_countByAll_33 : decode cX2_countByAll 33 = .ok (.if_icmp .ge 31, 3) := by decide +kernel
theorem dX2_countByAll_36 : decode cX2_countByAll 36 = .ok (.aload_n 0, 1) := by decide +kernel
theorem dX2_countByAll_37 : decode cX2_countByAll 37 = .ok (.iload_n 3, 1) := by decide +kernel
theorem dX2_countByAll_38 : decode cX2_countByAll 38 = .ok (.invokevirtual 56, 3) := by decide +kernel
theorem dX2_countByAll_41 : decode cX2_countByAll 41 = .ok (.aload_n 0, 1) := by decide +kernel
theorem dX2_countByAll_42 : decode cX2_countByAll 42 = .ok (.getfield 24, 3) := by decide +kernel
theorem dX2_countByAll_45 : decode cX2_countByAll 45 = .ok (.aload_n 0, 1) := by decide +kernel
theorem dX2_countByAll_46 : decode cX2_countByAll 46 = .ok (.getfield 18, 3) := by decide +kernel
theorem dX2_countByAll_49 : decode cX2_countByAll 49 = .ok (.invokevirtual 35, 3) := by decide +kernel
theorem dX2_countByAll_52 : decode cX2_countByAll 52 = .ok (.ifCond .eq 6, 3) := by decide +kernel
theorem dX2_countByAll_55 : decode cX2_countByAll 55 = .ok (.iinc 2 1, 3) := by decide +kernel
theorem dX2_countByAll_58 : decode cX2_countByAll 58 = .ok (.iinc 3 1, 3) := by decide +kernel
theorem dX2_countByAll_61 : decode cX2_countByAll 61 = .ok (.goto (-30), 3) := by decide +kernel
theorem dX2_countByAll_64 : decode cX2_countByAll 64 = .ok (.iload_n 2, 1) := by decide +kernel
theorem dX2_countByAll_65 : decode cX2_countByAll 65 = .ok (.ireturn, 1) := by decide +kernel
set_option maxRecDepth 20000 in
theorem ggX2_firstUnlike_X3_at : GoodIn wsX2_firstUnlike wsX3_at := goodIn_r _ [5] (by decide +kernel) (by decide +kernel)
set_option maxRecDepth 20000 in
theorem gX2_firstUnlike_X3_at_n41 : GoodIn wsX2_firstUnlike (wsX3_at) := ggX2_firstUnlike_X3_at
theorem dX2_firstUnlike_0 : decode cX2_firstUnlike 0 = .ok (.iconst 0, 1) := by decide +kernel
theorem dX2_firstUnlike_1 : decode cX2_firstUnlike 1 = .ok (.istore_n 1, 1) := by decide +kernel
theorem dX2_firstUnlike_2 : decode cX2_firstUnlike 2 = .ok (.iload_n 1, 1) := by decide +kernel
theorem dX2_firstUnlike_3 : decode cX2_firstUnlike 3 = .ok (.bipush 16, 2) := by decide +kernel
theorem dX2_firstUnlike_5 : decode cX2_firstUnlike 5 = .ok (.if_icmp .ge 30, 3) := by decide +kernel
theorem dX2_firstUnlike_8 : decode cX2_firstUnlike 8 = .ok (.aload_n 0, 1) := by decide +kernel
theorem dX2_firstUnlike_9 : decode cX2_firstUnlike 9 = .ok (.getfield 21, 3) := by decide +kernel
theorem dX2_firstUnlike_12 : decode cX2_firstUnlike 12 = .ok (.iload_n 1, 1) := by decide +kernel
theorem dX2_firstUnlike_13 : decode cX2_firstUnlike 13 = .ok (.invokestatic 41, 3) := by decide +kernel
theorem dX2_firstUnlike_16 : decode cX2_firstUnlike 16 = .ok (.aload_n 0, 1) := by decide +kernel
theorem dX2_firstUnlike_17 : decode cX2_firstUnlike 17 = .ok (.getfield 18, 3) := by decide +kernel
theorem dX2_firstUnlike_20 : decode cX2_firstUnlike 20 = .ok (.iload_n 1, 1) := by decide +kernel
theorem dX2_firstUnlike_21 : decode cX2_firstUnlike 21 = .ok (.invokestatic 41, 3) := by decide +kernel
theorem dX2_firstUnlike_24 : decode cX2_firstUnlike 24 = .ok (.if_icmp .eq 5, 3) := by decide +kernel
theorem dX2_firstUnlike_27 : decode cX2_firstUnlike 27 = .ok (.iload_n 1, 1) := by decide +kernel
theorem dX2_firstUnlike_28 : decode cX2_firstUnlike 28 = .ok (.ireturn, 1) := by decide +kernel
theorem dX2_firstUnlike_29 : decode cX2_firstUnlike 29 = .ok (.iinc 1 1, 3) := by decide +kernel
theorem dX2_firstUnlike_32 : decode cX2_firstUnlike 32 = .ok (.goto (-30), 3) := by decide +kernel
theorem dX2_firstUnlike_35 : decode cX2_firstUnlike 35 = .ok (.iconst (-1), 1) := by decide +kernel
theorem dX2_firstUnlike_36 : decode cX2_firstUnlike 36 = .ok (.ireturn, 1) := by decide +kernel
set_option maxRecDepth 20000 in
theorem ggX2_firstAnswerAt_X3_at : GoodIn wsX2_firstAnswerAt wsX3_at := goodIn_r _ [4] (by decide +kernel) (by decide +kernel)
set_option maxRecDepth 20000 in
theorem gX2_firstAnswerAt_X3_at_n41 : GoodIn wsX2_firstAnswerAt (wsX3_at) := ggX2_firstAnswerAt_X3_at
theorem dX2_firstAnswerAt_0 : decode cX2_firstAnswerAt 0 = .ok (.aload_n 0, 1) := by decide +kernel
theorem dX2_firstAnswerAt_1 : decode cX2_firstAnswerAt 1 = .ok (.getfield 21, 3) := by decide +kernel
theorem dX2_firstAnswerAt_4 : decode cX2_firstAnswerAt 4 = .ok (.iload_n 1, 1) := by decide +kernel
theorem dX2_firstAnswerAt_5 : decode cX2_firstAnswerAt 5 = .ok (.invokestatic 41, 3) := by decide +kernel
theorem dX2_firstAnswerAt_8 : decode cX2_firstAnswerAt 8 = .ok (.ireturn, 1) := by decide +kernel
set_option maxRecDepth 20000 in
theorem ggX2_start_X3_put : GoodIn wsX2_start wsX3_put := goodIn_r _ [8] (by decide +kernel) (by decide +kernel)
set_option maxRecDepth 20000 in
theorem gX2_start_X3_put_n60 : GoodIn wsX2_start (wsX3_put) := ggX2_start_X3_put
set_option maxRecDepth 20000 in
theorem ggX2_start_X0_isOpen : GoodIn wsX2_start wsX0_isOpen := goodIn_r _ [13, 14, 15, 16, 17, 12, 18, 19, 20, 7, 21, 36, 37, 38, 39, 40, 41, 42, 43, 44] (by decide +kernel) (by decide +kernel)
set_option maxRecDepth 20000 in
theorem gX2_start_X0_isOpen : GoodIn wsX2_start (wsV RX2 64 RX0 yX0_isOpen wsX0_isOpen) := goodIn_app (goodIn_of _ (by decide +kernel)) ggX2_start_X0_isOpen
set_option maxRecDepth 20000 in
theorem ggX2_start_X0_givenAt : GoodIn wsX2_start wsX0_givenAt := goodIn_r _ [25, 14, 20, 7, 21, 36, 37, 38, 39, 40, 41, 42, 43, 44] (by decide +kernel) (by decide +kernel)
set_option maxRecDepth 20000 in
theorem gX2_start_X0_givenAt : GoodIn wsX2_start (wsV RX2 67 RX0 yX0_givenAt wsX0_givenAt) := goodIn_app (goodIn_of _ (by decide +kernel)) ggX2_start_X0_givenAt
set_option maxRecDepth 20000 in
theorem ggX2_start_X0_isBlank : GoodIn wsX2_start wsX0_isBlank := goodIn_r _ [29, 14, 15, 16, 17, 12, 18, 19, 20, 7, 21, 36, 37, 38, 39, 40, 41, 42, 43, 44] (by decide +kernel) (by decide +kernel)
set_option maxRecDepth 20000 in
theorem gX2_start_X0_isBlank : GoodIn wsX2_start (wsV RX2 70 RX0 yX0_isBlank wsX0_isBlank) := goodIn_app (goodIn_of _ (by decide +kernel)) ggX2_start_X0_isBlank
theorem dX2_start_0 : decode cX2_start 0 = .ok (.aload_n 0, 1) := by decide +kernel
theorem dX2_start_1 : decode cX2_start 1 = .ok (.iconst 0, 1) := by decide +kernel
theorem dX2_start_2 : decode cX2_start 2 = .ok (.putfield 31, 3) := by decide +kernel
theorem dX2_start_5 : decode cX2_start 5 = .ok (.iconst 0, 1) := by decide +kernel
theorem dX2_start_6 : decode cX2_start 6 = .ok (.istore_n 1, 1) := by decide +kernel
theorem dX2_start_7 : decode cX2_start 7 = .ok (.iload_n 1, 1) := by decide +kernel
theorem dX2_start_8 : decode cX2_start 8 = .ok (.bipush 16, 2) := by decide +kernel
theorem dX2_start_10 : decode cX2_start 10 = .ok (.if_icmp .ge 82, 3) := by decide +kernel
theorem dX2_start_13 : decode cX2_start 13 = .ok (.aload_n 0, 1) := by decide +kernel
theorem dX2_start_14 : decode cX2_start 14 = .ok (.getfield 15, 3) := by decide +kernel
theorem dX2_start_17 : decode cX2_start 17 = .ok (.iload_n 1, 1) := by decide +kernel
theorem dX2_start_18 : decode cX2_start 18 = .ok (.iconst 0, 1) := by decide +kernel
theorem dX2_start_19 : decode cX2_start 19 = .ok (.invokestatic 60, 3) := by decide +kernel
theorem dX2_start_22 : decode cX2_start 22 = .ok (.aload_n 0, 1) := by decide +kernel
theorem dX2_start_23 : decode cX2_start 23 = .ok (.getfield 18, 3) := by decide +kernel
theorem dX2_start_26 : decode cX2_start 26 = .ok (.iload_n 1, 1) := by decide +kernel
theorem dX2_start_27 : decode cX2_start 27 = .ok (.aload_n 0, 1) := by decide +kernel
theorem dX2_start_28 : decode cX2_start 28 = .ok (.getfield 24, 3) := by decide +kernel
theorem dX2_start_31 : decode cX2_start 31 = .ok (.iload_n 1, 1) := by decide +kernel
theorem dX2_start_32 : decode cX2_start 32 = .ok (.invokevirtual 64, 3) := by decide +kernel
theorem dX2_start_35 : decode cX2_start 35 = .ok (.ifCond .eq 14, 3) := by decide +kernel
theorem dX2_start_38 : decode cX2_start 38 = .ok (.aload_n 0, 1) := by decide +kernel
theorem dX2_start_39 : decode cX2_start 39 = .ok (.getfield 24, 3) := by decide +kernel
theorem dX2_start_42 : decode cX2_start 42 = .ok (.iload_n 1, 1) := by decide +kernel
theorem dX2_start_43 : decode cX2_start 43 = .ok (.invokevirtual 67, 3) := by decide +kernel
theorem dX2_start_46 : decode cX2_start 46 = .ok (.goto 4, 3) := by decide +kernel
theorem dX2_start_49 : decode cX2_start 49 = .ok (.iconst 0, 1) := by decide +kernel
theorem dX2_start_50 : decode cX2_start 50 = .ok (.invokestatic 60, 3) := by decide +kernel
theorem dX2_start_53 : decode cX2_start 53 = .ok (.aload_n 0, 1) := by decide +kernel
theorem dX2_start_54 : decode cX2_start 54 = .ok (.getfield 24, 3) := by decide +kernel
theorem dX2_start_57 : decode cX2_start 57 = .ok (.iload_n 1, 1) := by decide +kernel
theorem dX2_start_58 : decode cX2_start 58 = .ok (.invokevirtual 70, 3) := by decide +kernel
theorem dX2_start_61 : decode cX2_start 61 = .ok (.ifCond .eq 25, 3) := by decide +kernel
theorem dX2_start_64 : decode cX2_start 64 = .ok (.aload_n 0, 1) := by decide +kernel
theorem dX2_start_65 : decode cX2_start 65 = .ok (.getfield 9, 3) := by decide +kernel
theorem dX2_start_68 : decode cX2_start 68 = .ok (.aload_n 0, 1) := by decide +kernel
theorem dX2_start_69 : decode cX2_start 69 = .ok (.getfield 31, 3) := by decide +kernel
theorem dX2_start_72 : decode cX2_start 72 = .ok (.iload_n 1, 1) := by decide +kernel
theorem dX2_start_73 : decode cX2_start 73 = .ok (.invokestatic 60, 3) := by decide +kernel
theorem dX2_start_76 : decode cX2_start 76 = .ok (.aload_n 0, 1) := by decide +kernel
theorem dX2_start_77 : decode cX2_start 77 = .ok (.dup, 1) := by decide +kernel
theorem dX2_start_78 : decode cX2_start 78 = .ok (.getfield 31, 3) := by decide +kernel
theorem dX2_start_81 : decode cX2_start 81 = .ok (.iconst 1, 1) := by decide +kernel
theorem dX2_start_82 : decode cX2_start 82 = .ok (.iadd, 1) := by decide +kernel
theorem dX2_start_83 : decode cX2_start 83 = .ok (.putfield 31, 3) := by decide +kernel
theorem dX2_start_86 : decode cX2_start 86 = .ok (.iinc 1 1, 3) := by decide +kernel
theorem dX2_start_89 : decode cX2_start 89 = .ok (.goto (-82), 3) := by decide +kernel
theorem dX2_start_92 : decode cX2_start 92 = .ok (.return_, 1) := by decide +kernel
set_option maxRecDepth 20000 in
theorem ggX2_tryNext_X3_at : GoodIn wsX2_tryNext wsX3_at := goodIn_r _ [6] (by decide +kernel) (by decide +kernel)
set_option maxRecDepth 20000 in
theorem gX2_tryNext_X3_at_n41 : GoodIn wsX2_tryNext (wsX3_at) := ggX2_tryNext_X3_at
set_option maxRecDepth 20000 in
theorem ggX2_tryNext_X3_put : GoodIn wsX2_tryNext wsX3_put := goodIn_r _ [8] (by decide +kernel) (by decide +kernel)
set_option maxRecDepth 20000 in
theorem gX2_tryNext_X3_put_n60 : GoodIn wsX2_tryNext (wsX3_put) := ggX2_tryNext_X3_put
set_option maxRecDepth 20000 in
theorem ggX2_tryNext_X0_rowRunOf : GoodIn wsX2_tryNext wsX0_rowRunOf := goodIn_r _ [13, 14, 4, 5, 6, 47, 48, 49, 50, 51, 52, 53, 54, 55] (by decide +kernel) (by decide +kernel)
set_option maxRecDepth 20000 in
theorem gX2_tryNext_X0_rowRunOf : GoodIn wsX2_tryNext (wsV RX2 73 RX0 yX0_rowRunOf wsX0_rowRunOf) := goodIn_app (goodIn_of _ (by decide +kernel)) ggX2_tryNext_X0_rowRunOf
set_option maxRecDepth 20000 in
theorem ggX2_tryNext_X2_suits : GoodIn wsX2_tryNext wsX2_suits := goodIn_r _ [19, 3, 2, 20, 21, 22, 12, 23, 24, 4, 5, 6, 25, 26, 27, 28, 29, 30, 31, 32, 33, 34, 35, 41, 42, 43, 44, 45, 46, 47, 48, 49, 50, 51, 52, 53, 54, 55] (by decide +kernel) (by decide +kernel)
set_option maxRecDepth 20000 in
theorem gX2_tryNext_X2_suits : GoodIn wsX2_tryNext (wsV RX2 76 RX2 yX2_suits wsX2_suits) := goodIn_app (goodIn_of _ (by decide +kernel)) ggX2_tryNext_X2_suits
set_option maxRecDepth 20000 in
theorem ggX2_tryNext_X0_columnRunOf : GoodIn wsX2_tryNext wsX0_columnRunOf := goodIn_r _ [39, 40, 4, 5, 6, 47, 48, 49, 50, 51, 52, 53, 54, 55] (by decide +kernel) (by decide +kernel)
set_option maxRecDepth 20000 in
theorem gX2_tryNext_X0_columnRunOf : GoodIn wsX2_tryNext (wsV RX2 80 RX0 yX0_columnRunOf wsX0_columnRunOf) := goodIn_app (goodIn_of _ (by decide +kernel)) ggX2_tryNext_X0_columnRunOf
theorem dX2_tryNext_0 : decode cX2_tryNext 0 = .ok (.aload_n 0, 1) := by decide +kernel
theorem dX2_tryNext_1 : decode cX2_tryNext 1 = .ok (.getfield 15, 3) := by decide +kernel
theorem dX2_tryNext_4 : decode cX2_tryNext 4 = .ok (.iload_n 1, 1) := by decide +kernel
theorem dX2_tryNext_5 : decode cX2_tryNext 5 = .ok (.invokestatic 41, 3) := by decide +kernel
theorem dX2_tryNext_8 : decode cX2_tryNext 8 = .ok (.iconst 1, 1) := by decide +kernel
theorem dX2_tryNext_9 : decode cX2_tryNext 9 = .ok (.iadd, 1) := by decide +kernel
theorem dX2_tryNext_10 : decode cX2_tryNext 10 = .ok (.istore_n 2, 1) := by decide +kernel
theorem dX2_tryNext_11 : decode cX2_tryNext 11 = .ok (.aload_n 0, 1) := by decide +kernel
theorem dX2_tryNext_12 : decode cX2_tryNext 12 = .ok (.getfield 15, 3) := by decide +kernel
theorem dX2_tryNext_15 : decode cX2_tryNext 15 = .ok (.iload_n 1, 1) := by decide +kernel
theorem dX2_tryNext_16 : decode cX2_tryNext 16 = .ok (.iload_n 2, 1) := by decide +kernel
theorem dX2_tryNext_17 : decode cX2_tryNext 17 = .ok (.invokestatic 60, 3) := by decide +kernel
theorem dX2_tryNext_20 : decode cX2_tryNext 20 = .ok (.aload_n 0, 1) := by decide +kernel
theorem dX2_tryNext_21 : decode cX2_tryNext 21 = .ok (.getfield 18, 3) := by decide +kernel
theorem dX2_tryNext_24 : decode cX2_tryNext 24 = .ok (.iload_n 1, 1) := by decide +kernel
theorem dX2_tryNext_25 : decode cX2_tryNext 25 = .ok (.iconst 0, 1) := by decide +kernel
theorem dX2_tryNext_26 : decode cX2_tryNext 26 = .ok (.invokestatic 60, 3) := by decide +kernel
theorem dX2_tryNext_29 : decode cX2_tryNext 29 = .ok (.aload_n 0, 1) := by decide +kernel
theorem dX2_tryNext_30 : decode cX2_tryNext 30 = .ok (.aload_n 0, 1) := by decide +kernel
theorem dX2_tryNext_31 : decode cX2_tryNext 31 = .ok (.getfield 24, 3) := by decide +kernel
theorem dX2_tryNext_34 : decode cX2_tryNext 34 = .ok (.iload_n 1, 1) := by decide +kernel
theorem dX2_tryNext_35 : decode cX2_tryNext 35 = .ok (.invokevirtual 73, 3) := by decide +kernel
theorem dX2_tryNext_38 : decode cX2_tryNext 38 = .ok (.iload_n 2, 1) := by decide +kernel
theorem dX2_tryNext_39 : decode cX2_tryNext 39 = .ok (.invokevirtual 76, 3) := by decide +kernel
theorem dX2_tryNext_42 : decode cX2_tryNext 42 = .ok (.ifCond .eq 19, 3) := by decide +kernel
theorem dX2_tryNext_45 : decode cX2_tryNext 45 = .ok (.aload_n 0, 1) := by decide +kernel
theorem dX2_tryNext_46 : decode cX2_tryNext 46 = .ok (.aload_n 0, 1) := by decide +kernel
theorem dX2_tryNext_47 : decode cX2_tryNext 47 = .ok (.getfield 24, 3) := by decide +kernel
theorem dX2_tryNext_50 : decode cX2_tryNext 50 = .ok (.iload_n 1, 1) := by decide +kernel
theorem dX2_tryNext_51 : decode cX2_tryNext 51 = .ok (.invokevirtual 80, 3) := by decide +kernel
theorem dX2_tryNext_54 : decode cX2_tryNext 54 = .ok (.iload_n 2, 1) := by decide +kernel
theorem dX2_tryNext_55 : decode cX2_tryNext 55 = .ok (.invokevirtual 76, 3) := by decide +kernel
theorem dX2_tryNext_58 : decode cX2_tryNext 58 = .ok (.ifCond .ne 5, 3) := by decide +kernel
theorem dX2_tryNext_61 : decode cX2_tryNext 61 = .ok (.iconst 0, 1) := by decide +kernel
theorem dX2_tryNext_62 : decode cX2_tryNext 62 = .ok (.ireturn, 1) := by decide +kernel
theorem dX2_tryNext_63 : decode cX2_tryNext 63 = .ok (.aload_n 0, 1) := by decide +kernel
theorem dX2_tryNext_64 : decode cX2_tryNext 64 = .ok (.getfield 18, 3) := by decide +kernel
theorem dX2_tryNext_67 : decode cX2_tryNext 67 = .ok (.iload_n 1, 1) := by decide +kernel
theorem dX2_tryNext_68 : decode cX2_tryNext 68 = .ok (.iload_n 2, 1) := by decide +kernel
theorem dX2_tryNext_69 : decode cX2_tryNext 69 = .ok (.invokestatic 60, 3) := by decide +kernel
theorem dX2_tryNext_72 : decode cX2_tryNext 72 = .ok (.iconst 1, 1) := by decide +kernel
theorem dX2_tryNext_73 : decode cX2_tryNext 73 = .ok (.ireturn, 1) := by decide +kernel
set_option maxRecDepth 20000 in
theorem ggX2_suits_X0_lengthAt : GoodIn wsX2_suits wsX0_lengthAt := goodIn_r _ [7, 8, 9, 10, 11, 29, 30, 31, 32, 33, 34, 35, 36, 37] (by decide +kernel) (by decide +kernel)
set_option maxRecDepth 20000 in
theorem gX2_suits_X0_lengthAt : GoodIn wsX2_suits (wsV RX2 83 RX0 yX0_lengthAt wsX0_lengthAt) := goodIn_app (goodIn_of _ (by decide +kernel)) ggX2_suits_X0_lengthAt
set_option maxRecDepth 20000 in
theorem ggX2_suits_X0_cellAt : GoodIn wsX2_suits wsX0_cellAt := goodIn_r _ [15, 16, 17, 9, 10, 11, 29, 30, 31, 32, 33, 34, 35, 36, 37] (by decide +kernel) (by decide +kernel)
set_option maxRecDepth 20000 in
theorem gX2_suits_X0_cellAt : GoodIn wsX2_suits (wsV RX2 86 RX0 yX0_cellAt wsX0_cellAt) := goodIn_app (goodIn_of _ (by decide +kernel)) ggX2_suits_X0_cellAt
set_option maxRecDepth 20000 in
theorem ggX2_suits_X3_at : GoodIn wsX2_suits wsX3_at := goodIn_r _ [11] (by decide +kernel) (by decide +kernel)
set_option maxRecDepth 20000 in
theorem gX2_suits_X3_at_n41 : GoodIn wsX2_suits (wsX3_at) := ggX2_suits_X3_at
set_option maxRecDepth 20000 in
theorem ggX2_suits_X0_sumAt : GoodIn wsX2_suits wsX0_sumAt := goodIn_r _ [21, 22, 9, 10, 11, 29, 30, 31, 32, 33, 34, 35, 36, 37] (by decide +kernel) (by decide +kernel)
set_option maxRecDepth 20000 in
theorem gX2_suits_X0_sumAt : GoodIn wsX2_suits (wsV RX2 90 RX0 yX0_sumAt wsX0_sumAt) := goodIn_app (goodIn_of _ (by decide +kernel)) ggX2_suits_X0_sumAt
theorem dX2_suits_0 : decode cX2_suits 0 = .ok (.iload_n 1, 1) := by decide +kernel
theorem dX2_suits_1 : decode cX2_suits 1 = .ok (.iconst (-1), 1) := by decide +kernel
theorem dX2_suits_2 : decode cX2_suits 2 = .ok (.if_icmp .ne 5, 3) := by decide +kernel
theorem dX2_suits_5 : decode cX2_suits 5 = .ok (.iconst 1, 1) := by decide +kernel
theorem dX2_suits_6 : decode cX2_suits 6 = .ok (.ireturn, 1) := by decide +kernel
theorem dX2_suits_7 : decode cX2_suits 7 = .ok (.iconst 0, 1) := by decide +kernel
theorem dX2_suits_8 : decode cX2_suits 8 = .ok (.istore_n 3, 1) := by decide +kernel
theorem dX2_suits_9 : decode cX2_suits 9 = .ok (.iload_n 2, 1) := by decide +kernel
theorem dX2_suits_10 : decode cX2_suits 10 = .ok (.istore 4, 2) := by decide +kernel
theorem dX2_suits_12 : decode cX2_suits 12 = .ok (.aload_n 0, 1) := by decide +kernel
theorem dX2_suits_13 : decode cX2_suits 13 = .ok (.getfield 24, 3) := by decide +kernel
theorem dX2_suits_16 : decode cX2_suits 16 = .ok (.iload_n 1, 1) := by decide +kernel
theorem dX2_suits_17 : decode cX2_suits 17 = .ok (.invokevirtual 83, 3) := by decide +kernel
theorem dX2_suits_20 : decode cX2_suits 20 = .ok (.istore 5, 2) := by decide +kernel
theorem dX2_suits_22 : decode cX2_suits 22 = .ok (.iconst 0, 1) := by decide +kernel
theorem dX2_suits_23 : decode cX2_suits 23 = .ok (.istore 6, 2) := by decide +kernel
theorem dX2_suits_25 : decode cX2_suits 25 = .ok (.iload 6, 2) := by decide +kernel
theorem dX2_suits_27 : decode cX2_suits 27 = .ok (.iload 5, 2) := by decide +kernel
theorem dX2_suits_29 : decode cX2_suits 29 = .ok (.if_icmp .ge 51, 3) := by decide +kernel
theorem dX2_suits_32 : decode cX2_suits 32 = .ok (.aload_n 0, 1) := by decide +kernel
theorem dX2_suits_33 : decode cX2_suits 33 = .ok (.getfield 18, 3) := by decide +kernel
theorem dX2_suits_36 : decode cX2_suits 36 = .ok (.aload_n 0, 1) := by decide +kernel
theorem dX2_suits_37 : decode cX2_suits 37 = .ok (.getfield 24, 3) := by decide +kernel
theorem dX2_suits_40 : decode cX2_suits 40 = .ok (.iload_n 1, 1) := by decide +kernel
theorem dX2_suits_41 : decode cX2_suits 41 = .ok (.iload 6, 2) := by decide +kernel
theorem dX2_suits_43 : decode cX2_suits 43 = .ok (.invokevirtual 86, 3) := by decide +kernel
theorem dX2_suits_46 : decode cX2_suits 46 = .ok (.invokestatic 41, 3) := by decide +kernel
theorem dX2_suits_49 : decode cX2_suits 49 = .ok (.istore 7, 2) := by decide +kernel
theorem dX2_suits_51 : decode cX2_suits 51 = .ok (.iload 7, 2) := by decide +kernel
theorem dX2_suits_53 : decode cX2_suits 53 = .ok (.iload_n 2, 1) := by decide +kernel
theorem dX2_suits_54 : decode cX2_suits 54 = .ok (.if_icmp .ne 5, 3) := by decide +kernel
theorem dX2_suits_57 : decode cX2_suits 57 = .ok (.iconst 0, 1) := by decide +kernel
theorem dX2_suits_58 : decode cX2_suits 58 = .ok (.ireturn, 1) := by decide +kernel
theorem dX2_suits_59 : decode cX2_suits 59 = .ok (.iload 7, 2) := by decide +kernel
theorem dX2_suits_61 : decode cX2_suits 61 = .ok (.ifCond .ne 6, 3) := by decide +kernel
theorem dX2_suits_64 : decode cX2_suits 64 = .ok (.iinc 3 1, 3) := by decide +kernel
theorem dX2_suits_67 : decode cX2_suits 67 = .ok (.iload 4, 2) := by decide +kernel
theorem dX2_suits_69 : decode cX2_suits 69 = .ok (.iload 7, 2) := by decide +kernel
theorem dX2_suits_71 : decode cX2_suits 71 = .ok (.iadd, 1) := by decide +kernel
theorem dX2_suits_72 : decode cX2_suits 72 = .ok (.istore 4, 2) := by decide +kernel
theorem dX2_suits_74 : decode cX2_suits 74 = .ok (.iinc 6 1, 3) := by decide +kernel
theorem dX2_suits_77 : decode cX2_suits 77 = .ok (.goto (-52), 3) := by decide +kernel
theorem dX2_suits_80 : decode cX2_suits 80 = .ok (.aload_n 0, 1) := by decide +kernel
theorem dX2_suits_81 : decode cX2_suits 81 = .ok (.getfield 24, 3) := by decide +kernel
theorem dX2_suits_84 : decode cX2_suits 84 = .ok (.iload_n 1, 1) := by decide +kernel
theorem dX2_suits_85 : decode cX2_suits 85 = .ok (.invokevirtual 90, 3) := by decide +kernel
theorem dX2_suits_88 : decode cX2_suits 88 = .ok (.istore 6, 2) := by decide +kernel
theorem dX2_suits_90 : decode cX2_suits 90 = .ok (.iload 6, 2) := by decide +kernel
theorem dX2_suits_92 : decode cX2_suits 92 = .ok (.ifCond .ne 5, 3) := by decide +kernel
theorem dX2_suits_95 : decode cX2_suits 95 = .ok (.iconst 1, 1) := by decide +kernel
theorem dX2_suits_96 : decode cX2_suits 96 = .ok (.ireturn, 1) := by decide +kernel
theorem dX2_suits_97 : decode cX2_suits 97 = .ok (.iload_n 3, 1) := by decide +kernel
theorem dX2_suits_98 : decode cX2_suits 98 = .ok (.iconst 1, 1) := by decide +kernel
theorem dX2_suits_99 : decode cX2_suits 99 = .ok (.if_icmp .le 18, 3) := by decide +kernel
theorem dX2_suits_102 : decode cX2_suits 102 = .ok (.iload 4, 2) := by decide +kernel
theorem dX2_suits_104 : decode cX2_suits 104 = .ok (.iload 6, 2) := by decide +kernel
theorem dX2_suits_106 : decode cX2_suits 106 = .ok (.if_icmp .gt 7, 3) := by decide +kernel
theorem dX2_suits_109 : decode cX2_suits 109 = .ok (.iconst 1, 1) := by decide +kernel
theorem dX2_suits_110 : decode cX2_suits 110 = .ok (.goto 19, 3) := by decide +kernel
theorem dX2_suits_113 : decode cX2_suits 113 = .ok (.iconst 0, 1) := by decide +kernel
theorem dX2_suits_114 : decode cX2_suits 114 = .ok (.goto 15, 3) := by decide +kernel
theorem dX2_suits_117 : decode cX2_suits 117 = .ok (.iload 4, 2) := by decide +kernel
theorem dX2_suits_119 : decode cX2_suits 119 = .ok (.iload 6, 2) := by decide +kernel
theorem dX2_suits_121 : decode cX2_suits 121 = .ok (.if_icmp .ne 7, 3) := by decide +kernel
theorem dX2_suits_124 : decode cX2_suits 124 = .ok (.iconst 1, 1) := by decide +kernel
theorem dX2_suits_125 : decode cX2_suits 125 = .ok (.goto 4, 3) := by decide +kernel
theorem dX2_suits_128 : decode cX2_suits 128 = .ok (.iconst 0, 1) := by decide +kernel
theorem dX2_suits_129 : decode cX2_suits 129 = .ok (.ireturn, 1) := by decide +kernel
set_option maxRecDepth 20000 in
theorem ggX2_backFrom_X3_at : GoodIn wsX2_backFrom wsX3_at := goodIn_r _ [6] (by decide +kernel) (by decide +kernel)
set_option maxRecDepth 20000 in
theorem gX2_backFrom_X3_at_n41 : GoodIn wsX2_backFrom (wsX3_at) := ggX2_backFrom_X3_at
set_option maxRecDepth 20000 in
theorem ggX2_backFrom_X3_put : GoodIn wsX2_backFrom wsX3_put := goodIn_r _ [8] (by decide +kernel) (by decide +kernel)
set_option maxRecDepth 20000 in
theorem gX2_backFrom_X3_put_n60 : GoodIn wsX2_backFrom (wsX3_put) := ggX2_backFrom_X3_put
theorem dX2_backFrom_0 : decode cX2_backFrom 0 = .ok (.iload_n 1, 1) := by decide +kernel
theorem dX2_backFrom_1 : decode cX2_backFrom 1 = .ok (.istore_n 2, 1) := by decide +kernel
theorem dX2_backFrom_2 : decode cX2_backFrom 2 = .ok (.iload_n 2, 1) := by decide +kernel
theorem dX2_backFrom_3 : decode cX2_backFrom 3 = .ok (.ifCond .lt 61, 3) := by decide +kernel
theorem dX2_backFrom_6 : decode cX2_backFrom 6 = .ok (.aload_n 0, 1) := by decide +kernel
theorem dX2_backFrom_7 : decode cX2_backFrom 7 = .ok (.getfield 15, 3) := by decide +kernel
theorem dX2_backFrom_10 : decode cX2_backFrom 10 = .ok (.aload_n 0, 1) := by decide +kernel
theorem dX2_backFrom_11 : decode cX2_backFrom 11 = .ok (.getfield 9, 3) := by decide +kernel
theorem dX2_backFrom_14 : decode cX2_backFrom 14 = .ok (.iload_n 2, 1) := by decide +kernel
theorem dX2_backFrom_15 : decode cX2_backFrom 15 = .ok (.invokestatic 41, 3) := by decide +kernel
theorem dX2_backFrom_18 : decode cX2_backFrom 18 = .ok (.invokestatic 41, 3) := by decide +kernel
theorem dX2_backFrom_21 : decode cX2_backFrom 21 = .ok (.bipush 9, 2) := by decide +kernel
theorem dX2_backFrom_23 : decode cX2_backFrom 23 = .ok (.if_icmp .lt 41, 3) := by decide +kernel
theorem dX2_backFrom_26 : decode cX2_backFrom 26 = .ok (.aload_n 0, 1) := by decide +kernel
theorem dX2_backFrom_27 : decode cX2_backFrom 27 = .ok (.getfield 15, 3) := by decide +kernel
theorem dX2_backFrom_30 : decode cX2_backFrom 30 = .ok (.aload_n 0, 1) := by decide +kernel
theorem dX2_backFrom_31 : decode cX2_backFrom 31 = .ok (.getfield 9, 3) := by decide +kernel
theorem dX2_backFrom_34 : decode cX2_backFrom 34 = .ok (.iload_n 2, 1) := by decide +kernel
theorem dX2_backFrom_35 : decode cX2_backFrom 35 = .ok (.invokestatic 41, 3) := by decide +kernel
theorem dX2_backFrom_38 : decode cX2_backFrom 38 = .ok (.iconst 0, 1) := by decide +kernel
theorem dX2_backFrom_39 : decode cX2_backFrom 39 = .ok (.invokestatic 60, 3) := by decide +kernel
theorem dX2_backFrom_42 : decode cX2_backFrom 42 = .ok (.aload_n 0, 1) := by decide +kernel
theorem dX2_backFrom_43 : decode cX2_backFrom 43 = .ok (.getfield 18, 3) := by decide +kernel
theorem dX2_backFrom_46 : decode cX2_backFrom 46 = .ok (.aload_n 0, 1) := by decide +kernel
theorem dX2_backFrom_47 : decode cX2_backFrom 47 = .ok (.getfield 9, 3) := by decide +kernel
theorem dX2_backFrom_50 : decode cX2_backFrom 50 = .ok (.iload_n 2, 1) := by decide +kernel
theorem dX2_backFrom_51 : decode cX2_backFrom 51 = .ok (.invokestatic 41, 3) := by decide +kernel
theorem dX2_backFrom_54 : decode cX2_backFrom 54 = .ok (.iconst 0, 1) := by decide +kernel
theorem dX2_backFrom_55 : decode cX2_backFrom 55 = .ok (.invokestatic 60, 3) := by decide +kernel
theorem dX2_backFrom_58 : decode cX2_backFrom 58 = .ok (.iinc 2 (-1), 3) := by decide +kernel
theorem dX2_backFrom_61 : decode cX2_backFrom 61 = .ok (.goto (-59), 3) := by decide +kernel
theorem dX2_backFrom_64 : decode cX2_backFrom 64 = .ok (.iload_n 2, 1) := by decide +kernel
theorem dX2_backFrom_65 : decode cX2_backFrom 65 = .ok (.ireturn, 1) := by decide +kernel
set_option maxRecDepth 20000 in
theorem ggX2_keepFirstAnswer_X3_at : GoodIn wsX2_keepFirstAnswer wsX3_at := goodIn_r _ [5] (by decide +kernel) (by decide +kernel)
set_option maxRecDepth 20000 in
theorem gX2_keepFirstAnswer_X3_at_n41 : GoodIn wsX2_keepFirstAnswer (wsX3_at) := ggX2_keepFirstAnswer_X3_at
set_option maxRecDepth 20000 in
theorem ggX2_keepFirstAnswer_X3_put : GoodIn wsX2_keepFirstAnswer wsX3_put := goodIn_r _ [7] (by decide +kernel) (by decide +kernel)
set_option maxRecDepth 20000 in
theorem gX2_keepFirstAnswer_X3_put_n60 : GoodIn wsX2_keepFirstAnswer (wsX3_put) := ggX2_keepFirstAnswer_X3_put
theorem dX2_keepFirstAnswer_0 : decode cX2_keepFirstAnswer 0 = .ok (.iconst 0, 1) := by decide +kernel
theorem dX2_keepFirstAnswer_1 : decode cX2_keepFirstAnswer 1 = .ok (.istore_n 1, 1) := by decide +kernel
theorem dX2_keepFirstAnswer_2 : decode cX2_keepFirstAnswer 2 = .ok (.iload_n 1, 1) := by decide +kernel
theorem dX2_keepFirstAnswer_3 : decode cX2_keepFirstAnswer 3 = .ok (.bipush 16, 2) := by decide +kernel
theorem dX2_keepFirstAnswer_5 : decode cX2_keepFirstAnswer 5 = .ok (.if_icmp .ge 25, 3) := by decide +kernel
theorem dX2_keepFirstAnswer_8 : decode cX2_keepFirstAnswer 8 = .ok (.aload_n 0, 1) := by decide +kernel
theorem dX2_keepFirstAnswer_9 : decode cX2_keepFirstAnswer 9 = .ok (.getfield 21, 3) := by decide +kernel
theorem dX2_keepFirstAnswer_12 : decode cX2_keepFirstAnswer 12 = .ok (.iload_n 1, 1) := by decide +kernel
theorem dX2_keepFirstAnswer_13 : decode cX2_keepFirstAnswer 13 = .ok (.aload_n 0, 1) := by decide +kernel
theorem dX2_keepFirstAnswer_14 : decode cX2_keepFirstAnswer 14 = .ok (.getfield 18, 3) := by decide +kernel
theorem dX2_keepFirstAnswer_17 : decode cX2_keepFirstAnswer 17 = .ok (.iload_n 1, 1) := by decide +kernel
theorem dX2_keepFirstAnswer_18 : decode cX2_keepFirstAnswer 18 = .ok (.invokestatic 41, 3) := by decide +kernel
theorem dX2_keepFirstAnswer_21 : decode cX2_keepFirstAnswer 21 = .ok (.invokestatic 60, 3) := by decide +kernel
theorem dX2_keepFirstAnswer_24 : decode cX2_keepFirstAnswer 24 = .ok (.iinc 1 1, 3) := by decide +kernel
theorem dX2_keepFirstAnswer_27 : decode cX2_keepFirstAnswer 27 = .ok (.goto (-25), 3) := by decide +kernel
theorem dX2_keepFirstAnswer_30 : decode cX2_keepFirstAnswer 30 = .ok (.return_, 1) := by decide +kernel
set_option maxRecDepth 20000 in
theorem ggX2_fillBy_X3_at : GoodIn wsX2_fillBy wsX3_at := goodIn_r _ [6] (by decide +kernel) (by decide +kernel)
set_option maxRecDepth 20000 in
theorem gX2_fillBy_X3_at_n41 : GoodIn wsX2_fillBy (wsX3_at) := ggX2_fillBy_X3_at
set_option maxRecDepth 20000 in
theorem ggX2_fillBy_X3_put : GoodIn wsX2_fillBy wsX3_put := goodIn_r _ [8] (by decide +kernel) (by decide +kernel)
set_option maxRecDepth 20000 in
theorem gX2_fillBy_X3_put_n60 : GoodIn wsX2_fillBy (wsX3_put) := ggX2_fillBy_X3_put
theorem dX2_fillBy_0 : decode cX2_fillBy 0 = .ok (.iload_n 1, 1) := by decide +kernel
theorem dX2_fillBy_1 : decode cX2_fillBy 1 = .ok (.istore_n 2, 1) := by decide +kernel
theorem dX2_fillBy_2 : decode cX2_fillBy 2 = .ok (.iconst 0, 1) := by decide +kernel
theorem dX2_fillBy_3 : decode cX2_fillBy 3 = .ok (.istore_n 3, 1) := by decide +kernel
theorem dX2_fillBy_4 : decode cX2_fillBy 4 = .ok (.iload_n 3, 1) := by decide +kernel
theorem dX2_fillBy_5 : decode cX2_fillBy 5 = .ok (.aload_n 0, 1) := by decide +kernel
theorem dX2_fillBy_6 : decode cX2_fillBy 6 = .ok (.getfield 31, 3) := by decide +kernel
theorem dX2_fillBy_9 : decode cX2_fillBy 9 = .ok (.if_icmp .ge 35, 3) := by decide +kernel
theorem dX2_fillBy_12 : decode cX2_fillBy 12 = .ok (.aload_n 0, 1) := by decide +kernel
theorem dX2_fillBy_13 : decode cX2_fillBy 13 = .ok (.getfield 18, 3) := by decide +kernel
theorem dX2_fillBy_16 : decode cX2_fillBy 16 = .ok (.aload_n 0, 1) := by decide +kernel
theorem dX2_fillBy_17 : decode cX2_fillBy 17 = .ok (.getfield 9, 3) := by decide +kernel
theorem dX2_fillBy_20 : decode cX2_fillBy 20 = .ok (.iload_n 3, 1) := by decide +kernel
theorem dX2_fillBy_21 : decode cX2_fillBy 21 = .ok (.invokestatic 41, 3) := by decide +kernel
theorem dX2_fillBy_24 : decode cX2_fillBy 24 = .ok (.iload_n 2, 1) := by decide +kernel
theorem dX2_fillBy_25 : decode cX2_fillBy 25 = .ok (.bipush 9, 2) := by decide +kernel
theorem dX2_fillBy_27 : decode cX2_fillBy 27 = .ok (.irem, 1) := by decide +kernel
theorem dX2_fillBy_28 : decode cX2_fillBy 28 = .ok (.iconst 1, 1) := by decide +kernel
theorem dX2_fillBy_29 : decode cX2_fillBy 29 = .ok (.iadd, 1) := by decide +kernel
theorem dX2_fillBy_30 : decode cX2_fillBy 30 = .ok (.invokestatic 60, 3) := by decide +kernel
theorem dX2_fillBy_33 : decode cX2_fillBy 33 = .ok (.iload_n 2, 1) := by decide +kernel
theorem dX2_fillBy_34 : decode cX2_fillBy 34 = .ok (.bipush 9, 2) := by decide +kernel
theorem dX2_fillBy_36 : decode cX2_fillBy 36 = .ok (.idiv, 1) := by decide +kernel
theorem dX2_fillBy_37 : decode cX2_fillBy 37 = .ok (.istore_n 2, 1) := by decide +kernel
theorem dX2_fillBy_38 : decode cX2_fillBy 38 = .ok (.iinc 3 1, 3) := by decide +kernel
theorem dX2_fillBy_41 : decode cX2_fillBy 41 = .ok (.goto (-37), 3) := by decide +kernel
theorem dX2_fillBy_44 : decode cX2_fillBy 44 = .ok (.return_, 1) := by decide +kernel
set_option maxRecDepth 20000 in
theorem ggX3_init_X0_init : GoodIn wsX3_init wsX0_init := goodIn_r _ [17, 18, 2, 3, 19, 20, 21, 22, 23, 24, 25, 26, 78, 79, 80, 81, 82, 83, 84, 85, 86] (by decide +kernel) (by decide +kernel)
set_option maxRecDepth 20000 in
theorem gX3_init_X0_init_n11 : GoodIn wsX3_init (wsX0_init) := ggX3_init_X0_init
set_option maxRecDepth 20000 in
theorem ggX3_init_X2_init : GoodIn wsX3_init wsX2_init := goodIn_r _ [29, 30, 2, 3, 19, 31, 32, 33, 34, 35, 90, 91, 92, 93, 94, 95] (by decide +kernel) (by decide +kernel)
set_option maxRecDepth 20000 in
theorem gX3_init_X2_init : GoodIn wsX3_init (wsX2_init) := ggX3_init_X2_init
set_option maxRecDepth 20000 in
theorem ggX3_init_X1_init : GoodIn wsX3_init wsX1_init := goodIn_r _ [38, 39, 2, 3, 19, 40, 41, 42, 96, 97, 98, 99, 100] (by decide +kernel) (by decide +kernel)
set_option maxRecDepth 20000 in
theorem gX3_init_X1_init : GoodIn wsX3_init (wsX1_init) := ggX3_init_X1_init
set_option maxRecDepth 20000 in
theorem ggX3_init_X0_clear : GoodIn wsX3_init wsX0_clear := goodIn_r _ [46, 47, 20, 48, 49, 50, 51, 52, 53, 54, 6, 55, 56, 24, 25, 26, 57, 58, 59, 60, 61, 62, 63, 64, 65, 66, 67, 68, 69, 70, 71, 72, 73, 74, 75, 21, 22, 23, 76, 77, 78, 79, 80, 81, 82, 83, 84, 85, 86] (by decide +kernel) (by decide +kernel)
set_option maxRecDepth 20000 in
theorem gX3_init_X0_clear : GoodIn wsX3_init (wsV RX3 32 RX0 yX0_clear wsX0_clear) := goodIn_app (goodIn_of _ (by decide +kernel)) ggX3_init_X0_clear
theorem dX3_init_0 : decode cX3_init 0 = .ok (.aload_n 0, 1) := by decide +kernel
theorem dX3_init_1 : decode cX3_init 1 = .ok (.invokespecial 3, 3) := by decide +kernel
theorem dX3_init_4 : decode cX3_init 4 = .ok (.aload_n 0, 1) := by decide +kernel
theorem dX3_init_5 : decode cX3_init 5 = .ok (.new 9, 3) := by decide +kernel
theorem dX3_init_8 : decode cX3_init 8 = .ok (.dup, 1) := by decide +kernel
theorem dX3_init_9 : decode cX3_init 9 = .ok (.invokespecial 11, 3) := by decide +kernel
theorem dX3_init_12 : decode cX3_init 12 = .ok (.putfield 12, 3) := by decide +kernel
theorem dX3_init_15 : decode cX3_init 15 = .ok (.aload_n 0, 1) := by decide +kernel
theorem dX3_init_16 : decode cX3_init 16 = .ok (.new 16, 3) := by decide +kernel
theorem dX3_init_19 : decode cX3_init 19 = .ok (.dup, 1) := by decide +kernel
theorem dX3_init_20 : decode cX3_init 20 = .ok (.aload_n 0, 1) := by decide +kernel
theorem dX3_init_21 : decode cX3_init 21 = .ok (.getfield 12, 3) := by decide +kernel
theorem dX3_init_24 : decode cX3_init 24 = .ok (.invokespecial 18, 3) := by decide +kernel
theorem dX3_init_27 : decode cX3_init 27 = .ok (.putfield 21, 3) := by decide +kernel
theorem dX3_init_30 : decode cX3_init 30 = .ok (.aload_n 0, 1) := by decide +kernel
theorem dX3_init_31 : decode cX3_init 31 = .ok (.new 25, 3) := by decide +kernel
theorem dX3_init_34 : decode cX3_init 34 = .ok (.dup, 1) := by decide +kernel
theorem dX3_init_35 : decode cX3_init 35 = .ok (.aload_n 0, 1) := by decide +kernel
theorem dX3_init_36 : decode cX3_init 36 = .ok (.getfield 12, 3) := by decide +kernel
theorem dX3_init_39 : decode cX3_init 39 = .ok (.invokespecial 27, 3) := by decide +kernel
theorem dX3_init_42 : decode cX3_init 42 = .ok (.putfield 28, 3) := by decide +kernel
theorem dX3_init_45 : decode cX3_init 45 = .ok (.aload_n 0, 1) := by decide +kernel
theorem dX3_init_46 : decode cX3_init 46 = .ok (.getfield 12, 3) := by decide +kernel
theorem dX3_init_49 : decode cX3_init 49 = .ok (.iconst 3, 1) := by decide +kernel
theorem dX3_init_50 : decode cX3_init 50 = .ok (.invokevirtual 32, 3) := by decide +kernel
theorem dX3_init_53 : decode cX3_init 53 = .ok (.return_, 1) := by decide +kernel
set_option maxRecDepth 20000 in
theorem ggX3_begin_X0_clear : GoodIn wsX3_begin wsX0_clear := goodIn_r _ [8, 9, 10, 11, 12, 13, 14, 15, 16, 17, 7, 18, 19, 20, 21, 22, 23, 24, 25, 26, 27, 28, 29, 30, 31, 32, 33, 34, 35, 36, 37, 38, 39, 40, 41, 42, 43, 44, 45, 46, 50, 51, 52, 53, 54, 55, 56, 57, 58] (by decide +kernel) (by decide +kernel)
set_option maxRecDepth 20000 in
theorem gX3_begin_X0_clear : GoodIn wsX3_begin (wsV RX3 32 RX0 yX0_clear wsX0_clear) := goodIn_app (goodIn_of _ (by decide +kernel)) ggX3_begin_X0_clear
theorem dX3_begin_0 : decode cX3_begin 0 = .ok (.iload_n 1, 1) := by decide +kernel
theorem dX3_begin_1 : decode cX3_begin 1 = .ok (.iconst 2, 1) := by decide +kernel
theorem dX3_begin_2 : decode cX3_begin 2 = .ok (.if_icmp .lt 8, 3) := by decide +kernel
theorem dX3_begin_5 : decode cX3_begin 5 = .ok (.iload_n 1, 1) := by decide +kernel
theorem dX3_begin_6 : decode cX3_begin 6 = .ok (.iconst 4, 1) := by decide +kernel
theorem dX3_begin_7 : decode cX3_begin 7 = .ok (.if_icmp .le 13, 3) := by decide +kernel
theorem dX3_begin_10 : decode cX3_begin 10 = .ok (.new 36, 3) := by decide +kernel
theorem dX3_begin_13 : decode cX3_begin 13 = .ok (.dup, 1) := by decide +kernel
theorem dX3_begin_14 : decode cX3_begin 14 = .ok (.ldc 38, 2) := by decide +kernel
theorem dX3_begin_16 : decode cX3_begin 16 = .ok (.invokespecial 40, 3) := by decide +kernel
theorem dX3_begin_19 : decode cX3_begin 19 = .ok (.athrow, 1) := by decide +kernel
theorem dX3_begin_20 : decode cX3_begin 20 = .ok (.aload_n 0, 1) := by decide +kernel
theorem dX3_begin_21 : decode cX3_begin 21 = .ok (.getfield 12, 3) := by decide +kernel
theorem dX3_begin_24 : decode cX3_begin 24 = .ok (.iload_n 1, 1) := by decide +kernel
theorem dX3_begin_25 : decode cX3_begin 25 = .ok (.invokevirtual 32, 3) := by decide +kernel
theorem dX3_begin_28 : decode cX3_begin 28 = .ok (.return_, 1) := by decide +kernel
set_option maxRecDepth 20000 in
theorem ggX3_bar_X3_needCell : GoodIn wsX3_bar wsX3_needCell := goodIn_ca (goodIn_r _ [6, 7, 8, 1, 9, 10, 11, 12, 13, 14, 53, 54, 55, 56, 57, 58, 59, 60, 61, 62, 63, 64] (by decide +kernel) (by decide +kernel)) (goodIn_sub (fun _ h => List.mem_cons_of_mem _ (List.mem_append_right _ h)) (by decide +kernel))
set_option maxRecDepth 20000 in
theorem gX3_bar_X3_needCell : GoodIn wsX3_bar (wsV RX3 43 RX3 yX3_needCell wsX3_needCell) := goodIn_app (goodIn_of _ (by decide +kernel)) ggX3_bar_X3_needCell
set_option maxRecDepth 20000 in
theorem ggX3_bar_X0_turn : GoodIn wsX3_bar wsX0_turn := goodIn_r _ [18, 19, 20, 21, 22, 12, 23, 24, 10, 11, 13, 14, 25, 5, 26, 27, 28, 29, 30, 31, 32, 33, 34, 35, 36, 37, 38, 39, 40, 41, 42, 43, 44, 45, 46, 47, 48, 49, 50, 51, 56, 57, 58, 59, 60, 61, 62, 63, 64] (by decide +kernel) (by decide +kernel)
set_option maxRecDepth 20000 in
theorem gX3_bar_X0_turn : GoodIn wsX3_bar (wsV RX3 46 RX0 yX0_turn wsX0_turn) := goodIn_app (goodIn_of _ (by decide +kernel)) ggX3_bar_X0_turn
set_option maxRecDepth 20000 in
theorem ggX3_bar_X0_isOpen : GoodIn wsX3_bar wsX0_isOpen := goodIn_r _ [23, 19, 24, 10, 11, 12, 13, 14, 25, 5, 26, 56, 57, 58, 59, 60, 61, 62, 63, 64] (by decide +kernel) (by decide +kernel)
set_option maxRecDepth 20000 in
theorem gX3_bar_X0_isOpen : GoodIn wsX3_bar (wsV RX3 49 RX0 yX0_isOpen wsX0_isOpen) := goodIn_app (goodIn_of _ (by decide +kernel)) ggX3_bar_X0_isOpen
theorem dX3_bar_0 : decode cX3_bar 0 = .ok (.aload_n 0, 1) := by decide +kernel
theorem dX3_bar_1 : decode cX3_bar 1 = .ok (.iload_n 1, 1) := by decide +kernel
theorem dX3_bar_2 : decode cX3_bar 2 = .ok (.invokevirtual 43, 3) := by decide +kernel
theorem dX3_bar_5 : decode cX3_bar 5 = .ok (.aload_n 0, 1) := by decide +kernel
theorem dX3_bar_6 : decode cX3_bar 6 = .ok (.getfield 12, 3) := by decide +kernel
theorem dX3_bar_9 : decode cX3_bar 9 = .ok (.iload_n 1, 1) := by decide +kernel
theorem dX3_bar_10 : decode cX3_bar 10 = .ok (.invokevirtual 46, 3) := by decide +kernel
theorem dX3_bar_13 : decode cX3_bar 13 = .ok (.aload_n 0, 1) := by decide +kernel
theorem dX3_bar_14 : decode cX3_bar 14 = .ok (.getfield 12, 3) := by decide +kernel
theorem dX3_bar_17 : decode cX3_bar 17 = .ok (.iload_n 1, 1) := by decide +kernel
theorem dX3_bar_18 : decode cX3_bar 18 = .ok (.invokevirtual 49, 3) := by decide +kernel
theorem dX3_bar_21 : decode cX3_bar 21 = .ok (.ifCond .ne 7, 3) := by decide +kernel
theorem dX3_bar_24 : decode cX3_bar 24 = .ok (.iconst 1, 1) := by decide +kernel
theorem dX3_bar_25 : decode cX3_bar 25 = .ok (.goto 4, 3) := by decide +kernel
theorem dX3_bar_28 : decode cX3_bar 28 = .ok (.iconst 0, 1) := by decide +kernel
theorem dX3_bar_29 : decode cX3_bar 29 = .ok (.ireturn, 1) := by decide +kernel
set_option maxRecDepth 20000 in
theorem ggX3_barBoth_X3_needCell : GoodIn wsX3_barBoth wsX3_needCell := goodIn_ca (goodIn_r _ [6, 7, 8, 1, 9, 10, 11, 12, 13, 14, 64, 65, 66, 67, 68, 69, 70, 71, 72, 73, 74, 75] (by decide +kernel) (by decide +kernel)) (goodIn_sub (fun _ h => List.mem_cons_of_mem _ (List.mem_append_right _ h)) (by decide +kernel))
set_option maxRecDepth 20000 in
theorem gX3_barBoth_X3_needCell : GoodIn wsX3_barBoth (wsV RX3 43 RX3 yX3_needCell wsX3_needCell) := goodIn_app (goodIn_of _ (by decide +kernel)) ggX3_barBoth_X3_needCell
set_option maxRecDepth 20000 in
theorem ggX3_barBoth_X0_oppositeOf : GoodIn wsX3_barBoth wsX0_oppositeOf := goodIn_r _ [18, 14, 67, 68, 69, 70, 71, 72, 73, 74, 75] (by decide +kernel) (by decide +kernel)
set_option maxRecDepth 20000 in
theorem gX3_barBoth_X0_oppositeOf : GoodIn wsX3_barBoth (wsV RX3 53 RX0 yX0_oppositeOf wsX0_oppositeOf) := goodIn_app (goodIn_of _ (by decide +kernel)) ggX3_barBoth_X0_oppositeOf
set_option maxRecDepth 20000 in
theorem ggX3_barBoth_X0_turn : GoodIn wsX3_barBoth wsX0_turn := goodIn_r _ [22, 23, 24, 25, 26, 12, 27, 28, 10, 11, 13, 14, 29, 5, 30, 31, 32, 33, 34, 35, 36, 37, 38, 39, 40, 41, 42, 43, 44, 45, 46, 47, 48, 49, 50, 51, 52, 53, 54, 55, 67, 68, 69, 70, 71, 72, 73, 74, 75] (by decide +kernel) (by decide +kernel)
set_option maxRecDepth 20000 in
theorem gX3_barBoth_X0_turn : GoodIn wsX3_barBoth (wsV RX3 46 RX0 yX0_turn wsX0_turn) := goodIn_app (goodIn_of _ (by decide +kernel)) ggX3_barBoth_X0_turn
set_option maxRecDepth 20000 in
theorem ggX3_barBoth_X0_countBarred : GoodIn wsX3_barBoth wsX0_countBarred := goodIn_r _ [59, 14, 60, 61, 62, 12, 63, 24, 25, 26, 27, 23, 28, 10, 11, 13, 29, 5, 30, 67, 68, 69, 70, 71, 72, 73, 74, 75] (by decide +kernel) (by decide +kernel)
set_option maxRecDepth 20000 in
theorem gX3_barBoth_X0_countBarred : GoodIn wsX3_barBoth (wsV RX3 57 RX0 yX0_countBarred wsX0_countBarred) := goodIn_app (goodIn_of _ (by decide +kernel)) ggX3_barBoth_X0_countBarred
theorem dX3_barBoth_0 : decode cX3_barBoth 0 = .ok (.aload_n 0, 1) := by decide +kernel
theorem dX3_barBoth_1 : decode cX3_barBoth 1 = .ok (.iload_n 1, 1) := by decide +kernel
theorem dX3_barBoth_2 : decode cX3_barBoth 2 = .ok (.invokevirtual 43, 3) := by decide +kernel
theorem dX3_barBoth_5 : decode cX3_barBoth 5 = .ok (.aload_n 0, 1) := by decide +kernel
theorem dX3_barBoth_6 : decode cX3_barBoth 6 = .ok (.getfield 12, 3) := by decide +kernel
theorem dX3_barBoth_9 : decode cX3_barBoth 9 = .ok (.iload_n 1, 1) := by decide +kernel
theorem dX3_barBoth_10 : decode cX3_barBoth 10 = .ok (.invokevirtual 53, 3) := by decide +kernel
theorem dX3_barBoth_13 : decode cX3_barBoth 13 = .ok (.istore_n 2, 1) := by decide +kernel
theorem dX3_barBoth_14 : decode cX3_barBoth 14 = .ok (.aload_n 0, 1) := by decide +kernel
theorem dX3_barBoth_15 : decode cX3_barBoth 15 = .ok (.getfield 12, 3) := by decide +kernel
theorem dX3_barBoth_18 : decode cX3_barBoth 18 = .ok (.iload_n 1, 1) := by decide +kernel
theorem dX3_barBoth_19 : decode cX3_barBoth 19 = .ok (.invokevirtual 46, 3) := by decide +kernel
theorem dX3_barBoth_22 : decode cX3_barBoth 22 = .ok (.iload_n 2, 1) := by decide +kernel
theorem dX3_barBoth_23 : decode cX3_barBoth 23 = .ok (.iload_n 1, 1) := by decide +kernel
theorem dX3_barBoth_24 : decode cX3_barBoth 24 = .ok (.if_icmp .eq 11, 3) := by decide +kernel
theorem dX3_barBoth_27 : decode cX3_barBoth 27 = .ok (.aload_n 0, 1) := by decide +kernel
theorem dX3_barBoth_28 : decode cX3_barBoth 28 = .ok (.getfield 12, 3) := by decide +kernel
theorem dX3_barBoth_31 : decode cX3_barBoth 31 = .ok (.iload_n 2, 1) := by decide +kernel
theorem dX3_barBoth_32 : decode cX3_barBoth 32 = .ok (.invokevirtual 46, 3) := by decide +kernel
theorem dX3_barBoth_35 : decode cX3_barBoth 35 = .ok (.aload_n 0, 1) := by decide +kernel
theorem dX3_barBoth_36 : decode cX3_barBoth 36 = .ok (.getfield 12, 3) := by decide +kernel
theorem dX3_barBoth_39 : decode cX3_barBoth 39 = .ok (.invokevirtual 57, 3) := by decide +kernel
theorem dX3_barBoth_42 : decode cX3_barBoth 42 = .ok (.ireturn, 1) := by decide +kernel
set_option maxRecDepth 20000 in
theorem ggX3_give_X3_needCell : GoodIn wsX3_give wsX3_needCell := goodIn_ca (goodIn_r _ [10, 11, 12, 5, 13, 14, 15, 16, 17, 18, 37, 38, 39, 40, 41, 42, 43, 44, 45, 46, 47, 48] (by decide +kernel) (by decide +kernel)) (goodIn_sub (fun _ h => List.mem_cons_of_mem _ (List.mem_append_right _ h)) (by decide +kernel))
set_option maxRecDepth 20000 in
theorem gX3_give_X3_needCell : GoodIn wsX3_give (wsV RX3 43 RX3 yX3_needCell wsX3_needCell) := goodIn_app (goodIn_of _ (by decide +kernel)) ggX3_give_X3_needCell
set_option maxRecDepth 20000 in
theorem ggX3_give_X0_isOpen : GoodIn wsX3_give wsX0_isOpen := goodIn_r _ [22, 23, 24, 14, 15, 16, 17, 18, 25, 9, 26, 40, 41, 42, 43, 44, 45, 46, 47, 48] (by decide +kernel) (by decide +kernel)
set_option maxRecDepth 20000 in
theorem gX3_give_X0_isOpen : GoodIn wsX3_give (wsV RX3 49 RX0 yX0_isOpen wsX0_isOpen) := goodIn_app (goodIn_of _ (by decide +kernel)) ggX3_give_X0_isOpen
set_option maxRecDepth 20000 in
theorem ggX3_give_X0_givenAt : GoodIn wsX3_give wsX0_givenAt := goodIn_r _ [30, 23, 25, 9, 26, 40, 41, 42, 43, 44, 45, 46, 47, 48] (by decide +kernel) (by decide +kernel)
set_option maxRecDepth 20000 in
theorem gX3_give_X0_givenAt : GoodIn wsX3_give (wsV RX3 68 RX0 yX0_givenAt wsX0_givenAt) := goodIn_app (goodIn_of _ (by decide +kernel)) ggX3_give_X0_givenAt
set_option maxRecDepth 20000 in
theorem ggX3_give_X0_putGiven : GoodIn wsX3_give wsX0_putGiven := goodIn_r _ [34, 23, 35, 9, 36, 40, 41, 42, 43, 44, 45, 46, 47, 48] (by decide +kernel) (by decide +kernel)
set_option maxRecDepth 20000 in
theorem gX3_give_X0_putGiven : GoodIn wsX3_give (wsV RX3 71 RX0 yX0_putGiven wsX0_putGiven) := goodIn_app (goodIn_of _ (by decide +kernel)) ggX3_give_X0_putGiven
theorem dX3_give_0 : decode cX3_give 0 = .ok (.aload_n 0, 1) := by decide +kernel
theorem dX3_give_1 : decode cX3_give 1 = .ok (.iload_n 1, 1) := by decide +kernel
theorem dX3_give_2 : decode cX3_give 2 = .ok (.invokevirtual 43, 3) := by decide +kernel
theorem dX3_give_5 : decode cX3_give 5 = .ok (.iload_n 2, 1) := by decide +kernel
theorem dX3_give_6 : decode cX3_give 6 = .ok (.ifCond .lt 9, 3) := by decide +kernel
theorem dX3_give_9 : decode cX3_give 9 = .ok (.iload_n 2, 1) := by decide +kernel
theorem dX3_give_10 : decode cX3_give 10 = .ok (.bipush 9, 2) := by decide +kernel
theorem dX3_give_12 : decode cX3_give 12 = .ok (.if_icmp .le 13, 3) := by decide +kernel
theorem dX3_give_15 : decode cX3_give 15 = .ok (.new 36, 3) := by decide +kernel
theorem dX3_give_18 : decode cX3_give 18 = .ok (.dup, 1) := by decide +kernel
theorem dX3_give_19 : decode cX3_give 19 = .ok (.ldc 61, 2) := by decide +kernel
theorem dX3_give_21 : decode cX3_give 21 = .ok (.invokespecial 40, 3) := by decide +kernel
theorem dX3_give_24 : decode cX3_give 24 = .ok (.athrow, 1) := by decide +kernel
theorem dX3_give_25 : decode cX3_give 25 = .ok (.aload_n 0, 1) := by decide +kernel
theorem dX3_give_26 : decode cX3_give 26 = .ok (.getfield 12, 3) := by decide +kernel
theorem dX3_give_29 : decode cX3_give 29 = .ok (.iload_n 1, 1) := by decide +kernel
theorem dX3_give_30 : decode cX3_give 30 = .ok (.invokevirtual 49, 3) := by decide +kernel
theorem dX3_give_33 : decode cX3_give 33 = .ok (.ifCond .ne 13, 3) := by decide +kernel
theorem dX3_give_36 : decode cX3_give 36 = .ok (.new 63, 3) := by decide +kernel
theorem dX3_give_39 : decode cX3_give 39 = .ok (.dup, 1) := by decide +kernel
theorem dX3_give_40 : decode cX3_give 40 = .ok (.ldc 65, 2) := by decide +kernel
theorem dX3_give_42 : decode cX3_give 42 = .ok (.invokespecial 67, 3) := by decide +kernel
theorem dX3_give_45 : decode cX3_give 45 = .ok (.athrow, 1) := by decide +kernel
theorem dX3_give_46 : decode cX3_give 46 = .ok (.aload_n 0, 1) := by decide +kernel
theorem dX3_give_47 : decode cX3_give 47 = .ok (.getfield 12, 3) := by decide +kernel
theorem dX3_give_50 : decode cX3_give 50 = .ok (.iload_n 1, 1) := by decide +kernel
theorem dX3_give_51 : decode cX3_give 51 = .ok (.invokevirtual 68, 3) := by decide +kernel
theorem dX3_give_54 : decode cX3_give 54 = .ok (.istore_n 3, 1) := by decide +kernel
theorem dX3_give_55 : decode cX3_give 55 = .ok (.aload_n 0, 1) := by decide +kernel
theorem dX3_give_56 : decode cX3_give 56 = .ok (.getfield 12, 3) := by decide +kernel
theorem dX3_give_59 : decode cX3_give 59 = .ok (.iload_n 1, 1) := by decide +kernel
theorem dX3_give_60 : decode cX3_give 60 = .ok (.iload_n 2, 1) := by decide +kernel
theorem dX3_give_61 : decode cX3_give 61 = .ok (.invokevirtual 71, 3) := by decide +kernel
theorem dX3_give_64 : decode cX3_give 64 = .ok (.iload_n 3, 1) := by decide +kernel
theorem dX3_give_65 : decode cX3_give 65 = .ok (.ireturn, 1) := by decide +kernel
set_option maxRecDepth 20000 in
theorem ggX3_setSum_X3_needRun : GoodIn wsX3_setSum wsX3_needRun := goodIn_ca (goodIn_r _ [8, 9, 10, 3, 11, 12, 13, 14, 15, 16, 30, 31, 32, 33, 34, 35, 36, 37, 38, 39, 40, 41] (by decide +kernel) (by decide +kernel)) (goodIn_sub (fun _ h => List.mem_cons_of_mem _ (List.mem_append_right _ h)) (by decide +kernel))
set_option maxRecDepth 20000 in
theorem gX3_setSum_X3_needRun : GoodIn wsX3_setSum (wsV RX3 75 RX3 yX3_needRun wsX3_needRun) := goodIn_app (goodIn_of _ (by decide +kernel)) ggX3_setSum_X3_needRun
set_option maxRecDepth 20000 in
theorem ggX3_setSum_X0_sumAt : GoodIn wsX3_setSum wsX0_sumAt := goodIn_r _ [20, 21, 22, 7, 23, 33, 34, 35, 36, 37, 38, 39, 40, 41] (by decide +kernel) (by decide +kernel)
set_option maxRecDepth 20000 in
theorem gX3_setSum_X0_sumAt : GoodIn wsX3_setSum (wsV RX3 80 RX0 yX0_sumAt wsX0_sumAt) := goodIn_app (goodIn_of _ (by decide +kernel)) ggX3_setSum_X0_sumAt
set_option maxRecDepth 20000 in
theorem ggX3_setSum_X0_putSum : GoodIn wsX3_setSum wsX0_putSum := goodIn_r _ [27, 21, 28, 7, 29, 33, 34, 35, 36, 37, 38, 39, 40, 41] (by decide +kernel) (by decide +kernel)
set_option maxRecDepth 20000 in
theorem gX3_setSum_X0_putSum : GoodIn wsX3_setSum (wsV RX3 83 RX0 yX0_putSum wsX0_putSum) := goodIn_app (goodIn_of _ (by decide +kernel)) ggX3_setSum_X0_putSum
theorem dX3_setSum_0 : decode cX3_setSum 0 = .ok (.aload_n 0, 1) := by decide +kernel
theorem dX3_setSum_1 : decode cX3_setSum 1 = .ok (.iload_n 1, 1) := by decide +kernel
theorem dX3_setSum_2 : decode cX3_setSum 2 = .ok (.invokevirtual 75, 3) := by decide +kernel
theorem dX3_setSum_5 : decode cX3_setSum 5 = .ok (.iload_n 2, 1) := by decide +kernel
theorem dX3_setSum_6 : decode cX3_setSum 6 = .ok (.ifCond .lt 9, 3) := by decide +kernel
theorem dX3_setSum_9 : decode cX3_setSum 9 = .ok (.iload_n 2, 1) := by decide +kernel
theorem dX3_setSum_10 : decode cX3_setSum 10 = .ok (.bipush 45, 2) := by decide +kernel
theorem dX3_setSum_12 : decode cX3_setSum 12 = .ok (.if_icmp .le 13, 3) := by decide +kernel
theorem dX3_setSum_15 : decode cX3_setSum 15 = .ok (.new 36, 3) := by decide +kernel
theorem dX3_setSum_18 : decode cX3_setSum 18 = .ok (.dup, 1) := by decide +kernel
theorem dX3_setSum_19 : decode cX3_setSum 19 = .ok (.ldc 78, 2) := by decide +kernel
theorem dX3_setSum_21 : decode cX3_setSum 21 = .ok (.invokespecial 40, 3) := by decide +kernel
theorem dX3_setSum_24 : decode cX3_setSum 24 = .ok (.athrow, 1) := by decide +kernel
theorem dX3_setSum_25 : decode cX3_setSum 25 = .ok (.aload_n 0, 1) := by decide +kernel
theorem dX3_setSum_26 : decode cX3_setSum 26 = .ok (.getfield 12, 3) := by decide +kernel
theorem dX3_setSum_29 : decode cX3_setSum 29 = .ok (.iload_n 1, 1) := by decide +kernel
theorem dX3_setSum_30 : decode cX3_setSum 30 = .ok (.invokevirtual 80, 3) := by decide +kernel
theorem dX3_setSum_33 : decode cX3_setSum 33 = .ok (.istore_n 3, 1) := by decide +kernel
theorem dX3_setSum_34 : decode cX3_setSum 34 = .ok (.aload_n 0, 1) := by decide +kernel
theorem dX3_setSum_35 : decode cX3_setSum 35 = .ok (.getfield 12, 3) := by decide +kernel
theorem dX3_setSum_38 : decode cX3_setSum 38 = .ok (.iload_n 1, 1) := by decide +kernel
theorem dX3_setSum_39 : decode cX3_setSum 39 = .ok (.iload_n 2, 1) := by decide +kernel
theorem dX3_setSum_40 : decode cX3_setSum 40 = .ok (.invokevirtual 83, 3) := by decide +kernel
theorem dX3_setSum_43 : decode cX3_setSum 43 = .ok (.iload_n 3, 1) := by decide +kernel
theorem dX3_setSum_44 : decode cX3_setSum 44 = .ok (.ireturn, 1) := by decide +kernel
set_option maxRecDepth 20000 in
theorem ggX3_press_X0_isFilled : GoodIn wsX3_press wsX0_isFilled := goodIn_r _ [8, 9, 10, 11, 7, 12, 13, 14, 15, 16, 17, 18, 19, 20, 21, 22, 23, 24, 25, 68, 69, 70, 71, 72, 73, 74, 75, 76] (by decide +kernel) (by decide +kernel)
set_option maxRecDepth 20000 in
theorem gX3_press_X0_isFilled : GoodIn wsX3_press (wsV RX3 86 RX0 yX0_isFilled wsX0_isFilled) := goodIn_app (goodIn_of _ (by decide +kernel)) ggX3_press_X0_isFilled
set_option maxRecDepth 20000 in
theorem ggX3_press_X0_givesTwice : GoodIn wsX3_press wsX0_givesTwice := goodIn_r _ [29, 30, 17, 31, 32, 33, 7, 34, 35, 36, 37, 38, 39, 23, 24, 25, 40, 41, 42, 43, 44, 45, 68, 69, 70, 71, 72, 73, 74, 75, 76] (by decide +kernel) (by decide +kernel)
set_option maxRecDepth 20000 in
theorem gX3_press_X0_givesTwice : GoodIn wsX3_press (wsV RX3 92 RX0 yX0_givesTwice wsX0_givesTwice) := goodIn_app (goodIn_of _ (by decide +kernel)) ggX3_press_X0_givesTwice
set_option maxRecDepth 20000 in
theorem ggX3_press_X0_sumAndEmpty : GoodIn wsX3_press wsX0_sumAndEmpty := goodIn_r _ [49, 30, 50, 17, 51, 52, 53, 7, 54, 35, 36, 37, 38, 39, 23, 24, 25, 40, 41, 42, 43, 44, 45, 55, 56, 57, 58, 59, 60, 18, 19, 20, 21, 22, 68, 69, 70, 71, 72, 73, 74, 75, 76] (by decide +kernel) (by decide +kernel)
set_option maxRecDepth 20000 in
theorem gX3_press_X0_sumAndEmpty : GoodIn wsX3_press (wsV RX3 97 RX0 yX0_sumAndEmpty wsX0_sumAndEmpty) := goodIn_app (goodIn_of _ (by decide +kernel)) ggX3_press_X0_sumAndEmpty
set_option maxRecDepth 20000 in
theorem ggX3_press_X0_countRuns : GoodIn wsX3_press wsX0_countRuns := goodIn_r _ [64, 30, 68, 69, 70, 71, 72, 73, 74, 75, 76] (by decide +kernel) (by decide +kernel)
set_option maxRecDepth 20000 in
theorem gX3_press_X0_countRuns : GoodIn wsX3_press (wsV RX3 100 RX0 yX0_countRuns wsX0_countRuns) := goodIn_app (goodIn_of _ (by decide +kernel)) ggX3_press_X0_countRuns
theorem dX3_press_0 : decode cX3_press 0 = .ok (.aload_n 0, 1) := by decide +kernel
theorem dX3_press_1 : decode cX3_press 1 = .ok (.getfield 12, 3) := by decide +kernel
theorem dX3_press_4 : decode cX3_press 4 = .ok (.invokevirtual 86, 3) := by decide +kernel
theorem dX3_press_7 : decode cX3_press 7 = .ok (.ifCond .ne 13, 3) := by decide +kernel
theorem dX3_press_10 : decode cX3_press 10 = .ok (.new 63, 3) := by decide +kernel
theorem dX3_press_13 : decode cX3_press 13 = .ok (.dup, 1) := by decide +kernel
theorem dX3_press_14 : decode cX3_press 14 = .ok (.ldc 90, 2) := by decide +kernel
theorem dX3_press_16 : decode cX3_press 16 = .ok (.invokespecial 67, 3) := by decide +kernel
theorem dX3_press_19 : decode cX3_press 19 = .ok (.athrow, 1) := by decide +kernel
theorem dX3_press_20 : decode cX3_press 20 = .ok (.aload_n 0, 1) := by decide +kernel
theorem dX3_press_21 : decode cX3_press 21 = .ok (.getfield 12, 3) := by decide +kernel
theorem dX3_press_24 : decode cX3_press 24 = .ok (.invokevirtual 92, 3) := by decide +kernel
theorem dX3_press_27 : decode cX3_press 27 = .ok (.ifCond .eq 13, 3) := by decide +kernel
theorem dX3_press_30 : decode cX3_press 30 = .ok (.new 63, 3) := by decide +kernel
theorem dX3_press_33 : decode cX3_press 33 = .ok (.dup, 1) := by decide +kernel
theorem dX3_press_34 : decode cX3_press 34 = .ok (.ldc 95, 2) := by decide +kernel
theorem dX3_press_36 : decode cX3_press 36 = .ok (.invokespecial 67, 3) := by decide +kernel
theorem dX3_press_39 : decode cX3_press 39 = .ok (.athrow, 1) := by decide +kernel
theorem dX3_press_40 : decode cX3_press 40 = .ok (.aload_n 0, 1) := by decide +kernel
theorem dX3_press_41 : decode cX3_press 41 = .ok (.getfield 12, 3) := by decide +kernel
theorem dX3_press_44 : decode cX3_press 44 = .ok (.invokevirtual 97, 3) := by decide +kernel
theorem dX3_press_47 : decode cX3_press 47 = .ok (.aload_n 0, 1) := by decide +kernel
theorem dX3_press_48 : decode cX3_press 48 = .ok (.getfield 12, 3) := by decide +kernel
theorem dX3_press_51 : decode cX3_press 51 = .ok (.invokevirtual 100, 3) := by decide +kernel
theorem dX3_press_54 : decode cX3_press 54 = .ok (.ireturn, 1) := by decide +kernel
set_option maxRecDepth 20000 in
theorem ggX3_open_X0_countOpen : GoodIn wsX3_open wsX0_countOpen := goodIn_r _ [6, 7, 8, 9, 5, 10, 11, 12, 13, 14, 15, 16, 17, 18, 19, 23, 24, 25, 26, 27, 28, 29, 30, 31] (by decide +kernel) (by decide +kernel)
set_option maxRecDepth 20000 in
theorem gX3_open_X0_countOpen : GoodIn wsX3_open (wsV RX3 103 RX0 yX0_countOpen wsX0_countOpen) := goodIn_app (goodIn_of _ (by decide +kernel)) ggX3_open_X0_countOpen
theorem dX3_open_0 : decode cX3_open 0 = .ok (.aload_n 0, 1) := by decide +kernel
theorem dX3_open_1 : decode cX3_open 1 = .ok (.getfield 12, 3) := by decide +kernel
theorem dX3_open_4 : decode cX3_open 4 = .ok (.invokevirtual 103, 3) := by decide +kernel
theorem dX3_open_7 : decode cX3_open 7 = .ok (.ireturn, 1) := by decide +kernel
set_option maxRecDepth 20000 in
theorem ggX3_runs_X0_countRuns : GoodIn wsX3_runs wsX0_countRuns := goodIn_r _ [6, 7, 11, 12, 13, 14, 15, 16, 17, 18, 19] (by decide +kernel) (by decide +kernel)
set_option maxRecDepth 20000 in
theorem gX3_runs_X0_countRuns : GoodIn wsX3_runs (wsV RX3 100 RX0 yX0_countRuns wsX0_countRuns) := goodIn_app (goodIn_of _ (by decide +kernel)) ggX3_runs_X0_countRuns
theorem dX3_runs_0 : decode cX3_runs 0 = .ok (.aload_n 0, 1) := by decide +kernel
theorem dX3_runs_1 : decode cX3_runs 1 = .ok (.getfield 12, 3) := by decide +kernel
theorem dX3_runs_4 : decode cX3_runs 4 = .ok (.invokevirtual 100, 3) := by decide +kernel
theorem dX3_runs_7 : decode cX3_runs 7 = .ok (.ireturn, 1) := by decide +kernel
set_option maxRecDepth 20000 in
theorem ggX3_firstOf_X3_needRun : GoodIn wsX3_firstOf wsX3_needRun := goodIn_ca (goodIn_r _ [6, 7, 8, 1, 9, 10, 11, 12, 13, 14, 22, 23, 24, 25, 26, 27, 28, 29, 30, 31, 32, 33] (by decide +kernel) (by decide +kernel)) (goodIn_sub (fun _ h => List.mem_cons_of_mem _ (List.mem_append_right _ h)) (by decide +kernel))
set_option maxRecDepth 20000 in
theorem gX3_firstOf_X3_needRun : GoodIn wsX3_firstOf (wsV RX3 75 RX3 yX3_needRun wsX3_needRun) := goodIn_app (goodIn_of _ (by decide +kernel)) ggX3_firstOf_X3_needRun
set_option maxRecDepth 20000 in
theorem ggX3_firstOf_X0_firstAt : GoodIn wsX3_firstOf wsX0_firstAt := goodIn_r _ [18, 19, 20, 5, 21, 25, 26, 27, 28, 29, 30, 31, 32, 33] (by decide +kernel) (by decide +kernel)
set_option maxRecDepth 20000 in
theorem gX3_firstOf_X0_firstAt : GoodIn wsX3_firstOf (wsV RX3 106 RX0 yX0_firstAt wsX0_firstAt) := goodIn_app (goodIn_of _ (by decide +kernel)) ggX3_firstOf_X0_firstAt
theorem dX3_firstOf_0 : decode cX3_firstOf 0 = .ok (.aload_n 0, 1) := by decide +kernel
theorem dX3_firstOf_1 : decode cX3_firstOf 1 = .ok (.iload_n 1, 1) := by decide +kernel
theorem dX3_firstOf_2 : decode cX3_firstOf 2 = .ok (.invokevirtual 75, 3) := by decide +kernel
theorem dX3_firstOf_5 : decode cX3_firstOf 5 = .ok (.aload_n 0, 1) := by decide +kernel
theorem dX3_firstOf_6 : decode cX3_firstOf 6 = .ok (.getfield 12, 3) := by decide +kernel
theorem dX3_firstOf_9 : decode cX3_firstOf 9 = .ok (.iload_n 1, 1) := by decide +kernel
theorem dX3_firstOf_10 : decode cX3_firstOf 10 = .ok (.invokevirtual 106, 3) := by decide +kernel
theorem dX3_firstOf_13 : decode cX3_firstOf 13 = .ok (.ireturn, 1) := by decide +kernel
set_option maxRecDepth 20000 in
theorem ggX3_lengthOf_X3_needRun : GoodIn wsX3_lengthOf wsX3_needRun := goodIn_ca (goodIn_r _ [6, 7, 8, 1, 9, 10, 11, 12, 13, 14, 22, 23, 24, 25, 26, 27, 28, 29, 30, 31, 32, 33] (by decide +kernel) (by decide +kernel)) (goodIn_sub (fun _ h => List.mem_cons_of_mem _ (List.mem_append_right _ h)) (by decide +kernel))
set_option maxRecDepth 20000 in
theorem gX3_lengthOf_X3_needRun : GoodIn wsX3_lengthOf (wsV RX3 75 RX3 yX3_needRun wsX3_needRun) := goodIn_app (goodIn_of _ (by decide +kernel)) ggX3_lengthOf_X3_needRun
set_option maxRecDepth 20000 in
theorem ggX3_lengthOf_X0_lengthAt : GoodIn wsX3_lengthOf wsX0_lengthAt := goodIn_r _ [18, 19, 20, 5, 21, 25, 26, 27, 28, 29, 30, 31, 32, 33] (by decide +kernel) (by decide +kernel)
set_option maxRecDepth 20000 in
theorem gX3_lengthOf_X0_lengthAt : GoodIn wsX3_lengthOf (wsV RX3 109 RX0 yX0_lengthAt wsX0_lengthAt) := goodIn_app (goodIn_of _ (by decide +kernel)) ggX3_lengthOf_X0_lengthAt
theorem dX3_lengthOf_0 : decode cX3_lengthOf 0 = .ok (.aload_n 0, 1) := by decide +kernel
theorem dX3_lengthOf_1 : decode cX3_lengthOf 1 = .ok (.iload_n 1, 1) := by decide +kernel
theorem dX3_lengthOf_2 : decode cX3_lengthOf 2 = .ok (.invokevirtual 75, 3) := by decide +kernel
theorem dX3_lengthOf_5 : decode cX3_lengthOf 5 = .ok (.aload_n 0, 1) := by decide +kernel
theorem dX3_lengthOf_6 : decode cX3_lengthOf 6 = .ok (.getfield 12, 3) := by decide +kernel
theorem dX3_lengthOf_9 : decode cX3_lengthOf 9 = .ok (.iload_n 1, 1) := by decide +kernel
theorem dX3_lengthOf_10 : decode cX3_lengthOf 10 = .ok (.invokevirtual 109, 3) := by decide +kernel
theorem dX3_lengthOf_13 : decode cX3_lengthOf 13 = .ok (.ireturn, 1) := by decide +kernel
set_option maxRecDepth 20000 in
theorem ggX3_sumOf_X3_needRun : GoodIn wsX3_sumOf wsX3_needRun := goodIn_ca (goodIn_r _ [6, 7, 8, 1, 9, 10, 11, 12, 13, 14, 22, 23, 24, 25, 26, 27, 28, 29, 30, 31, 32, 33] (by decide +kernel) (by decide +kernel)) (goodIn_sub (fun _ h => List.mem_cons_of_mem _ (List.mem_append_right _ h)) (by decide +kernel))
set_option maxRecDepth 20000 in
theorem gX3_sumOf_X3_needRun : GoodIn wsX3_sumOf (wsV RX3 75 RX3 yX3_needRun wsX3_needRun) := goodIn_app (goodIn_of _ (by decide +kernel)) ggX3_sumOf_X3_needRun
set_option maxRecDepth 20000 in
theorem ggX3_sumOf_X0_sumAt : GoodIn wsX3_sumOf wsX0_sumAt := goodIn_r _ [18, 19, 20, 5, 21, 25, 26, 27, 28, 29, 30, 31, 32, 33] (by decide +kernel) (by decide +kernel)
set_option maxRecDepth 20000 in
theorem gX3_sumOf_X0_sumAt : GoodIn wsX3_sumOf (wsV RX3 80 RX0 yX0_sumAt wsX0_sumAt) := goodIn_app (goodIn_of _ (by decide +kernel)) ggX3_sumOf_X0_sumAt
theorem dX3_sumOf_0 : decode cX3_sumOf 0 = .ok (.aload_n 0, 1) := by decide +kernel
theorem dX3_sumOf_1 : decode cX3_sumOf 1 = .ok (.iload_n 1, 1) := by decide +kernel
theorem dX3_sumOf_2 : decode cX3_sumOf 2 = .ok (.invokevirtual 75, 3) := by decide +kernel
theorem dX3_sumOf_5 : decode cX3_sumOf 5 = .ok (.aload_n 0, 1) := by decide +kernel
theorem dX3_sumOf_6 : decode cX3_sumOf 6 = .ok (.getfield 12, 3) := by decide +kernel
theorem dX3_sumOf_9 : decode cX3_sumOf 9 = .ok (.iload_n 1, 1) := by decide +kernel
theorem dX3_sumOf_10 : decode cX3_sumOf 10 = .ok (.invokevirtual 80, 3) := by decide +kernel
theorem dX3_sumOf_13 : decode cX3_sumOf 13 = .ok (.ireturn, 1) := by decide +kernel
set_option maxRecDepth 20000 in
theorem ggX3_digit_X3_needCell : GoodIn wsX3_digit wsX3_needCell := goodIn_ca (goodIn_r _ [6, 7, 8, 1, 9, 10, 11, 12, 13, 14, 22, 23, 24, 25, 26, 27, 28, 29, 30, 31, 32, 33] (by decide +kernel) (by decide +kernel)) (goodIn_sub (fun _ h => List.mem_cons_of_mem _ (List.mem_append_right _ h)) (by decide +kernel))
set_option maxRecDepth 20000 in
theorem gX3_digit_X3_needCell : GoodIn wsX3_digit (wsV RX3 43 RX3 yX3_needCell wsX3_needCell) := goodIn_app (goodIn_of _ (by decide +kernel)) ggX3_digit_X3_needCell
set_option maxRecDepth 20000 in
theorem ggX3_digit_X0_givenAt : GoodIn wsX3_digit wsX0_givenAt := goodIn_r _ [18, 19, 20, 5, 21, 25, 26, 27, 28, 29, 30, 31, 32, 33] (by decide +kernel) (by decide +kernel)
set_option maxRecDepth 20000 in
theorem gX3_digit_X0_givenAt : GoodIn wsX3_digit (wsV RX3 68 RX0 yX0_givenAt wsX0_givenAt) := goodIn_app (goodIn_of _ (by decide +kernel)) ggX3_digit_X0_givenAt
theorem dX3_digit_0 : decode cX3_digit 0 = .ok (.aload_n 0, 1) := by decide +kernel
theorem dX3_digit_1 : decode cX3_digit 1 = .ok (.iload_n 1, 1) := by decide +kernel
theorem dX3_digit_2 : decode cX3_digit 2 = .ok (.invokevirtual 43, 3) := by decide +kernel
theorem dX3_digit_5 : decode cX3_digit 5 = .ok (.aload_n 0, 1) := by decide +kernel
theorem dX3_digit_6 : decode cX3_digit 6 = .ok (.getfield 12, 3) := by decide +kernel
theorem dX3_digit_9 : decode cX3_digit 9 = .ok (.iload_n 1, 1) := by decide +kernel
theorem dX3_digit_10 : decode cX3_digit 10 = .ok (.invokevirtual 68, 3) := by decide +kernel
theorem dX3_digit_13 : decode cX3_digit 13 = .ok (.ireturn, 1) := by decide +kernel
set_option maxRecDepth 20000 in
theorem ggX3_answers_X2_find : GoodIn wsX3_answers wsX2_find := goodIn_r _ [8, 9, 10, 11, 12, 13, 14, 15, 7, 16, 17, 18, 19, 20, 21, 22, 23, 24, 25, 26, 27, 28, 29, 30, 31, 32, 33, 34, 35, 36, 37, 38, 39, 40, 41, 42, 43, 44, 45, 46, 47, 48, 49, 50, 51, 52, 53, 54, 55, 56, 57, 58, 59, 60, 61, 62, 63, 64, 65, 66, 67, 68, 69, 70, 71, 72, 73, 74, 75, 76, 77, 78, 79, 80, 81, 82, 83, 84, 85, 86, 87, 88, 89, 90, 91, 92, 93, 94, 95, 96, 97, 98, 99, 100, 104, 105, 106, 107, 108, 109, 110, 111, 112, 113, 114, 115, 116, 117, 118] (by decide +kernel) (by decide +kernel)
set_option maxRecDepth 20000 in
theorem gX3_answers_X2_find : GoodIn wsX3_answers (wsV RX3 114 RX2 yX2_find wsX2_find) := goodIn_app (goodIn_of _ (by decide +kernel)) ggX3_answers_X2_find
theorem dX3_answers_0 : decode cX3_answers 0 = .ok (.iload_n 1, 1) := by decide +kernel
theorem dX3_answers_1 : decode cX3_answers 1 = .ok (.iconst 1, 1) := by decide +kernel
theorem dX3_answers_2 : decode cX3_answers 2 = .ok (.if_icmp .lt 8, 3) := by decide +kernel
theorem dX3_answers_5 : decode cX3_answers 5 = .ok (.iload_n 1, 1) := by decide +kernel
theorem dX3_answers_6 : decode cX3_answers 6 = .ok (.iconst 5, 1) := by decide +kernel
theorem dX3_answers_7 : decode cX3_answers 7 = .ok (.if_icmp .le 13, 3) := by decide +kernel
theorem dX3_answers_10 : decode cX3_answers 10 = .ok (.new 36, 3) := by decide +kernel
theorem dX3_answers_13 : decode cX3_answers 13 = .ok (.dup, 1) := by decide +kernel
theorem dX3_answers_14 : decode cX3_answers 14 = .ok (.ldc 112, 2) := by decide +kernel
theorem dX3_answers_16 : decode cX3_answers 16 = .ok (.invokespecial 40, 3) := by decide +kernel
theorem dX3_answers_19 : decode cX3_answers 19 = .ok (.athrow, 1) := by decide +kernel
theorem dX3_answers_20 : decode cX3_answers 20 = .ok (.aload_n 0, 1) := by decide +kernel
theorem dX3_answers_21 : decode cX3_answers 21 = .ok (.getfield 21, 3) := by decide +kernel
theorem dX3_answers_24 : decode cX3_answers 24 = .ok (.iload_n 1, 1) := by decide +kernel
theorem dX3_answers_25 : decode cX3_answers 25 = .ok (.invokevirtual 114, 3) := by decide +kernel
theorem dX3_answers_28 : decode cX3_answers 28 = .ok (.ireturn, 1) := by decide +kernel
set_option maxRecDepth 20000 in
theorem ggX3_answersByAll_X0_countBlanks : GoodIn wsX3_answersByAll wsX0_countBlanks := goodIn_r _ [9, 10, 11, 12, 8, 13, 14, 15, 16, 17, 18, 19, 20, 21, 22, 84, 85, 86, 87, 88, 89, 90, 91, 92] (by decide +kernel) (by decide +kernel)
set_option maxRecDepth 20000 in
theorem gX3_answersByAll_X0_countBlanks : GoodIn wsX3_answersByAll (wsV RX3 117 RX0 yX0_countBlanks wsX0_countBlanks) := goodIn_app (goodIn_of _ (by decide +kernel)) ggX3_answersByAll_X0_countBlanks
set_option maxRecDepth 20000 in
theorem ggX3_answersByAll_X2_countByAll : GoodIn wsX3_answersByAll wsX2_countByAll := goodIn_r _ [27, 28, 29, 30, 31, 32, 33, 26, 34, 35, 36, 37, 21, 38, 39, 40, 41, 8, 42, 14, 15, 16, 17, 18, 19, 20, 22, 43, 44, 45, 46, 47, 11, 12, 13, 48, 49, 50, 51, 52, 53, 54, 55, 56, 57, 58, 59, 60, 61, 62, 63, 64, 65, 66, 67, 68, 69, 70, 71, 72, 73, 74, 75, 76, 77, 78, 79, 80, 93, 94, 95, 96, 97, 98, 84, 85, 86, 87, 88, 89, 90, 91, 92] (by decide +kernel) (by decide +kernel)
set_option maxRecDepth 20000 in
theorem gX3_answersByAll_X2_countByAll : GoodIn wsX3_answersByAll (wsV RX3 122 RX2 yX2_countByAll wsX2_countByAll) := goodIn_app (goodIn_of _ (by decide +kernel)) ggX3_answersByAll_X2_countByAll
theorem dX3_answersByAll_0 : decode cX3_answersByAll 0 = .ok (.aload_n 0, 1) := by decide +kernel
theorem dX3_answersByAll_1 : decode cX3_answersByAll 1 = .ok (.getfield 12, 3) := by decide +kernel
theorem dX3_answersByAll_4 : decode cX3_answersByAll 4 = .ok (.invokevirtual 117, 3) := by decide +kernel
theorem dX3_answersByAll_7 : decode cX3_answersByAll 7 = .ok (.iconst 4, 1) := by decide +kernel
theorem dX3_answersByAll_8 : decode cX3_answersByAll 8 = .ok (.if_icmp .le 13, 3) := by decide +kernel
theorem dX3_answersByAll_11 : decode cX3_answersByAll 11 = .ok (.new 63, 3) := by decide +kernel
theorem dX3_answersByAll_14 : decode cX3_answersByAll 14 = .ok (.dup, 1) := by decide +kernel
theorem dX3_answersByAll_15 : decode cX3_answersByAll 15 = .ok (.ldc 120, 2) := by decide +kernel
theorem dX3_answersByAll_17 : decode cX3_answersByAll 17 = .ok (.invokespecial 67, 3) := by decide +kernel
theorem dX3_answersByAll_20 : decode cX3_answersByAll 20 = .ok (.athrow, 1) := by decide +kernel
theorem dX3_answersByAll_21 : decode cX3_answersByAll 21 = .ok (.aload_n 0, 1) := by decide +kernel
theorem dX3_answersByAll_22 : decode cX3_answersByAll 22 = .ok (.getfield 21, 3) := by decide +kernel
theorem dX3_answersByAll_25 : decode cX3_answersByAll 25 = .ok (.invokevirtual 122, 3) := by decide +kernel
theorem dX3_answersByAll_28 : decode cX3_answersByAll 28 = .ok (.ireturn, 1) := by decide +kernel
set_option maxRecDepth 20000 in
theorem ggX3_mend_X2_find : GoodIn wsX3_mend wsX2_find := goodIn_r _ [9, 10, 11, 12, 13, 14, 15, 16, 8, 17, 18, 19, 20, 21, 22, 23, 24, 25, 26, 27, 28, 29, 30, 31, 32, 33, 34, 35, 36, 37, 38, 39, 40, 41, 42, 43, 44, 45, 46, 47, 48, 49, 50, 51, 52, 53, 54, 55, 56, 57, 58, 59, 60, 61, 62, 63, 64, 65, 66, 67, 68, 69, 70, 71, 72, 73, 74, 75, 76, 77, 78, 79, 80, 81, 82, 83, 84, 85, 86, 87, 88, 89, 90, 91, 92, 93, 94, 95, 96, 97, 98, 99, 100, 101, 117, 118, 119, 120, 121, 122, 123, 124, 125, 126, 127, 128, 129, 130, 131] (by decide +kernel) (by decide +kernel)
set_option maxRecDepth 20000 in
theorem gX3_mend_X2_find : GoodIn wsX3_mend (wsV RX3 114 RX2 yX2_find wsX2_find) := goodIn_app (goodIn_of _ (by decide +kernel)) ggX3_mend_X2_find
set_option maxRecDepth 20000 in
theorem ggX3_mend_X2_firstUnlike : GoodIn wsX3_mend wsX2_firstUnlike := goodIn_r _ [105, 97, 12, 33, 20, 34, 117, 118, 119, 120, 121, 122] (by decide +kernel) (by decide +kernel)
set_option maxRecDepth 20000 in
theorem gX3_mend_X2_firstUnlike : GoodIn wsX3_mend (wsV RX3 127 RX2 yX2_firstUnlike wsX2_firstUnlike) := goodIn_app (goodIn_of _ (by decide +kernel)) ggX3_mend_X2_firstUnlike
set_option maxRecDepth 20000 in
theorem ggX3_mend_X2_firstAnswerAt : GoodIn wsX3_mend wsX2_firstAnswerAt := goodIn_r _ [109, 97, 33, 20, 34, 117, 118, 119, 120, 121, 122] (by decide +kernel) (by decide +kernel)
set_option maxRecDepth 20000 in
theorem gX3_mend_X2_firstAnswerAt : GoodIn wsX3_mend (wsV RX3 130 RX2 yX2_firstAnswerAt wsX2_firstAnswerAt) := goodIn_app (goodIn_of _ (by decide +kernel)) ggX3_mend_X2_firstAnswerAt
set_option maxRecDepth 20000 in
theorem ggX3_mend_X0_putGiven : GoodIn wsX3_mend wsX0_putGiven := goodIn_r _ [113, 27, 19, 20, 21, 123, 124, 125, 126, 127, 128, 129, 130, 131] (by decide +kernel) (by decide +kernel)
set_option maxRecDepth 20000 in
theorem gX3_mend_X0_putGiven : GoodIn wsX3_mend (wsV RX3 71 RX0 yX0_putGiven wsX0_putGiven) := goodIn_app (goodIn_of _ (by decide +kernel)) ggX3_mend_X0_putGiven
theorem dX3_mend_0 : decode cX3_mend 0 = .ok (.aload_n 0, 1) := by decide +kernel
theorem dX3_mend_1 : decode cX3_mend 1 = .ok (.getfield 21, 3) := by decide +kernel
theorem dX3_mend_4 : decode cX3_mend 4 = .ok (.iconst 2, 1) := by decide +kernel
theorem dX3_mend_5 : decode cX3_mend 5 = .ok (.invokevirtual 114, 3) := by decide +kernel
theorem dX3_mend_8 : decode cX3_mend 8 = .ok (.istore_n 1, 1) := by decide +kernel
theorem dX3_mend_9 : decode cX3_mend 9 = .ok (.iload_n 1, 1) := by decide +kernel
theorem dX3_mend_10 : decode cX3_mend 10 = .ok (.iconst (-1), 1) := by decide +kernel
theorem dX3_mend_11 : decode cX3_mend 11 = .ok (.if_icmp .ne 13, 3) := by decide +kernel
theorem dX3_mend_14 : decode cX3_mend 14 = .ok (.new 63, 3) := by decide +kernel
theorem dX3_mend_17 : decode cX3_mend 17 = .ok (.dup, 1) := by decide +kernel
theorem dX3_mend_18 : decode cX3_mend 18 = .ok (.ldc 125, 2) := by decide +kernel
theorem dX3_mend_20 : decode cX3_mend 20 = .ok (.invokespecial 67, 3) := by decide +kernel
theorem dX3_mend_23 : decode cX3_mend 23 = .ok (.athrow, 1) := by decide +kernel
theorem dX3_mend_24 : decode cX3_mend 24 = .ok (.iload_n 1, 1) := by decide +kernel
theorem dX3_mend_25 : decode cX3_mend 25 = .ok (.iconst 2, 1) := by decide +kernel
theorem dX3_mend_26 : decode cX3_mend 26 = .ok (.if_icmp .ge 5, 3) := by decide +kernel
theorem dX3_mend_29 : decode cX3_mend 29 = .ok (.iconst (-1), 1) := by decide +kernel
theorem dX3_mend_30 : decode cX3_mend 30 = .ok (.ireturn, 1) := by decide +kernel
theorem dX3_mend_31 : decode cX3_mend 31 = .ok (.aload_n 0, 1) := by decide +kernel
theorem dX3_mend_32 : decode cX3_mend 32 = .ok (.getfield 21, 3) := by decide +kernel
theorem dX3_mend_35 : decode cX3_mend 35 = .ok (.invokevirtual 127, 3) := by decide +kernel
theorem dX3_mend_38 : decode cX3_mend 38 = .ok (.istore_n 2, 1) := by decide +kernel
theorem dX3_mend_39 : decode cX3_mend 39 = .ok (.iload_n 2, 1) := by decide +kernel
theorem dX3_mend_40 : decode cX3_mend 40 = .ok (.iconst (-1), 1) := by decide +kernel
theorem dX3_mend_41 : decode cX3_mend 41 = .ok (.if_icmp .eq 19, 3) := by decide +kernel
theorem dX3_mend_44 : decode cX3_mend 44 = .ok (.aload_n 0, 1) := by decide +kernel
theorem dX3_mend_45 : decode cX3_mend 45 = .ok (.getfield 12, 3) := by decide +kernel
theorem dX3_mend_48 : decode cX3_mend 48 = .ok (.iload_n 2, 1) := by decide +kernel
theorem dX3_mend_49 : decode cX3_mend 49 = .ok (.aload_n 0, 1) := by decide +kernel
theorem dX3_mend_50 : decode cX3_mend 50 = .ok (.getfield 21, 3) := by decide +kernel
theorem dX3_mend_53 : decode cX3_mend 53 = .ok (.iload_n 2, 1) := by decide +kernel
theorem dX3_mend_54 : decode cX3_mend 54 = .ok (.invokevirtual 130, 3) := by decide +kernel
theorem dX3_mend_57 : decode cX3_mend 57 = .ok (.invokevirtual 71, 3) := by decide +kernel
theorem dX3_mend_60 : decode cX3_mend 60 = .ok (.iload_n 2, 1) := by decide +kernel
theorem dX3_mend_61 : decode cX3_mend 61 = .ok (.ireturn, 1) := by decide +kernel
set_option maxRecDepth 20000 in
theorem ggX3_level_X1_solve : GoodIn wsX3_level wsX1_solve := goodIn_r _ [6, 7, 8, 9, 10, 11, 12, 13, 14, 15, 5, 16, 17, 18, 19, 20, 21, 22, 23, 24, 25, 26, 27, 28, 29, 30, 31, 32, 33, 34, 35, 36, 37, 38, 39, 40, 41, 42, 43, 44, 45, 46, 47, 48, 49, 50, 51, 52, 53, 54, 55, 56, 57, 58, 59, 60, 61, 62, 63, 64, 65, 66, 67, 68, 69, 70, 71, 72, 73, 74, 75, 76, 77, 78, 79, 80, 81, 82, 83, 84, 85, 86, 87, 88, 89, 90, 91, 92, 93, 94, 95, 96, 97, 98, 99, 100, 101, 102, 103, 104, 105, 106, 107, 108, 109, 110, 111, 123, 124, 125, 126, 127, 128, 129, 130, 131, 132, 133, 134, 135, 136] (by decide +kernel) (by decide +kernel)
set_option maxRecDepth 20000 in
theorem gX3_level_X1_solve : GoodIn wsX3_level (wsV RX3 133 RX1 yX1_solve wsX1_solve) := goodIn_app (goodIn_of _ (by decide +kernel)) ggX3_level_X1_solve
set_option maxRecDepth 20000 in
theorem ggX3_level_X1_isSolved : GoodIn wsX3_level wsX1_isSolved := goodIn_r _ [115, 22, 17, 23, 24, 25, 26, 27, 28, 29, 30, 31, 32, 33, 34, 35, 36, 71, 72, 5, 73, 74, 75, 76, 77, 78, 79, 80, 123, 124, 125, 126, 127, 128, 129, 130, 131, 132, 133, 134, 135, 136] (by decide +kernel) (by decide +kernel)
set_option maxRecDepth 20000 in
theorem gX3_level_X1_isSolved : GoodIn wsX3_level (wsV RX3 136 RX1 yX1_isSolved wsX1_isSolved) := goodIn_app (goodIn_of _ (by decide +kernel)) ggX3_level_X1_isSolved
set_option maxRecDepth 20000 in
theorem ggX3_level_X1_greatestRule : GoodIn wsX3_level wsX1_greatestRule := goodIn_r _ [119, 8, 123, 124, 125, 126, 127] (by decide +kernel) (by decide +kernel)
set_option maxRecDepth 20000 in
theorem gX3_level_X1_greatestRule : GoodIn wsX3_level (wsV RX3 139 RX1 yX1_greatestRule wsX1_greatestRule) := goodIn_app (goodIn_of _ (by decide +kernel)) ggX3_level_X1_greatestRule
theorem dX3_level_0 : decode cX3_level 0 = .ok (.aload_n 0, 1) := by decide +kernel
theorem dX3_level_1 : decode cX3_level 1 = .ok (.getfield 28, 3) := by decide +kernel
theorem dX3_level_4 : decode cX3_level 4 = .ok (.iconst 3, 1) := by decide +kernel
theorem dX3_level_5 : decode cX3_level 5 = .ok (.invokevirtual 133, 3) := by decide +kernel
theorem dX3_level_8 : decode cX3_level 8 = .ok (.aload_n 0, 1) := by decide +kernel
theorem dX3_level_9 : decode cX3_level 9 = .ok (.getfield 28, 3) := by decide +kernel
theorem dX3_level_12 : decode cX3_level 12 = .ok (.invokevirtual 136, 3) := by decide +kernel
theorem dX3_level_15 : decode cX3_level 15 = .ok (.ifCond .eq 13, 3) := by decide +kernel
theorem dX3_level_18 : decode cX3_level 18 = .ok (.aload_n 0, 1) := by decide +kernel
theorem dX3_level_19 : decode cX3_level 19 = .ok (.getfield 28, 3) := by decide +kernel
theorem dX3_level_22 : decode cX3_level 22 = .ok (.invokevirtual 139, 3) := by decide +kernel
theorem dX3_level_25 : decode cX3_level 25 = .ok (.goto 4, 3) := by decide +kernel
theorem dX3_level_28 : decode cX3_level 28 = .ok (.iconst (-1), 1) := by decide +kernel
theorem dX3_level_29 : decode cX3_level 29 = .ok (.ireturn, 1) := by decide +kernel
set_option maxRecDepth 20000 in
theorem ggX3_candidates_X3_needCell : GoodIn wsX3_candidates wsX3_needCell := goodIn_ca (goodIn_r _ [8, 9, 10, 11, 12, 13, 14, 15, 16, 17, 126, 127, 128, 129, 130, 131, 132, 133, 134, 135, 136, 137] (by decide +kernel) (by decide +kernel)) (goodIn_sub (fun _ h => List.mem_cons_of_mem _ (List.mem_append_right _ h)) (by decide +kernel))
set_option maxRecDepth 20000 in
theorem gX3_candidates_X3_needCell : GoodIn wsX3_candidates (wsV RX3 43 RX3 yX3_needCell wsX3_needCell) := goodIn_app (goodIn_of _ (by decide +kernel)) ggX3_candidates_X3_needCell
set_option maxRecDepth 20000 in
theorem ggX3_candidates_X1_solve : GoodIn wsX3_candidates wsX1_solve := goodIn_r _ [22, 23, 24, 25, 26, 27, 28, 29, 30, 31, 21, 32, 33, 34, 35, 36, 37, 38, 39, 40, 41, 15, 42, 43, 44, 13, 14, 16, 17, 45, 7, 46, 47, 48, 49, 50, 51, 52, 53, 54, 55, 56, 57, 58, 59, 60, 61, 62, 63, 64, 65, 66, 67, 68, 69, 70, 71, 72, 73, 74, 75, 76, 77, 78, 79, 80, 81, 82, 83, 84, 85, 86, 87, 88, 89, 90, 91, 92, 93, 94, 95, 96, 97, 98, 99, 100, 101, 102, 103, 104, 105, 106, 107, 108, 109, 110, 111, 112, 113, 114, 115, 116, 117, 118, 119, 120, 121, 138, 139, 140, 141, 142, 129, 130, 131, 132, 133, 134, 135, 136, 137] (by decide +kernel) (by decide +kernel)
set_option maxRecDepth 20000 in
theorem gX3_candidates_X1_solve : GoodIn wsX3_candidates (wsV RX3 133 RX1 yX1_solve wsX1_solve) := goodIn_app (goodIn_of _ (by decide +kernel)) ggX3_candidates_X1_solve
set_option maxRecDepth 20000 in
theorem ggX3_candidates_X1_setAt : GoodIn wsX3_candidates wsX1_setAt := goodIn_r _ [125, 33, 45, 7, 46, 138, 139, 140, 141, 142] (by decide +kernel) (by decide +kernel)
set_option maxRecDepth 20000 in
theorem gX3_candidates_X1_setAt : GoodIn wsX3_candidates (wsV RX3 144 RX1 yX1_setAt wsX1_setAt) := goodIn_app (goodIn_of _ (by decide +kernel)) ggX3_candidates_X1_setAt
theorem dX3_candidates_0 : decode cX3_candidates 0 = .ok (.aload_n 0, 1) := by decide +kernel
theorem dX3_candidates_1 : decode cX3_candidates 1 = .ok (.iload_n 1, 1) := by decide +kernel
theorem dX3_candidates_2 : decode cX3_candidates 2 = .ok (.invokevirtual 43, 3) := by decide +kernel
theorem dX3_candidates_5 : decode cX3_candidates 5 = .ok (.iload_n 2, 1) := by decide +kernel
theorem dX3_candidates_6 : decode cX3_candidates 6 = .ok (.ifCond .lt 8, 3) := by decide +kernel
theorem dX3_candidates_9 : decode cX3_candidates 9 = .ok (.iload_n 2, 1) := by decide +kernel
theorem dX3_candidates_10 : decode cX3_candidates 10 = .ok (.iconst 3, 1) := by decide +kernel
theorem dX3_candidates_11 : decode cX3_candidates 11 = .ok (.if_icmp .le 13, 3) := by decide +kernel
theorem dX3_candidates_14 : decode cX3_candidates 14 = .ok (.new 36, 3) := by decide +kernel
theorem dX3_candidates_17 : decode cX3_candidates 17 = .ok (.dup, 1) := by decide +kernel
theorem dX3_candidates_18 : decode cX3_candidates 18 = .ok (.ldc 142, 2) := by decide +kernel
theorem dX3_candidates_20 : decode cX3_candidates 20 = .ok (.invokespecial 40, 3) := by decide +kernel
theorem dX3_candidates_23 : decode cX3_candidates 23 = .ok (.athrow, 1) := by decide +kernel
theorem dX3_candidates_24 : decode cX3_candidates 24 = .ok (.aload_n 0, 1) := by decide +kernel
theorem dX3_candidates_25 : decode cX3_candidates 25 = .ok (.getfield 28, 3) := by decide +kernel
theorem dX3_candidates_28 : decode cX3_candidates 28 = .ok (.iload_n 2, 1) := by decide +kernel
theorem dX3_candidates_29 : decode cX3_candidates 29 = .ok (.invokevirtual 133, 3) := by decide +kernel
theorem dX3_candidates_32 : decode cX3_candidates 32 = .ok (.aload_n 0, 1) := by decide +kernel
theorem dX3_candidates_33 : decode cX3_candidates 33 = .ok (.getfield 28, 3) := by decide +kernel
theorem dX3_candidates_36 : decode cX3_candidates 36 = .ok (.iload_n 1, 1) := by decide +kernel
theorem dX3_candidates_37 : decode cX3_candidates 37 = .ok (.invokevirtual 144, 3) := by decide +kernel
theorem dX3_candidates_40 : decode cX3_candidates 40 = .ok (.ireturn, 1) := by decide +kernel
set_option maxRecDepth 20000 in
theorem ggX3_hint_X1_solveToHint : GoodIn wsX3_hint wsX1_solveToHint := goodIn_r _ [6, 7, 8, 9, 5, 10, 11, 12, 13, 14, 15, 16, 17, 18, 19, 20, 21, 22, 23, 24, 25, 26, 27, 28, 29, 30, 31, 32, 33, 34, 35, 36, 37, 38, 39, 40, 41, 42, 43, 44, 45, 46, 47, 48, 49, 50, 51, 52, 53, 54, 55, 56, 57, 58, 59, 60, 61, 62, 63, 64, 65, 66, 67, 68, 69, 70, 71, 72, 73, 74, 75, 76, 77, 78, 79, 80, 81, 82, 83, 84, 85, 86, 87, 88, 89, 90, 91, 92, 93, 94, 95, 96, 97, 98, 99, 100, 101, 102, 103, 104, 105, 106, 107, 108, 109, 110, 111, 112, 113, 114, 115, 116, 117, 118, 119, 124, 125, 126, 127, 128, 129, 130, 131, 132, 133, 134, 135, 136, 137] (by decide +kernel) (by decide +kernel)
set_option maxRecDepth 20000 in
theorem gX3_hint_X1_solveToHint : GoodIn wsX3_hint (wsV RX3 147 RX1 yX1_solveToHint wsX1_solveToHint) := goodIn_app (goodIn_of _ (by decide +kernel)) ggX3_hint_X1_solveToHint
set_option maxRecDepth 20000 in
theorem ggX3_hint_X1_firstFound : GoodIn wsX3_hint wsX1_firstFound := goodIn_r _ [119, 26, 21, 41, 42, 43, 30, 44, 32, 33, 34, 35, 36, 37, 38, 39, 40, 75, 76, 5, 77, 78, 79, 80, 81, 82, 83, 84, 124, 125, 126, 127, 128, 129, 130, 131, 132, 133, 134, 135, 136, 137] (by decide +kernel) (by decide +kernel)
set_option maxRecDepth 20000 in
theorem gX3_hint_X1_firstFound : GoodIn wsX3_hint (wsV RX3 150 RX1 yX1_firstFound wsX1_firstFound) := goodIn_app (goodIn_of _ (by decide +kernel)) ggX3_hint_X1_firstFound
theorem dX3_hint_0 : decode cX3_hint 0 = .ok (.aload_n 0, 1) := by decide +kernel
theorem dX3_hint_1 : decode cX3_hint 1 = .ok (.getfield 28, 3) := by decide +kernel
theorem dX3_hint_4 : decode cX3_hint 4 = .ok (.invokevirtual 147, 3) := by decide +kernel
theorem dX3_hint_7 : decode cX3_hint 7 = .ok (.pop, 1) := by decide +kernel
theorem dX3_hint_8 : decode cX3_hint 8 = .ok (.aload_n 0, 1) := by decide +kernel
theorem dX3_hint_9 : decode cX3_hint 9 = .ok (.getfield 28, 3) := by decide +kernel
theorem dX3_hint_12 : decode cX3_hint 12 = .ok (.invokevirtual 150, 3) := by decide +kernel
theorem dX3_hint_15 : decode cX3_hint 15 = .ok (.ireturn, 1) := by decide +kernel
set_option maxRecDepth 20000 in
theorem ggX3_hintRules_X1_solveToHint : GoodIn wsX3_hintRules wsX1_solveToHint := goodIn_r _ [6, 7, 8, 9, 5, 10, 11, 12, 13, 14, 15, 16, 17, 18, 19, 20, 21, 22, 23, 24, 25, 26, 27, 28, 29, 30, 31, 32, 33, 34, 35, 36, 37, 38, 39, 40, 41, 42, 43, 44, 45, 46, 47, 48, 49, 50, 51, 52, 53, 54, 55, 56, 57, 58, 59, 60, 61, 62, 63, 64, 65, 66, 67, 68, 69, 70, 71, 72, 73, 74, 75, 76, 77, 78, 79, 80, 81, 82, 83, 84, 85, 86, 87, 88, 89, 90, 91, 92, 93, 94, 95, 96, 97, 98, 99, 100, 101, 102, 103, 104, 105, 106, 107, 108, 109, 110, 111, 112, 113, 114, 115, 116, 117, 118, 119, 123, 124, 125, 126, 127, 128, 129, 130, 131, 132, 133, 134, 135, 136] (by decide +kernel) (by decide +kernel)
set_option maxRecDepth 20000 in
theorem gX3_hintRules_X1_solveToHint : GoodIn wsX3_hintRules (wsV RX3 147 RX1 yX1_solveToHint wsX1_solveToHint) := goodIn_app (goodIn_of _ (by decide +kernel)) ggX3_hintRules_X1_solveToHint
theorem dX3_hintRules_0 : decode cX3_hintRules 0 = .ok (.aload_n 0, 1) := by decide +kernel
theorem dX3_hintRules_1 : decode cX3_hintRules 1 = .ok (.getfield 28, 3) := by decide +kernel
theorem dX3_hintRules_4 : decode cX3_hintRules 4 = .ok (.invokevirtual 147, 3) := by decide +kernel
theorem dX3_hintRules_7 : decode cX3_hintRules 7 = .ok (.ireturn, 1) := by decide +kernel
set_option maxRecDepth 20000 in
theorem ggX3_needCell_X0_hasCell : GoodIn wsX3_needCell wsX0_hasCell := goodIn_r _ [8, 9, 13, 14, 15, 16, 17, 18, 19, 20, 21] (by decide +kernel) (by decide +kernel)
set_option maxRecDepth 20000 in
theorem gX3_needCell_X0_hasCell : GoodIn wsX3_needCell (wsV RX3 153 RX0 yX0_hasCell wsX0_hasCell) := goodIn_app (goodIn_of _ (by decide +kernel)) ggX3_needCell_X0_hasCell
theorem dX3_needCell_0 : decode cX3_needCell 0 = .ok (.aload_n 0, 1) := by decide +kernel
theorem dX3_needCell_1 : decode cX3_needCell 1 = .ok (.getfield 12, 3) := by decide +kernel
theorem dX3_needCell_4 : decode cX3_needCell 4 = .ok (.iload_n 1, 1) := by decide +kernel
theorem dX3_needCell_5 : decode cX3_needCell 5 = .ok (.invokevirtual 153, 3) := by decide +kernel
theorem dX3_needCell_8 : decode cX3_needCell 8 = .ok (.ifCond .ne 13, 3) := by decide +kernel
theorem dX3_needCell_11 : decode cX3_needCell 11 = .ok (.new 156, 3) := by decide +kernel
theorem dX3_needCell_14 : decode cX3_needCell 14 = .ok (.dup, 1) := by decide +kernel
theorem dX3_needCell_15 : decode cX3_needCell 15 = .ok (.ldc 158, 2) := by decide +kernel
theorem dX3_needCell_17 : decode cX3_needCell 17 = .ok (.invokespecial 160, 3) := by decide +kernel
theorem dX3_needCell_20 : decode cX3_needCell 20 = .ok (.athrow, 1) := by decide +kernel
theorem dX3_needCell_21 : decode cX3_needCell 21 = .ok (.return_, 1) := by decide +kernel
set_option maxRecDepth 20000 in
theorem ggX3_needRun_X0_hasRun : GoodIn wsX3_needRun wsX0_hasRun := goodIn_r _ [8, 9, 13, 14, 15, 16, 17, 18, 19, 20, 21] (by decide +kernel) (by decide +kernel)
set_option maxRecDepth 20000 in
theorem gX3_needRun_X0_hasRun : GoodIn wsX3_needRun (wsV RX3 161 RX0 yX0_hasRun wsX0_hasRun) := goodIn_app (goodIn_of _ (by decide +kernel)) ggX3_needRun_X0_hasRun
theorem dX3_needRun_0 : decode cX3_needRun 0 = .ok (.aload_n 0, 1) := by decide +kernel
theorem dX3_needRun_1 : decode cX3_needRun 1 = .ok (.getfield 12, 3) := by decide +kernel
theorem dX3_needRun_4 : decode cX3_needRun 4 = .ok (.iload_n 1, 1) := by decide +kernel
theorem dX3_needRun_5 : decode cX3_needRun 5 = .ok (.invokevirtual 161, 3) := by decide +kernel
theorem dX3_needRun_8 : decode cX3_needRun 8 = .ok (.ifCond .ne 13, 3) := by decide +kernel
theorem dX3_needRun_11 : decode cX3_needRun 11 = .ok (.new 156, 3) := by decide +kernel
theorem dX3_needRun_14 : decode cX3_needRun 14 = .ok (.dup, 1) := by decide +kernel
theorem dX3_needRun_15 : decode cX3_needRun 15 = .ok (.ldc 164, 2) := by decide +kernel
theorem dX3_needRun_17 : decode cX3_needRun 17 = .ok (.invokespecial 160, 3) := by decide +kernel
theorem dX3_needRun_20 : decode cX3_needRun 20 = .ok (.athrow, 1) := by decide +kernel
theorem dX3_needRun_21 : decode cX3_needRun 21 = .ok (.return_, 1) := by decide +kernel
theorem dX3_at_0 : decode cX3_at 0 = .ok (.iload_n 1, 1) := by decide +kernel
theorem dX3_at_1 : decode cX3_at 1 = .ok (.ifCond .lt 15, 3) := by decide +kernel
theorem dX3_at_4 : decode cX3_at 4 = .ok (.iload_n 1, 1) := by decide +kernel
theorem dX3_at_5 : decode cX3_at 5 = .ok (.aload_n 0, 1) := by decide +kernel
theorem dX3_at_6 : decode cX3_at 6 = .ok (.arraylength, 1) := by decide +kernel
theorem dX3_at_7 : decode cX3_at 7 = .ok (.if_icmp .ge 9, 3) := by decide +kernel
theorem dX3_at_10 : decode cX3_at 10 = .ok (.aload_n 0, 1) := by decide +kernel
theorem dX3_at_11 : decode cX3_at 11 = .ok (.iload_n 1, 1) := by decide +kernel
theorem dX3_at_12 : decode cX3_at 12 = .ok (.iaload, 1) := by decide +kernel
theorem dX3_at_13 : decode cX3_at 13 = .ok (.goto 4, 3) := by decide +kernel
theorem dX3_at_16 : decode cX3_at 16 = .ok (.iconst 0, 1) := by decide +kernel
theorem dX3_at_17 : decode cX3_at 17 = .ok (.ireturn, 1) := by decide +kernel
theorem dX3_put_0 : decode cX3_put 0 = .ok (.iload_n 1, 1) := by decide +kernel
theorem dX3_put_1 : decode cX3_put 1 = .ok (.ifCond .lt 13, 3) := by decide +kernel
theorem dX3_put_4 : decode cX3_put 4 = .ok (.iload_n 1, 1) := by decide +kernel
theorem dX3_put_5 : decode cX3_put 5 = .ok (.aload_n 0, 1) := by decide +kernel
theorem dX3_put_6 : decode cX3_put 6 = .ok (.arraylength, 1) := by decide +kernel
theorem dX3_put_7 : decode cX3_put 7 = .ok (.if_icmp .ge 7, 3) := by decide +kernel
theorem dX3_put_10 : decode cX3_put 10 = .ok (.aload_n 0, 1) := by decide +kernel
theorem dX3_put_11 : decode cX3_put 11 = .ok (.iload_n 1, 1) := by decide +kernel
theorem dX3_put_12 : decode cX3_put 12 = .ok (.iload_n 2, 1) := by decide +kernel
theorem dX3_put_13 : decode cX3_put 13 = .ok (.iastore, 1) := by decide +kernel
theorem dX3_put_14 : decode cX3_put 14 = .ok (.return_, 1) := by decide +kernel
theorem dJ6_bitCount_0f7a4_0 : decode cJ6_bitCount_0f7a4 0 = .ok (.iload_n 0, 1) := by decide +kernel
theorem dJ6_bitCount_0f7a4_1 : decode cJ6_bitCount_0f7a4 1 = .ok (.iload_n 0, 1) := by decide +kernel
theorem dJ6_bitCount_0f7a4_2 : decode cJ6_bitCount_0f7a4 2 = .ok (.iconst 1, 1) := by decide +kernel
theorem dJ6_bitCount_0f7a4_3 : decode cJ6_bitCount_0f7a4 3 = .ok (.iushr, 1) := by decide +kernel
theorem dJ6_bitCount_0f7a4_4 : decode cJ6_bitCount_0f7a4 4 = .ok (.ldc_w 265, 3) := by decide +kernel
theorem dJ6_bitCount_0f7a4_7 : decode cJ6_bitCount_0f7a4 7 = .ok (.iand, 1) := by decide +kernel
theorem dJ6_bitCount_0f7a4_8 : decode cJ6_bitCount_0f7a4 8 = .ok (.isub, 1) := by decide +kernel
theorem dJ6_bitCount_0f7a4_9 : decode cJ6_bitCount_0f7a4 9 = .ok (.istore_n 0, 1) := by decide +kernel
theorem dJ6_bitCount_0f7a4_10 : decode cJ6_bitCount_0f7a4 10 = .ok (.iload_n 0, 1) := by decide +kernel
theorem dJ6_bitCount_0f7a4_11 : decode cJ6_bitCount_0f7a4 11 = .ok (.ldc_w 266, 3) := by decide +kernel
theorem dJ6_bitCount_0f7a4_14 : decode cJ6_bitCount_0f7a4 14 = .ok (.iand, 1) := by decide +kernel
theorem dJ6_bitCount_0f7a4_15 : decode cJ6_bitCount_0f7a4 15 = .ok (.iload_n 0, 1) := by decide +kernel
theorem dJ6_bitCount_0f7a4_16 : decode cJ6_bitCount_0f7a4 16 = .ok (.iconst 2, 1) := by decide +kernel
theorem dJ6_bitCount_0f7a4_17 : decode cJ6_bitCount_0f7a4 17 = .ok (.iushr, 1) := by decide +kernel
theorem dJ6_bitCount_0f7a4_18 : decode cJ6_bitCount_0f7a4 18 = .ok (.ldc_w 266, 3) := by decide +kernel
theorem dJ6_bitCount_0f7a4_21 : decode cJ6_bitCount_0f7a4 21 = .ok (.iand, 1) := by decide +kernel
theorem dJ6_bitCount_0f7a4_22 : decode cJ6_bitCount_0f7a4 22 = .ok (.iadd, 1) := by decide +kernel
theorem dJ6_bitCount_0f7a4_23 : decode cJ6_bitCount_0f7a4 23 = .ok (.istore_n 0, 1) := by decide +kernel
theorem dJ6_bitCount_0f7a4_24 : decode cJ6_bitCount_0f7a4 24 = .ok (.iload_n 0, 1) := by decide +kernel
theorem dJ6_bitCount_0f7a4_25 : decode cJ6_bitCount_0f7a4 25 = .ok (.iload_n 0, 1) := by decide +kernel
theorem dJ6_bitCount_0f7a4_26 : decode cJ6_bitCount_0f7a4 26 = .ok (.iconst 4, 1) := by decide +kernel
theorem dJ6_bitCount_0f7a4_27 : decode cJ6_bitCount_0f7a4 27 = .ok (.iushr, 1) := by decide +kernel
theorem dJ6_bitCount_0f7a4_28 : decode cJ6_bitCount_0f7a4 28 = .ok (.iadd, 1) := by decide +kernel
theorem dJ6_bitCount_0f7a4_29 : decode cJ6_bitCount_0f7a4 29 = .ok (.ldc_w 267, 3) := by decide +kernel
theorem dJ6_bitCount_0f7a4_32 : decode cJ6_bitCount_0f7a4 32 = .ok (.iand, 1) := by decide +kernel
theorem dJ6_bitCount_0f7a4_33 : decode cJ6_bitCount_0f7a4 33 = .ok (.istore_n 0, 1) := by decide +kernel
theorem dJ6_bitCount_0f7a4_34 : decode cJ6_bitCount_0f7a4 34 = .ok (.iload_n 0, 1) := by decide +kernel
theorem dJ6_bitCount_0f7a4_35 : decode cJ6_bitCount_0f7a4 35 = .ok (.iload_n 0, 1) := by decide +kernel
theorem dJ6_bitCount_0f7a4_36 : decode cJ6_bitCount_0f7a4 36 = .ok (.bipush 8, 2) := by decide +kernel
theorem dJ6_bitCount_0f7a4_38 : decode cJ6_bitCount_0f7a4 38 = .ok (.iushr, 1) := by decide +kernel
theorem dJ6_bitCount_0f7a4_39 : decode cJ6_bitCount_0f7a4 39 = .ok (.iadd, 1) := by decide +kernel
theorem dJ6_bitCount_0f7a4_40 : decode cJ6_bitCount_0f7a4 40 = .ok (.istore_n 0, 1) := by decide +kernel
theorem dJ6_bitCount_0f7a4_41 : decode cJ6_bitCount_0f7a4 41 = .ok (.iload_n 0, 1) := by decide +kernel
theorem dJ6_bitCount_0f7a4_42 : decode cJ6_bitCount_0f7a4 42 = .ok (.iload_n 0, 1) := by decide +kernel
theorem dJ6_bitCount_0f7a4_43 : decode cJ6_bitCount_0f7a4 43 = .ok (.bipush 16, 2) := by decide +kernel
theorem dJ6_bitCount_0f7a4_45 : decode cJ6_bitCount_0f7a4 45 = .ok (.iushr, 1) := by decide +kernel
theorem dJ6_bitCount_0f7a4_46 : decode cJ6_bitCount_0f7a4 46 = .ok (.iadd, 1) := by decide +kernel
theorem dJ6_bitCount_0f7a4_47 : decode cJ6_bitCount_0f7a4 47 = .ok (.istore_n 0, 1) := by decide +kernel
theorem dJ6_bitCount_0f7a4_48 : decode cJ6_bitCount_0f7a4 48 = .ok (.iload_n 0, 1) := by decide +kernel
theorem dJ6_bitCount_0f7a4_49 : decode cJ6_bitCount_0f7a4 49 = .ok (.bipush 63, 2) := by decide +kernel
theorem dJ6_bitCount_0f7a4_51 : decode cJ6_bitCount_0f7a4 51 = .ok (.iand, 1) := by decide +kernel
theorem dJ6_bitCount_0f7a4_52 : decode cJ6_bitCount_0f7a4 52 = .ok (.ireturn, 1) := by decide +kernel
theorem dJ9_max_7cf53_0 : decode cJ9_max_7cf53 0 = .ok (.iload_n 0, 1) := by decide +kernel
theorem dJ9_max_7cf53_1 : decode cJ9_max_7cf53 1 = .ok (.iload_n 1, 1) := by decide +kernel
theorem dJ9_max_7cf53_2 : decode cJ9_max_7cf53 2 = .ok (.if_icmp .lt 7, 3) := by decide +kernel
theorem dJ9_max_7cf53_5 : decode cJ9_max_7cf53 5 = .ok (.iload_n 0, 1) := by decide +kernel
theorem dJ9_max_7cf53_6 : decode cJ9_max_7cf53 6 = .ok (.goto 4, 3) := by decide +kernel
theorem dJ9_max_7cf53_9 : decode cJ9_max_7cf53 9 = .ok (.iload_n 1, 1) := by decide +kernel
theorem dJ9_max_7cf53_10 : decode cJ9_max_7cf53 10 = .ok (.ireturn, 1) := by decide +kernel
theorem dJ7_fill_53178_0 : decode cJ7_fill_53178 0 = .ok (.iconst 0, 1) := by decide +kernel
theorem dJ7_fill_53178_1 : decode cJ7_fill_53178 1 = .ok (.istore_n 2, 1) := by decide +kernel
theorem dJ7_fill_53178_2 : decode cJ7_fill_53178 2 = .ok (.aload_n 0, 1) := by decide +kernel
theorem dJ7_fill_53178_3 : decode cJ7_fill_53178 3 = .ok (.arraylength, 1) := by decide +kernel
theorem dJ7_fill_53178_4 : decode cJ7_fill_53178 4 = .ok (.istore_n 3, 1) := by decide +kernel
theorem dJ7_fill_53178_5 : decode cJ7_fill_53178 5 = .ok (.iload_n 2, 1) := by decide +kernel
theorem dJ7_fill_53178_6 : decode cJ7_fill_53178 6 = .ok (.iload_n 3, 1) := by decide +kernel
theorem dJ7_fill_53178_7 : decode cJ7_fill_53178 7 = .ok (.if_icmp .ge 13, 3) := by decide +kernel
theorem dJ7_fill_53178_10 : decode cJ7_fill_53178 10 = .ok (.aload_n 0, 1) := by decide +kernel
theorem dJ7_fill_53178_11 : decode cJ7_fill_53178 11 = .ok (.iload_n 2, 1) := by decide +kernel
theorem dJ7_fill_53178_12 : decode cJ7_fill_53178 12 = .ok (.iload_n 1, 1) := by decide +kernel
theorem dJ7_fill_53178_13 : decode cJ7_fill_53178 13 = .ok (.iastore, 1) := by decide +kernel
theorem dJ7_fill_53178_14 : decode cJ7_fill_53178 14 = .ok (.iinc 2 1, 3) := by decide +kernel
theorem dJ7_fill_53178_17 : decode cJ7_fill_53178 17 = .ok (.goto (-12), 3) := by decide +kernel
theorem dJ7_fill_53178_20 : decode cJ7_fill_53178 20 = .ok (.return_, 1) := by decide +kernel
