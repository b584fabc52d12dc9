set_option maxRecDepth 20000 in
theorem ggX4_init_X4_layRuns : GoodIn wsX4_init wsX4_layRuns := goodIn_r _ [21, 22, 4, 6, 9, 10, 11, 12, 23, 24, 25, 26, 27, 28, 29, 30, 31, 32, 33, 34, 35, 36, 37, 38, 39, 40] (by decide +kernel) (by decide +kernel)
set_option maxRecDepth 20000 in
theorem gX4_init_X4_layRuns : GoodIn wsX4_init (wsV RX4 45 RX4 yX4_layRuns wsX4_layRuns) := goodIn_app (goodIn_of _ (by decide +kernel)) ggX4_init_X4_layRuns
theorem dX4_init_0 : decode cX4_init 0 = .ok (.aload_n 0, 1) := by decide +kernel
theorem dX4_init_1 : decode cX4_init 1 = .ok (.invokespecial 1, 3) := by decide +kernel
theorem dX4_init_4 : decode cX4_init 4 = .ok (.aload_n 0, 1) := by decide +kernel
theorem dX4_init_5 : decode cX4_init 5 = .ok (.iconst 3, 1) := by decide +kernel
theorem dX4_init_6 : decode cX4_init 6 = .ok (.putfield 7, 3) := by decide +kernel
theorem dX4_init_9 : decode cX4_init 9 = .ok (.aload_n 0, 1) := by decide +kernel
theorem dX4_init_10 : decode cX4_init 10 = .ok (.bipush 16, 2) := by decide +kernel
theorem dX4_init_12 : decode cX4_init 12 = .ok (.newarray .boolean, 2) := by decide +kernel
theorem dX4_init_14 : decode cX4_init 14 = .ok (.putfield 13, 3) := by decide +kernel
theorem dX4_init_17 : decode cX4_init 17 = .ok (.aload_n 0, 1) := by decide +kernel
theorem dX4_init_18 : decode cX4_init 18 = .ok (.bipush 16, 2) := by decide +kernel
theorem dX4_init_20 : decode cX4_init 20 = .ok (.newarray .int, 2) := by decide +kernel
theorem dX4_init_22 : decode cX4_init 22 = .ok (.putfield 17, 3) := by decide +kernel
theorem dX4_init_25 : decode cX4_init 25 = .ok (.aload_n 0, 1) := by decide +kernel
theorem dX4_init_26 : decode cX4_init 26 = .ok (.bipush 8, 2) := by decide +kernel
theorem dX4_init_28 : decode cX4_init 28 = .ok (.newarray .int, 2) := by decide +kernel
theorem dX4_init_30 : decode cX4_init 30 = .ok (.putfield 21, 3) := by decide +kernel
theorem dX4_init_33 : decode cX4_init 33 = .ok (.aload_n 0, 1) := by decide +kernel
theorem dX4_init_34 : decode cX4_init 34 = .ok (.bipush 8, 2) := by decide +kernel
theorem dX4_init_36 : decode cX4_init 36 = .ok (.newarray .int, 2) := by decide +kernel
theorem dX4_init_38 : decode cX4_init 38 = .ok (.putfield 24, 3) := by decide +kernel
theorem dX4_init_41 : decode cX4_init 41 = .ok (.aload_n 0, 1) := by decide +kernel
theorem dX4_init_42 : decode cX4_init 42 = .ok (.bipush 8, 2) := by decide +kernel
theorem dX4_init_44 : decode cX4_init 44 = .ok (.newarray .int, 2) := by decide +kernel
theorem dX4_init_46 : decode cX4_init 46 = .ok (.putfield 27, 3) := by decide +kernel
theorem dX4_init_49 : decode cX4_init 49 = .ok (.aload_n 0, 1) := by decide +kernel
theorem dX4_init_50 : decode cX4_init 50 = .ok (.bipush 8, 2) := by decide +kernel
theorem dX4_init_52 : decode cX4_init 52 = .ok (.newarray .int, 2) := by decide +kernel
theorem dX4_init_54 : decode cX4_init 54 = .ok (.putfield 30, 3) := by decide +kernel
theorem dX4_init_57 : decode cX4_init 57 = .ok (.aload_n 0, 1) := by decide +kernel
theorem dX4_init_58 : decode cX4_init 58 = .ok (.bipush 16, 2) := by decide +kernel
theorem dX4_init_60 : decode cX4_init 60 = .ok (.newarray .int, 2) := by decide +kernel
theorem dX4_init_62 : decode cX4_init 62 = .ok (.putfield 33, 3) := by decide +kernel
theorem dX4_init_65 : decode cX4_init 65 = .ok (.aload_n 0, 1) := by decide +kernel
theorem dX4_init_66 : decode cX4_init 66 = .ok (.bipush 16, 2) := by decide +kernel
theorem dX4_init_68 : decode cX4_init 68 = .ok (.newarray .int, 2) := by decide +kernel
theorem dX4_init_70 : decode cX4_init 70 = .ok (.putfield 36, 3) := by decide +kernel
theorem dX4_init_73 : decode cX4_init 73 = .ok (.aload_n 0, 1) := by decide +kernel
theorem dX4_init_74 : decode cX4_init 74 = .ok (.bipush 16, 2) := by decide +kernel
theorem dX4_init_76 : decode cX4_init 76 = .ok (.newarray .int, 2) := by decide +kernel
theorem dX4_init_78 : decode cX4_init 78 = .ok (.putfield 39, 3) := by decide +kernel
theorem dX4_init_81 : decode cX4_init 81 = .ok (.aload_n 0, 1) := by decide +kernel
theorem dX4_init_82 : decode cX4_init 82 = .ok (.bipush 16, 2) := by decide +kernel
theorem dX4_init_84 : decode cX4_init 84 = .ok (.newarray .int, 2) := by decide +kernel
theorem dX4_init_86 : decode cX4_init 86 = .ok (.putfield 42, 3) := by decide +kernel
theorem dX4_init_89 : decode cX4_init 89 = .ok (.aload_n 0, 1) := by decide +kernel
theorem dX4_init_90 : decode cX4_init 90 = .ok (.invokevirtual 45, 3) := by decide +kernel
theorem dX4_init_93 : decode cX4_init 93 = .ok (.return_, 1) := by decide +kernel
theorem dX4_thrown_0 : decode cX4_thrown 0 = .ok (.aload_n 0, 1) := by decide +kernel
theorem dX4_thrown_1 : decode cX4_thrown 1 = .ok (.getfield 48, 3) := by decide +kernel
theorem dX4_thrown_4 : decode cX4_thrown 4 = .ok (.ireturn, 1) := by decide +kernel
theorem dX4_goesWell_0 : decode cX4_goesWell 0 = .ok (.aload_n 0, 1) := by decide +kernel
theorem dX4_goesWell_1 : decode cX4_goesWell 1 = .ok (.iload_n 1, 1) := by decide +kernel
theorem dX4_goesWell_2 : decode cX4_goesWell 2 = .ok (.putfield 48, 3) := by decide +kernel
theorem dX4_goesWell_5 : decode cX4_goesWell 5 = .ok (.iload_n 1, 1) := by decide +kernel
theorem dX4_goesWell_6 : decode cX4_goesWell 6 = .ok (.ifCond .ne 7, 3) := by decide +kernel
theorem dX4_goesWell_9 : decode cX4_goesWell 9 = .ok (.iconst 1, 1) := by decide +kernel
theorem dX4_goesWell_10 : decode cX4_goesWell 10 = .ok (.goto 4, 3) := by decide +kernel
theorem dX4_goesWell_13 : decode cX4_goesWell 13 = .ok (.iconst 0, 1) := by decide +kernel
theorem dX4_goesWell_14 : decode cX4_goesWell 14 = .ok (.ireturn, 1) := by decide +kernel
theorem dX4_in_0 : decode cX4_in 0 = .ok (.iload_n 0, 1) := by decide +kernel
theorem dX4_in_1 : decode cX4_in 1 = .ok (.iload_n 1, 1) := by decide +kernel
theorem dX4_in_2 : decode cX4_in 2 = .ok (.if_icmp .lt 12, 3) := by decide +kernel
theorem dX4_in_5 : decode cX4_in 5 = .ok (.iload_n 0, 1) := by decide +kernel
theorem dX4_in_6 : decode cX4_in 6 = .ok (.iload_n 2, 1) := by decide +kernel
theorem dX4_in_7 : decode cX4_in 7 = .ok (.if_icmp .gt 7, 3) := by decide +kernel
theorem dX4_in_10 : decode cX4_in 10 = .ok (.iconst 1, 1) := by decide +kernel
theorem dX4_in_11 : decode cX4_in 11 = .ok (.goto 4, 3) := by decide +kernel
theorem dX4_in_14 : decode cX4_in 14 = .ok (.iconst 0, 1) := by decide +kernel
theorem dX4_in_15 : decode cX4_in 15 = .ok (.ireturn, 1) := by decide +kernel
set_option maxRecDepth 20000 in
theorem ggX4_isCell_X4_in : GoodIn wsX4_isCell wsX4_in := goodIn_r _ [5] (by decide +kernel) (by decide +kernel)
set_option maxRecDepth 20000 in
theorem gX4_isCell_X4_in : GoodIn wsX4_isCell (va_wsS RX4 51 yX4_in wsX4_in) := goodIn_app (goodIn_of _ (by decide +kernel)) ggX4_isCell_X4_in
theorem dX4_isCell_0 : decode cX4_isCell 0 = .ok (.iload_n 1, 1) := by decide +kernel
theorem dX4_isCell_1 : decode cX4_isCell 1 = .ok (.iconst 0, 1) := by decide +kernel
theorem dX4_isCell_2 : decode cX4_isCell 2 = .ok (.bipush 15, 2) := by decide +kernel
theorem dX4_isCell_4 : decode cX4_isCell 4 = .ok (.invokestatic 51, 3) := by decide +kernel
theorem dX4_isCell_7 : decode cX4_isCell 7 = .ok (.ifCond .eq 27, 3) := by decide +kernel
theorem dX4_isCell_10 : decode cX4_isCell 10 = .ok (.iload_n 1, 1) := by decide +kernel
theorem dX4_isCell_11 : decode cX4_isCell 11 = .ok (.iconst 4, 1) := by decide +kernel
theorem dX4_isCell_12 : decode cX4_isCell 12 = .ok (.idiv, 1) := by decide +kernel
theorem dX4_isCell_13 : decode cX4_isCell 13 = .ok (.aload_n 0, 1) := by decide +kernel
theorem dX4_isCell_14 : decode cX4_isCell 14 = .ok (.getfield 7, 3) := by decide +kernel
theorem dX4_isCell_17 : decode cX4_isCell 17 = .ok (.if_icmp .ge 17, 3) := by decide +kernel
theorem dX4_isCell_20 : decode cX4_isCell 20 = .ok (.iload_n 1, 1) := by decide +kernel
theorem dX4_isCell_21 : decode cX4_isCell 21 = .ok (.iconst 4, 1) := by decide +kernel
theorem dX4_isCell_22 : decode cX4_isCell 22 = .ok (.irem, 1) := by decide +kernel
theorem dX4_isCell_23 : decode cX4_isCell 23 = .ok (.aload_n 0, 1) := by decide +kernel
theorem dX4_isCell_24 : decode cX4_isCell 24 = .ok (.getfield 7, 3) := by decide +kernel
theorem dX4_isCell_27 : decode cX4_isCell 27 = .ok (.if_icmp .ge 7, 3) := by decide +kernel
theorem dX4_isCell_30 : decode cX4_isCell 30 = .ok (.iconst 1, 1) := by decide +kernel
theorem dX4_isCell_31 : decode cX4_isCell 31 = .ok (.goto 4, 3) := by decide +kernel
theorem dX4_isCell_34 : decode cX4_isCell 34 = .ok (.iconst 0, 1) := by decide +kernel
theorem dX4_isCell_35 : decode cX4_isCell 35 = .ok (.ireturn, 1) := by decide +kernel
set_option maxRecDepth 20000 in
theorem ggX4_isOpen_X4_isCell : GoodIn wsX4_isOpen wsX4_isCell := goodIn_r _ [6, 7, 8, 9, 5, 10, 11, 12, 13, 14, 15, 16, 17, 18, 19, 20, 21, 22, 23, 24, 25, 26, 27, 28] (by decide +kernel) (by decide +kernel)
set_option maxRecDepth 20000 in
theorem gX4_isOpen_X4_isCell : GoodIn wsX4_isOpen (wsV RX4 55 RX4 yX4_isCell wsX4_isCell) := goodIn_app (goodIn_of _ (by decide +kernel)) ggX4_isOpen_X4_isCell
theorem dX4_isOpen_0 : decode cX4_isOpen 0 = .ok (.aload_n 0, 1) := by decide +kernel
theorem dX4_isOpen_1 : decode cX4_isOpen 1 = .ok (.iload_n 1, 1) := by decide +kernel
theorem dX4_isOpen_2 : decode cX4_isOpen 2 = .ok (.invokevirtual 55, 3) := by decide +kernel
theorem dX4_isOpen_5 : decode cX4_isOpen 5 = .ok (.ifCond .eq 16, 3) := by decide +kernel
theorem dX4_isOpen_8 : decode cX4_isOpen 8 = .ok (.aload_n 0, 1) := by decide +kernel
theorem dX4_isOpen_9 : decode cX4_isOpen 9 = .ok (.getfield 13, 3) := by decide +kernel
theorem dX4_isOpen_12 : decode cX4_isOpen 12 = .ok (.iload_n 1, 1) := by decide +kernel
theorem dX4_isOpen_13 : decode cX4_isOpen 13 = .ok (.baload, 1) := by decide +kernel
theorem dX4_isOpen_14 : decode cX4_isOpen 14 = .ok (.ifCond .ne 7, 3) := by decide +kernel
theorem dX4_isOpen_17 : decode cX4_isOpen 17 = .ok (.iconst 1, 1) := by decide +kernel
theorem dX4_isOpen_18 : decode cX4_isOpen 18 = .ok (.goto 4, 3) := by decide +kernel
theorem dX4_isOpen_21 : decode cX4_isOpen 21 = .ok (.iconst 0, 1) := by decide +kernel
theorem dX4_isOpen_22 : decode cX4_isOpen 22 = .ok (.ireturn, 1) := by decide +kernel
set_option maxRecDepth 20000 in
theorem ggX4_isRun_X4_in : GoodIn wsX4_isRun wsX4_in := goodIn_r _ [5] (by decide +kernel) (by decide +kernel)
set_option maxRecDepth 20000 in
theorem gX4_isRun_X4_in : GoodIn wsX4_isRun (va_wsS RX4 51 yX4_in wsX4_in) := goodIn_app (goodIn_of _ (by decide +kernel)) ggX4_isRun_X4_in
theorem dX4_isRun_0 : decode cX4_isRun 0 = .ok (.iload_n 1, 1) := by decide +kernel
theorem dX4_isRun_1 : decode cX4_isRun 1 = .ok (.iconst 0, 1) := by decide +kernel
theorem dX4_isRun_2 : decode cX4_isRun 2 = .ok (.aload_n 0, 1) := by decide +kernel
theorem dX4_isRun_3 : decode cX4_isRun 3 = .ok (.getfield 59, 3) := by decide +kernel
theorem dX4_isRun_6 : decode cX4_isRun 6 = .ok (.iconst 1, 1) := by decide +kernel
theorem dX4_isRun_7 : decode cX4_isRun 7 = .ok (.isub, 1) := by decide +kernel
theorem dX4_isRun_8 : decode cX4_isRun 8 = .ok (.invokestatic 51, 3) := by decide +kernel
theorem dX4_isRun_11 : decode cX4_isRun 11 = .ok (.ireturn, 1) := by decide +kernel
theorem dX4_layRuns_0 : decode cX4_layRuns 0 = .ok (.aload_n 0, 1) := by decide +kernel
theorem dX4_layRuns_1 : decode cX4_layRuns 1 = .ok (.iconst 0, 1) := by decide +kernel
theorem dX4_layRuns_2 : decode cX4_layRuns 2 = .ok (.putfield 59, 3) := by decide +kernel
theorem dX4_layRuns_5 : decode cX4_layRuns 5 = .ok (.iconst 0, 1) := by decide +kernel
theorem dX4_layRuns_6 : decode cX4_layRuns 6 = .ok (.istore_n 1, 1) := by decide +kernel
theorem dX4_layRuns_7 : decode cX4_layRuns 7 = .ok (.iload_n 1, 1) := by decide +kernel
theorem dX4_layRuns_8 : decode cX4_layRuns 8 = .ok (.iconst 2, 1) := by decide +kernel
theorem dX4_layRuns_9 : decode cX4_layRuns 9 = .ok (.aload_n 0, 1) := by decide +kernel
theorem dX4_layRuns_10 : decode cX4_layRuns 10 = .ok (.getfield 7, 3) := by decide +kernel
theorem dX4_layRuns_13 : decode cX4_layRuns 13 = .ok (.imul, 1) := by decide +kernel
theorem dX4_layRuns_14 : decode cX4_layRuns 14 = .ok (.if_icmp .ge 180, 3) := by decide +kernel
theorem dX4_layRuns_17 : decode cX4_layRuns 17 = .ok (.iload_n 1, 1) := by decide +kernel
theorem dX4_layRuns_18 : decode cX4_layRuns 18 = .ok (.aload_n 0, 1) := by decide +kernel
theorem dX4_layRuns_19 : decode cX4_layRuns 19 = .ok (.getfield 7, 3) := by decide +kernel
theorem dX4_layRuns_22 : decode cX4_layRuns 22 = .ok (.if_icmp .ge 7, 3) := by decide +kernel
theorem dX4_layRuns_25 : decode cX4_layRuns 25 = .ok (.iconst 1, 1) := by decide +kernel
theorem dX4_layRuns_26 : decode cX4_layRuns 26 = .ok (.goto 4, 3) := by decide +kernel
theorem dX4_layRuns_29 : decode cX4_layRuns 29 = .ok (.iconst 4, 1) := by decide +kernel
theorem dX4_layRuns_30 : decode cX4_layRuns 30 = .ok (.istore_n 2, 1) := by decide +kernel
theorem dX4_layRuns_31 : decode cX4_layRuns 31 = .ok (.iload_n 1, 1) := by decide +kernel
theorem dX4_layRuns_32 : decode cX4_layRuns 32 = .ok (.aload_n 0, 1) := by decide +kernel
theorem dX4_layRuns_33 : decode cX4_layRuns 33 = .ok (.getfield 7, 3) := by decide +kernel
theorem dX4_layRuns_36 : decode cX4_layRuns 36 = .ok (.if_icmp .ge 9, 3) := by decide +kernel
theorem dX4_layRuns_39 : decode cX4_layRuns 39 = .ok (.iconst 4, 1) := by decide +kernel
theorem dX4_layRuns_40 : decode cX4_layRuns 40 = .ok (.iload_n 1, 1) := by decide +kernel
theorem dX4_layRuns_41 : decode cX4_layRuns 41 = .ok (.imul, 1) := by decide +kernel
theorem dX4_layRuns_42 : decode cX4_layRuns 42 = .ok (.goto 9, 3) := by decide +kernel
theorem dX4_layRuns_45 : decode cX4_layRuns 45 = .ok (.iload_n 1, 1) := by decide +kernel
theorem dX4_layRuns_46 : decode cX4_layRuns 46 = .ok (.aload_n 0, 1) := by decide +kernel
theorem dX4_layRuns_47 : decode cX4_layRuns 47 = .ok (.getfield 7, 3) := by decide +kernel
theorem dX4_layRuns_50 : decode cX4_layRuns 50 = .ok (.isub, 1) := by decide +kernel
theorem dX4_layRuns_51 : decode cX4_layRuns 51 = .ok (.istore_n 3, 1) := by decide +kernel
theorem dX4_layRuns_52 : decode cX4_layRuns 52 = .ok (.iconst 0, 1) := by decide +kernel
theorem dX4_layRuns_53 : decode cX4_layRuns 53 = .ok (.istore 4, 2) := by decide +kernel
theorem dX4_layRuns_55 : decode cX4_layRuns 55 = .ok (.iconst 0, 1) := by decide +kernel
theorem dX4_layRuns_56 : decode cX4_layRuns 56 = .ok (.istore 5, 2) := by decide +kernel
theorem dX4_layRuns_58 : decode cX4_layRuns 58 = .ok (.iload 5, 2) := by decide +kernel
theorem dX4_layRuns_60 : decode cX4_layRuns 60 = .ok (.aload_n 0, 1) := by decide +kernel
theorem dX4_layRuns_61 : decode cX4_layRuns 61 = .ok (.getfield 7, 3) := by decide +kernel
theorem dX4_layRuns_64 : decode cX4_layRuns 64 = .ok (.if_icmp .gt 124, 3) := by decide +kernel
theorem dX4_layRuns_67 : decode cX4_layRuns 67 = .ok (.iload 5, 2) := by decide +kernel
theorem dX4_layRuns_69 : decode cX4_layRuns 69 = .ok (.aload_n 0, 1) := by decide +kernel
theorem dX4_layRuns_70 : decode cX4_layRuns 70 = .ok (.getfield 7, 3) := by decide +kernel
theorem dX4_layRuns_73 : decode cX4_layRuns 73 = .ok (.if_icmp .ge 21, 3) := by decide +kernel
theorem dX4_layRuns_76 : decode cX4_layRuns 76 = .ok (.aload_n 0, 1) := by decide +kernel
theorem dX4_layRuns_77 : decode cX4_layRuns 77 = .ok (.getfield 13, 3) := by decide +kernel
theorem dX4_layRuns_80 : decode cX4_layRuns 80 = .ok (.iload_n 3, 1) := by decide +kernel
theorem dX4_layRuns_81 : decode cX4_layRuns 81 = .ok (.iload_n 2, 1) := by decide +kernel
theorem dX4_layRuns_82 : decode cX4_layRuns 82 = .ok (.iload 5, 2) := by decide +kernel
theorem dX4_layRuns_84 : decode cX4_layRuns 84 = .ok (.imul, 1) := by decide +kernel
theorem dX4_layRuns_85 : decode cX4_layRuns 85 = .ok (.iadd, 1) := by decide +kernel
theorem dX4_layRuns_86 : decode cX4_layRuns 86 = .ok (.baload, 1) := by decide +kernel
theorem dX4_layRuns_87 : decode cX4_layRuns 87 = .ok (.ifCond .ne 7, 3) := by decide +kernel
theorem dX4_layRuns_90 : decode cX4_layRuns 90 = .ok (.iconst 1, 1) := by decide +kernel
theorem dX4_layRuns_91 : decode cX4_layRuns 91 = .ok (.goto 4, 3) := by decide +kernel
theorem dX4_layRuns_94 : decode cX4_layRuns 94 = .ok (.iconst 0, 1) := by decide +kernel
theorem dX4_layRuns_95 : decode cX4_layRuns 95 = .ok (.istore 6, 2) := by decide +kernel
theorem dX4_layRuns_97 : decode cX4_layRuns 97 = .ok (.iload 6, 2) := by decide +kernel
theorem dX4_layRuns_99 : decode cX4_layRuns 99 = .ok (.ifCond .ne 68, 3) := by decide +kernel
theorem dX4_layRuns_102 : decode cX4_layRuns 102 = .ok (.iload 4, 2) := by decide +kernel
theorem dX4_layRuns_104 : decode cX4_layRuns 104 = .ok (.iconst 1, 1) := by decide +kernel
theorem dX4_layRuns_105 : decode cX4_layRuns 105 = .ok (.if_icmp .le 62, 3) := by decide +kernel
theorem dX4_layRuns_108 : decode cX4_layRuns 108 = .ok (.aload_n 0, 1) := by decide +kernel
theorem dX4_layRuns_109 : decode cX4_layRuns 109 = .ok (.getfield 21, 3) := by decide +kernel
theorem dX4_layRuns_112 : decode cX4_layRuns 112 = .ok (.aload_n 0, 1) := by decide +kernel
theorem dX4_layRuns_113 : decode cX4_layRuns 113 = .ok (.getfield 59, 3) := by decide +kernel
theorem dX4_layRuns_116 : decode cX4_layRuns 116 = .ok (.iload_n 3, 1) := by decide +kernel
theorem dX4_layRuns_117 : decode cX4_layRuns 117 = .ok (.iload_n 2, 1) := by decide +kernel
theorem dX4_layRuns_118 : decode cX4_layRuns 118 = .ok (.iload 5, 2) := by decide +kernel
theorem dX4_layRuns_120 : decode cX4_layRuns 120 = .ok (.iload 4, 2) := by decide +kernel
theorem dX4_layRuns_122 : decode cX4_layRuns 122 = .ok (.isub, 1) := by decide +kernel
theorem dX4_layRuns_123 : decode cX4_layRuns 123 = .ok (.imul, 1) := by decide +kernel
theorem dX4_layRuns_124 : decode cX4_layRuns 124 = .ok (.iadd, 1) := by decide +kernel
theorem dX4_layRuns_125 : decode cX4_layRuns 125 = .ok (.iastore, 1) := by decide +kernel
theorem dX4_layRuns_126 : decode cX4_layRuns 126 = .ok (.aload_n 0, 1) := by decide +kernel
theorem dX4_layRuns_127 : decode cX4_layRuns 127 = .ok (.getfield 24, 3) := by decide +kernel
theorem dX4_layRuns_130 : decode cX4_layRuns 130 = .ok (.aload_n 0, 1) := by decide +kernel
theorem dX4_layRuns_131 : decode cX4_layRuns 131 = .ok (.getfield 59, 3) := by decide +kernel
theorem dX4_layRuns_134 : decode cX4_layRuns 134 = .ok (.iload 4, 2) := by decide +kernel
theorem dX4_layRuns_136 : decode cX4_layRuns 136 = .ok (.iastore, 1) := by decide +kernel
theorem dX4_layRuns_137 : decode cX4_layRuns 137 = .ok (.aload_n 0, 1) := by decide +kernel
theorem dX4_layRuns_138 : decode cX4_layRuns 138 = .ok (.getfield 27, 3) := by decide +kernel
theorem dX4_layRuns_141 : decode cX4_layRuns 141 = .ok (.aload_n 0, 1) := by decide +kernel
theorem dX4_layRuns_142 : decode cX4_layRuns 142 = .ok (.getfield 59, 3) := by decide +kernel
theorem dX4_layRuns_145 : decode cX4_layRuns 145 = .ok (.iload_n 2, 1) := by decide +kernel
theorem dX4_layRuns_146 : decode cX4_layRuns 146 = .ok (.iastore, 1) := by decide +kernel
theorem dX4_layRuns_147 : decode cX4_layRuns 147 = .ok (.aload_n 0, 1) := by decide +kernel
theorem dX4_layRuns_148 : decode cX4_layRuns 148 = .ok (.getfield 30, 3) := by decide +kernel
theorem dX4_layRuns_151 : decode cX4_layRuns 151 = .ok (.aload_n 0, 1) := by decide +kernel
theorem dX4_layRuns_152 : decode cX4_layRuns 152 = .ok (.getfield 59, 3) := by decide +kernel
theorem dX4_layRuns_155 : decode cX4_layRuns 155 = .ok (.iconst 0, 1) := by decide +kernel
theorem dX4_layRuns_156 : decode cX4_layRuns 156 = .ok (.iastore, 1) := by decide +kernel
theorem dX4_layRuns_157 : decode cX4_layRuns 157 = .ok (.aload_n 0, 1) := by decide +kernel
theorem dX4_layRuns_158 : decode cX4_layRuns 158 = .ok (.dup, 1) := by decide +kernel
theorem dX4_layRuns_159 : decode cX4_layRuns 159 = .ok (.getfield 59, 3) := by decide +kernel
theorem dX4_layRuns_162 : decode cX4_layRuns 162 = .ok (.iconst 1, 1) := by decide +kernel
theorem dX4_layRuns_163 : decode cX4_layRuns 163 = .ok (.iadd, 1) := by decide +kernel
theorem dX4_layRuns_164 : decode cX4_layRuns 164 = .ok (.putfield 59, 3) := by decide +kernel
theorem dX4_layRuns_167 : decode cX4_layRuns 167 = .ok (.iload 6, 2) := by decide +kernel
theorem dX4_layRuns_169 : decode cX4_layRuns 169 = .ok (.ifCond .eq 10, 3) := by decide +kernel
theorem dX4_layRuns_172 : decode cX4_layRuns 172 = .ok (.iload 4, 2) := by decide +kernel
theorem dX4_layRuns_174 : decode cX4_layRuns 174 = .ok (.iconst 1, 1) := by decide +kernel
theorem dX4_layRuns_175 : decode cX4_layRuns 175 = .ok (.iadd, 1) := by decide +kernel
theorem dX4_layRuns_176 : decode cX4_layRuns 176 = .ok (.goto 4, 3) := by decide +kernel
theorem dX4_layRuns_179 : decode cX4_layRuns 179 = .ok (.iconst 0, 1) := by decide +kernel
theorem dX4_layRuns_180 : decode cX4_layRuns 180 = .ok (.istore 4, 2) := by decide +kernel
theorem dX4_layRuns_182 : decode cX4_layRuns 182 = .ok (.iinc 5 1, 3) := by decide +kernel
theorem dX4_layRuns_185 : decode cX4_layRuns 185 = .ok (.goto (-127), 3) := by decide +kernel
theorem dX4_layRuns_188 : decode cX4_layRuns 188 = .ok (.iinc 1 1, 3) := by decide +kernel
theorem dX4_layRuns_191 : decode cX4_layRuns 191 = .ok (.goto (-184), 3) := by decide +kernel
theorem dX4_layRuns_194 : decode cX4_layRuns 194 = .ok (.return_, 1) := by decide +kernel
set_option maxRecDepth 20000 in
theorem ggX4_begin_X4_in : GoodIn wsX4_begin wsX4_in := goodIn_r _ [7] (by decide +kernel) (by decide +kernel)
set_option maxRecDepth 20000 in
theorem gX4_begin_X4_in : GoodIn wsX4_begin (va_wsS RX4 51 yX4_in wsX4_in) := goodIn_app (goodIn_of _ (by decide +kernel)) ggX4_begin_X4_in
set_option maxRecDepth 20000 in
theorem ggX4_begin_X4_goesWell : GoodIn wsX4_begin wsX4_goesWell := goodIn_r _ [11, 12, 22, 23, 24, 25, 26, 27, 28, 29, 30, 31, 32, 33, 34, 35, 36, 37, 38, 39] (by decide +kernel) (by decide +kernel)
set_option maxRecDepth 20000 in
theorem gX4_begin_X4_goesWell : GoodIn wsX4_begin (wsV RX4 62 RX4 yX4_goesWell wsX4_goesWell) := goodIn_app (goodIn_of _ (by decide +kernel)) ggX4_begin_X4_goesWell
set_option maxRecDepth 20000 in
theorem ggX4_begin_X4_layRuns : GoodIn wsX4_begin wsX4_layRuns := goodIn_r _ [16, 17, 1, 2, 18, 19, 20, 21, 22, 23, 24, 25, 26, 27, 28, 29, 30, 31, 32, 33, 34, 35, 36, 37, 38, 39] (by decide +kernel) (by decide +kernel)
set_option maxRecDepth 20000 in
theorem gX4_begin_X4_layRuns : GoodIn wsX4_begin (wsV RX4 45 RX4 yX4_layRuns wsX4_layRuns) := goodIn_app (goodIn_of _ (by decide +kernel)) ggX4_begin_X4_layRuns
theorem dX4_begin_0 : decode cX4_begin 0 = .ok (.aload_n 0, 1) := by decide +kernel
theorem dX4_begin_1 : decode cX4_begin 1 = .ok (.iload_n 1, 1) := by decide +kernel
theorem dX4_begin_2 : decode cX4_begin 2 = .ok (.iconst 2, 1) := by decide +kernel
theorem dX4_begin_3 : decode cX4_begin 3 = .ok (.iconst 4, 1) := by decide +kernel
theorem dX4_begin_4 : decode cX4_begin 4 = .ok (.invokestatic 51, 3) := by decide +kernel
theorem dX4_begin_7 : decode cX4_begin 7 = .ok (.ifCond .eq 7, 3) := by decide +kernel
theorem dX4_begin_10 : decode cX4_begin 10 = .ok (.iconst 0, 1) := by decide +kernel
theorem dX4_begin_11 : decode cX4_begin 11 = .ok (.goto 4, 3) := by decide +kernel
theorem dX4_begin_14 : decode cX4_begin 14 = .ok (.iconst 1, 1) := by decide +kernel
theorem dX4_begin_15 : decode cX4_begin 15 = .ok (.invokevirtual 62, 3) := by decide +kernel
theorem dX4_begin_18 : decode cX4_begin 18 = .ok (.ifCond .eq 40, 3) := by decide +kernel
theorem dX4_begin_21 : decode cX4_begin 21 = .ok (.aload_n 0, 1) := by decide +kernel
theorem dX4_begin_22 : decode cX4_begin 22 = .ok (.iload_n 1, 1) := by decide +kernel
theorem dX4_begin_23 : decode cX4_begin 23 = .ok (.putfield 7, 3) := by decide +kernel
theorem dX4_begin_26 : decode cX4_begin 26 = .ok (.iconst 0, 1) := by decide +kernel
theorem dX4_begin_27 : decode cX4_begin 27 = .ok (.istore_n 2, 1) := by decide +kernel
theorem dX4_begin_28 : decode cX4_begin 28 = .ok (.iload_n 2, 1) := by decide +kernel
theorem dX4_begin_29 : decode cX4_begin 29 = .ok (.bipush 16, 2) := by decide +kernel
theorem dX4_begin_31 : decode cX4_begin 31 = .ok (.if_icmp .ge 23, 3) := by decide +kernel
theorem dX4_begin_34 : decode cX4_begin 34 = .ok (.aload_n 0, 1) := by decide +kernel
theorem dX4_begin_35 : decode cX4_begin 35 = .ok (.getfield 13, 3) := by decide +kernel
theorem dX4_begin_38 : decode cX4_begin 38 = .ok (.iload_n 2, 1) := by decide +kernel
theorem dX4_begin_39 : decode cX4_begin 39 = .ok (.iconst 0, 1) := by decide +kernel
theorem dX4_begin_40 : decode cX4_begin 40 = .ok (.bastore, 1) := by decide +kernel
theorem dX4_begin_41 : decode cX4_begin 41 = .ok (.aload_n 0, 1) := by decide +kernel
theorem dX4_begin_42 : decode cX4_begin 42 = .ok (.getfield 17, 3) := by decide +kernel
theorem dX4_begin_45 : decode cX4_begin 45 = .ok (.iload_n 2, 1) := by decide +kernel
theorem dX4_begin_46 : decode cX4_begin 46 = .ok (.iconst 0, 1) := by decide +kernel
theorem dX4_begin_47 : decode cX4_begin 47 = .ok (.iastore, 1) := by decide +kernel
theorem dX4_begin_48 : decode cX4_begin 48 = .ok (.iinc 2 1, 3) := by decide +kernel
theorem dX4_begin_51 : decode cX4_begin 51 = .ok (.goto (-23), 3) := by decide +kernel
theorem dX4_begin_54 : decode cX4_begin 54 = .ok (.aload_n 0, 1) := by decide +kernel
theorem dX4_begin_55 : decode cX4_begin 55 = .ok (.invokevirtual 45, 3) := by decide +kernel
theorem dX4_begin_58 : decode cX4_begin 58 = .ok (.return_, 1) := by decide +kernel
theorem dX4_turn_0 : decode cX4_turn 0 = .ok (.aload_n 0, 1) := by decide +kernel
theorem dX4_turn_1 : decode cX4_turn 1 = .ok (.getfield 13, 3) := by decide +kernel
theorem dX4_turn_4 : decode cX4_turn 4 = .ok (.iload_n 1, 1) := by decide +kernel
theorem dX4_turn_5 : decode cX4_turn 5 = .ok (.aload_n 0, 1) := by decide +kernel
theorem dX4_turn_6 : decode cX4_turn 6 = .ok (.getfield 13, 3) := by decide +kernel
theorem dX4_turn_9 : decode cX4_turn 9 = .ok (.iload_n 1, 1) := by decide +kernel
theorem dX4_turn_10 : decode cX4_turn 10 = .ok (.baload, 1) := by decide +kernel
theorem dX4_turn_11 : decode cX4_turn 11 = .ok (.ifCond .ne 7, 3) := by decide +kernel
theorem dX4_turn_14 : decode cX4_turn 14 = .ok (.iconst 1, 1) := by decide +kernel
theorem dX4_turn_15 : decode cX4_turn 15 = .ok (.goto 4, 3) := by decide +kernel
theorem dX4_turn_18 : decode cX4_turn 18 = .ok (.iconst 0, 1) := by decide +kernel
theorem dX4_turn_19 : decode cX4_turn 19 = .ok (.bastore, 1) := by decide +kernel
theorem dX4_turn_20 : decode cX4_turn 20 = .ok (.aload_n 0, 1) := by decide +kernel
theorem dX4_turn_21 : decode cX4_turn 21 = .ok (.getfield 17, 3) := by decide +kernel
theorem dX4_turn_24 : decode cX4_turn 24 = .ok (.iload_n 1, 1) := by decide +kernel
theorem dX4_turn_25 : decode cX4_turn 25 = .ok (.iconst 0, 1) := by decide +kernel
theorem dX4_turn_26 : decode cX4_turn 26 = .ok (.iastore, 1) := by decide +kernel
theorem dX4_turn_27 : decode cX4_turn 27 = .ok (.return_, 1) := by decide +kernel
set_option maxRecDepth 20000 in
theorem ggX4_bar_X4_isCell : GoodIn wsX4_bar wsX4_isCell := goodIn_r _ [6, 7, 8, 9, 5, 10, 30, 31, 32, 33, 34, 35, 36, 37, 38, 39, 40, 41, 42, 43, 44, 45, 46, 47] (by decide +kernel) (by decide +kernel)
set_option maxRecDepth 20000 in
theorem gX4_bar_X4_isCell : GoodIn wsX4_bar (wsV RX4 55 RX4 yX4_isCell wsX4_isCell) := goodIn_app (goodIn_of _ (by decide +kernel)) ggX4_bar_X4_isCell
set_option maxRecDepth 20000 in
theorem ggX4_bar_X4_goesWell : GoodIn wsX4_bar wsX4_goesWell := goodIn_r _ [14, 15, 30, 31, 32, 33, 34, 35, 36, 37, 38, 39, 40, 41, 42, 43, 44, 45, 46, 47] (by decide +kernel) (by decide +kernel)
set_option maxRecDepth 20000 in
theorem gX4_bar_X4_goesWell : GoodIn wsX4_bar (wsV RX4 62 RX4 yX4_goesWell wsX4_goesWell) := goodIn_app (goodIn_of _ (by decide +kernel)) ggX4_bar_X4_goesWell
set_option maxRecDepth 20000 in
theorem ggX4_bar_X4_turn : GoodIn wsX4_bar wsX4_turn := goodIn_r _ [19, 1, 20, 30, 31, 32, 33, 34, 35, 36, 37, 38, 39, 40, 41, 42, 43, 44, 45, 46, 47] (by decide +kernel) (by decide +kernel)
set_option maxRecDepth 20000 in
theorem gX4_bar_X4_turn : GoodIn wsX4_bar (wsV RX4 65 RX4 yX4_turn wsX4_turn) := goodIn_app (goodIn_of _ (by decide +kernel)) ggX4_bar_X4_turn
set_option maxRecDepth 20000 in
theorem ggX4_bar_X4_layRuns : GoodIn wsX4_bar wsX4_layRuns := goodIn_r _ [24, 25, 7, 1, 26, 27, 28, 29, 30, 31, 32, 33, 34, 35, 36, 37, 38, 39, 40, 41, 42, 43, 44, 45, 46, 47] (by decide +kernel) (by decide +kernel)
set_option maxRecDepth 20000 in
theorem gX4_bar_X4_layRuns : GoodIn wsX4_bar (wsV RX4 45 RX4 yX4_layRuns wsX4_layRuns) := goodIn_app (goodIn_of _ (by decide +kernel)) ggX4_bar_X4_layRuns
theorem dX4_bar_0 : decode cX4_bar 0 = .ok (.aload_n 0, 1) := by decide +kernel
theorem dX4_bar_1 : decode cX4_bar 1 = .ok (.aload_n 0, 1) := by decide +kernel
theorem dX4_bar_2 : decode cX4_bar 2 = .ok (.iload_n 1, 1) := by decide +kernel
theorem dX4_bar_3 : decode cX4_bar 3 = .ok (.invokevirtual 55, 3) := by decide +kernel
theorem dX4_bar_6 : decode cX4_bar 6 = .ok (.ifCond .eq 7, 3) := by decide +kernel
theorem dX4_bar_9 : decode cX4_bar 9 = .ok (.iconst 0, 1) := by decide +kernel
theorem dX4_bar_10 : decode cX4_bar 10 = .ok (.goto 4, 3) := by decide +kernel
theorem dX4_bar_13 : decode cX4_bar 13 = .ok (.iconst 1, 1) := by decide +kernel
theorem dX4_bar_14 : decode cX4_bar 14 = .ok (.invokevirtual 62, 3) := by decide +kernel
theorem dX4_bar_17 : decode cX4_bar 17 = .ok (.ifCond .ne 5, 3) := by decide +kernel
theorem dX4_bar_20 : decode cX4_bar 20 = .ok (.iconst 0, 1) := by decide +kernel
theorem dX4_bar_21 : decode cX4_bar 21 = .ok (.ireturn, 1) := by decide +kernel
theorem dX4_bar_22 : decode cX4_bar 22 = .ok (.aload_n 0, 1) := by decide +kernel
theorem dX4_bar_23 : decode cX4_bar 23 = .ok (.iload_n 1, 1) := by decide +kernel
theorem dX4_bar_24 : decode cX4_bar 24 = .ok (.invokevirtual 65, 3) := by decide +kernel
theorem dX4_bar_27 : decode cX4_bar 27 = .ok (.aload_n 0, 1) := by decide +kernel
theorem dX4_bar_28 : decode cX4_bar 28 = .ok (.invokevirtual 45, 3) := by decide +kernel
theorem dX4_bar_31 : decode cX4_bar 31 = .ok (.aload_n 0, 1) := by decide +kernel
theorem dX4_bar_32 : decode cX4_bar 32 = .ok (.getfield 13, 3) := by decide +kernel
theorem dX4_bar_35 : decode cX4_bar 35 = .ok (.iload_n 1, 1) := by decide +kernel
theorem dX4_bar_36 : decode cX4_bar 36 = .ok (.baload, 1) := by decide +kernel
theorem dX4_bar_37 : decode cX4_bar 37 = .ok (.ireturn, 1) := by decide +kernel
set_option maxRecDepth 20000 in
theorem ggX4_countOpen_X4_isOpen : GoodIn wsX4_countOpen wsX4_isOpen := goodIn_r _ [5, 6, 7, 8, 9, 4, 10, 11, 12, 13, 14, 15, 16, 17, 18, 19, 20, 21, 22, 23, 24, 25, 26, 27, 28, 29, 30, 31, 32] (by decide +kernel) (by decide +kernel)
set_option maxRecDepth 20000 in
theorem gX4_countOpen_X4_isOpen : GoodIn wsX4_countOpen (wsV RX4 69 RX4 yX4_isOpen wsX4_isOpen) := goodIn_app (goodIn_of _ (by decide +kernel)) ggX4_countOpen_X4_isOpen
theorem dX4_countOpen_0 : decode cX4_countOpen 0 = .ok (.iconst 0, 1) := by decide +kernel
theorem dX4_countOpen_1 : decode cX4_countOpen 1 = .ok (.istore_n 1, 1) := by decide +kernel
theorem dX4_countOpen_2 : decode cX4_countOpen 2 = .ok (.iconst 0, 1) := by decide +kernel
theorem dX4_countOpen_3 : decode cX4_countOpen 3 = .ok (.istore_n 2, 1) := by decide +kernel
theorem dX4_countOpen_4 : decode cX4_countOpen 4 = .ok (.iload_n 2, 1) := by decide +kernel
theorem dX4_countOpen_5 : decode cX4_countOpen 5 = .ok (.bipush 16, 2) := by decide +kernel
theorem dX4_countOpen_7 : decode cX4_countOpen 7 = .ok (.if_icmp .ge 25, 3) := by decide +kernel
theorem dX4_countOpen_10 : decode cX4_countOpen 10 = .ok (.iload_n 1, 1) := by decide +kernel
theorem dX4_countOpen_11 : decode cX4_countOpen 11 = .ok (.aload_n 0, 1) := by decide +kernel
theorem dX4_countOpen_12 : decode cX4_countOpen 12 = .ok (.iload_n 2, 1) := by decide +kernel
theorem dX4_countOpen_13 : decode cX4_countOpen 13 = .ok (.invokevirtual 69, 3) := by decide +kernel
theorem dX4_countOpen_16 : decode cX4_countOpen 16 = .ok (.ifCond .eq 7, 3) := by decide +kernel
theorem dX4_countOpen_19 : decode cX4_countOpen 19 = .ok (.iconst 1, 1) := by decide +kernel
theorem dX4_countOpen_20 : decode cX4_countOpen 20 = .ok (.goto 4, 3) := by decide +kernel
theorem dX4_countOpen_23 : decode cX4_countOpen 23 = .ok (.iconst 0, 1) := by decide +kernel
theorem dX4_countOpen_24 : decode cX4_countOpen 24 = .ok (.iadd, 1) := by decide +kernel
theorem dX4_countOpen_25 : decode cX4_countOpen 25 = .ok (.istore_n 1, 1) := by decide +kernel
theorem dX4_countOpen_26 : decode cX4_countOpen 26 = .ok (.iinc 2 1, 3) := by decide +kernel
theorem dX4_countOpen_29 : decode cX4_countOpen 29 = .ok (.goto (-25), 3) := by decide +kernel
theorem dX4_countOpen_32 : decode cX4_countOpen 32 = .ok (.iload_n 1, 1) := by decide +kernel
theorem dX4_countOpen_33 : decode cX4_countOpen 33 = .ok (.ireturn, 1) := by decide +kernel
set_option maxRecDepth 20000 in
theorem ggX4_barBoth_X4_isCell : GoodIn wsX4_barBoth wsX4_isCell := goodIn_r _ [6, 1, 7, 8, 5, 9, 38, 39, 40, 41, 42, 43, 44, 45, 46, 47, 48, 49, 50, 51, 52, 53, 54, 55] (by decide +kernel) (by decide +kernel)
set_option maxRecDepth 20000 in
theorem gX4_barBoth_X4_isCell : GoodIn wsX4_barBoth (wsV RX4 55 RX4 yX4_isCell wsX4_isCell) := goodIn_app (goodIn_of _ (by decide +kernel)) ggX4_barBoth_X4_isCell
set_option maxRecDepth 20000 in
theorem ggX4_barBoth_X4_goesWell : GoodIn wsX4_barBoth wsX4_goesWell := goodIn_r _ [13, 14, 38, 39, 40, 41, 42, 43, 44, 45, 46, 47, 48, 49, 50, 51, 52, 53, 54, 55] (by decide +kernel) (by decide +kernel)
set_option maxRecDepth 20000 in
theorem gX4_barBoth_X4_goesWell : GoodIn wsX4_barBoth (wsV RX4 62 RX4 yX4_goesWell wsX4_goesWell) := goodIn_app (goodIn_of _ (by decide +kernel)) ggX4_barBoth_X4_goesWell
set_option maxRecDepth 20000 in
theorem ggX4_barBoth_X4_turn : GoodIn wsX4_barBoth wsX4_turn := goodIn_r _ [18, 19, 20, 38, 39, 40, 41, 42, 43, 44, 45, 46, 47, 48, 49, 50, 51, 52, 53, 54, 55] (by decide +kernel) (by decide +kernel)
set_option maxRecDepth 20000 in
theorem gX4_barBoth_X4_turn : GoodIn wsX4_barBoth (wsV RX4 65 RX4 yX4_turn wsX4_turn) := goodIn_app (goodIn_of _ (by decide +kernel)) ggX4_barBoth_X4_turn
set_option maxRecDepth 20000 in
theorem ggX4_barBoth_X4_layRuns : GoodIn wsX4_barBoth wsX4_layRuns := goodIn_r _ [24, 25, 1, 19, 26, 27, 28, 29, 38, 39, 40, 41, 42, 43, 44, 45, 46, 47, 48, 49, 50, 51, 52, 53, 54, 55] (by decide +kernel) (by decide +kernel)
set_option maxRecDepth 20000 in
theorem gX4_barBoth_X4_layRuns : GoodIn wsX4_barBoth (wsV RX4 45 RX4 yX4_layRuns wsX4_layRuns) := goodIn_app (goodIn_of _ (by decide +kernel)) ggX4_barBoth_X4_layRuns
set_option maxRecDepth 20000 in
theorem ggX4_barBoth_X4_countOpen : GoodIn wsX4_barBoth wsX4_countOpen := goodIn_r _ [33, 34, 35, 36, 5, 37, 19, 2, 3, 4, 6, 1, 7, 8, 9, 38, 39, 40, 41, 42, 43, 44, 45, 46, 47, 48, 49, 50, 51, 52, 53, 54, 55] (by decide +kernel) (by decide +kernel)
set_option maxRecDepth 20000 in
theorem gX4_barBoth_X4_countOpen : GoodIn wsX4_barBoth (wsV RX4 72 RX4 yX4_countOpen wsX4_countOpen) := goodIn_app (goodIn_of _ (by decide +kernel)) ggX4_barBoth_X4_countOpen
theorem dX4_barBoth_0 : decode cX4_barBoth 0 = .ok (.aload_n 0, 1) := by decide +kernel
theorem dX4_barBoth_1 : decode cX4_barBoth 1 = .ok (.aload_n 0, 1) := by decide +kernel
theorem dX4_barBoth_2 : decode cX4_barBoth 2 = .ok (.iload_n 1, 1) := by decide +kernel
theorem dX4_barBoth_3 : decode cX4_barBoth 3 = .ok (.invokevirtual 55, 3) := by decide +kernel
theorem dX4_barBoth_6 : decode cX4_barBoth 6 = .ok (.ifCond .eq 7, 3) := by decide +kernel
theorem dX4_barBoth_9 : decode cX4_barBoth 9 = .ok (.iconst 0, 1) := by decide +kernel
theorem dX4_barBoth_10 : decode cX4_barBoth 10 = .ok (.goto 4, 3) := by decide +kernel
theorem dX4_barBoth_13 : decode cX4_barBoth 13 = .ok (.iconst 1, 1) := by decide +kernel
theorem dX4_barBoth_14 : decode cX4_barBoth 14 = .ok (.invokevirtual 62, 3) := by decide +kernel
theorem dX4_barBoth_17 : decode cX4_barBoth 17 = .ok (.ifCond .ne 5, 3) := by decide +kernel
theorem dX4_barBoth_20 : decode cX4_barBoth 20 = .ok (.iconst 0, 1) := by decide +kernel
theorem dX4_barBoth_21 : decode cX4_barBoth 21 = .ok (.ireturn, 1) := by decide +kernel
theorem dX4_barBoth_22 : decode cX4_barBoth 22 = .ok (.iconst 4, 1) := by decide +kernel
theorem dX4_barBoth_23 : decode cX4_barBoth 23 = .ok (.aload_n 0, 1) := by decide +kernel
theorem dX4_barBoth_24 : decode cX4_barBoth 24 = .ok (.getfield 7, 3) := by decide +kernel
theorem dX4_barBoth_27 : decode cX4_barBoth 27 = .ok (.iconst 1, 1) := by decide +kernel
theorem dX4_barBoth_28 : decode cX4_barBoth 28 = .ok (.isub, 1) := by decide +kernel
theorem dX4_barBoth_29 : decode cX4_barBoth 29 = .ok (.iload_n 1, 1) := by decide +kernel
theorem dX4_barBoth_30 : decode cX4_barBoth 30 = .ok (.iconst 4, 1) := by decide +kernel
theorem dX4_barBoth_31 : decode cX4_barBoth 31 = .ok (.idiv, 1) := by decide +kernel
theorem dX4_barBoth_32 : decode cX4_barBoth 32 = .ok (.isub, 1) := by decide +kernel
theorem dX4_barBoth_33 : decode cX4_barBoth 33 = .ok (.imul, 1) := by decide +kernel
theorem dX4_barBoth_34 : decode cX4_barBoth 34 = .ok (.aload_n 0, 1) := by decide +kernel
theorem dX4_barBoth_35 : decode cX4_barBoth 35 = .ok (.getfield 7, 3) := by decide +kernel
theorem dX4_barBoth_38 : decode cX4_barBoth 38 = .ok (.iadd, 1) := by decide +kernel
theorem dX4_barBoth_39 : decode cX4_barBoth 39 = .ok (.iconst 1, 1) := by decide +kernel
theorem dX4_barBoth_40 : decode cX4_barBoth 40 = .ok (.isub, 1) := by decide +kernel
theorem dX4_barBoth_41 : decode cX4_barBoth 41 = .ok (.iload_n 1, 1) := by decide +kernel
theorem dX4_barBoth_42 : decode cX4_barBoth 42 = .ok (.iconst 4, 1) := by decide +kernel
theorem dX4_barBoth_43 : decode cX4_barBoth 43 = .ok (.irem, 1) := by decide +kernel
theorem dX4_barBoth_44 : decode cX4_barBoth 44 = .ok (.isub, 1) := by decide +kernel
theorem dX4_barBoth_45 : decode cX4_barBoth 45 = .ok (.istore_n 2, 1) := by decide +kernel
theorem dX4_barBoth_46 : decode cX4_barBoth 46 = .ok (.aload_n 0, 1) := by decide +kernel
theorem dX4_barBoth_47 : decode cX4_barBoth 47 = .ok (.iload_n 1, 1) := by decide +kernel
theorem dX4_barBoth_48 : decode cX4_barBoth 48 = .ok (.invokevirtual 65, 3) := by decide +kernel
theorem dX4_barBoth_51 : decode cX4_barBoth 51 = .ok (.iload_n 2, 1) := by decide +kernel
theorem dX4_barBoth_52 : decode cX4_barBoth 52 = .ok (.iload_n 1, 1) := by decide +kernel
theorem dX4_barBoth_53 : decode cX4_barBoth 53 = .ok (.if_icmp .eq 8, 3) := by decide +kernel
theorem dX4_barBoth_56 : decode cX4_barBoth 56 = .ok (.aload_n 0, 1) := by decide +kernel
theorem dX4_barBoth_57 : decode cX4_barBoth 57 = .ok (.iload_n 2, 1) := by decide +kernel
theorem dX4_barBoth_58 : decode cX4_barBoth 58 = .ok (.invokevirtual 65, 3) := by decide +kernel
theorem dX4_barBoth_61 : decode cX4_barBoth 61 = .ok (.aload_n 0, 1) := by decide +kernel
theorem dX4_barBoth_62 : decode cX4_barBoth 62 = .ok (.invokevirtual 45, 3) := by decide +kernel
theorem dX4_barBoth_65 : decode cX4_barBoth 65 = .ok (.aload_n 0, 1) := by decide +kernel
theorem dX4_barBoth_66 : decode cX4_barBoth 66 = .ok (.getfield 7, 3) := by decide +kernel
theorem dX4_barBoth_69 : decode cX4_barBoth 69 = .ok (.aload_n 0, 1) := by decide +kernel
theorem dX4_barBoth_70 : decode cX4_barBoth 70 = .ok (.getfield 7, 3) := by decide +kernel
theorem dX4_barBoth_73 : decode cX4_barBoth 73 = .ok (.imul, 1) := by decide +kernel
theorem dX4_barBoth_74 : decode cX4_barBoth 74 = .ok (.aload_n 0, 1) := by decide +kernel
theorem dX4_barBoth_75 : decode cX4_barBoth 75 = .ok (.invokevirtual 72, 3) := by decide +kernel
theorem dX4_barBoth_78 : decode cX4_barBoth 78 = .ok (.isub, 1) := by decide +kernel
theorem dX4_barBoth_79 : decode cX4_barBoth 79 = .ok (.ireturn, 1) := by decide +kernel
set_option maxRecDepth 20000 in
theorem ggX4_give_X4_isCell : GoodIn wsX4_give wsX4_isCell := goodIn_r _ [7, 8, 9, 10, 6, 11, 17, 18, 19, 20, 21, 22, 23, 24, 25, 26, 27, 28, 29, 30, 31, 32, 33, 34] (by decide +kernel) (by decide +kernel)
set_option maxRecDepth 20000 in
theorem gX4_give_X4_isCell : GoodIn wsX4_give (wsV RX4 55 RX4 yX4_isCell wsX4_isCell) := goodIn_app (goodIn_of _ (by decide +kernel)) ggX4_give_X4_isCell
set_option maxRecDepth 20000 in
theorem ggX4_give_X4_in : GoodIn wsX4_give wsX4_in := goodIn_r _ [11] (by decide +kernel) (by decide +kernel)
set_option maxRecDepth 20000 in
theorem gX4_give_X4_in : GoodIn wsX4_give (va_wsS RX4 51 yX4_in wsX4_in) := goodIn_app (goodIn_of _ (by decide +kernel)) ggX4_give_X4_in
set_option maxRecDepth 20000 in
theorem ggX4_give_X4_goesWell : GoodIn wsX4_give wsX4_goesWell := goodIn_r _ [15, 16, 17, 18, 19, 20, 21, 22, 23, 24, 25, 26, 27, 28, 29, 30, 31, 32, 33, 34] (by decide +kernel) (by decide +kernel)
set_option maxRecDepth 20000 in
theorem gX4_give_X4_goesWell : GoodIn wsX4_give (wsV RX4 62 RX4 yX4_goesWell wsX4_goesWell) := goodIn_app (goodIn_of _ (by decide +kernel)) ggX4_give_X4_goesWell
theorem dX4_give_0 : decode cX4_give 0 = .ok (.aload_n 0, 1) := by decide +kernel
theorem dX4_give_1 : decode cX4_give 1 = .ok (.iload_n 1, 1) := by decide +kernel
theorem dX4_give_2 : decode cX4_give 2 = .ok (.invokevirtual 55, 3) := by decide +kernel
theorem dX4_give_5 : decode cX4_give 5 = .ok (.istore_n 3, 1) := by decide +kernel
theorem dX4_give_6 : decode cX4_give 6 = .ok (.aload_n 0, 1) := by decide +kernel
theorem dX4_give_7 : decode cX4_give 7 = .ok (.iload_n 3, 1) := by decide +kernel
theorem dX4_give_8 : decode cX4_give 8 = .ok (.ifCond .ne 7, 3) := by decide +kernel
theorem dX4_give_11 : decode cX4_give 11 = .ok (.iconst 1, 1) := by decide +kernel
theorem dX4_give_12 : decode cX4_give 12 = .ok (.goto 31, 3) := by decide +kernel
theorem dX4_give_15 : decode cX4_give 15 = .ok (.iload_n 2, 1) := by decide +kernel
theorem dX4_give_16 : decode cX4_give 16 = .ok (.iconst 0, 1) := by decide +kernel
theorem dX4_give_17 : decode cX4_give 17 = .ok (.bipush 9, 2) := by decide +kernel
theorem dX4_give_19 : decode cX4_give 19 = .ok (.invokestatic 51, 3) := by decide +kernel
theorem dX4_give_22 : decode cX4_give 22 = .ok (.ifCond .ne 7, 3) := by decide +kernel
theorem dX4_give_25 : decode cX4_give 25 = .ok (.iconst 2, 1) := by decide +kernel
theorem dX4_give_26 : decode cX4_give 26 = .ok (.goto 17, 3) := by decide +kernel
theorem dX4_give_29 : decode cX4_give 29 = .ok (.aload_n 0, 1) := by decide +kernel
theorem dX4_give_30 : decode cX4_give 30 = .ok (.getfield 13, 3) := by decide +kernel
theorem dX4_give_33 : decode cX4_give 33 = .ok (.iload_n 1, 1) := by decide +kernel
theorem dX4_give_34 : decode cX4_give 34 = .ok (.baload, 1) := by decide +kernel
theorem dX4_give_35 : decode cX4_give 35 = .ok (.ifCond .eq 7, 3) := by decide +kernel
theorem dX4_give_38 : decode cX4_give 38 = .ok (.iconst 3, 1) := by decide +kernel
theorem dX4_give_39 : decode cX4_give 39 = .ok (.goto 4, 3) := by decide +kernel
theorem dX4_give_42 : decode cX4_give 42 = .ok (.iconst 0, 1) := by decide +kernel
theorem dX4_give_43 : decode cX4_give 43 = .ok (.invokevirtual 62, 3) := by decide +kernel
theorem dX4_give_46 : decode cX4_give 46 = .ok (.ifCond .ne 5, 3) := by decide +kernel
theorem dX4_give_49 : decode cX4_give 49 = .ok (.iconst 0, 1) := by decide +kernel
theorem dX4_give_50 : decode cX4_give 50 = .ok (.ireturn, 1) := by decide +kernel
theorem dX4_give_51 : decode cX4_give 51 = .ok (.aload_n 0, 1) := by decide +kernel
theorem dX4_give_52 : decode cX4_give 52 = .ok (.getfield 17, 3) := by decide +kernel
theorem dX4_give_55 : decode cX4_give 55 = .ok (.iload_n 1, 1) := by decide +kernel
theorem dX4_give_56 : decode cX4_give 56 = .ok (.iaload, 1) := by decide +kernel
theorem dX4_give_57 : decode cX4_give 57 = .ok (.istore 4, 2) := by decide +kernel
theorem dX4_give_59 : decode cX4_give 59 = .ok (.aload_n 0, 1) := by decide +kernel
theorem dX4_give_60 : decode cX4_give 60 = .ok (.getfield 17, 3) := by decide +kernel
theorem dX4_give_63 : decode cX4_give 63 = .ok (.iload_n 1, 1) := by decide +kernel
theorem dX4_give_64 : decode cX4_give 64 = .ok (.iload_n 2, 1) := by decide +kernel
theorem dX4_give_65 : decode cX4_give 65 = .ok (.iastore, 1) := by decide +kernel
theorem dX4_give_66 : decode cX4_give 66 = .ok (.iload 4, 2) := by decide +kernel
theorem dX4_give_68 : decode cX4_give 68 = .ok (.ireturn, 1) := by decide +kernel
set_option maxRecDepth 20000 in
theorem ggX4_setSum_X4_isRun : GoodIn wsX4_setSum wsX4_isRun := goodIn_r _ [6, 7, 8, 9, 5, 10, 16, 17, 18, 19, 20, 21, 22, 23, 24, 25, 26, 27, 28, 29, 30, 31, 32, 33] (by decide +kernel) (by decide +kernel)
set_option maxRecDepth 20000 in
theorem gX4_setSum_X4_isRun : GoodIn wsX4_setSum (wsV RX4 76 RX4 yX4_isRun wsX4_isRun) := goodIn_app (goodIn_of _ (by decide +kernel)) ggX4_setSum_X4_isRun
set_option maxRecDepth 20000 in
theorem ggX4_setSum_X4_in : GoodIn wsX4_setSum wsX4_in := goodIn_r _ [10] (by decide +kernel) (by decide +kernel)
set_option maxRecDepth 20000 in
theorem gX4_setSum_X4_in : GoodIn wsX4_setSum (va_wsS RX4 51 yX4_in wsX4_in) := goodIn_app (goodIn_of _ (by decide +kernel)) ggX4_setSum_X4_in
set_option maxRecDepth 20000 in
theorem ggX4_setSum_X4_goesWell : GoodIn wsX4_setSum wsX4_goesWell := goodIn_r _ [14, 15, 16, 17, 18, 19, 20, 21, 22, 23, 24, 25, 26, 27, 28, 29, 30, 31, 32, 33] (by decide +kernel) (by decide +kernel)
set_option maxRecDepth 20000 in
theorem gX4_setSum_X4_goesWell : GoodIn wsX4_setSum (wsV RX4 62 RX4 yX4_goesWell wsX4_goesWell) := goodIn_app (goodIn_of _ (by decide +kernel)) ggX4_setSum_X4_goesWell
theorem dX4_setSum_0 : decode cX4_setSum 0 = .ok (.aload_n 0, 1) := by decide +kernel
theorem dX4_setSum_1 : decode cX4_setSum 1 = .ok (.aload_n 0, 1) := by decide +kernel
theorem dX4_setSum_2 : decode cX4_setSum 2 = .ok (.iload_n 1, 1) := by decide +kernel
theorem dX4_setSum_3 : decode cX4_setSum 3 = .ok (.invokevirtual 76, 3) := by decide +kernel
theorem dX4_setSum_6 : decode cX4_setSum 6 = .ok (.ifCond .ne 7, 3) := by decide +kernel
theorem dX4_setSum_9 : decode cX4_setSum 9 = .ok (.iconst 1, 1) := by decide +kernel
theorem dX4_setSum_10 : decode cX4_setSum 10 = .ok (.goto 18, 3) := by decide +kernel
theorem dX4_setSum_13 : decode cX4_setSum 13 = .ok (.iload_n 2, 1) := by decide +kernel
theorem dX4_setSum_14 : decode cX4_setSum 14 = .ok (.iconst 0, 1) := by decide +kernel
theorem dX4_setSum_15 : decode cX4_setSum 15 = .ok (.bipush 45, 2) := by decide +kernel
theorem dX4_setSum_17 : decode cX4_setSum 17 = .ok (.invokestatic 51, 3) := by decide +kernel
theorem dX4_setSum_20 : decode cX4_setSum 20 = .ok (.ifCond .eq 7, 3) := by decide +kernel
theorem dX4_setSum_23 : decode cX4_setSum 23 = .ok (.iconst 0, 1) := by decide +kernel
theorem dX4_setSum_24 : decode cX4_setSum 24 = .ok (.goto 4, 3) := by decide +kernel
theorem dX4_setSum_27 : decode cX4_setSum 27 = .ok (.iconst 2, 1) := by decide +kernel
theorem dX4_setSum_28 : decode cX4_setSum 28 = .ok (.invokevirtual 62, 3) := by decide +kernel
theorem dX4_setSum_31 : decode cX4_setSum 31 = .ok (.ifCond .ne 5, 3) := by decide +kernel
theorem dX4_setSum_34 : decode cX4_setSum 34 = .ok (.iconst 0, 1) := by decide +kernel
theorem dX4_setSum_35 : decode cX4_setSum 35 = .ok (.ireturn, 1) := by decide +kernel
theorem dX4_setSum_36 : decode cX4_setSum 36 = .ok (.aload_n 0, 1) := by decide +kernel
theorem dX4_setSum_37 : decode cX4_setSum 37 = .ok (.getfield 30, 3) := by decide +kernel
theorem dX4_setSum_40 : decode cX4_setSum 40 = .ok (.iload_n 1, 1) := by decide +kernel
theorem dX4_setSum_41 : decode cX4_setSum 41 = .ok (.iaload, 1) := by decide +kernel
theorem dX4_setSum_42 : decode cX4_setSum 42 = .ok (.istore_n 3, 1) := by decide +kernel
theorem dX4_setSum_43 : decode cX4_setSum 43 = .ok (.aload_n 0, 1) := by decide +kernel
theorem dX4_setSum_44 : decode cX4_setSum 44 = .ok (.getfield 30, 3) := by decide +kernel
theorem dX4_setSum_47 : decode cX4_setSum 47 = .ok (.iload_n 1, 1) := by decide +kernel
theorem dX4_setSum_48 : decode cX4_setSum 48 = .ok (.iload_n 2, 1) := by decide +kernel
theorem dX4_setSum_49 : decode cX4_setSum 49 = .ok (.iastore, 1) := by decide +kernel
theorem dX4_setSum_50 : decode cX4_setSum 50 = .ok (.iload_n 3, 1) := by decide +kernel
theorem dX4_setSum_51 : decode cX4_setSum 51 = .ok (.ireturn, 1) := by decide +kernel
theorem dX4_cellOf_0 : decode cX4_cellOf 0 = .ok (.aload_n 0, 1) := by decide +kernel
theorem dX4_cellOf_1 : decode cX4_cellOf 1 = .ok (.getfield 21, 3) := by decide +kernel
theorem dX4_cellOf_4 : decode cX4_cellOf 4 = .ok (.iload_n 1, 1) := by decide +kernel
theorem dX4_cellOf_5 : decode cX4_cellOf 5 = .ok (.iaload, 1) := by decide +kernel
theorem dX4_cellOf_6 : decode cX4_cellOf 6 = .ok (.aload_n 0, 1) := by decide +kernel
theorem dX4_cellOf_7 : decode cX4_cellOf 7 = .ok (.getfield 27, 3) := by decide +kernel
theorem dX4_cellOf_10 : decode cX4_cellOf 10 = .ok (.iload_n 1, 1) := by decide +kernel
theorem dX4_cellOf_11 : decode cX4_cellOf 11 = .ok (.iaload, 1) := by decide +kernel
theorem dX4_cellOf_12 : decode cX4_cellOf 12 = .ok (.iload_n 2, 1) := by decide +kernel
theorem dX4_cellOf_13 : decode cX4_cellOf 13 = .ok (.imul, 1) := by decide +kernel
theorem dX4_cellOf_14 : decode cX4_cellOf 14 = .ok (.iadd, 1) := by decide +kernel
theorem dX4_cellOf_15 : decode cX4_cellOf 15 = .ok (.ireturn, 1) := by decide +kernel
theorem dX4_has_0 : decode cX4_has 0 = .ok (.iload_n 2, 1) := by decide +kernel
theorem dX4_has_1 : decode cX4_has 1 = .ok (.aload_n 0, 1) := by decide +kernel
theorem dX4_has_2 : decode cX4_has 2 = .ok (.getfield 21, 3) := by decide +kernel
theorem dX4_has_5 : decode cX4_has 5 = .ok (.iload_n 1, 1) := by decide +kernel
theorem dX4_has_6 : decode cX4_has 6 = .ok (.iaload, 1) := by decide +kernel
theorem dX4_has_7 : decode cX4_has 7 = .ok (.isub, 1) := by decide +kernel
theorem dX4_has_8 : decode cX4_has 8 = .ok (.istore_n 3, 1) := by decide +kernel
theorem dX4_has_9 : decode cX4_has 9 = .ok (.iload_n 3, 1) := by decide +kernel
theorem dX4_has_10 : decode cX4_has 10 = .ok (.ifCond .lt 35, 3) := by decide +kernel
theorem dX4_has_13 : decode cX4_has 13 = .ok (.iload_n 3, 1) := by decide +kernel
theorem dX4_has_14 : decode cX4_has 14 = .ok (.aload_n 0, 1) := by decide +kernel
theorem dX4_has_15 : decode cX4_has 15 = .ok (.getfield 27, 3) := by decide +kernel
theorem dX4_has_18 : decode cX4_has 18 = .ok (.iload_n 1, 1) := by decide +kernel
theorem dX4_has_19 : decode cX4_has 19 = .ok (.iaload, 1) := by decide +kernel
theorem dX4_has_20 : decode cX4_has 20 = .ok (.irem, 1) := by decide +kernel
theorem dX4_has_21 : decode cX4_has 21 = .ok (.ifCond .ne 24, 3) := by decide +kernel
theorem dX4_has_24 : decode cX4_has 24 = .ok (.iload_n 3, 1) := by decide +kernel
theorem dX4_has_25 : decode cX4_has 25 = .ok (.aload_n 0, 1) := by decide +kernel
theorem dX4_has_26 : decode cX4_has 26 = .ok (.getfield 27, 3) := by decide +kernel
theorem dX4_has_29 : decode cX4_has 29 = .ok (.iload_n 1, 1) := by decide +kernel
theorem dX4_has_30 : decode cX4_has 30 = .ok (.iaload, 1) := by decide +kernel
theorem dX4_has_31 : decode cX4_has 31 = .ok (.idiv, 1) := by decide +kernel
theorem dX4_has_32 : decode cX4_has 32 = .ok (.aload_n 0, 1) := by decide +kernel
theorem dX4_has_33 : decode cX4_has 33 = .ok (.getfield 24, 3) := by decide +kernel
theorem dX4_has_36 : decode cX4_has 36 = .ok (.iload_n 1, 1) := by decide +kernel
theorem dX4_has_37 : decode cX4_has 37 = .ok (.iaload, 1) := by decide +kernel
theorem dX4_has_38 : decode cX4_has 38 = .ok (.if_icmp .ge 7, 3) := by decide +kernel
theorem dX4_has_41 : decode cX4_has 41 = .ok (.iconst 1, 1) := by decide +kernel
theorem dX4_has_42 : decode cX4_has 42 = .ok (.goto 4, 3) := by decide +kernel
theorem dX4_has_45 : decode cX4_has 45 = .ok (.iconst 0, 1) := by decide +kernel
theorem dX4_has_46 : decode cX4_has 46 = .ok (.ireturn, 1) := by decide +kernel
theorem dX4_copyGiven_0 : decode cX4_copyGiven 0 = .ok (.iconst 0, 1) := by decide +kernel
theorem dX4_copyGiven_1 : decode cX4_copyGiven 1 = .ok (.istore_n 1, 1) := by decide +kernel
theorem dX4_copyGiven_2 : decode cX4_copyGiven 2 = .ok (.iload_n 1, 1) := by decide +kernel
theorem dX4_copyGiven_3 : decode cX4_copyGiven 3 = .ok (.bipush 16, 2) := by decide +kernel
theorem dX4_copyGiven_5 : decode cX4_copyGiven 5 = .ok (.if_icmp .ge 21, 3) := by decide +kernel
theorem dX4_copyGiven_8 : decode cX4_copyGiven 8 = .ok (.aload_n 0, 1) := by decide +kernel
theorem dX4_copyGiven_9 : decode cX4_copyGiven 9 = .ok (.getfield 36, 3) := by decide +kernel
theorem dX4_copyGiven_12 : decode cX4_copyGiven 12 = .ok (.iload_n 1, 1) := by decide +kernel
theorem dX4_copyGiven_13 : decode cX4_copyGiven 13 = .ok (.aload_n 0, 1) := by decide +kernel
theorem dX4_copyGiven_14 : decode cX4_copyGiven 14 = .ok (.getfield 17, 3) := by decide +kernel
theorem dX4_copyGiven_17 : decode cX4_copyGiven 17 = .ok (.iload_n 1, 1) := by decide +kernel
theorem dX4_copyGiven_18 : decode cX4_copyGiven 18 = .ok (.iaload, 1) := by decide +kernel
theorem dX4_copyGiven_19 : decode cX4_copyGiven 19 = .ok (.iastore, 1) := by decide +kernel
theorem dX4_copyGiven_20 : decode cX4_copyGiven 20 = .ok (.iinc 1 1, 3) := by decide +kernel
theorem dX4_copyGiven_23 : decode cX4_copyGiven 23 = .ok (.goto (-21), 3) := by decide +kernel
theorem dX4_copyGiven_26 : decode cX4_copyGiven 26 = .ok (.return_, 1) := by decide +kernel
set_option maxRecDepth 20000 in
theorem ggX4_isUnlike_X4_cellOf : GoodIn wsX4_isUnlike wsX4_cellOf := goodIn_r _ [7, 8, 9, 10, 11, 12, 13, 14, 15, 16, 17, 18, 19, 20, 21, 22, 23, 24, 25, 26, 27] (by decide +kernel) (by decide +kernel)
set_option maxRecDepth 20000 in
theorem gX4_isUnlike_X4_cellOf : GoodIn wsX4_isUnlike (wsV RX4 79 RX4 yX4_cellOf wsX4_cellOf) := goodIn_app (goodIn_of _ (by decide +kernel)) ggX4_isUnlike_X4_cellOf
theorem dX4_isUnlike_0 : decode cX4_isUnlike 0 = .ok (.iconst 0, 1) := by decide +kernel
theorem dX4_isUnlike_1 : decode cX4_isUnlike 1 = .ok (.istore_n 2, 1) := by decide +kernel
theorem dX4_isUnlike_2 : decode cX4_isUnlike 2 = .ok (.iconst 1, 1) := by decide +kernel
theorem dX4_isUnlike_3 : decode cX4_isUnlike 3 = .ok (.istore_n 3, 1) := by decide +kernel
theorem dX4_isUnlike_4 : decode cX4_isUnlike 4 = .ok (.iconst 0, 1) := by decide +kernel
theorem dX4_isUnlike_5 : decode cX4_isUnlike 5 = .ok (.istore 4, 2) := by decide +kernel
theorem dX4_isUnlike_7 : decode cX4_isUnlike 7 = .ok (.iload 4, 2) := by decide +kernel
theorem dX4_isUnlike_9 : decode cX4_isUnlike 9 = .ok (.aload_n 0, 1) := by decide +kernel
theorem dX4_isUnlike_10 : decode cX4_isUnlike 10 = .ok (.getfield 24, 3) := by decide +kernel
theorem dX4_isUnlike_13 : decode cX4_isUnlike 13 = .ok (.iload_n 1, 1) := by decide +kernel
theorem dX4_isUnlike_14 : decode cX4_isUnlike 14 = .ok (.iaload, 1) := by decide +kernel
theorem dX4_isUnlike_15 : decode cX4_isUnlike 15 = .ok (.if_icmp .ge 47, 3) := by decide +kernel
theorem dX4_isUnlike_18 : decode cX4_isUnlike 18 = .ok (.iconst 1, 1) := by decide +kernel
theorem dX4_isUnlike_19 : decode cX4_isUnlike 19 = .ok (.aload_n 0, 1) := by decide +kernel
theorem dX4_isUnlike_20 : decode cX4_isUnlike 20 = .ok (.getfield 36, 3) := by decide +kernel
theorem dX4_isUnlike_23 : decode cX4_isUnlike 23 = .ok (.aload_n 0, 1) := by decide +kernel
theorem dX4_isUnlike_24 : decode cX4_isUnlike 24 = .ok (.iload_n 1, 1) := by decide +kernel
theorem dX4_isUnlike_25 : decode cX4_isUnlike 25 = .ok (.iload 4, 2) := by decide +kernel
theorem dX4_isUnlike_27 : decode cX4_isUnlike 27 = .ok (.invokevirtual 79, 3) := by decide +kernel
theorem dX4_isUnlike_30 : decode cX4_isUnlike 30 = .ok (.iaload, 1) := by decide +kernel
theorem dX4_isUnlike_31 : decode cX4_isUnlike 31 = .ok (.ishl, 1) := by decide +kernel
theorem dX4_isUnlike_32 : decode cX4_isUnlike 32 = .ok (.istore 5, 2) := by decide +kernel
theorem dX4_isUnlike_34 : decode cX4_isUnlike 34 = .ok (.iload_n 3, 1) := by decide +kernel
theorem dX4_isUnlike_35 : decode cX4_isUnlike 35 = .ok (.ifCond .eq 14, 3) := by decide +kernel
theorem dX4_isUnlike_38 : decode cX4_isUnlike 38 = .ok (.iload_n 2, 1) := by decide +kernel
theorem dX4_isUnlike_39 : decode cX4_isUnlike 39 = .ok (.iload 5, 2) := by decide +kernel
theorem dX4_isUnlike_41 : decode cX4_isUnlike 41 = .ok (.iand, 1) := by decide +kernel
theorem dX4_isUnlike_42 : decode cX4_isUnlike 42 = .ok (.ifCond .ne 7, 3) := by decide +kernel
theorem dX4_isUnlike_45 : decode cX4_isUnlike 45 = .ok (.iconst 1, 1) := by decide +kernel
theorem dX4_isUnlike_46 : decode cX4_isUnlike 46 = .ok (.goto 4, 3) := by decide +kernel
theorem dX4_isUnlike_49 : decode cX4_isUnlike 49 = .ok (.iconst 0, 1) := by decide +kernel
theorem dX4_isUnlike_50 : decode cX4_isUnlike 50 = .ok (.istore_n 3, 1) := by decide +kernel
theorem dX4_isUnlike_51 : decode cX4_isUnlike 51 = .ok (.iload_n 2, 1) := by decide +kernel
theorem dX4_isUnlike_52 : decode cX4_isUnlike 52 = .ok (.iload 5, 2) := by decide +kernel
theorem dX4_isUnlike_54 : decode cX4_isUnlike 54 = .ok (.ior, 1) := by decide +kernel
theorem dX4_isUnlike_55 : decode cX4_isUnlike 55 = .ok (.istore_n 2, 1) := by decide +kernel
theorem dX4_isUnlike_56 : decode cX4_isUnlike 56 = .ok (.iinc 4 1, 3) := by decide +kernel
theorem dX4_isUnlike_59 : decode cX4_isUnlike 59 = .ok (.goto (-52), 3) := by decide +kernel
theorem dX4_isUnlike_62 : decode cX4_isUnlike 62 = .ok (.iload_n 3, 1) := by decide +kernel
theorem dX4_isUnlike_63 : decode cX4_isUnlike 63 = .ok (.ireturn, 1) := by decide +kernel
set_option maxRecDepth 20000 in
theorem ggX4_sumUp_X4_cellOf : GoodIn wsX4_sumUp wsX4_cellOf := goodIn_r _ [7, 8, 9, 10, 11, 12, 13, 14, 15, 16, 17, 18, 19, 20, 21, 22, 23, 24, 25, 26, 27] (by decide +kernel) (by decide +kernel)
set_option maxRecDepth 20000 in
theorem gX4_sumUp_X4_cellOf : GoodIn wsX4_sumUp (wsV RX4 79 RX4 yX4_cellOf wsX4_cellOf) := goodIn_app (goodIn_of _ (by decide +kernel)) ggX4_sumUp_X4_cellOf
theorem dX4_sumUp_0 : decode cX4_sumUp 0 = .ok (.iconst 0, 1) := by decide +kernel
theorem dX4_sumUp_1 : decode cX4_sumUp 1 = .ok (.istore_n 2, 1) := by decide +kernel
theorem dX4_sumUp_2 : decode cX4_sumUp 2 = .ok (.iconst 0, 1) := by decide +kernel
theorem dX4_sumUp_3 : decode cX4_sumUp 3 = .ok (.istore_n 3, 1) := by decide +kernel
theorem dX4_sumUp_4 : decode cX4_sumUp 4 = .ok (.iload_n 3, 1) := by decide +kernel
theorem dX4_sumUp_5 : decode cX4_sumUp 5 = .ok (.aload_n 0, 1) := by decide +kernel
theorem dX4_sumUp_6 : decode cX4_sumUp 6 = .ok (.getfield 24, 3) := by decide +kernel
theorem dX4_sumUp_9 : decode cX4_sumUp 9 = .ok (.iload_n 1, 1) := by decide +kernel
theorem dX4_sumUp_10 : decode cX4_sumUp 10 = .ok (.iaload, 1) := by decide +kernel
theorem dX4_sumUp_11 : decode cX4_sumUp 11 = .ok (.if_icmp .ge 23, 3) := by decide +kernel
theorem dX4_sumUp_14 : decode cX4_sumUp 14 = .ok (.iload_n 2, 1) := by decide +kernel
theorem dX4_sumUp_15 : decode cX4_sumUp 15 = .ok (.aload_n 0, 1) := by decide +kernel
theorem dX4_sumUp_16 : decode cX4_sumUp 16 = .ok (.getfield 36, 3) := by decide +kernel
theorem dX4_sumUp_19 : decode cX4_sumUp 19 = .ok (.aload_n 0, 1) := by decide +kernel
theorem dX4_sumUp_20 : decode cX4_sumUp 20 = .ok (.iload_n 1, 1) := by decide +kernel
theorem dX4_sumUp_21 : decode cX4_sumUp 21 = .ok (.iload_n 3, 1) := by decide +kernel
theorem dX4_sumUp_22 : decode cX4_sumUp 22 = .ok (.invokevirtual 79, 3) := by decide +kernel
theorem dX4_sumUp_25 : decode cX4_sumUp 25 = .ok (.iaload, 1) := by decide +kernel
theorem dX4_sumUp_26 : decode cX4_sumUp 26 = .ok (.iadd, 1) := by decide +kernel
theorem dX4_sumUp_27 : decode cX4_sumUp 27 = .ok (.istore_n 2, 1) := by decide +kernel
theorem dX4_sumUp_28 : decode cX4_sumUp 28 = .ok (.iinc 3 1, 3) := by decide +kernel
theorem dX4_sumUp_31 : decode cX4_sumUp 31 = .ok (.goto (-27), 3) := by decide +kernel
theorem dX4_sumUp_34 : decode cX4_sumUp 34 = .ok (.iload_n 2, 1) := by decide +kernel
theorem dX4_sumUp_35 : decode cX4_sumUp 35 = .ok (.ireturn, 1) := by decide +kernel
set_option maxRecDepth 20000 in
theorem ggX4_isAnswer_X4_isUnlike : GoodIn wsX4_isAnswer wsX4_isUnlike := goodIn_r _ [7, 8, 9, 10, 11, 12, 6, 13, 14, 15, 20, 21, 22, 23, 24, 25, 26, 27, 28, 29, 30, 31, 32, 33, 34, 35, 36, 37] (by decide +kernel) (by decide +kernel)
set_option maxRecDepth 20000 in
theorem gX4_isAnswer_X4_isUnlike : GoodIn wsX4_isAnswer (wsV RX4 83 RX4 yX4_isUnlike wsX4_isUnlike) := goodIn_app (goodIn_of _ (by decide +kernel)) ggX4_isAnswer_X4_isUnlike
set_option maxRecDepth 20000 in
theorem ggX4_isAnswer_X4_sumUp : GoodIn wsX4_isAnswer wsX4_sumUp := goodIn_r _ [19, 8, 9, 10, 11, 12, 6, 13, 14, 15, 20, 21, 22, 23, 24, 25, 26, 27, 28, 29, 30, 31, 32, 33, 34, 35, 36, 37] (by decide +kernel) (by decide +kernel)
set_option maxRecDepth 20000 in
theorem gX4_isAnswer_X4_sumUp : GoodIn wsX4_isAnswer (wsV RX4 86 RX4 yX4_sumUp wsX4_sumUp) := goodIn_app (goodIn_of _ (by decide +kernel)) ggX4_isAnswer_X4_sumUp
theorem dX4_isAnswer_0 : decode cX4_isAnswer 0 = .ok (.iconst 1, 1) := by decide +kernel
theorem dX4_isAnswer_1 : decode cX4_isAnswer 1 = .ok (.istore_n 1, 1) := by decide +kernel
theorem dX4_isAnswer_2 : decode cX4_isAnswer 2 = .ok (.iconst 0, 1) := by decide +kernel
theorem dX4_isAnswer_3 : decode cX4_isAnswer 3 = .ok (.istore_n 2, 1) := by decide +kernel
theorem dX4_isAnswer_4 : decode cX4_isAnswer 4 = .ok (.iload_n 2, 1) := by decide +kernel
theorem dX4_isAnswer_5 : decode cX4_isAnswer 5 = .ok (.aload_n 0, 1) := by decide +kernel
theorem dX4_isAnswer_6 : decode cX4_isAnswer 6 = .ok (.getfield 59, 3) := by decide +kernel
theorem dX4_isAnswer_9 : decode cX4_isAnswer 9 = .ok (.if_icmp .ge 50, 3) := by decide +kernel
theorem dX4_isAnswer_12 : decode cX4_isAnswer 12 = .ok (.iload_n 1, 1) := by decide +kernel
theorem dX4_isAnswer_13 : decode cX4_isAnswer 13 = .ok (.ifCond .eq 38, 3) := by decide +kernel
theorem dX4_isAnswer_16 : decode cX4_isAnswer 16 = .ok (.aload_n 0, 1) := by decide +kernel
theorem dX4_isAnswer_17 : decode cX4_isAnswer 17 = .ok (.iload_n 2, 1) := by decide +kernel
theorem dX4_isAnswer_18 : decode cX4_isAnswer 18 = .ok (.invokevirtual 83, 3) := by decide +kernel
theorem dX4_isAnswer_21 : decode cX4_isAnswer 21 = .ok (.ifCond .eq 30, 3) := by decide +kernel
theorem dX4_isAnswer_24 : decode cX4_isAnswer 24 = .ok (.aload_n 0, 1) := by decide +kernel
theorem dX4_isAnswer_25 : decode cX4_isAnswer 25 = .ok (.getfield 30, 3) := by decide +kernel
theorem dX4_isAnswer_28 : decode cX4_isAnswer 28 = .ok (.iload_n 2, 1) := by decide +kernel
theorem dX4_isAnswer_29 : decode cX4_isAnswer 29 = .ok (.iaload, 1) := by decide +kernel
theorem dX4_isAnswer_30 : decode cX4_isAnswer 30 = .ok (.ifCond .eq 17, 3) := by decide +kernel
theorem dX4_isAnswer_33 : decode cX4_isAnswer 33 = .ok (.aload_n 0, 1) := by decide +kernel
theorem dX4_isAnswer_34 : decode cX4_isAnswer 34 = .ok (.iload_n 2, 1) := by decide +kernel
theorem dX4_isAnswer_35 : decode cX4_isAnswer 35 = .ok (.invokevirtual 86, 3) := by decide +kernel
theorem dX4_isAnswer_38 : decode cX4_isAnswer 38 = .ok (.aload_n 0, 1) := by decide +kernel
theorem dX4_isAnswer_39 : decode cX4_isAnswer 39 = .ok (.getfield 30, 3) := by decide +kernel
theorem dX4_isAnswer_42 : decode cX4_isAnswer 42 = .ok (.iload_n 2, 1) := by decide +kernel
theorem dX4_isAnswer_43 : decode cX4_isAnswer 43 = .ok (.iaload, 1) := by decide +kernel
theorem dX4_isAnswer_44 : decode cX4_isAnswer 44 = .ok (.if_icmp .ne 7, 3) := by decide +kernel
theorem dX4_isAnswer_47 : decode cX4_isAnswer 47 = .ok (.iconst 1, 1) := by decide +kernel
theorem dX4_isAnswer_48 : decode cX4_isAnswer 48 = .ok (.goto 4, 3) := by decide +kernel
theorem dX4_isAnswer_51 : decode cX4_isAnswer 51 = .ok (.iconst 0, 1) := by decide +kernel
theorem dX4_isAnswer_52 : decode cX4_isAnswer 52 = .ok (.istore_n 1, 1) := by decide +kernel
theorem dX4_isAnswer_53 : decode cX4_isAnswer 53 = .ok (.iinc 2 1, 3) := by decide +kernel
theorem dX4_isAnswer_56 : decode cX4_isAnswer 56 = .ok (.goto (-52), 3) := by decide +kernel
theorem dX4_isAnswer_59 : decode cX4_isAnswer 59 = .ok (.iload_n 1, 1) := by decide +kernel
theorem dX4_isAnswer_60 : decode cX4_isAnswer 60 = .ok (.ireturn, 1) := by decide +kernel
set_option maxRecDepth 20000 in
theorem ggX4_press_X4_copyGiven : GoodIn wsX4_press wsX4_copyGiven := goodIn_r _ [8, 9, 1, 43, 44, 45, 46, 47, 48, 49, 50, 51, 52, 53, 54, 55, 56, 57, 58, 59, 60] (by decide +kernel) (by decide +kernel)
set_option maxRecDepth 20000 in
theorem gX4_press_X4_copyGiven : GoodIn wsX4_press (wsV RX4 90 RX4 yX4_copyGiven wsX4_copyGiven) := goodIn_app (goodIn_of _ (by decide +kernel)) ggX4_press_X4_copyGiven
set_option maxRecDepth 20000 in
theorem ggX4_press_X4_isOpen : GoodIn wsX4_press wsX4_isOpen := goodIn_r _ [13, 14, 15, 16, 17, 7, 18, 19, 20, 21, 22, 43, 44, 45, 46, 47, 48, 49, 50, 51, 52, 53, 54, 55, 56, 57, 58, 59, 60] (by decide +kernel) (by decide +kernel)
set_option maxRecDepth 20000 in
theorem gX4_press_X4_isOpen : GoodIn wsX4_press (wsV RX4 69 RX4 yX4_isOpen wsX4_isOpen) := goodIn_app (goodIn_of _ (by decide +kernel)) ggX4_press_X4_isOpen
set_option maxRecDepth 20000 in
theorem ggX4_press_X4_isUnlike : GoodIn wsX4_press wsX4_isUnlike := goodIn_r _ [26, 27, 9, 28, 29, 30, 7, 31, 32, 33, 43, 44, 45, 46, 47, 48, 49, 50, 51, 52, 53, 54, 55, 56, 57, 58, 59, 60] (by decide +kernel) (by decide +kernel)
set_option maxRecDepth 20000 in
theorem gX4_press_X4_isUnlike : GoodIn wsX4_press (wsV RX4 83 RX4 yX4_isUnlike wsX4_isUnlike) := goodIn_app (goodIn_of _ (by decide +kernel)) ggX4_press_X4_isUnlike
set_option maxRecDepth 20000 in
theorem ggX4_press_X4_goesWell : GoodIn wsX4_press wsX4_goesWell := goodIn_r _ [37, 38, 43, 44, 45, 46, 47, 48, 49, 50, 51, 52, 53, 54, 55, 56, 57, 58, 59, 60] (by decide +kernel) (by decide +kernel)
set_option maxRecDepth 20000 in
theorem gX4_press_X4_goesWell : GoodIn wsX4_press (wsV RX4 62 RX4 yX4_goesWell wsX4_goesWell) := goodIn_app (goodIn_of _ (by decide +kernel)) ggX4_press_X4_goesWell
set_option maxRecDepth 20000 in
theorem ggX4_press_X4_sumUp : GoodIn wsX4_press wsX4_sumUp := goodIn_r _ [42, 27, 9, 28, 29, 30, 7, 31, 32, 33, 43, 44, 45, 46, 47, 48, 49, 50, 51, 52, 53, 54, 55, 56, 57, 58, 59, 60] (by decide +kernel) (by decide +kernel)
set_option maxRecDepth 20000 in
theorem gX4_press_X4_sumUp : GoodIn wsX4_press (wsV RX4 86 RX4 yX4_sumUp wsX4_sumUp) := goodIn_app (goodIn_of _ (by decide +kernel)) ggX4_press_X4_sumUp
theorem dX4_press_0 : decode cX4_press 0 = .ok (.aload_n 0, 1) := by decide +kernel
theorem dX4_press_1 : decode cX4_press 1 = .ok (.invokevirtual 90, 3) := by decide +kernel
theorem dX4_press_4 : decode cX4_press 4 = .ok (.iconst 1, 1) := by decide +kernel
theorem dX4_press_5 : decode cX4_press 5 = .ok (.istore_n 1, 1) := by decide +kernel
theorem dX4_press_6 : decode cX4_press 6 = .ok (.iconst 0, 1) := by decide +kernel
theorem dX4_press_7 : decode cX4_press 7 = .ok (.istore_n 2, 1) := by decide +kernel
theorem dX4_press_8 : decode cX4_press 8 = .ok (.iload_n 2, 1) := by decide +kernel
theorem dX4_press_9 : decode cX4_press 9 = .ok (.bipush 16, 2) := by decide +kernel
theorem dX4_press_11 : decode cX4_press 11 = .ok (.if_icmp .ge 36, 3) := by decide +kernel
theorem dX4_press_14 : decode cX4_press 14 = .ok (.iload_n 1, 1) := by decide +kernel
theorem dX4_press_15 : decode cX4_press 15 = .ok (.ifCond .eq 24, 3) := by decide +kernel
theorem dX4_press_18 : decode cX4_press 18 = .ok (.aload_n 0, 1) := by decide +kernel
theorem dX4_press_19 : decode cX4_press 19 = .ok (.iload_n 2, 1) := by decide +kernel
theorem dX4_press_20 : decode cX4_press 20 = .ok (.invokevirtual 69, 3) := by decide +kernel
theorem dX4_press_23 : decode cX4_press 23 = .ok (.ifCond .eq 12, 3) := by decide +kernel
theorem dX4_press_26 : decode cX4_press 26 = .ok (.aload_n 0, 1) := by decide +kernel
theorem dX4_press_27 : decode cX4_press 27 = .ok (.getfield 17, 3) := by decide +kernel
theorem dX4_press_30 : decode cX4_press 30 = .ok (.iload_n 2, 1) := by decide +kernel
theorem dX4_press_31 : decode cX4_press 31 = .ok (.iaload, 1) := by decide +kernel
theorem dX4_press_32 : decode cX4_press 32 = .ok (.ifCond .le 7, 3) := by decide +kernel
theorem dX4_press_35 : decode cX4_press 35 = .ok (.iconst 1, 1) := by decide +kernel
theorem dX4_press_36 : decode cX4_press 36 = .ok (.goto 4, 3) := by decide +kernel
theorem dX4_press_39 : decode cX4_press 39 = .ok (.iconst 0, 1) := by decide +kernel
theorem dX4_press_40 : decode cX4_press 40 = .ok (.istore_n 1, 1) := by decide +kernel
theorem dX4_press_41 : decode cX4_press 41 = .ok (.iinc 2 1, 3) := by decide +kernel
theorem dX4_press_44 : decode cX4_press 44 = .ok (.goto (-36), 3) := by decide +kernel
theorem dX4_press_47 : decode cX4_press 47 = .ok (.iconst 0, 1) := by decide +kernel
theorem dX4_press_48 : decode cX4_press 48 = .ok (.istore_n 2, 1) := by decide +kernel
theorem dX4_press_49 : decode cX4_press 49 = .ok (.iload_n 2, 1) := by decide +kernel
theorem dX4_press_50 : decode cX4_press 50 = .ok (.aload_n 0, 1) := by decide +kernel
theorem dX4_press_51 : decode cX4_press 51 = .ok (.getfield 59, 3) := by decide +kernel
theorem dX4_press_54 : decode cX4_press 54 = .ok (.if_icmp .ge 27, 3) := by decide +kernel
theorem dX4_press_57 : decode cX4_press 57 = .ok (.iload_n 1, 1) := by decide +kernel
theorem dX4_press_58 : decode cX4_press 58 = .ok (.ifCond .eq 15, 3) := by decide +kernel
theorem dX4_press_61 : decode cX4_press 61 = .ok (.aload_n 0, 1) := by decide +kernel
theorem dX4_press_62 : decode cX4_press 62 = .ok (.iload_n 2, 1) := by decide +kernel
theorem dX4_press_63 : decode cX4_press 63 = .ok (.invokevirtual 83, 3) := by decide +kernel
theorem dX4_press_66 : decode cX4_press 66 = .ok (.ifCond .eq 7, 3) := by decide +kernel
theorem dX4_press_69 : decode cX4_press 69 = .ok (.iconst 1, 1) := by decide +kernel
theorem dX4_press_70 : decode cX4_press 70 = .ok (.goto 4, 3) := by decide +kernel
theorem dX4_press_73 : decode cX4_press 73 = .ok (.iconst 0, 1) := by decide +kernel
theorem dX4_press_74 : decode cX4_press 74 = .ok (.istore_n 1, 1) := by decide +kernel
theorem dX4_press_75 : decode cX4_press 75 = .ok (.iinc 2 1, 3) := by decide +kernel
theorem dX4_press_78 : decode cX4_press 78 = .ok (.goto (-29), 3) := by decide +kernel
theorem dX4_press_81 : decode cX4_press 81 = .ok (.aload_n 0, 1) := by decide +kernel
theorem dX4_press_82 : decode cX4_press 82 = .ok (.iload_n 1, 1) := by decide +kernel
theorem dX4_press_83 : decode cX4_press 83 = .ok (.ifCond .eq 7, 3) := by decide +kernel
theorem dX4_press_86 : decode cX4_press 86 = .ok (.iconst 0, 1) := by decide +kernel
theorem dX4_press_87 : decode cX4_press 87 = .ok (.goto 4, 3) := by decide +kernel
theorem dX4_press_90 : decode cX4_press 90 = .ok (.iconst 1, 1) := by decide +kernel
theorem dX4_press_91 : decode cX4_press 91 = .ok (.invokevirtual 62, 3) := by decide +kernel
theorem dX4_press_94 : decode cX4_press 94 = .ok (.ifCond .ne 5, 3) := by decide +kernel
theorem dX4_press_97 : decode cX4_press 97 = .ok (.iconst 0, 1) := by decide +kernel
theorem dX4_press_98 : decode cX4_press 98 = .ok (.ireturn, 1) := by decide +kernel
theorem dX4_press_99 : decode cX4_press 99 = .ok (.iconst 0, 1) := by decide +kernel
theorem dX4_press_100 : decode cX4_press 100 = .ok (.istore_n 2, 1) := by decide +kernel
theorem dX4_press_101 : decode cX4_press 101 = .ok (.iload_n 2, 1) := by decide +kernel
theorem dX4_press_102 : decode cX4_press 102 = .ok (.aload_n 0, 1) := by decide +kernel
theorem dX4_press_103 : decode cX4_press 103 = .ok (.getfield 59, 3) := by decide +kernel
theorem dX4_press_106 : decode cX4_press 106 = .ok (.if_icmp .ge 20, 3) := by decide +kernel
theorem dX4_press_109 : decode cX4_press 109 = .ok (.aload_n 0, 1) := by decide +kernel
theorem dX4_press_110 : decode cX4_press 110 = .ok (.getfield 30, 3) := by decide +kernel
theorem dX4_press_113 : decode cX4_press 113 = .ok (.iload_n 2, 1) := by decide +kernel
theorem dX4_press_114 : decode cX4_press 114 = .ok (.aload_n 0, 1) := by decide +kernel
theorem dX4_press_115 : decode cX4_press 115 = .ok (.iload_n 2, 1) := by decide +kernel
theorem dX4_press_116 : decode cX4_press 116 = .ok (.invokevirtual 86, 3) := by decide +kernel
theorem dX4_press_119 : decode cX4_press 119 = .ok (.iastore, 1) := by decide +kernel
theorem dX4_press_120 : decode cX4_press 120 = .ok (.iinc 2 1, 3) := by decide +kernel
theorem dX4_press_123 : decode cX4_press 123 = .ok (.goto (-22), 3) := by decide +kernel
theorem dX4_press_126 : decode cX4_press 126 = .ok (.iconst 0, 1) := by decide +kernel
theorem dX4_press_127 : decode cX4_press 127 = .ok (.istore_n 2, 1) := by decide +kernel
theorem dX4_press_128 : decode cX4_press 128 = .ok (.iload_n 2, 1) := by decide +kernel
theorem dX4_press_129 : decode cX4_press 129 = .ok (.bipush 16, 2) := by decide +kernel
theorem dX4_press_131 : decode cX4_press 131 = .ok (.if_icmp .ge 16, 3) := by decide +kernel
theorem dX4_press_134 : decode cX4_press 134 = .ok (.aload_n 0, 1) := by decide +kernel
theorem dX4_press_135 : decode cX4_press 135 = .ok (.getfield 17, 3) := by decide +kernel
theorem dX4_press_138 : decode cX4_press 138 = .ok (.iload_n 2, 1) := by decide +kernel
theorem dX4_press_139 : decode cX4_press 139 = .ok (.iconst 0, 1) := by decide +kernel
theorem dX4_press_140 : decode cX4_press 140 = .ok (.iastore, 1) := by decide +kernel
theorem dX4_press_141 : decode cX4_press 141 = .ok (.iinc 2 1, 3) := by decide +kernel
theorem dX4_press_144 : decode cX4_press 144 = .ok (.goto (-16), 3) := by decide +kernel
theorem dX4_press_147 : decode cX4_press 147 = .ok (.aload_n 0, 1) := by decide +kernel
theorem dX4_press_148 : decode cX4_press 148 = .ok (.getfield 59, 3) := by decide +kernel
theorem dX4_press_151 : decode cX4_press 151 = .ok (.ireturn, 1) := by decide +kernel
set_option maxRecDepth 20000 in
theorem ggX4_open_X4_countOpen : GoodIn wsX4_open wsX4_countOpen := goodIn_r _ [6, 7, 8, 9, 5, 10, 11, 12, 13, 14, 15, 16, 17, 18, 19, 20, 21, 22, 23, 24, 25, 26, 27, 28, 29, 30, 31, 32, 33, 34, 35, 36, 37] (by decide +kernel) (by decide +kernel)
set_option maxRecDepth 20000 in
theorem gX4_open_X4_countOpen : GoodIn wsX4_open (wsV RX4 72 RX4 yX4_countOpen wsX4_countOpen) := goodIn_app (goodIn_of _ (by decide +kernel)) ggX4_open_X4_countOpen
theorem dX4_open_0 : decode cX4_open 0 = .ok (.aload_n 0, 1) := by decide +kernel
theorem dX4_open_1 : decode cX4_open 1 = .ok (.iconst 0, 1) := by decide +kernel
theorem dX4_open_2 : decode cX4_open 2 = .ok (.putfield 48, 3) := by decide +kernel
theorem dX4_open_5 : decode cX4_open 5 = .ok (.aload_n 0, 1) := by decide +kernel
theorem dX4_open_6 : decode cX4_open 6 = .ok (.invokevirtual 72, 3) := by decide +kernel
theorem dX4_open_9 : decode cX4_open 9 = .ok (.ireturn, 1) := by decide +kernel
theorem dX4_runs_0 : decode cX4_runs 0 = .ok (.aload_n 0, 1) := by decide +kernel
theorem dX4_runs_1 : decode cX4_runs 1 = .ok (.iconst 0, 1) := by decide +kernel
theorem dX4_runs_2 : decode cX4_runs 2 = .ok (.putfield 48, 3) := by decide +kernel
theorem dX4_runs_5 : decode cX4_runs 5 = .ok (.aload_n 0, 1) := by decide +kernel
theorem dX4_runs_6 : decode cX4_runs 6 = .ok (.getfield 59, 3) := by decide +kernel
theorem dX4_runs_9 : decode cX4_runs 9 = .ok (.ireturn, 1) := by decide +kernel
set_option maxRecDepth 20000 in
theorem ggX4_firstOf_X4_isRun : GoodIn wsX4_firstOf wsX4_isRun := goodIn_r _ [6, 7, 8, 9, 5, 10, 16, 17, 18, 19, 20, 21, 22, 23, 24, 25, 26, 27, 28, 29, 30, 31, 32, 33] (by decide +kernel) (by decide +kernel)
set_option maxRecDepth 20000 in
theorem gX4_firstOf_X4_isRun : GoodIn wsX4_firstOf (wsV RX4 76 RX4 yX4_isRun wsX4_isRun) := goodIn_app (goodIn_of _ (by decide +kernel)) ggX4_firstOf_X4_isRun
set_option maxRecDepth 20000 in
theorem ggX4_firstOf_X4_goesWell : GoodIn wsX4_firstOf wsX4_goesWell := goodIn_r _ [14, 15, 16, 17, 18, 19, 20, 21, 22, 23, 24, 25, 26, 27, 28, 29, 30, 31, 32, 33] (by decide +kernel) (by decide +kernel)
set_option maxRecDepth 20000 in
theorem gX4_firstOf_X4_goesWell : GoodIn wsX4_firstOf (wsV RX4 62 RX4 yX4_goesWell wsX4_goesWell) := goodIn_app (goodIn_of _ (by decide +kernel)) ggX4_firstOf_X4_goesWell
theorem dX4_firstOf_0 : decode cX4_firstOf 0 = .ok (.aload_n 0, 1) := by decide +kernel
theorem dX4_firstOf_1 : decode cX4_firstOf 1 = .ok (.aload_n 0, 1) := by decide +kernel
theorem dX4_firstOf_2 : decode cX4_firstOf 2 = .ok (.iload_n 1, 1) := by decide +kernel
theorem dX4_firstOf_3 : decode cX4_firstOf 3 = .ok (.invokevirtual 76, 3) := by decide +kernel
theorem dX4_firstOf_6 : decode cX4_firstOf 6 = .ok (.ifCond .eq 7, 3) := by decide +kernel
theorem dX4_firstOf_9 : decode cX4_firstOf 9 = .ok (.iconst 0, 1) := by decide +kernel
theorem dX4_firstOf_10 : decode cX4_firstOf 10 = .ok (.goto 4, 3) := by decide +kernel
theorem dX4_firstOf_13 : decode cX4_firstOf 13 = .ok (.iconst 1, 1) := by decide +kernel
theorem dX4_firstOf_14 : decode cX4_firstOf 14 = .ok (.invokevirtual 62, 3) := by decide +kernel
theorem dX4_firstOf_17 : decode cX4_firstOf 17 = .ok (.ifCond .eq 12, 3) := by decide +kernel
theorem dX4_firstOf_20 : decode cX4_firstOf 20 = .ok (.aload_n 0, 1) := by decide +kernel
theorem dX4_firstOf_21 : decode cX4_firstOf 21 = .ok (.getfield 21, 3) := by decide +kernel
theorem dX4_firstOf_24 : decode cX4_firstOf 24 = .ok (.iload_n 1, 1) := by decide +kernel
theorem dX4_firstOf_25 : decode cX4_firstOf 25 = .ok (.iaload, 1) := by decide +kernel
theorem dX4_firstOf_26 : decode cX4_firstOf 26 = .ok (.goto 4, 3) := by decide +kernel
theorem dX4_firstOf_29 : decode cX4_firstOf 29 = .ok (.iconst 0, 1) := by decide +kernel
theorem dX4_firstOf_30 : decode cX4_firstOf 30 = .ok (.ireturn, 1) := by decide +kernel
set_option maxRecDepth 20000 in
theorem ggX4_lengthOf_X4_isRun : GoodIn wsX4_lengthOf wsX4_isRun := goodIn_r _ [6, 7, 8, 9, 5, 10, 16, 17, 18, 19, 20, 21, 22, 23, 24, 25, 26, 27, 28, 29, 30, 31, 32, 33] (by decide +kernel) (by decide +kernel)
set_option maxRecDepth 20000 in
theorem gX4_lengthOf_X4_isRun : GoodIn wsX4_lengthOf (wsV RX4 76 RX4 yX4_isRun wsX4_isRun) := goodIn_app (goodIn_of _ (by decide +kernel)) ggX4_lengthOf_X4_isRun
set_option maxRecDepth 20000 in
theorem ggX4_lengthOf_X4_goesWell : GoodIn wsX4_lengthOf wsX4_goesWell := goodIn_r _ [14, 15, 16, 17, 18, 19, 20, 21, 22, 23, 24, 25, 26, 27, 28, 29, 30, 31, 32, 33] (by decide +kernel) (by decide +kernel)
set_option maxRecDepth 20000 in
theorem gX4_lengthOf_X4_goesWell : GoodIn wsX4_lengthOf (wsV RX4 62 RX4 yX4_goesWell wsX4_goesWell) := goodIn_app (goodIn_of _ (by decide +kernel)) ggX4_lengthOf_X4_goesWell
theorem dX4_lengthOf_0 : decode cX4_lengthOf 0 = .ok (.aload_n 0, 1) := by decide +kernel
theorem dX4_lengthOf_1 : decode cX4_lengthOf 1 = .ok (.aload_n 0, 1) := by decide +kernel
theorem dX4_lengthOf_2 : decode cX4_lengthOf 2 = .ok (.iload_n 1, 1) := by decide +kernel
theorem dX4_lengthOf_3 : decode cX4_lengthOf 3 = .ok (.invokevirtual 76, 3) := by decide +kernel
theorem dX4_lengthOf_6 : decode cX4_lengthOf 6 = .ok (.ifCond .eq 7, 3) := by decide +kernel
theorem dX4_lengthOf_9 : decode cX4_lengthOf 9 = .ok (.iconst 0, 1) := by decide +kernel
theorem dX4_lengthOf_10 : decode cX4_lengthOf 10 = .ok (.goto 4, 3) := by decide +kernel
theorem dX4_lengthOf_13 : decode cX4_lengthOf 13 = .ok (.iconst 1, 1) := by decide +kernel
theorem dX4_lengthOf_14 : decode cX4_lengthOf 14 = .ok (.invokevirtual 62, 3) := by decide +kernel
theorem dX4_lengthOf_17 : decode cX4_lengthOf 17 = .ok (.ifCond .eq 12, 3) := by decide +kernel
theorem dX4_lengthOf_20 : decode cX4_lengthOf 20 = .ok (.aload_n 0, 1) := by decide +kernel
theorem dX4_lengthOf_21 : decode cX4_lengthOf 21 = .ok (.getfield 24, 3) := by decide +kernel
theorem dX4_lengthOf_24 : decode cX4_lengthOf 24 = .ok (.iload_n 1, 1) := by decide +kernel
theorem dX4_lengthOf_25 : decode cX4_lengthOf 25 = .ok (.iaload, 1) := by decide +kernel
theorem dX4_lengthOf_26 : decode cX4_lengthOf 26 = .ok (.goto 4, 3) := by decide +kernel
theorem dX4_lengthOf_29 : decode cX4_lengthOf 29 = .ok (.iconst 0, 1) := by decide +kernel
theorem dX4_lengthOf_30 : decode cX4_lengthOf 30 = .ok (.ireturn, 1) := by decide +kernel
set_option maxRecDepth 20000 in
theorem ggX4_sumOf_X4_isRun : GoodIn wsX4_sumOf wsX4_isRun := goodIn_r _ [6, 7, 8, 9, 5, 10, 16, 17, 18, 19, 20, 21, 22, 23, 24, 25, 26, 27, 28, 29, 30, 31, 32, 33] (by decide +kernel) (by decide +kernel)
set_option maxRecDepth 20000 in
theorem gX4_sumOf_X4_isRun : GoodIn wsX4_sumOf (wsV RX4 76 RX4 yX4_isRun wsX4_isRun) := goodIn_app (goodIn_of _ (by decide +kernel)) ggX4_sumOf_X4_isRun
set_option maxRecDepth 20000 in
theorem ggX4_sumOf_X4_goesWell : GoodIn wsX4_sumOf wsX4_goesWell := goodIn_r _ [14, 15, 16, 17, 18, 19, 20, 21, 22, 23, 24, 25, 26, 27, 28, 29, 30, 31, 32, 33] (by decide +kernel) (by decide +kernel)
set_option maxRecDepth 20000 in
theorem gX4_sumOf_X4_goesWell : GoodIn wsX4_sumOf (wsV RX4 62 RX4 yX4_goesWell wsX4_goesWell) := goodIn_app (goodIn_of _ (by decide +kernel)) ggX4_sumOf_X4_goesWell
theorem dX4_sumOf_0 : decode cX4_sumOf 0 = .ok (.aload_n 0, 1) := by decide +kernel
theorem dX4_sumOf_1 : decode cX4_sumOf 1 = .ok (.aload_n 0, 1) := by decide +kernel
theorem dX4_sumOf_2 : decode cX4_sumOf 2 = .ok (.iload_n 1, 1) := by decide +kernel
theorem dX4_sumOf_3 : decode cX4_sumOf 3 = .ok (.invokevirtual 76, 3) := by decide +kernel
theorem dX4_sumOf_6 : decode cX4_sumOf 6 = .ok (.ifCond .eq 7, 3) := by decide +kernel
theorem dX4_sumOf_9 : decode cX4_sumOf 9 = .ok (.iconst 0, 1) := by decide +kernel
theorem dX4_sumOf_10 : decode cX4_sumOf 10 = .ok (.goto 4, 3) := by decide +kernel
theorem dX4_sumOf_13 : decode cX4_sumOf 13 = .ok (.iconst 1, 1) := by decide +kernel
theorem dX4_sumOf_14 : decode cX4_sumOf 14 = .ok (.invokevirtual 62, 3) := by decide +kernel
theorem dX4_sumOf_17 : decode cX4_sumOf 17 = .ok (.ifCond .eq 12, 3) := by decide +kernel
theorem dX4_sumOf_20 : decode cX4_sumOf 20 = .ok (.aload_n 0, 1) := by decide +kernel
theorem dX4_sumOf_21 : decode cX4_sumOf 21 = .ok (.getfield 30, 3) := by decide +kernel
theorem dX4_sumOf_24 : decode cX4_sumOf 24 = .ok (.iload_n 1, 1) := by decide +kernel
theorem dX4_sumOf_25 : decode cX4_sumOf 25 = .ok (.iaload, 1) := by decide +kernel
theorem dX4_sumOf_26 : decode cX4_sumOf 26 = .ok (.goto 4, 3) := by decide +kernel
theorem dX4_sumOf_29 : decode cX4_sumOf 29 = .ok (.iconst 0, 1) := by decide +kernel
theorem dX4_sumOf_30 : decode cX4_sumOf 30 = .ok (.ireturn, 1) := by decide +kernel
set_option maxRecDepth 20000 in
theorem ggX4_digit_X4_isCell : GoodIn wsX4_digit wsX4_isCell := goodIn_r _ [7, 8, 9, 10, 6, 11, 17, 18, 19, 20, 21, 22, 23, 24, 25, 26, 27, 28, 29, 30, 31, 32, 33, 34] (by decide +kernel) (by decide +kernel)
set_option maxRecDepth 20000 in
theorem gX4_digit_X4_isCell : GoodIn wsX4_digit (wsV RX4 55 RX4 yX4_isCell wsX4_isCell) := goodIn_app (goodIn_of _ (by decide +kernel)) ggX4_digit_X4_isCell
set_option maxRecDepth 20000 in
theorem ggX4_digit_X4_goesWell : GoodIn wsX4_digit wsX4_goesWell := goodIn_r _ [15, 16, 17, 18, 19, 20, 21, 22, 23, 24, 25, 26, 27, 28, 29, 30, 31, 32, 33, 34] (by decide +kernel) (by decide +kernel)
set_option maxRecDepth 20000 in
theorem gX4_digit_X4_goesWell : GoodIn wsX4_digit (wsV RX4 62 RX4 yX4_goesWell wsX4_goesWell) := goodIn_app (goodIn_of _ (by decide +kernel)) ggX4_digit_X4_goesWell
theorem dX4_digit_0 : decode cX4_digit 0 = .ok (.aload_n 0, 1) := by decide +kernel
theorem dX4_digit_1 : decode cX4_digit 1 = .ok (.aload_n 0, 1) := by decide +kernel
theorem dX4_digit_2 : decode cX4_digit 2 = .ok (.iload_n 1, 1) := by decide +kernel
theorem dX4_digit_3 : decode cX4_digit 3 = .ok (.invokevirtual 55, 3) := by decide +kernel
theorem dX4_digit_6 : decode cX4_digit 6 = .ok (.ifCond .eq 7, 3) := by decide +kernel
theorem dX4_digit_9 : decode cX4_digit 9 = .ok (.iconst 0, 1) := by decide +kernel
theorem dX4_digit_10 : decode cX4_digit 10 = .ok (.goto 4, 3) := by decide +kernel
theorem dX4_digit_13 : decode cX4_digit 13 = .ok (.iconst 1, 1) := by decide +kernel
theorem dX4_digit_14 : decode cX4_digit 14 = .ok (.invokevirtual 62, 3) := by decide +kernel
theorem dX4_digit_17 : decode cX4_digit 17 = .ok (.ifCond .ne 5, 3) := by decide +kernel
theorem dX4_digit_20 : decode cX4_digit 20 = .ok (.iconst 0, 1) := by decide +kernel
theorem dX4_digit_21 : decode cX4_digit 21 = .ok (.ireturn, 1) := by decide +kernel
theorem dX4_digit_22 : decode cX4_digit 22 = .ok (.aload_n 0, 1) := by decide +kernel
theorem dX4_digit_23 : decode cX4_digit 23 = .ok (.getfield 13, 3) := by decide +kernel
theorem dX4_digit_26 : decode cX4_digit 26 = .ok (.iload_n 1, 1) := by decide +kernel
theorem dX4_digit_27 : decode cX4_digit 27 = .ok (.baload, 1) := by decide +kernel
theorem dX4_digit_28 : decode cX4_digit 28 = .ok (.ifCond .eq 7, 3) := by decide +kernel
theorem dX4_digit_31 : decode cX4_digit 31 = .ok (.iconst (-1), 1) := by decide +kernel
theorem dX4_digit_32 : decode cX4_digit 32 = .ok (.goto 9, 3) := by decide +kernel
theorem dX4_digit_35 : decode cX4_digit 35 = .ok (.aload_n 0, 1) := by decide +kernel
theorem dX4_digit_36 : decode cX4_digit 36 = .ok (.getfield 17, 3) := by decide +kernel
theorem dX4_digit_39 : decode cX4_digit 39 = .ok (.iload_n 1, 1) := by decide +kernel
theorem dX4_digit_40 : decode cX4_digit 40 = .ok (.iaload, 1) := by decide +kernel
theorem dX4_digit_41 : decode cX4_digit 41 = .ok (.ireturn, 1) := by decide +kernel
set_option maxRecDepth 20000 in
theorem ggX4_isGood_X4_has : GoodIn wsX4_isGood wsX4_has := goodIn_r _ [9, 10, 11, 2, 20, 21, 22, 23, 24, 25, 26, 27, 28, 29, 30, 31, 32, 33, 34, 35, 36, 37] (by decide +kernel) (by decide +kernel)
set_option maxRecDepth 20000 in
theorem gX4_isGood_X4_has : GoodIn wsX4_isGood (wsV RX4 93 RX4 yX4_has wsX4_has) := goodIn_app (goodIn_of _ (by decide +kernel)) ggX4_isGood_X4_has
set_option maxRecDepth 20000 in
theorem ggX4_isGood_X4_cellOf : GoodIn wsX4_isGood wsX4_cellOf := goodIn_r _ [15, 10, 11, 20, 21, 22, 23, 24, 25, 26, 27, 28, 29, 30, 31, 32, 33, 34, 35, 36, 37] (by decide +kernel) (by decide +kernel)
set_option maxRecDepth 20000 in
theorem gX4_isGood_X4_cellOf : GoodIn wsX4_isGood (wsV RX4 79 RX4 yX4_cellOf wsX4_cellOf) := goodIn_app (goodIn_of _ (by decide +kernel)) ggX4_isGood_X4_cellOf
set_option maxRecDepth 20000 in
theorem ggX4_isGood_X4_sumUp : GoodIn wsX4_isGood wsX4_sumUp := goodIn_r _ [19, 2, 3, 12, 13, 14, 8, 15, 10, 11, 20, 21, 22, 23, 24, 25, 26, 27, 28, 29, 30, 31, 32, 33, 34, 35, 36, 37] (by decide +kernel) (by decide +kernel)
set_option maxRecDepth 20000 in
theorem gX4_isGood_X4_sumUp : GoodIn wsX4_isGood (wsV RX4 86 RX4 yX4_sumUp wsX4_sumUp) := goodIn_app (goodIn_of _ (by decide +kernel)) ggX4_isGood_X4_sumUp
theorem dX4_isGood_0 : decode cX4_isGood 0 = .ok (.iconst 1, 1) := by decide +kernel
theorem dX4_isGood_1 : decode cX4_isGood 1 = .ok (.istore_n 3, 1) := by decide +kernel
theorem dX4_isGood_2 : decode cX4_isGood 2 = .ok (.iconst 0, 1) := by decide +kernel
theorem dX4_isGood_3 : decode cX4_isGood 3 = .ok (.istore 4, 2) := by decide +kernel
theorem dX4_isGood_5 : decode cX4_isGood 5 = .ok (.iload 4, 2) := by decide +kernel
theorem dX4_isGood_7 : decode cX4_isGood 7 = .ok (.aload_n 0, 1) := by decide +kernel
theorem dX4_isGood_8 : decode cX4_isGood 8 = .ok (.getfield 59, 3) := by decide +kernel
theorem dX4_isGood_11 : decode cX4_isGood 11 = .ok (.if_icmp .ge 171, 3) := by decide +kernel
theorem dX4_isGood_14 : decode cX4_isGood 14 = .ok (.iload_n 3, 1) := by decide +kernel
theorem dX4_isGood_15 : decode cX4_isGood 15 = .ok (.ifCond .eq 167, 3) := by decide +kernel
theorem dX4_isGood_18 : decode cX4_isGood 18 = .ok (.aload_n 0, 1) := by decide +kernel
theorem dX4_isGood_19 : decode cX4_isGood 19 = .ok (.iload 4, 2) := by decide +kernel
theorem dX4_isGood_21 : decode cX4_isGood 21 = .ok (.iload_n 1, 1) := by decide +kernel
theorem dX4_isGood_22 : decode cX4_isGood 22 = .ok (.invokevirtual 93, 3) := by decide +kernel
theorem dX4_isGood_25 : decode cX4_isGood 25 = .ok (.ifCond .eq 151, 3) := by decide +kernel
theorem dX4_isGood_28 : decode cX4_isGood 28 = .ok (.iconst 1, 1) := by decide +kernel
theorem dX4_isGood_29 : decode cX4_isGood 29 = .ok (.istore 5, 2) := by decide +kernel
theorem dX4_isGood_31 : decode cX4_isGood 31 = .ok (.iconst 0, 1) := by decide +kernel
theorem dX4_isGood_32 : decode cX4_isGood 32 = .ok (.istore 6, 2) := by decide +kernel
theorem dX4_isGood_34 : decode cX4_isGood 34 = .ok (.iload 6, 2) := by decide +kernel
theorem dX4_isGood_36 : decode cX4_isGood 36 = .ok (.aload_n 0, 1) := by decide +kernel
theorem dX4_isGood_37 : decode cX4_isGood 37 = .ok (.getfield 24, 3) := by decide +kernel
theorem dX4_isGood_40 : decode cX4_isGood 40 = .ok (.iload 4, 2) := by decide +kernel
theorem dX4_isGood_42 : decode cX4_isGood 42 = .ok (.iaload, 1) := by decide +kernel
theorem dX4_isGood_43 : decode cX4_isGood 43 = .ok (.if_icmp .ge 74, 3) := by decide +kernel
theorem dX4_isGood_46 : decode cX4_isGood 46 = .ok (.aload_n 0, 1) := by decide +kernel
theorem dX4_isGood_47 : decode cX4_isGood 47 = .ok (.iload 4, 2) := by decide +kernel
theorem dX4_isGood_49 : decode cX4_isGood 49 = .ok (.iload 6, 2) := by decide +kernel
theorem dX4_isGood_51 : decode cX4_isGood 51 = .ok (.invokevirtual 79, 3) := by decide +kernel
theorem dX4_isGood_54 : decode cX4_isGood 54 = .ok (.istore 7, 2) := by decide +kernel
theorem dX4_isGood_56 : decode cX4_isGood 56 = .ok (.iload_n 3, 1) := by decide +kernel
theorem dX4_isGood_57 : decode cX4_isGood 57 = .ok (.ifCond .eq 24, 3) := by decide +kernel
theorem dX4_isGood_60 : decode cX4_isGood 60 = .ok (.iload 7, 2) := by decide +kernel
theorem dX4_isGood_62 : decode cX4_isGood 62 = .ok (.iload_n 1, 1) := by decide +kernel
theorem dX4_isGood_63 : decode cX4_isGood 63 = .ok (.if_icmp .eq 14, 3) := by decide +kernel
theorem dX4_isGood_66 : decode cX4_isGood 66 = .ok (.aload_n 0, 1) := by decide +kernel
theorem dX4_isGood_67 : decode cX4_isGood 67 = .ok (.getfield 36, 3) := by decide +kernel
theorem dX4_isGood_70 : decode cX4_isGood 70 = .ok (.iload 7, 2) := by decide +kernel
theorem dX4_isGood_72 : decode cX4_isGood 72 = .ok (.iaload, 1) := by decide +kernel
theorem dX4_isGood_73 : decode cX4_isGood 73 = .ok (.iload_n 2, 1) := by decide +kernel
theorem dX4_isGood_74 : decode cX4_isGood 74 = .ok (.if_icmp .eq 7, 3) := by decide +kernel
theorem dX4_isGood_77 : decode cX4_isGood 77 = .ok (.iconst 1, 1) := by decide +kernel
theorem dX4_isGood_78 : decode cX4_isGood 78 = .ok (.goto 4, 3) := by decide +kernel
theorem dX4_isGood_81 : decode cX4_isGood 81 = .ok (.iconst 0, 1) := by decide +kernel
theorem dX4_isGood_82 : decode cX4_isGood 82 = .ok (.istore_n 3, 1) := by decide +kernel
theorem dX4_isGood_83 : decode cX4_isGood 83 = .ok (.iload 5, 2) := by decide +kernel
theorem dX4_isGood_85 : decode cX4_isGood 85 = .ok (.ifCond .eq 23, 3) := by decide +kernel
theorem dX4_isGood_88 : decode cX4_isGood 88 = .ok (.iload 7, 2) := by decide +kernel
theorem dX4_isGood_90 : decode cX4_isGood 90 = .ok (.iload_n 1, 1) := by decide +kernel
theorem dX4_isGood_91 : decode cX4_isGood 91 = .ok (.if_icmp .eq 13, 3) := by decide +kernel
theorem dX4_isGood_94 : decode cX4_isGood 94 = .ok (.aload_n 0, 1) := by decide +kernel
theorem dX4_isGood_95 : decode cX4_isGood 95 = .ok (.getfield 36, 3) := by decide +kernel
theorem dX4_isGood_98 : decode cX4_isGood 98 = .ok (.iload 7, 2) := by decide +kernel
theorem dX4_isGood_100 : decode cX4_isGood 100 = .ok (.iaload, 1) := by decide +kernel
theorem dX4_isGood_101 : decode cX4_isGood 101 = .ok (.ifCond .le 7, 3) := by decide +kernel
theorem dX4_isGood_104 : decode cX4_isGood 104 = .ok (.iconst 1, 1) := by decide +kernel
theorem dX4_isGood_105 : decode cX4_isGood 105 = .ok (.goto 4, 3) := by decide +kernel
theorem dX4_isGood_108 : decode cX4_isGood 108 = .ok (.iconst 0, 1) := by decide +kernel
theorem dX4_isGood_109 : decode cX4_isGood 109 = .ok (.istore 5, 2) := by decide +kernel
theorem dX4_isGood_111 : decode cX4_isGood 111 = .ok (.iinc 6 1, 3) := by decide +kernel
theorem dX4_isGood_114 : decode cX4_isGood 114 = .ok (.goto (-80), 3) := by decide +kernel
theorem dX4_isGood_117 : decode cX4_isGood 117 = .ok (.aload_n 0, 1) := by decide +kernel
theorem dX4_isGood_118 : decode cX4_isGood 118 = .ok (.iload 4, 2) := by decide +kernel
theorem dX4_isGood_120 : decode cX4_isGood 120 = .ok (.invokevirtual 86, 3) := by decide +kernel
theorem dX4_isGood_123 : decode cX4_isGood 123 = .ok (.iload_n 2, 1) := by decide +kernel
theorem dX4_isGood_124 : decode cX4_isGood 124 = .ok (.iadd, 1) := by decide +kernel
theorem dX4_isGood_125 : decode cX4_isGood 125 = .ok (.istore 6, 2) := by decide +kernel
theorem dX4_isGood_127 : decode cX4_isGood 127 = .ok (.iload_n 3, 1) := by decide +kernel
theorem dX4_isGood_128 : decode cX4_isGood 128 = .ok (.ifCond .eq 46, 3) := by decide +kernel
theorem dX4_isGood_131 : decode cX4_isGood 131 = .ok (.aload_n 0, 1) := by decide +kernel
theorem dX4_isGood_132 : decode cX4_isGood 132 = .ok (.getfield 30, 3) := by decide +kernel
theorem dX4_isGood_135 : decode cX4_isGood 135 = .ok (.iload 4, 2) := by decide +kernel
theorem dX4_isGood_137 : decode cX4_isGood 137 = .ok (.iaload, 1) := by decide +kernel
theorem dX4_isGood_138 : decode cX4_isGood 138 = .ok (.ifCond .eq 32, 3) := by decide +kernel
theorem dX4_isGood_141 : decode cX4_isGood 141 = .ok (.iload 6, 2) := by decide +kernel
theorem dX4_isGood_143 : decode cX4_isGood 143 = .ok (.aload_n 0, 1) := by decide +kernel
theorem dX4_isGood_144 : decode cX4_isGood 144 = .ok (.getfield 30, 3) := by decide +kernel
theorem dX4_isGood_147 : decode cX4_isGood 147 = .ok (.iload 4, 2) := by decide +kernel
theorem dX4_isGood_149 : decode cX4_isGood 149 = .ok (.iaload, 1) := by decide +kernel
theorem dX4_isGood_150 : decode cX4_isGood 150 = .ok (.if_icmp .eq 20, 3) := by decide +kernel
theorem dX4_isGood_153 : decode cX4_isGood 153 = .ok (.iload 6, 2) := by decide +kernel
theorem dX4_isGood_155 : decode cX4_isGood 155 = .ok (.aload_n 0, 1) := by decide +kernel
theorem dX4_isGood_156 : decode cX4_isGood 156 = .ok (.getfield 30, 3) := by decide +kernel
theorem dX4_isGood_159 : decode cX4_isGood 159 = .ok (.iload 4, 2) := by decide +kernel
theorem dX4_isGood_161 : decode cX4_isGood 161 = .ok (.iaload, 1) := by decide +kernel
theorem dX4_isGood_162 : decode cX4_isGood 162 = .ok (.if_icmp .ge 12, 3) := by decide +kernel
theorem dX4_isGood_165 : decode cX4_isGood 165 = .ok (.iload 5, 2) := by decide +kernel
theorem dX4_isGood_167 : decode cX4_isGood 167 = .ok (.ifCond .ne 7, 3) := by decide +kernel
theorem dX4_isGood_170 : decode cX4_isGood 170 = .ok (.iconst 1, 1) := by decide +kernel
theorem dX4_isGood_171 : decode cX4_isGood 171 = .ok (.goto 4, 3) := by decide +kernel
theorem dX4_isGood_174 : decode cX4_isGood 174 = .ok (.iconst 0, 1) := by decide +kernel
theorem dX4_isGood_175 : decode cX4_isGood 175 = .ok (.istore_n 3, 1) := by decide +kernel
theorem dX4_isGood_176 : decode cX4_isGood 176 = .ok (.iinc 4 1, 3) := by decide +kernel
theorem dX4_isGood_179 : decode cX4_isGood 179 = .ok (.goto (-174), 3) := by decide +kernel
theorem dX4_isGood_182 : decode cX4_isGood 182 = .ok (.iload_n 3, 1) := by decide +kernel
theorem dX4_isGood_183 : decode cX4_isGood 183 = .ok (.ireturn, 1) := by decide +kernel
set_option maxRecDepth 20000 in
theorem ggX4_layTried_X4_copyGiven : GoodIn wsX4_layTried wsX4_copyGiven := goodIn_r _ [8, 9, 2, 23, 24, 25, 26, 27, 28, 29, 30, 31, 32, 33, 34, 35, 36, 37, 38, 39, 40] (by decide +kernel) (by decide +kernel)
set_option maxRecDepth 20000 in
theorem gX4_layTried_X4_copyGiven : GoodIn wsX4_layTried (wsV RX4 90 RX4 yX4_copyGiven wsX4_copyGiven) := goodIn_app (goodIn_of _ (by decide +kernel)) ggX4_layTried_X4_copyGiven
set_option maxRecDepth 20000 in
theorem ggX4_layTried_X4_isOpen : GoodIn wsX4_layTried wsX4_isOpen := goodIn_r _ [13, 14, 15, 16, 17, 7, 18, 19, 20, 21, 22, 23, 24, 25, 26, 27, 28, 29, 30, 31, 32, 33, 34, 35, 36, 37, 38, 39, 40] (by decide +kernel) (by decide +kernel)
set_option maxRecDepth 20000 in
theorem gX4_layTried_X4_isOpen : GoodIn wsX4_layTried (wsV RX4 69 RX4 yX4_isOpen wsX4_isOpen) := goodIn_app (goodIn_of _ (by decide +kernel)) ggX4_layTried_X4_isOpen
theorem dX4_layTried_0 : decode cX4_layTried 0 = .ok (.aload_n 0, 1) := by decide +kernel
theorem dX4_layTried_1 : decode cX4_layTried 1 = .ok (.invokevirtual 90, 3) := by decide +kernel
theorem dX4_layTried_4 : decode cX4_layTried 4 = .ok (.aload_n 0, 1) := by decide +kernel
theorem dX4_layTried_5 : decode cX4_layTried 5 = .ok (.iconst 0, 1) := by decide +kernel
theorem dX4_layTried_6 : decode cX4_layTried 6 = .ok (.putfield 97, 3) := by decide +kernel
theorem dX4_layTried_9 : decode cX4_layTried 9 = .ok (.iconst 0, 1) := by decide +kernel
theorem dX4_layTried_10 : decode cX4_layTried 10 = .ok (.istore_n 1, 1) := by decide +kernel
theorem dX4_layTried_11 : decode cX4_layTried 11 = .ok (.iload_n 1, 1) := by decide +kernel
theorem dX4_layTried_12 : decode cX4_layTried 12 = .ok (.bipush 16, 2) := by decide +kernel
theorem dX4_layTried_14 : decode cX4_layTried 14 = .ok (.if_icmp .ge 46, 3) := by decide +kernel
theorem dX4_layTried_17 : decode cX4_layTried 17 = .ok (.aload_n 0, 1) := by decide +kernel
theorem dX4_layTried_18 : decode cX4_layTried 18 = .ok (.iload_n 1, 1) := by decide +kernel
theorem dX4_layTried_19 : decode cX4_layTried 19 = .ok (.invokevirtual 69, 3) := by decide +kernel
theorem dX4_layTried_22 : decode cX4_layTried 22 = .ok (.ifCond .eq 32, 3) := by decide +kernel
theorem dX4_layTried_25 : decode cX4_layTried 25 = .ok (.aload_n 0, 1) := by decide +kernel
theorem dX4_layTried_26 : decode cX4_layTried 26 = .ok (.getfield 17, 3) := by decide +kernel
theorem dX4_layTried_29 : decode cX4_layTried 29 = .ok (.iload_n 1, 1) := by decide +kernel
theorem dX4_layTried_30 : decode cX4_layTried 30 = .ok (.iaload, 1) := by decide +kernel
theorem dX4_layTried_31 : decode cX4_layTried 31 = .ok (.ifCond .ne 23, 3) := by decide +kernel
theorem dX4_layTried_34 : decode cX4_layTried 34 = .ok (.aload_n 0, 1) := by decide +kernel
theorem dX4_layTried_35 : decode cX4_layTried 35 = .ok (.getfield 33, 3) := by decide +kernel
theorem dX4_layTried_38 : decode cX4_layTried 38 = .ok (.aload_n 0, 1) := by decide +kernel
theorem dX4_layTried_39 : decode cX4_layTried 39 = .ok (.getfield 97, 3) := by decide +kernel
theorem dX4_layTried_42 : decode cX4_layTried 42 = .ok (.iload_n 1, 1) := by decide +kernel
theorem dX4_layTried_43 : decode cX4_layTried 43 = .ok (.iastore, 1) := by decide +kernel
theorem dX4_layTried_44 : decode cX4_layTried 44 = .ok (.aload_n 0, 1) := by decide +kernel
theorem dX4_layTried_45 : decode cX4_layTried 45 = .ok (.dup, 1) := by decide +kernel
theorem dX4_layTried_46 : decode cX4_layTried 46 = .ok (.getfield 97, 3) := by decide +kernel
theorem dX4_layTried_49 : decode cX4_layTried 49 = .ok (.iconst 1, 1) := by decide +kernel
theorem dX4_layTried_50 : decode cX4_layTried 50 = .ok (.iadd, 1) := by decide +kernel
theorem dX4_layTried_51 : decode cX4_layTried 51 = .ok (.putfield 97, 3) := by decide +kernel
theorem dX4_layTried_54 : decode cX4_layTried 54 = .ok (.iinc 1 1, 3) := by decide +kernel
theorem dX4_layTried_57 : decode cX4_layTried 57 = .ok (.goto (-46), 3) := by decide +kernel
theorem dX4_layTried_60 : decode cX4_layTried 60 = .ok (.return_, 1) := by decide +kernel
theorem dX4_keep_0 : decode cX4_keep 0 = .ok (.bipush 15, 2) := by decide +kernel
theorem dX4_keep_2 : decode cX4_keep 2 = .ok (.istore_n 2, 1) := by decide +kernel
theorem dX4_keep_3 : decode cX4_keep 3 = .ok (.iload_n 2, 1) := by decide +kernel
theorem dX4_keep_4 : decode cX4_keep 4 = .ok (.ifCond .lt 41, 3) := by decide +kernel
theorem dX4_keep_7 : decode cX4_keep 7 = .ok (.iload_n 1, 1) := by decide +kernel
theorem dX4_keep_8 : decode cX4_keep 8 = .ok (.iconst 2, 1) := by decide +kernel
theorem dX4_keep_9 : decode cX4_keep 9 = .ok (.if_icmp .ne 36, 3) := by decide +kernel
theorem dX4_keep_12 : decode cX4_keep 12 = .ok (.aload_n 0, 1) := by decide +kernel
theorem dX4_keep_13 : decode cX4_keep 13 = .ok (.aload_n 0, 1) := by decide +kernel
theorem dX4_keep_14 : decode cX4_keep 14 = .ok (.getfield 36, 3) := by decide +kernel
theorem dX4_keep_17 : decode cX4_keep 17 = .ok (.iload_n 2, 1) := by decide +kernel
theorem dX4_keep_18 : decode cX4_keep 18 = .ok (.iaload, 1) := by decide +kernel
theorem dX4_keep_19 : decode cX4_keep 19 = .ok (.aload_n 0, 1) := by decide +kernel
theorem dX4_keep_20 : decode cX4_keep 20 = .ok (.getfield 39, 3) := by decide +kernel
theorem dX4_keep_23 : decode cX4_keep 23 = .ok (.iload_n 2, 1) := by decide +kernel
theorem dX4_keep_24 : decode cX4_keep 24 = .ok (.iaload, 1) := by decide +kernel
theorem dX4_keep_25 : decode cX4_keep 25 = .ok (.if_icmp .ne 10, 3) := by decide +kernel
theorem dX4_keep_28 : decode cX4_keep 28 = .ok (.aload_n 0, 1) := by decide +kernel
theorem dX4_keep_29 : decode cX4_keep 29 = .ok (.getfield 100, 3) := by decide +kernel
theorem dX4_keep_32 : decode cX4_keep 32 = .ok (.goto 4, 3) := by decide +kernel
theorem dX4_keep_35 : decode cX4_keep 35 = .ok (.iload_n 2, 1) := by decide +kernel
theorem dX4_keep_36 : decode cX4_keep 36 = .ok (.putfield 100, 3) := by decide +kernel
theorem dX4_keep_39 : decode cX4_keep 39 = .ok (.iinc 2 (-1), 3) := by decide +kernel
theorem dX4_keep_42 : decode cX4_keep 42 = .ok (.goto (-39), 3) := by decide +kernel
theorem dX4_keep_45 : decode cX4_keep 45 = .ok (.iconst 0, 1) := by decide +kernel
theorem dX4_keep_46 : decode cX4_keep 46 = .ok (.istore_n 2, 1) := by decide +kernel
theorem dX4_keep_47 : decode cX4_keep 47 = .ok (.iload_n 2, 1) := by decide +kernel
theorem dX4_keep_48 : decode cX4_keep 48 = .ok (.bipush 16, 2) := by decide +kernel
theorem dX4_keep_50 : decode cX4_keep 50 = .ok (.if_icmp .ge 26, 3) := by decide +kernel
theorem dX4_keep_53 : decode cX4_keep 53 = .ok (.iload_n 1, 1) := by decide +kernel
theorem dX4_keep_54 : decode cX4_keep 54 = .ok (.iconst 1, 1) := by decide +kernel
theorem dX4_keep_55 : decode cX4_keep 55 = .ok (.if_icmp .ne 21, 3) := by decide +kernel
theorem dX4_keep_58 : decode cX4_keep 58 = .ok (.aload_n 0, 1) := by decide +kernel
theorem dX4_keep_59 : decode cX4_keep 59 = .ok (.getfield 39, 3) := by decide +kernel
theorem dX4_keep_62 : decode cX4_keep 62 = .ok (.iload_n 2, 1) := by decide +kernel
theorem dX4_keep_63 : decode cX4_keep 63 = .ok (.aload_n 0, 1) := by decide +kernel
theorem dX4_keep_64 : decode cX4_keep 64 = .ok (.getfield 36, 3) := by decide +kernel
theorem dX4_keep_67 : decode cX4_keep 67 = .ok (.iload_n 2, 1) := by decide +kernel
theorem dX4_keep_68 : decode cX4_keep 68 = .ok (.iaload, 1) := by decide +kernel
theorem dX4_keep_69 : decode cX4_keep 69 = .ok (.iastore, 1) := by decide +kernel
theorem dX4_keep_70 : decode cX4_keep 70 = .ok (.iinc 2 1, 3) := by decide +kernel
theorem dX4_keep_73 : decode cX4_keep 73 = .ok (.goto (-26), 3) := by decide +kernel
theorem dX4_keep_76 : decode cX4_keep 76 = .ok (.return_, 1) := by decide +kernel
set_option maxRecDepth 20000 in
theorem ggX4_attempt_X4_layTried : GoodIn wsX4_attempt wsX4_layTried := goodIn_r _ [10, 3, 11, 4, 12, 13, 14, 9, 15, 5, 16, 17, 18, 19, 20, 21, 22, 23, 24, 25, 26, 27, 28, 63, 64, 65, 66, 67, 68, 69, 70, 71, 72, 73, 74, 75, 76, 77, 78, 79, 80] (by decide +kernel) (by decide +kernel)
set_option maxRecDepth 20000 in
theorem gX4_attempt_X4_layTried : GoodIn wsX4_attempt (wsV RX4 103 RX4 yX4_layTried wsX4_layTried) := goodIn_app (goodIn_of _ (by decide +kernel)) ggX4_attempt_X4_layTried
set_option maxRecDepth 20000 in
theorem ggX4_attempt_X4_isAnswer : GoodIn wsX4_attempt wsX4_isAnswer := goodIn_r _ [32, 33, 34, 35, 36, 37, 9, 38, 39, 5, 40, 41, 42, 43, 44, 45, 46, 47, 48, 49, 63, 64, 65, 66, 67, 68, 69, 70, 71, 72, 73, 74, 75, 76, 77, 78, 79, 80] (by decide +kernel) (by decide +kernel)
set_option maxRecDepth 20000 in
theorem gX4_attempt_X4_isAnswer : GoodIn wsX4_attempt (wsV RX4 110 RX4 yX4_isAnswer wsX4_isAnswer) := goodIn_app (goodIn_of _ (by decide +kernel)) ggX4_attempt_X4_isAnswer
set_option maxRecDepth 20000 in
theorem ggX4_attempt_X4_isGood : GoodIn wsX4_attempt wsX4_isGood := goodIn_r _ [53, 33, 39, 5, 34, 54, 55, 56, 9, 57, 44, 45, 40, 41, 42, 43, 46, 47, 48, 49, 63, 64, 65, 66, 67, 68, 69, 70, 71, 72, 73, 74, 75, 76, 77, 78, 79, 80] (by decide +kernel) (by decide +kernel)
set_option maxRecDepth 20000 in
theorem gX4_attempt_X4_isGood : GoodIn wsX4_attempt (wsV RX4 114 RX4 yX4_isGood wsX4_isGood) := goodIn_app (goodIn_of _ (by decide +kernel)) ggX4_attempt_X4_isGood
set_option maxRecDepth 20000 in
theorem ggX4_attempt_X4_keep : GoodIn wsX4_attempt wsX4_keep := goodIn_r _ [61, 5, 62, 2, 63, 64, 65, 66, 67, 68, 69, 70, 71, 72, 73, 74, 75, 76, 77, 78, 79, 80] (by decide +kernel) (by decide +kernel)
set_option maxRecDepth 20000 in
theorem gX4_attempt_X4_keep : GoodIn wsX4_attempt (wsV RX4 117 RX4 yX4_keep wsX4_keep) := goodIn_app (goodIn_of _ (by decide +kernel)) ggX4_attempt_X4_keep
theorem dX4_attempt_0 : decode cX4_attempt 0 = .ok (.aload_n 0, 1) := by decide +kernel
theorem dX4_attempt_1 : decode cX4_attempt 1 = .ok (.invokevirtual 103, 3) := by decide +kernel
theorem dX4_attempt_4 : decode cX4_attempt 4 = .ok (.aload_n 0, 1) := by decide +kernel
theorem dX4_attempt_5 : decode cX4_attempt 5 = .ok (.iconst 0, 1) := by decide +kernel
theorem dX4_attempt_6 : decode cX4_attempt 6 = .ok (.putfield 106, 3) := by decide +kernel
theorem dX4_attempt_9 : decode cX4_attempt 9 = .ok (.aload_n 0, 1) := by decide +kernel
theorem dX4_attempt_10 : decode cX4_attempt 10 = .ok (.iconst (-1), 1) := by decide +kernel
theorem dX4_attempt_11 : decode cX4_attempt 11 = .ok (.putfield 100, 3) := by decide +kernel
theorem dX4_attempt_14 : decode cX4_attempt 14 = .ok (.aload_n 0, 1) := by decide +kernel
theorem dX4_attempt_15 : decode cX4_attempt 15 = .ok (.getfield 97, 3) := by decide +kernel
theorem dX4_attempt_18 : decode cX4_attempt 18 = .ok (.ifCond .ne 16, 3) := by decide +kernel
theorem dX4_attempt_21 : decode cX4_attempt 21 = .ok (.aload_n 0, 1) := by decide +kernel
theorem dX4_attempt_22 : decode cX4_attempt 22 = .ok (.invokevirtual 110, 3) := by decide +kernel
theorem dX4_attempt_25 : decode cX4_attempt 25 = .ok (.ifCond .eq 7, 3) := by decide +kernel
theorem dX4_attempt_28 : decode cX4_attempt 28 = .ok (.iconst 1, 1) := by decide +kernel
theorem dX4_attempt_29 : decode cX4_attempt 29 = .ok (.goto 4, 3) := by decide +kernel
theorem dX4_attempt_32 : decode cX4_attempt 32 = .ok (.iconst 0, 1) := by decide +kernel
theorem dX4_attempt_33 : decode cX4_attempt 33 = .ok (.ireturn, 1) := by decide +kernel
theorem dX4_attempt_34 : decode cX4_attempt 34 = .ok (.iconst 0, 1) := by decide +kernel
theorem dX4_attempt_35 : decode cX4_attempt 35 = .ok (.istore_n 2, 1) := by decide +kernel
theorem dX4_attempt_36 : decode cX4_attempt 36 = .ok (.iconst 0, 1) := by decide +kernel
theorem dX4_attempt_37 : decode cX4_attempt 37 = .ok (.istore_n 3, 1) := by decide +kernel
theorem dX4_attempt_38 : decode cX4_attempt 38 = .ok (.iconst 0, 1) := by decide +kernel
theorem dX4_attempt_39 : decode cX4_attempt 39 = .ok (.istore 4, 2) := by decide +kernel
theorem dX4_attempt_41 : decode cX4_attempt 41 = .ok (.iconst 0, 1) := by decide +kernel
theorem dX4_attempt_42 : decode cX4_attempt 42 = .ok (.istore 5, 2) := by decide +kernel
theorem dX4_attempt_44 : decode cX4_attempt 44 = .ok (.iload 4, 2) := by decide +kernel
theorem dX4_attempt_46 : decode cX4_attempt 46 = .ok (.ifCond .lt 139, 3) := by decide +kernel
theorem dX4_attempt_49 : decode cX4_attempt 49 = .ok (.iload_n 2, 1) := by decide +kernel
theorem dX4_attempt_50 : decode cX4_attempt 50 = .ok (.iload_n 1, 1) := by decide +kernel
theorem dX4_attempt_51 : decode cX4_attempt 51 = .ok (.if_icmp .ge 134, 3) := by decide +kernel
theorem dX4_attempt_54 : decode cX4_attempt 54 = .ok (.aload_n 0, 1) := by decide +kernel
theorem dX4_attempt_55 : decode cX4_attempt 55 = .ok (.getfield 33, 3) := by decide +kernel
theorem dX4_attempt_58 : decode cX4_attempt 58 = .ok (.iload 4, 2) := by decide +kernel
theorem dX4_attempt_60 : decode cX4_attempt 60 = .ok (.iaload, 1) := by decide +kernel
theorem dX4_attempt_61 : decode cX4_attempt 61 = .ok (.istore 6, 2) := by decide +kernel
theorem dX4_attempt_63 : decode cX4_attempt 63 = .ok (.aload_n 0, 1) := by decide +kernel
theorem dX4_attempt_64 : decode cX4_attempt 64 = .ok (.getfield 36, 3) := by decide +kernel
theorem dX4_attempt_67 : decode cX4_attempt 67 = .ok (.iload 6, 2) := by decide +kernel
theorem dX4_attempt_69 : decode cX4_attempt 69 = .ok (.iconst 0, 1) := by decide +kernel
theorem dX4_attempt_70 : decode cX4_attempt 70 = .ok (.iastore, 1) := by decide +kernel
theorem dX4_attempt_71 : decode cX4_attempt 71 = .ok (.iinc 5 1, 3) := by decide +kernel
theorem dX4_attempt_74 : decode cX4_attempt 74 = .ok (.iload 5, 2) := by decide +kernel
theorem dX4_attempt_76 : decode cX4_attempt 76 = .ok (.bipush 9, 2) := by decide +kernel
theorem dX4_attempt_78 : decode cX4_attempt 78 = .ok (.if_icmp .le 32, 3) := by decide +kernel
theorem dX4_attempt_81 : decode cX4_attempt 81 = .ok (.iinc 4 (-1), 3) := by decide +kernel
theorem dX4_attempt_84 : decode cX4_attempt 84 = .ok (.iload 4, 2) := by decide +kernel
theorem dX4_attempt_86 : decode cX4_attempt 86 = .ok (.ifCond .lt 18, 3) := by decide +kernel
theorem dX4_attempt_89 : decode cX4_attempt 89 = .ok (.aload_n 0, 1) := by decide +kernel
theorem dX4_attempt_90 : decode cX4_attempt 90 = .ok (.getfield 36, 3) := by decide +kernel
theorem dX4_attempt_93 : decode cX4_attempt 93 = .ok (.aload_n 0, 1) := by decide +kernel
theorem dX4_attempt_94 : decode cX4_attempt 94 = .ok (.getfield 33, 3) := by decide +kernel
theorem dX4_attempt_97 : decode cX4_attempt 97 = .ok (.iload 4, 2) := by decide +kernel
theorem dX4_attempt_99 : decode cX4_attempt 99 = .ok (.iaload, 1) := by decide +kernel
theorem dX4_attempt_100 : decode cX4_attempt 100 = .ok (.iaload, 1) := by decide +kernel
theorem dX4_attempt_101 : decode cX4_attempt 101 = .ok (.goto 4, 3) := by decide +kernel
theorem dX4_attempt_104 : decode cX4_attempt 104 = .ok (.iconst 0, 1) := by decide +kernel
theorem dX4_attempt_105 : decode cX4_attempt 105 = .ok (.istore 5, 2) := by decide +kernel
theorem dX4_attempt_107 : decode cX4_attempt 107 = .ok (.goto 75, 3) := by decide +kernel
theorem dX4_attempt_110 : decode cX4_attempt 110 = .ok (.iload_n 3, 1) := by decide +kernel
theorem dX4_attempt_111 : decode cX4_attempt 111 = .ok (.sipush 20000, 3) := by decide +kernel
theorem dX4_attempt_114 : decode cX4_attempt 114 = .ok (.if_icmp .ne 10, 3) := by decide +kernel
theorem dX4_attempt_117 : decode cX4_attempt 117 = .ok (.aload_n 0, 1) := by decide +kernel
theorem dX4_attempt_118 : decode cX4_attempt 118 = .ok (.iconst 1, 1) := by decide +kernel
theorem dX4_attempt_119 : decode cX4_attempt 119 = .ok (.putfield 106, 3) := by decide +kernel
theorem dX4_attempt_122 : decode cX4_attempt 122 = .ok (.iconst (-1), 1) := by decide +kernel
theorem dX4_attempt_123 : decode cX4_attempt 123 = .ok (.ireturn, 1) := by decide +kernel
theorem dX4_attempt_124 : decode cX4_attempt 124 = .ok (.iinc 3 1, 3) := by decide +kernel
theorem dX4_attempt_127 : decode cX4_attempt 127 = .ok (.aload_n 0, 1) := by decide +kernel
theorem dX4_attempt_128 : decode cX4_attempt 128 = .ok (.iload 6, 2) := by decide +kernel
theorem dX4_attempt_130 : decode cX4_attempt 130 = .ok (.iload 5, 2) := by decide +kernel
theorem dX4_attempt_132 : decode cX4_attempt 132 = .ok (.invokevirtual 114, 3) := by decide +kernel
theorem dX4_attempt_135 : decode cX4_attempt 135 = .ok (.ifCond .eq 47, 3) := by decide +kernel
theorem dX4_attempt_138 : decode cX4_attempt 138 = .ok (.aload_n 0, 1) := by decide +kernel
theorem dX4_attempt_139 : decode cX4_attempt 139 = .ok (.getfield 36, 3) := by decide +kernel
theorem dX4_attempt_142 : decode cX4_attempt 142 = .ok (.iload 6, 2) := by decide +kernel
theorem dX4_attempt_144 : decode cX4_attempt 144 = .ok (.iload 5, 2) := by decide +kernel
theorem dX4_attempt_146 : decode cX4_attempt 146 = .ok (.iastore, 1) := by decide +kernel
theorem dX4_attempt_147 : decode cX4_attempt 147 = .ok (.iload 4, 2) := by decide +kernel
theorem dX4_attempt_149 : decode cX4_attempt 149 = .ok (.aload_n 0, 1) := by decide +kernel
theorem dX4_attempt_150 : decode cX4_attempt 150 = .ok (.getfield 97, 3) := by decide +kernel
theorem dX4_attempt_153 : decode cX4_attempt 153 = .ok (.iconst 1, 1) := by decide +kernel
theorem dX4_attempt_154 : decode cX4_attempt 154 = .ok (.isub, 1) := by decide +kernel
theorem dX4_attempt_155 : decode cX4_attempt 155 = .ok (.if_icmp .ge 12, 3) := by decide +kernel
theorem dX4_attempt_158 : decode cX4_attempt 158 = .ok (.iinc 4 1, 3) := by decide +kernel
theorem dX4_attempt_161 : decode cX4_attempt 161 = .ok (.iconst 0, 1) := by decide +kernel
theorem dX4_attempt_162 : decode cX4_attempt 162 = .ok (.istore 5, 2) := by decide +kernel
theorem dX4_attempt_164 : decode cX4_attempt 164 = .ok (.goto 18, 3) := by decide +kernel
theorem dX4_attempt_167 : decode cX4_attempt 167 = .ok (.aload_n 0, 1) := by decide +kernel
theorem dX4_attempt_168 : decode cX4_attempt 168 = .ok (.invokevirtual 110, 3) := by decide +kernel
theorem dX4_attempt_171 : decode cX4_attempt 171 = .ok (.ifCond .eq 11, 3) := by decide +kernel
theorem dX4_attempt_174 : decode cX4_attempt 174 = .ok (.iinc 2 1, 3) := by decide +kernel
theorem dX4_attempt_177 : decode cX4_attempt 177 = .ok (.aload_n 0, 1) := by decide +kernel
theorem dX4_attempt_178 : decode cX4_attempt 178 = .ok (.iload_n 2, 1) := by decide +kernel
theorem dX4_attempt_179 : decode cX4_attempt 179 = .ok (.invokevirtual 117, 3) := by decide +kernel
theorem dX4_attempt_182 : decode cX4_attempt 182 = .ok (.goto (-138), 3) := by decide +kernel
theorem dX4_attempt_185 : decode cX4_attempt 185 = .ok (.iload_n 2, 1) := by decide +kernel
theorem dX4_attempt_186 : decode cX4_attempt 186 = .ok (.ireturn, 1) := by decide +kernel
set_option maxRecDepth 20000 in
theorem ggX4_answers_X4_in : GoodIn wsX4_answers wsX4_in := goodIn_r _ [4] (by decide +kernel) (by decide +kernel)
set_option maxRecDepth 20000 in
theorem gX4_answers_X4_in : GoodIn wsX4_answers (va_wsS RX4 51 yX4_in wsX4_in) := goodIn_app (goodIn_of _ (by decide +kernel)) ggX4_answers_X4_in
set_option maxRecDepth 20000 in
theorem ggX4_answers_X4_goesWell : GoodIn wsX4_answers wsX4_goesWell := goodIn_r _ [8, 9, 72, 73, 74, 75, 76, 77, 78, 79, 80, 81, 82, 83, 84, 85, 86, 87, 88, 89] (by decide +kernel) (by decide +kernel)
set_option maxRecDepth 20000 in
theorem gX4_answers_X4_goesWell : GoodIn wsX4_answers (wsV RX4 62 RX4 yX4_goesWell wsX4_goesWell) := goodIn_app (goodIn_of _ (by decide +kernel)) ggX4_answers_X4_goesWell
set_option maxRecDepth 20000 in
theorem ggX4_answers_X4_attempt : GoodIn wsX4_answers wsX4_attempt := goodIn_r _ [13, 14, 15, 16, 17, 18, 19, 20, 21, 3, 22, 23, 24, 25, 26, 27, 28, 29, 30, 31, 32, 33, 34, 35, 36, 37, 1, 2, 4, 38, 39, 40, 41, 42, 43, 44, 45, 46, 47, 48, 49, 50, 51, 52, 53, 54, 55, 56, 57, 58, 59, 60, 61, 62, 63, 64, 65, 66, 67, 68, 69, 70, 71, 72, 73, 74, 75, 76, 77, 78, 79, 80, 81, 82, 83, 84, 85, 86, 87, 88, 89] (by decide +kernel) (by decide +kernel)
set_option maxRecDepth 20000 in
theorem gX4_answers_X4_attempt : GoodIn wsX4_answers (wsV RX4 120 RX4 yX4_attempt wsX4_attempt) := goodIn_app (goodIn_of _ (by decide +kernel)) ggX4_answers_X4_attempt
theorem dX4_answers_0 : decode cX4_answers 0 = .ok (.aload_n 0, 1) := by decide +kernel
theorem dX4_answers_1 : decode cX4_answers 1 = .ok (.iload_n 1, 1) := by decide +kernel
theorem dX4_answers_2 : decode cX4_answers 2 = .ok (.iconst 1, 1) := by decide +kernel
theorem dX4_answers_3 : decode cX4_answers 3 = .ok (.iconst 5, 1) := by decide +kernel
theorem dX4_answers_4 : decode cX4_answers 4 = .ok (.invokestatic 51, 3) := by decide +kernel
theorem dX4_answers_7 : decode cX4_answers 7 = .ok (.ifCond .eq 7, 3) := by decide +kernel
theorem dX4_answers_10 : decode cX4_answers 10 = .ok (.iconst 0, 1) := by decide +kernel
theorem dX4_answers_11 : decode cX4_answers 11 = .ok (.goto 4, 3) := by decide +kernel
theorem dX4_answers_14 : decode cX4_answers 14 = .ok (.iconst 1, 1) := by decide +kernel
theorem dX4_answers_15 : decode cX4_answers 15 = .ok (.invokevirtual 62, 3) := by decide +kernel
theorem dX4_answers_18 : decode cX4_answers 18 = .ok (.ifCond .eq 11, 3) := by decide +kernel
theorem dX4_answers_21 : decode cX4_answers 21 = .ok (.aload_n 0, 1) := by decide +kernel
theorem dX4_answers_22 : decode cX4_answers 22 = .ok (.iload_n 1, 1) := by decide +kernel
theorem dX4_answers_23 : decode cX4_answers 23 = .ok (.invokevirtual 120, 3) := by decide +kernel
theorem dX4_answers_26 : decode cX4_answers 26 = .ok (.goto 4, 3) := by decide +kernel
theorem dX4_answers_29 : decode cX4_answers 29 = .ok (.iconst 0, 1) := by decide +kernel
theorem dX4_answers_30 : decode cX4_answers 30 = .ok (.ireturn, 1) := by decide +kernel
set_option maxRecDepth 20000 in
theorem ggX4_answersByAll_X4_layTried : GoodIn wsX4_answersByAll wsX4_layTried := goodIn_r _ [8, 1, 9, 3, 10, 11, 12, 7, 13, 2, 14, 15, 16, 17, 18, 19, 20, 21, 22, 23, 24, 25, 26, 53, 54, 55, 56, 57, 58, 59, 60, 61, 62, 63, 64, 65, 66, 67, 68, 69, 70] (by decide +kernel) (by decide +kernel)
set_option maxRecDepth 20000 in
theorem gX4_answersByAll_X4_layTried : GoodIn wsX4_answersByAll (wsV RX4 103 RX4 yX4_layTried wsX4_layTried) := goodIn_app (goodIn_of _ (by decide +kernel)) ggX4_answersByAll_X4_layTried
set_option maxRecDepth 20000 in
theorem ggX4_answersByAll_X4_goesWell : GoodIn wsX4_answersByAll wsX4_goesWell := goodIn_r _ [30, 31, 53, 54, 55, 56, 57, 58, 59, 60, 61, 62, 63, 64, 65, 66, 67, 68, 69, 70] (by decide +kernel) (by decide +kernel)
set_option maxRecDepth 20000 in
theorem gX4_answersByAll_X4_goesWell : GoodIn wsX4_answersByAll (wsV RX4 62 RX4 yX4_goesWell wsX4_goesWell) := goodIn_app (goodIn_of _ (by decide +kernel)) ggX4_answersByAll_X4_goesWell
set_option maxRecDepth 20000 in
theorem ggX4_answersByAll_X4_isAnswer : GoodIn wsX4_answersByAll wsX4_isAnswer := goodIn_r _ [35, 36, 37, 38, 39, 40, 7, 41, 42, 2, 43, 44, 45, 46, 47, 48, 49, 50, 51, 52, 53, 54, 55, 56, 57, 58, 59, 60, 61, 62, 63, 64, 65, 66, 67, 68, 69, 70] (by decide +kernel) (by decide +kernel)
set_option maxRecDepth 20000 in
theorem gX4_answersByAll_X4_isAnswer : GoodIn wsX4_answersByAll (wsV RX4 110 RX4 yX4_isAnswer wsX4_isAnswer) := goodIn_app (goodIn_of _ (by decide +kernel)) ggX4_answersByAll_X4_isAnswer
theorem dX4_answersByAll_0 : decode cX4_answersByAll 0 = .ok (.aload_n 0, 1) := by decide +kernel
theorem dX4_answersByAll_1 : decode cX4_answersByAll 1 = .ok (.invokevirtual 103, 3) := by decide +kernel
theorem dX4_answersByAll_4 : decode cX4_answersByAll 4 = .ok (.aload_n 0, 1) := by decide +kernel
theorem dX4_answersByAll_5 : decode cX4_answersByAll 5 = .ok (.aload_n 0, 1) := by decide +kernel
theorem dX4_answersByAll_6 : decode cX4_answersByAll 6 = .ok (.getfield 97, 3) := by decide +kernel
theorem dX4_answersByAll_9 : decode cX4_answersByAll 9 = .ok (.iconst 4, 1) := by decide +kernel
theorem dX4_answersByAll_10 : decode cX4_answersByAll 10 = .ok (.if_icmp .le 7, 3) := by decide +kernel
theorem dX4_answersByAll_13 : decode cX4_answersByAll 13 = .ok (.iconst 1, 1) := by decide +kernel
theorem dX4_answersByAll_14 : decode cX4_answersByAll 14 = .ok (.goto 4, 3) := by decide +kernel
theorem dX4_answersByAll_17 : decode cX4_answersByAll 17 = .ok (.iconst 0, 1) := by decide +kernel
theorem dX4_answersByAll_18 : decode cX4_answersByAll 18 = .ok (.invokevirtual 62, 3) := by decide +kernel
theorem dX4_answersByAll_21 : decode cX4_answersByAll 21 = .ok (.ifCond .ne 5, 3) := by decide +kernel
theorem dX4_answersByAll_24 : decode cX4_answersByAll 24 = .ok (.iconst 0, 1) := by decide +kernel
theorem dX4_answersByAll_25 : decode cX4_answersByAll 25 = .ok (.ireturn, 1) := by decide +kernel
theorem dX4_answersByAll_26 : decode cX4_answersByAll 26 = .ok (.iconst 1, 1) := by decide +kernel
theorem dX4_answersByAll_27 : decode cX4_answersByAll 27 = .ok (.istore_n 1, 1) := by decide +kernel
theorem dX4_answersByAll_28 : decode cX4_answersByAll 28 = .ok (.iconst 0, 1) := by decide +kernel
theorem dX4_answersByAll_29 : decode cX4_answersByAll 29 = .ok (.istore_n 2, 1) := by decide +kernel
theorem dX4_answersByAll_30 : decode cX4_answersByAll 30 = .ok (.iload_n 2, 1) := by decide +kernel
theorem dX4_answersByAll_31 : decode cX4_answersByAll 31 = .ok (.aload_n 0, 1) := by decide +kernel
theorem dX4_answersByAll_32 : decode cX4_answersByAll 32 = .ok (.getfield 97, 3) := by decide +kernel
theorem dX4_answersByAll_35 : decode cX4_answersByAll 35 = .ok (.if_icmp .ge 14, 3) := by decide +kernel
theorem dX4_answersByAll_38 : decode cX4_answersByAll 38 = .ok (.iload_n 1, 1) := by decide +kernel
theorem dX4_answersByAll_39 : decode cX4_answersByAll 39 = .ok (.bipush 9, 2) := by decide +kernel
theorem dX4_answersByAll_41 : decode cX4_answersByAll 41 = .ok (.imul, 1) := by decide +kernel
theorem dX4_answersByAll_42 : decode cX4_answersByAll 42 = .ok (.istore_n 1, 1) := by decide +kernel
theorem dX4_answersByAll_43 : decode cX4_answersByAll 43 = .ok (.iinc 2 1, 3) := by decide +kernel
theorem dX4_answersByAll_46 : decode cX4_answersByAll 46 = .ok (.goto (-16), 3) := by decide +kernel
theorem dX4_answersByAll_49 : decode cX4_answersByAll 49 = .ok (.iconst 0, 1) := by decide +kernel
theorem dX4_answersByAll_50 : decode cX4_answersByAll 50 = .ok (.istore_n 2, 1) := by decide +kernel
theorem dX4_answersByAll_51 : decode cX4_answersByAll 51 = .ok (.iconst 0, 1) := by decide +kernel
theorem dX4_answersByAll_52 : decode cX4_answersByAll 52 = .ok (.istore_n 3, 1) := by decide +kernel
theorem dX4_answersByAll_53 : decode cX4_answersByAll 53 = .ok (.iload_n 3, 1) := by decide +kernel
theorem dX4_answersByAll_54 : decode cX4_answersByAll 54 = .ok (.iload_n 1, 1) := by decide +kernel
theorem dX4_answersByAll_55 : decode cX4_answersByAll 55 = .ok (.if_icmp .ge 71, 3) := by decide +kernel
theorem dX4_answersByAll_58 : decode cX4_answersByAll 58 = .ok (.iload_n 3, 1) := by decide +kernel
theorem dX4_answersByAll_59 : decode cX4_answersByAll 59 = .ok (.istore 4, 2) := by decide +kernel
theorem dX4_answersByAll_61 : decode cX4_answersByAll 61 = .ok (.iconst 0, 1) := by decide +kernel
theorem dX4_answersByAll_62 : decode cX4_answersByAll 62 = .ok (.istore 5, 2) := by decide +kernel
theorem dX4_answersByAll_64 : decode cX4_answersByAll 64 = .ok (.iload 5, 2) := by decide +kernel
theorem dX4_answersByAll_66 : decode cX4_answersByAll 66 = .ok (.aload_n 0, 1) := by decide +kernel
theorem dX4_answersByAll_67 : decode cX4_answersByAll 67 = .ok (.getfield 97, 3) := by decide +kernel
theorem dX4_answersByAll_70 : decode cX4_answersByAll 70 = .ok (.if_icmp .ge 35, 3) := by decide +kernel
theorem dX4_answersByAll_73 : decode cX4_answersByAll 73 = .ok (.aload_n 0, 1) := by decide +kernel
theorem dX4_answersByAll_74 : decode cX4_answersByAll 74 = .ok (.getfield 36, 3) := by decide +kernel
theorem dX4_answersByAll_77 : decode cX4_answersByAll 77 = .ok (.aload_n 0, 1) := by decide +kernel
theorem dX4_answersByAll_78 : decode cX4_answersByAll 78 = .ok (.getfield 33, 3) := by decide +kernel
theorem dX4_answersByAll_81 : decode cX4_answersByAll 81 = .ok (.iload 5, 2) := by decide +kernel
theorem dX4_answersByAll_83 : decode cX4_answersByAll 83 = .ok (.iaload, 1) := by decide +kernel
theorem dX4_answersByAll_84 : decode cX4_answersByAll 84 = .ok (.iconst 1, 1) := by decide +kernel
theorem dX4_answersByAll_85 : decode cX4_answersByAll 85 = .ok (.iload 4, 2) := by decide +kernel
theorem dX4_answersByAll_87 : decode cX4_answersByAll 87 = .ok (.bipush 9, 2) := by decide +kernel
theorem dX4_answersByAll_89 : decode cX4_answersByAll 89 = .ok (.irem, 1) := by decide +kernel
theorem dX4_answersByAll_90 : decode cX4_answersByAll 90 = .ok (.iadd, 1) := by decide +kernel
theorem dX4_answersByAll_91 : decode cX4_answersByAll 91 = .ok (.iastore, 1) := by decide +kernel
theorem dX4_answersByAll_92 : decode cX4_answersByAll 92 = .ok (.iload 4, 2) := by decide +kernel
theorem dX4_answersByAll_94 : decode cX4_answersByAll 94 = .ok (.bipush 9, 2) := by decide +kernel
theorem dX4_answersByAll_96 : decode cX4_answersByAll 96 = .ok (.idiv, 1) := by decide +kernel
theorem dX4_answersByAll_97 : decode cX4_answersByAll 97 = .ok (.istore 4, 2) := by decide +kernel
theorem dX4_answersByAll_99 : decode cX4_answersByAll 99 = .ok (.iinc 5 1, 3) := by decide +kernel
theorem dX4_answersByAll_102 : decode cX4_answersByAll 102 = .ok (.goto (-38), 3) := by decide +kernel
theorem dX4_answersByAll_105 : decode cX4_answersByAll 105 = .ok (.iload_n 2, 1) := by decide +kernel
theorem dX4_answersByAll_106 : decode cX4_answersByAll 106 = .ok (.aload_n 0, 1) := by decide +kernel
theorem dX4_answersByAll_107 : decode cX4_answersByAll 107 = .ok (.invokevirtual 110, 3) := by decide +kernel
theorem dX4_answersByAll_110 : decode cX4_answersByAll 110 = .ok (.ifCond .eq 7, 3) := by decide +kernel
theorem dX4_answersByAll_113 : decode cX4_answersByAll 113 = .ok (.iconst 1, 1) := by decide +kernel
theorem dX4_answersByAll_114 : decode cX4_answersByAll 114 = .ok (.goto 4, 3) := by decide +kernel
theorem dX4_answersByAll_117 : decode cX4_answersByAll 117 = .ok (.iconst 0, 1) := by decide +kernel
theorem dX4_answersByAll_118 : decode cX4_answersByAll 118 = .ok (.iadd, 1) := by decide +kernel
theorem dX4_answersByAll_119 : decode cX4_answersByAll 119 = .ok (.istore_n 2, 1) := by decide +kernel
theorem dX4_answersByAll_120 : decode cX4_answersByAll 120 = .ok (.iinc 3 1, 3) := by decide +kernel
theorem dX4_answersByAll_123 : decode cX4_answersByAll 123 = .ok (.goto (-70), 3) := by decide +kernel
theorem dX4_answersByAll_126 : decode cX4_answersByAll 126 = .ok (.iload_n 2, 1) := by decide +kernel
theorem dX4_answersByAll_127 : decode cX4_answersByAll 127 = .ok (.ireturn, 1) := by decide +kernel
set_option maxRecDepth 20000 in
theorem ggX4_mend_X4_attempt : GoodIn wsX4_mend wsX4_attempt := goodIn_r _ [9, 1, 3, 10, 11, 12, 13, 14, 15, 8, 16, 2, 17, 18, 19, 20, 21, 22, 23, 24, 25, 26, 27, 28, 29, 30, 31, 32, 33, 34, 35, 36, 37, 38, 39, 40, 41, 42, 43, 44, 45, 46, 47, 48, 49, 50, 51, 52, 53, 54, 55, 56, 57, 58, 59, 60, 61, 62, 63, 64, 65, 66, 4, 72, 73, 74, 75, 76, 77, 78, 79, 80, 81, 82, 83, 84, 85, 86, 87, 88, 89] (by decide +kernel) (by decide +kernel)
set_option maxRecDepth 20000 in
theorem gX4_mend_X4_attempt : GoodIn wsX4_mend (wsV RX4 120 RX4 yX4_attempt wsX4_attempt) := goodIn_app (goodIn_of _ (by decide +kernel)) ggX4_mend_X4_attempt
set_option maxRecDepth 20000 in
theorem ggX4_mend_X4_goesWell : GoodIn wsX4_mend wsX4_goesWell := goodIn_r _ [70, 71, 72, 73, 74, 75, 76, 77, 78, 79, 80, 81, 82, 83, 84, 85, 86, 87, 88, 89] (by decide +kernel) (by decide +kernel)
set_option maxRecDepth 20000 in
theorem gX4_mend_X4_goesWell : GoodIn wsX4_mend (wsV RX4 62 RX4 yX4_goesWell wsX4_goesWell) := goodIn_app (goodIn_of _ (by decide +kernel)) ggX4_mend_X4_goesWell
theorem dX4_mend_0 : decode cX4_mend 0 = .ok (.aload_n 0, 1) := by decide +kernel
theorem dX4_mend_1 : decode cX4_mend 1 = .ok (.iconst 2, 1) := by decide +kernel
theorem dX4_mend_2 : decode cX4_mend 2 = .ok (.invokevirtual 120, 3) := by decide +kernel
theorem dX4_mend_5 : decode cX4_mend 5 = .ok (.istore_n 1, 1) := by decide +kernel
theorem dX4_mend_6 : decode cX4_mend 6 = .ok (.aload_n 0, 1) := by decide +kernel
theorem dX4_mend_7 : decode cX4_mend 7 = .ok (.aload_n 0, 1) := by decide +kernel
theorem dX4_mend_8 : decode cX4_mend 8 = .ok (.getfield 106, 3) := by decide +kernel
theorem dX4_mend_11 : decode cX4_mend 11 = .ok (.ifCond .eq 7, 3) := by decide +kernel
theorem dX4_mend_14 : decode cX4_mend 14 = .ok (.iconst 1, 1) := by decide +kernel
theorem dX4_mend_15 : decode cX4_mend 15 = .ok (.goto 4, 3) := by decide +kernel
theorem dX4_mend_18 : decode cX4_mend 18 = .ok (.iconst 0, 1) := by decide +kernel
theorem dX4_mend_19 : decode cX4_mend 19 = .ok (.invokevirtual 62, 3) := by decide +kernel
theorem dX4_mend_22 : decode cX4_mend 22 = .ok (.ifCond .ne 5, 3) := by decide +kernel
theorem dX4_mend_25 : decode cX4_mend 25 = .ok (.iconst 0, 1) := by decide +kernel
theorem dX4_mend_26 : decode cX4_mend 26 = .ok (.ireturn, 1) := by decide +kernel
theorem dX4_mend_27 : decode cX4_mend 27 = .ok (.iload_n 1, 1) := by decide +kernel
theorem dX4_mend_28 : decode cX4_mend 28 = .ok (.iconst 2, 1) := by decide +kernel
theorem dX4_mend_29 : decode cX4_mend 29 = .ok (.if_icmp .ge 5, 3) := by decide +kernel
theorem dX4_mend_32 : decode cX4_mend 32 = .ok (.iconst (-1), 1) := by decide +kernel
theorem dX4_mend_33 : decode cX4_mend 33 = .ok (.ireturn, 1) := by decide +kernel
theorem dX4_mend_34 : decode cX4_mend 34 = .ok (.aload_n 0, 1) := by decide +kernel
theorem dX4_mend_35 : decode cX4_mend 35 = .ok (.getfield 17, 3) := by decide +kernel
theorem dX4_mend_38 : decode cX4_mend 38 = .ok (.aload_n 0, 1) := by decide +kernel
theorem dX4_mend_39 : decode cX4_mend 39 = .ok (.getfield 100, 3) := by decide +kernel
theorem dX4_mend_42 : decode cX4_mend 42 = .ok (.aload_n 0, 1) := by decide +kernel
theorem dX4_mend_43 : decode cX4_mend 43 = .ok (.getfield 39, 3) := by decide +kernel
theorem dX4_mend_46 : decode cX4_mend 46 = .ok (.aload_n 0, 1) := by decide +kernel
theorem dX4_mend_47 : decode cX4_mend 47 = .ok (.getfield 100, 3) := by decide +kernel
theorem dX4_mend_50 : decode cX4_mend 50 = .ok (.iaload, 1) := by decide +kernel
theorem dX4_mend_51 : decode cX4_mend 51 = .ok (.iastore, 1) := by decide +kernel
theorem dX4_mend_52 : decode cX4_mend 52 = .ok (.aload_n 0, 1) := by decide +kernel
theorem dX4_mend_53 : decode cX4_mend 53 = .ok (.getfield 100, 3) := by decide +kernel
theorem dX4_mend_56 : decode cX4_mend 56 = .ok (.ireturn, 1) := by decide +kernel
theorem dX4_isSingle_0 : decode cX4_isSingle 0 = .ok (.iload_n 0, 1) := by decide +kernel
theorem dX4_isSingle_1 : decode cX4_isSingle 1 = .ok (.ifCond .eq 15, 3) := by decide +kernel
theorem dX4_isSingle_4 : decode cX4_isSingle 4 = .ok (.iload_n 0, 1) := by decide +kernel
theorem dX4_isSingle_5 : decode cX4_isSingle 5 = .ok (.iload_n 0, 1) := by decide +kernel
theorem dX4_isSingle_6 : decode cX4_isSingle 6 = .ok (.iconst 1, 1) := by decide +kernel
theorem dX4_isSingle_7 : decode cX4_isSingle 7 = .ok (.isub, 1) := by decide +kernel
theorem dX4_isSingle_8 : decode cX4_isSingle 8 = .ok (.iand, 1) := by decide +kernel
theorem dX4_isSingle_9 : decode cX4_isSingle 9 = .ok (.ifCond .ne 7, 3) := by decide +kernel
theorem dX4_isSingle_12 : decode cX4_isSingle 12 = .ok (.iconst 1, 1) := by decide +kernel
theorem dX4_isSingle_13 : decode cX4_isSingle 13 = .ok (.goto 4, 3) := by decide +kernel
theorem dX4_isSingle_16 : decode cX4_isSingle 16 = .ok (.iconst 0, 1) := by decide +kernel
theorem dX4_isSingle_17 : decode cX4_isSingle 17 = .ok (.ireturn, 1) := by decide +kernel
theorem dX4_take_0 : decode cX4_take 0 = .ok (.aload_n 0, 1) := by decide +kernel
theorem dX4_take_1 : decode cX4_take 1 = .ok (.aload_n 0, 1) := by decide +kernel
theorem dX4_take_2 : decode cX4_take 2 = .ok (.getfield 123, 3) := by decide +kernel
theorem dX4_take_5 : decode cX4_take 5 = .ok (.ifCond .ne 14, 3) := by decide +kernel
theorem dX4_take_8 : decode cX4_take 8 = .ok (.aload_n 0, 1) := by decide +kernel
theorem dX4_take_9 : decode cX4_take 9 = .ok (.getfield 42, 3) := by decide +kernel
theorem dX4_take_12 : decode cX4_take 12 = .ok (.iload_n 1, 1) := by decide +kernel
theorem dX4_take_13 : decode cX4_take 13 = .ok (.iaload, 1) := by decide +kernel
theorem dX4_take_14 : decode cX4_take 14 = .ok (.iload_n 2, 1) := by decide +kernel
theorem dX4_take_15 : decode cX4_take 15 = .ok (.iand, 1) := by decide +kernel
theorem dX4_take_16 : decode cX4_take 16 = .ok (.ifCond .eq 7, 3) := by decide +kernel
theorem dX4_take_19 : decode cX4_take 19 = .ok (.iconst 1, 1) := by decide +kernel
theorem dX4_take_20 : decode cX4_take 20 = .ok (.goto 4, 3) := by decide +kernel
theorem dX4_take_23 : decode cX4_take 23 = .ok (.iconst 0, 1) := by decide +kernel
theorem dX4_take_24 : decode cX4_take 24 = .ok (.putfield 123, 3) := by decide +kernel
theorem dX4_take_27 : decode cX4_take 27 = .ok (.aload_n 0, 1) := by decide +kernel
theorem dX4_take_28 : decode cX4_take 28 = .ok (.getfield 42, 3) := by decide +kernel
theorem dX4_take_31 : decode cX4_take 31 = .ok (.iload_n 1, 1) := by decide +kernel
theorem dX4_take_32 : decode cX4_take 32 = .ok (.dup2, 1) := by decide +kernel
theorem dX4_take_33 : decode cX4_take 33 = .ok (.iaload, 1) := by decide +kernel
theorem dX4_take_34 : decode cX4_take 34 = .ok (.iload_n 2, 1) := by decide +kernel
theorem dX4_take_35 : decode cX4_take 35 = .ok (.iconst (-1), 1) := by decide +kernel
theorem dX4_take_36 : decode cX4_take 36 = .ok (.ixor, 1) := by decide +kernel
theorem dX4_take_37 : decode cX4_take 37 = .ok (.iand, 1) := by decide +kernel
theorem dX4_take_38 : decode cX4_take 38 = .ok (.iastore, 1) := by decide +kernel
theorem dX4_take_39 : decode cX4_take 39 = .ok (.return_, 1) := by decide +kernel
set_option maxRecDepth 20000 in
theorem ggX4_goThroughSingles_X4_cellOf : GoodIn wsX4_goThroughSingles wsX4_cellOf := goodIn_r _ [8, 9, 10, 19, 20, 21, 22, 23, 24, 25, 26, 27, 28, 29, 30, 31, 32, 33, 34, 35, 36] (by decide +kernel) (by decide +kernel)
set_option maxRecDepth 20000 in
theorem gX4_goThroughSingles_X4_cellOf : GoodIn wsX4_goThroughSingles (wsV RX4 79 RX4 yX4_cellOf wsX4_cellOf) := goodIn_app (goodIn_of _ (by decide +kernel)) ggX4_goThroughSingles_X4_cellOf
set_option maxRecDepth 20000 in
theorem ggX4_goThroughSingles_X4_isSingle : GoodIn wsX4_goThroughSingles wsX4_isSingle := goodIn_r _ [13] (by decide +kernel) (by decide +kernel)
set_option maxRecDepth 20000 in
theorem gX4_goThroughSingles_X4_isSingle : GoodIn wsX4_goThroughSingles (va_wsS RX4 126 yX4_isSingle wsX4_isSingle) := goodIn_app (goodIn_of _ (by decide +kernel)) ggX4_goThroughSingles_X4_isSingle
set_option maxRecDepth 20000 in
theorem ggX4_goThroughSingles_X4_take : GoodIn wsX4_goThroughSingles wsX4_take := goodIn_r _ [17, 18, 3, 19, 20, 21, 22, 23, 24, 25, 26, 27, 28, 29, 30, 31, 32, 33, 34, 35, 36] (by decide +kernel) (by decide +kernel)
set_option maxRecDepth 20000 in
theorem gX4_goThroughSingles_X4_take : GoodIn wsX4_goThroughSingles (wsV RX4 129 RX4 yX4_take wsX4_take) := goodIn_app (goodIn_of _ (by decide +kernel)) ggX4_goThroughSingles_X4_take
theorem dX4_goThroughSingles_0 : decode cX4_goThroughSingles 0 = .ok (.iconst 0, 1) := by decide +kernel
theorem dX4_goThroughSingles_1 : decode cX4_goThroughSingles 1 = .ok (.istore_n 1, 1) := by decide +kernel
theorem dX4_goThroughSingles_2 : decode cX4_goThroughSingles 2 = .ok (.iload_n 1, 1) := by decide +kernel
theorem dX4_goThroughSingles_3 : decode cX4_goThroughSingles 3 = .ok (.aload_n 0, 1) := by decide +kernel
theorem dX4_goThroughSingles_4 : decode cX4_goThroughSingles 4 = .ok (.getfield 59, 3) := by decide +kernel
theorem dX4_goThroughSingles_7 : decode cX4_goThroughSingles 7 = .ok (.if_icmp .ge 84, 3) := by decide +kernel
theorem dX4_goThroughSingles_10 : decode cX4_goThroughSingles 10 = .ok (.iconst 0, 1) := by decide +kernel
theorem dX4_goThroughSingles_11 : decode cX4_goThroughSingles 11 = .ok (.istore_n 2, 1) := by decide +kernel
theorem dX4_goThroughSingles_12 : decode cX4_goThroughSingles 12 = .ok (.iload_n 2, 1) := by decide +kernel
theorem dX4_goThroughSingles_13 : decode cX4_goThroughSingles 13 = .ok (.aload_n 0, 1) := by decide +kernel
theorem dX4_goThroughSingles_14 : decode cX4_goThroughSingles 14 = .ok (.getfield 24, 3) := by decide +kernel
theorem dX4_goThroughSingles_17 : decode cX4_goThroughSingles 17 = .ok (.iload_n 1, 1) := by decide +kernel
theorem dX4_goThroughSingles_18 : decode cX4_goThroughSingles 18 = .ok (.iaload, 1) := by decide +kernel
theorem dX4_goThroughSingles_19 : decode cX4_goThroughSingles 19 = .ok (.if_icmp .ge 66, 3) := by decide +kernel
theorem dX4_goThroughSingles_22 : decode cX4_goThroughSingles 22 = .ok (.aload_n 0, 1) := by decide +kernel
theorem dX4_goThroughSingles_23 : decode cX4_goThroughSingles 23 = .ok (.getfield 42, 3) := by decide +kernel
theorem dX4_goThroughSingles_26 : decode cX4_goThroughSingles 26 = .ok (.aload_n 0, 1) := by decide +kernel
theorem dX4_goThroughSingles_27 : decode cX4_goThroughSingles 27 = .ok (.iload_n 1, 1) := by decide +kernel
theorem dX4_goThroughSingles_28 : decode cX4_goThroughSingles 28 = .ok (.iload_n 2, 1) := by decide +kernel
theorem dX4_goThroughSingles_29 : decode cX4_goThroughSingles 29 = .ok (.invokevirtual 79, 3) := by decide +kernel
theorem dX4_goThroughSingles_32 : decode cX4_goThroughSingles 32 = .ok (.iaload, 1) := by decide +kernel
theorem dX4_goThroughSingles_33 : decode cX4_goThroughSingles 33 = .ok (.istore_n 3, 1) := by decide +kernel
theorem dX4_goThroughSingles_34 : decode cX4_goThroughSingles 34 = .ok (.iconst 0, 1) := by decide +kernel
theorem dX4_goThroughSingles_35 : decode cX4_goThroughSingles 35 = .ok (.istore 4, 2) := by decide +kernel
theorem dX4_goThroughSingles_37 : decode cX4_goThroughSingles 37 = .ok (.iload 4, 2) := by decide +kernel
theorem dX4_goThroughSingles_39 : decode cX4_goThroughSingles 39 = .ok (.aload_n 0, 1) := by decide +kernel
theorem dX4_goThroughSingles_40 : decode cX4_goThroughSingles 40 = .ok (.getfield 24, 3) := by decide +kernel
theorem dX4_goThroughSingles_43 : decode cX4_goThroughSingles 43 = .ok (.iload_n 1, 1) := by decide +kernel
theorem dX4_goThroughSingles_44 : decode cX4_goThroughSingles 44 = .ok (.iaload, 1) := by decide +kernel
theorem dX4_goThroughSingles_45 : decode cX4_goThroughSingles 45 = .ok (.if_icmp .ge 34, 3) := by decide +kernel
theorem dX4_goThroughSingles_48 : decode cX4_goThroughSingles 48 = .ok (.iload_n 3, 1) := by decide +kernel
theorem dX4_goThroughSingles_49 : decode cX4_goThroughSingles 49 = .ok (.invokestatic 126, 3) := by decide +kernel
theorem dX4_goThroughSingles_52 : decode cX4_goThroughSingles 52 = .ok (.ifCond .eq 27, 3) := by decide +kernel
theorem dX4_goThroughSingles_55 : decode cX4_goThroughSingles 55 = .ok (.iload 4, 2) := by decide +kernel
theorem dX4_goThroughSingles_57 : decode cX4_goThroughSingles 57 = .ok (.iload_n 2, 1) := by decide +kernel
theorem dX4_goThroughSingles_58 : decode cX4_goThroughSingles 58 = .ok (.if_icmp .eq 15, 3) := by decide +kernel
theorem dX4_goThroughSingles_61 : decode cX4_goThroughSingles 61 = .ok (.aload_n 0, 1) := by decide +kernel
theorem dX4_goThroughSingles_62 : decode cX4_goThroughSingles 62 = .ok (.aload_n 0, 1) := by decide +kernel
theorem dX4_goThroughSingles_63 : decode cX4_goThroughSingles 63 = .ok (.iload_n 1, 1) := by decide +kernel
theorem dX4_goThroughSingles_64 : decode cX4_goThroughSingles 64 = .ok (.iload 4, 2) := by decide +kernel
theorem dX4_goThroughSingles_66 : decode cX4_goThroughSingles 66 = .ok (.invokevirtual 79, 3) := by decide +kernel
theorem dX4_goThroughSingles_69 : decode cX4_goThroughSingles 69 = .ok (.iload_n 3, 1) := by decide +kernel
theorem dX4_goThroughSingles_70 : decode cX4_goThroughSingles 70 = .ok (.invokevirtual 129, 3) := by decide +kernel
theorem dX4_goThroughSingles_73 : decode cX4_goThroughSingles 73 = .ok (.iinc 4 1, 3) := by decide +kernel
theorem dX4_goThroughSingles_76 : decode cX4_goThroughSingles 76 = .ok (.goto (-39), 3) := by decide +kernel
theorem dX4_goThroughSingles_79 : decode cX4_goThroughSingles 79 = .ok (.iinc 2 1, 3) := by decide +kernel
theorem dX4_goThroughSingles_82 : decode cX4_goThroughSingles 82 = .ok (.goto (-70), 3) := by decide +kernel
theorem dX4_goThroughSingles_85 : decode cX4_goThroughSingles 85 = .ok (.iinc 1 1, 3) := by decide +kernel
theorem dX4_goThroughSingles_88 : decode cX4_goThroughSingles 88 = .ok (.goto (-86), 3) := by decide +kernel
theorem dX4_goThroughSingles_91 : decode cX4_goThroughSingles 91 = .ok (.return_, 1) := by decide +kernel
theorem dX4_sumOfSet_0 : decode cX4_sumOfSet 0 = .ok (.iconst 0, 1) := by decide +kernel
theorem dX4_sumOfSet_1 : decode cX4_sumOfSet 1 = .ok (.istore_n 1, 1) := by decide +kernel
theorem dX4_sumOfSet_2 : decode cX4_sumOfSet 2 = .ok (.iconst 1, 1) := by decide +kernel
theorem dX4_sumOfSet_3 : decode cX4_sumOfSet 3 = .ok (.istore_n 2, 1) := by decide +kernel
theorem dX4_sumOfSet_4 : decode cX4_sumOfSet 4 = .ok (.iload_n 2, 1) := by decide +kernel
theorem dX4_sumOfSet_5 : decode cX4_sumOfSet 5 = .ok (.bipush 9, 2) := by decide +kernel
theorem dX4_sumOfSet_7 : decode cX4_sumOfSet 7 = .ok (.if_icmp .gt 19, 3) := by decide +kernel
theorem dX4_sumOfSet_10 : decode cX4_sumOfSet 10 = .ok (.iload_n 1, 1) := by decide +kernel
theorem dX4_sumOfSet_11 : decode cX4_sumOfSet 11 = .ok (.iload_n 0, 1) := by decide +kernel
theorem dX4_sumOfSet_12 : decode cX4_sumOfSet 12 = .ok (.iload_n 2, 1) := by decide +kernel
theorem dX4_sumOfSet_13 : decode cX4_sumOfSet 13 = .ok (.ishr, 1) := by decide +kernel
theorem dX4_sumOfSet_14 : decode cX4_sumOfSet 14 = .ok (.iconst 1, 1) := by decide +kernel
theorem dX4_sumOfSet_15 : decode cX4_sumOfSet 15 = .ok (.iand, 1) := by decide +kernel
theorem dX4_sumOfSet_16 : decode cX4_sumOfSet 16 = .ok (.iload_n 2, 1) := by decide +kernel
theorem dX4_sumOfSet_17 : decode cX4_sumOfSet 17 = .ok (.imul, 1) := by decide +kernel
theorem dX4_sumOfSet_18 : decode cX4_sumOfSet 18 = .ok (.iadd, 1) := by decide +kernel
theorem dX4_sumOfSet_19 : decode cX4_sumOfSet 19 = .ok (.istore_n 1, 1) := by decide +kernel
theorem dX4_sumOfSet_20 : decode cX4_sumOfSet 20 = .ok (.iinc 2 1, 3) := by decide +kernel
theorem dX4_sumOfSet_23 : decode cX4_sumOfSet 23 = .ok (.goto (-19), 3) := by decide +kernel
theorem dX4_sumOfSet_26 : decode cX4_sumOfSet 26 = .ok (.iload_n 1, 1) := by decide +kernel
theorem dX4_sumOfSet_27 : decode cX4_sumOfSet 27 = .ok (.ireturn, 1) := by decide +kernel
theorem dX4_bits_0 : decode cX4_bits 0 = .ok (.iconst 0, 1) := by decide +kernel
theorem dX4_bits_1 : decode cX4_bits 1 = .ok (.istore_n 1, 1) := by decide +kernel
theorem dX4_bits_2 : decode cX4_bits 2 = .ok (.iconst 1, 1) := by decide +kernel
theorem dX4_bits_3 : decode cX4_bits 3 = .ok (.istore_n 2, 1) := by decide +kernel
theorem dX4_bits_4 : decode cX4_bits 4 = .ok (.iload_n 2, 1) := by decide +kernel
theorem dX4_bits_5 : decode cX4_bits 5 = .ok (.bipush 9, 2) := by decide +kernel
theorem dX4_bits_7 : decode cX4_bits 7 = .ok (.if_icmp .gt 17, 3) := by decide +kernel
theorem dX4_bits_10 : decode cX4_bits 10 = .ok (.iload_n 1, 1) := by decide +kernel
theorem dX4_bits_11 : decode cX4_bits 11 = .ok (.iload_n 0, 1) := by decide +kernel
theorem dX4_bits_12 : decode cX4_bits 12 = .ok (.iload_n 2, 1) := by decide +kernel
theorem dX4_bits_13 : decode cX4_bits 13 = .ok (.ishr, 1) := by decide +kernel
theorem dX4_bits_14 : decode cX4_bits 14 = .ok (.iconst 1, 1) := by decide +kernel
theorem dX4_bits_15 : decode cX4_bits 15 = .ok (.iand, 1) := by decide +kernel
theorem dX4_bits_16 : decode cX4_bits 16 = .ok (.iadd, 1) := by decide +kernel
theorem dX4_bits_17 : decode cX4_bits 17 = .ok (.istore_n 1, 1) := by decide +kernel
theorem dX4_bits_18 : decode cX4_bits 18 = .ok (.iinc 2 1, 3) := by decide +kernel
theorem dX4_bits_21 : decode cX4_bits 21 = .ok (.goto (-17), 3) := by decide +kernel
theorem dX4_bits_24 : decode cX4_bits 24 = .ok (.iload_n 1, 1) := by decide +kernel
theorem dX4_bits_25 : decode cX4_bits 25 = .ok (.ireturn, 1) := by decide +kernel
set_option maxRecDepth 20000 in
theorem ggX4_goThroughSets_X4_cellOf : GoodIn wsX4_goThroughSets wsX4_cellOf := goodIn_r _ [9, 10, 11, 26, 27, 28, 29, 30, 31, 32, 33, 34, 35, 36, 37, 38, 39, 40, 41, 42, 43] (by decide +kernel) (by decide +kernel)
set_option maxRecDepth 20000 in
theorem gX4_goThroughSets_X4_cellOf : GoodIn wsX4_goThroughSets (wsV RX4 79 RX4 yX4_cellOf wsX4_cellOf) := goodIn_app (goodIn_of _ (by decide +kernel)) ggX4_goThroughSets_X4_cellOf
set_option maxRecDepth 20000 in
theorem ggX4_goThroughSets_X4_isSingle : GoodIn wsX4_goThroughSets wsX4_isSingle := goodIn_r _ [14] (by decide +kernel) (by decide +kernel)
set_option maxRecDepth 20000 in
theorem gX4_goThroughSets_X4_isSingle : GoodIn wsX4_goThroughSets (va_wsS RX4 126 yX4_isSingle wsX4_isSingle) := goodIn_app (goodIn_of _ (by decide +kernel)) ggX4_goThroughSets_X4_isSingle
set_option maxRecDepth 20000 in
theorem ggX4_goThroughSets_X4_bits : GoodIn wsX4_goThroughSets wsX4_bits := goodIn_r _ [17] (by decide +kernel) (by decide +kernel)
set_option maxRecDepth 20000 in
theorem gX4_goThroughSets_X4_bits : GoodIn wsX4_goThroughSets (va_wsS RX4 133 yX4_bits wsX4_bits) := goodIn_app (goodIn_of _ (by decide +kernel)) ggX4_goThroughSets_X4_bits
set_option maxRecDepth 20000 in
theorem ggX4_goThroughSets_X4_sumOfSet : GoodIn wsX4_goThroughSets wsX4_sumOfSet := goodIn_r _ [20] (by decide +kernel) (by decide +kernel)
set_option maxRecDepth 20000 in
theorem gX4_goThroughSets_X4_sumOfSet : GoodIn wsX4_goThroughSets (va_wsS RX4 136 yX4_sumOfSet wsX4_sumOfSet) := goodIn_app (goodIn_of _ (by decide +kernel)) ggX4_goThroughSets_X4_sumOfSet
set_option maxRecDepth 20000 in
theorem ggX4_goThroughSets_X4_take : GoodIn wsX4_goThroughSets wsX4_take := goodIn_r _ [24, 25, 3, 26, 27, 28, 29, 30, 31, 32, 33, 34, 35, 36, 37, 38, 39, 40, 41, 42, 43] (by decide +kernel) (by decide +kernel)
set_option maxRecDepth 20000 in
theorem gX4_goThroughSets_X4_take : GoodIn wsX4_goThroughSets (wsV RX4 129 RX4 yX4_take wsX4_take) := goodIn_app (goodIn_of _ (by decide +kernel)) ggX4_goThroughSets_X4_take
theorem dX4_goThroughSets_0 : decode cX4_goThroughSets 0 = .ok (.iconst 0, 1) := by decide +kernel
theorem dX4_goThroughSets_1 : decode cX4_goThroughSets 1 = .ok (.istore_n 1, 1) := by decide +kernel
theorem dX4_goThroughSets_2 : decode cX4_goThroughSets 2 = .ok (.iload_n 1, 1) := by decide +kernel
theorem dX4_goThroughSets_3 : decode cX4_goThroughSets 3 = .ok (.aload_n 0, 1) := by decide +kernel
theorem dX4_goThroughSets_4 : decode cX4_goThroughSets 4 = .ok (.getfield 59, 3) := by decide +kernel
theorem dX4_goThroughSets_7 : decode cX4_goThroughSets 7 = .ok (.if_icmp .ge 186, 3) := by decide +kernel
theorem dX4_goThroughSets_10 : decode cX4_goThroughSets 10 = .ok (.iconst 0, 1) := by decide +kernel
theorem dX4_goThroughSets_11 : decode cX4_goThroughSets 11 = .ok (.istore_n 2, 1) := by decide +kernel
theorem dX4_goThroughSets_12 : decode cX4_goThroughSets 12 = .ok (.iconst 0, 1) := by decide +kernel
theorem dX4_goThroughSets_13 : decode cX4_goThroughSets 13 = .ok (.istore_n 3, 1) := by decide +kernel
theorem dX4_goThroughSets_14 : decode cX4_goThroughSets 14 = .ok (.iconst 0, 1) := by decide +kernel
theorem dX4_goThroughSets_15 : decode cX4_goThroughSets 15 = .ok (.istore 4, 2) := by decide +kernel
theorem dX4_goThroughSets_17 : decode cX4_goThroughSets 17 = .ok (.iload 4, 2) := by decide +kernel
theorem dX4_goThroughSets_19 : decode cX4_goThroughSets 19 = .ok (.aload_n 0, 1) := by decide +kernel
theorem dX4_goThroughSets_20 : decode cX4_goThroughSets 20 = .ok (.getfield 24, 3) := by decide +kernel
theorem dX4_goThroughSets_23 : decode cX4_goThroughSets 23 = .ok (.iload_n 1, 1) := by decide +kernel
theorem dX4_goThroughSets_24 : decode cX4_goThroughSets 24 = .ok (.iaload, 1) := by decide +kernel
theorem dX4_goThroughSets_25 : decode cX4_goThroughSets 25 = .ok (.if_icmp .ge 40, 3) := by decide +kernel
theorem dX4_goThroughSets_28 : decode cX4_goThroughSets 28 = .ok (.aload_n 0, 1) := by decide +kernel
theorem dX4_goThroughSets_29 : decode cX4_goThroughSets 29 = .ok (.getfield 42, 3) := by decide +kernel
theorem dX4_goThroughSets_32 : decode cX4_goThroughSets 32 = .ok (.aload_n 0, 1) := by decide +kernel
theorem dX4_goThroughSets_33 : decode cX4_goThroughSets 33 = .ok (.iload_n 1, 1) := by decide +kernel
theorem dX4_goThroughSets_34 : decode cX4_goThroughSets 34 = .ok (.iload 4, 2) := by decide +kernel
theorem dX4_goThroughSets_36 : decode cX4_goThroughSets 36 = .ok (.invokevirtual 79, 3) := by decide +kernel
theorem dX4_goThroughSets_39 : decode cX4_goThroughSets 39 = .ok (.iaload, 1) := by decide +kernel
theorem dX4_goThroughSets_40 : decode cX4_goThroughSets 40 = .ok (.istore 5, 2) := by decide +kernel
theorem dX4_goThroughSets_42 : decode cX4_goThroughSets 42 = .ok (.iload_n 2, 1) := by decide +kernel
theorem dX4_goThroughSets_43 : decode cX4_goThroughSets 43 = .ok (.iload 5, 2) := by decide +kernel
theorem dX4_goThroughSets_45 : decode cX4_goThroughSets 45 = .ok (.invokestatic 126, 3) := by decide +kernel
theorem dX4_goThroughSets_48 : decode cX4_goThroughSets 48 = .ok (.ifCond .eq 8, 3) := by decide +kernel
theorem dX4_goThroughSets_51 : decode cX4_goThroughSets 51 = .ok (.iload 5, 2) := by decide +kernel
theorem dX4_goThroughSets_53 : decode cX4_goThroughSets 53 = .ok (.goto 4, 3) := by decide +kernel
theorem dX4_goThroughSets_56 : decode cX4_goThroughSets 56 = .ok (.iconst 0, 1) := by decide +kernel
theorem dX4_goThroughSets_57 : decode cX4_goThroughSets 57 = .ok (.ior, 1) := by decide +kernel
theorem dX4_goThroughSets_58 : decode cX4_goThroughSets 58 = .ok (.istore_n 2, 1) := by decide +kernel
theorem dX4_goThroughSets_59 : decode cX4_goThroughSets 59 = .ok (.iinc 4 1, 3) := by decide +kernel
theorem dX4_goThroughSets_62 : decode cX4_goThroughSets 62 = .ok (.goto (-45), 3) := by decide +kernel
theorem dX4_goThroughSets_65 : decode cX4_goThroughSets 65 = .ok (.iconst 0, 1) := by decide +kernel
theorem dX4_goThroughSets_66 : decode cX4_goThroughSets 66 = .ok (.istore 4, 2) := by decide +kernel
theorem dX4_goThroughSets_68 : decode cX4_goThroughSets 68 = .ok (.iload 4, 2) := by decide +kernel
theorem dX4_goThroughSets_70 : decode cX4_goThroughSets 70 = .ok (.sipush 1022, 3) := by decide +kernel
theorem dX4_goThroughSets_73 : decode cX4_goThroughSets 73 = .ok (.if_icmp .gt 67, 3) := by decide +kernel
theorem dX4_goThroughSets_76 : decode cX4_goThroughSets 76 = .ok (.iload 4, 2) := by decide +kernel
theorem dX4_goThroughSets_78 : decode cX4_goThroughSets 78 = .ok (.invokestatic 133, 3) := by decide +kernel
theorem dX4_goThroughSets_81 : decode cX4_goThroughSets 81 = .ok (.aload_n 0, 1) := by decide +kernel
theorem dX4_goThroughSets_82 : decode cX4_goThroughSets 82 = .ok (.getfield 24, 3) := by decide +kernel
theorem dX4_goThroughSets_85 : decode cX4_goThroughSets 85 = .ok (.iload_n 1, 1) := by decide +kernel
theorem dX4_goThroughSets_86 : decode cX4_goThroughSets 86 = .ok (.iaload, 1) := by decide +kernel
theorem dX4_goThroughSets_87 : decode cX4_goThroughSets 87 = .ok (.if_icmp .ne 30, 3) := by decide +kernel
theorem dX4_goThroughSets_90 : decode cX4_goThroughSets 90 = .ok (.iload 4, 2) := by decide +kernel
theorem dX4_goThroughSets_92 : decode cX4_goThroughSets 92 = .ok (.invokestatic 136, 3) := by decide +kernel
theorem dX4_goThroughSets_95 : decode cX4_goThroughSets 95 = .ok (.aload_n 0, 1) := by decide +kernel
theorem dX4_goThroughSets_96 : decode cX4_goThroughSets 96 = .ok (.getfield 30, 3) := by decide +kernel
theorem dX4_goThroughSets_99 : decode cX4_goThroughSets 99 = .ok (.iload_n 1, 1) := by decide +kernel
theorem dX4_goThroughSets_100 : decode cX4_goThroughSets 100 = .ok (.iaload, 1) := by decide +kernel
theorem dX4_goThroughSets_101 : decode cX4_goThroughSets 101 = .ok (.if_icmp .ne 16, 3) := by decide +kernel
theorem dX4_goThroughSets_104 : decode cX4_goThroughSets 104 = .ok (.iload_n 2, 1) := by decide +kernel
theorem dX4_goThroughSets_105 : decode cX4_goThroughSets 105 = .ok (.iload 4, 2) := by decide +kernel
theorem dX4_goThroughSets_107 : decode cX4_goThroughSets 107 = .ok (.iconst (-1), 1) := by decide +kernel
theorem dX4_goThroughSets_108 : decode cX4_goThroughSets 108 = .ok (.ixor, 1) := by decide +kernel
theorem dX4_goThroughSets_109 : decode cX4_goThroughSets 109 = .ok (.iand, 1) := by decide +kernel
theorem dX4_goThroughSets_110 : decode cX4_goThroughSets 110 = .ok (.ifCond .ne 7, 3) := by decide +kernel
theorem dX4_goThroughSets_113 : decode cX4_goThroughSets 113 = .ok (.iconst 1, 1) := by decide +kernel
theorem dX4_goThroughSets_114 : decode cX4_goThroughSets 114 = .ok (.goto 4, 3) := by decide +kernel
theorem dX4_goThroughSets_117 : decode cX4_goThroughSets 117 = .ok (.iconst 0, 1) := by decide +kernel
theorem dX4_goThroughSets_118 : decode cX4_goThroughSets 118 = .ok (.istore 5, 2) := by decide +kernel
theorem dX4_goThroughSets_120 : decode cX4_goThroughSets 120 = .ok (.iload_n 3, 1) := by decide +kernel
theorem dX4_goThroughSets_121 : decode cX4_goThroughSets 121 = .ok (.iload 5, 2) := by decide +kernel
theorem dX4_goThroughSets_123 : decode cX4_goThroughSets 123 = .ok (.ifCond .eq 8, 3) := by decide +kernel
theorem dX4_goThroughSets_126 : decode cX4_goThroughSets 126 = .ok (.iload 4, 2) := by decide +kernel
theorem dX4_goThroughSets_128 : decode cX4_goThroughSets 128 = .ok (.goto 4, 3) := by decide +kernel
theorem dX4_goThroughSets_131 : decode cX4_goThroughSets 131 = .ok (.iconst 0, 1) := by decide +kernel
theorem dX4_goThroughSets_132 : decode cX4_goThroughSets 132 = .ok (.ior, 1) := by decide +kernel
theorem dX4_goThroughSets_133 : decode cX4_goThroughSets 133 = .ok (.istore_n 3, 1) := by decide +kernel
theorem dX4_goThroughSets_134 : decode cX4_goThroughSets 134 = .ok (.iinc 4 2, 3) := by decide +kernel
theorem dX4_goThroughSets_137 : decode cX4_goThroughSets 137 = .ok (.goto (-69), 3) := by decide +kernel
theorem dX4_goThroughSets_140 : decode cX4_goThroughSets 140 = .ok (.iconst 0, 1) := by decide +kernel
theorem dX4_goThroughSets_141 : decode cX4_goThroughSets 141 = .ok (.istore 4, 2) := by decide +kernel
theorem dX4_goThroughSets_143 : decode cX4_goThroughSets 143 = .ok (.iload 4, 2) := by decide +kernel
theorem dX4_goThroughSets_145 : decode cX4_goThroughSets 145 = .ok (.aload_n 0, 1) := by decide +kernel
theorem dX4_goThroughSets_146 : decode cX4_goThroughSets 146 = .ok (.getfield 24, 3) := by decide +kernel
theorem dX4_goThroughSets_149 : decode cX4_goThroughSets 149 = .ok (.iload_n 1, 1) := by decide +kernel
theorem dX4_goThroughSets_150 : decode cX4_goThroughSets 150 = .ok (.iaload, 1) := by decide +kernel
theorem dX4_goThroughSets_151 : decode cX4_goThroughSets 151 = .ok (.if_icmp .ge 36, 3) := by decide +kernel
theorem dX4_goThroughSets_154 : decode cX4_goThroughSets 154 = .ok (.aload_n 0, 1) := by decide +kernel
theorem dX4_goThroughSets_155 : decode cX4_goThroughSets 155 = .ok (.getfield 30, 3) := by decide +kernel
theorem dX4_goThroughSets_158 : decode cX4_goThroughSets 158 = .ok (.iload_n 1, 1) := by decide +kernel
theorem dX4_goThroughSets_159 : decode cX4_goThroughSets 159 = .ok (.iaload, 1) := by decide +kernel
theorem dX4_goThroughSets_160 : decode cX4_goThroughSets 160 = .ok (.ifCond .le 27, 3) := by decide +kernel
theorem dX4_goThroughSets_163 : decode cX4_goThroughSets 163 = .ok (.aload_n 0, 1) := by decide +kernel
theorem dX4_goThroughSets_164 : decode cX4_goThroughSets 164 = .ok (.aload_n 0, 1) := by decide +kernel
theorem dX4_goThroughSets_165 : decode cX4_goThroughSets 165 = .ok (.iload_n 1, 1) := by decide +kernel
theorem dX4_goThroughSets_166 : decode cX4_goThroughSets 166 = .ok (.iload 4, 2) := by decide +kernel
theorem dX4_goThroughSets_168 : decode cX4_goThroughSets 168 = .ok (.invokevirtual 79, 3) := by decide +kernel
theorem dX4_goThroughSets_171 : decode cX4_goThroughSets 171 = .ok (.sipush 1022, 3) := by decide +kernel
theorem dX4_goThroughSets_174 : decode cX4_goThroughSets 174 = .ok (.iload_n 3, 1) := by decide +kernel
theorem dX4_goThroughSets_175 : decode cX4_goThroughSets 175 = .ok (.iconst (-1), 1) := by decide +kernel
theorem dX4_goThroughSets_176 : decode cX4_goThroughSets 176 = .ok (.ixor, 1) := by decide +kernel
theorem dX4_goThroughSets_177 : decode cX4_goThroughSets 177 = .ok (.iand, 1) := by decide +kernel
theorem dX4_goThroughSets_178 : decode cX4_goThroughSets 178 = .ok (.invokevirtual 129, 3) := by decide +kernel
theorem dX4_goThroughSets_181 : decode cX4_goThroughSets 181 = .ok (.iinc 4 1, 3) := by decide +kernel
theorem dX4_goThroughSets_184 : decode cX4_goThroughSets 184 = .ok (.goto (-41), 3) := by decide +kernel
theorem dX4_goThroughSets_187 : decode cX4_goThroughSets 187 = .ok (.iinc 1 1, 3) := by decide +kernel
theorem dX4_goThroughSets_190 : decode cX4_goThroughSets 190 = .ok (.goto (-188), 3) := by decide +kernel
theorem dX4_goThroughSets_193 : decode cX4_goThroughSets 193 = .ok (.return_, 1) := by decide +kernel
set_option maxRecDepth 20000 in
theorem ggX4_canBe_X4_cellOf : GoodIn wsX4_canBe wsX4_cellOf := goodIn_r _ [8, 9, 10, 14, 15, 16, 17, 18, 19, 20, 21, 22, 23, 24, 25, 26, 27, 28, 29, 30, 31] (by decide +kernel) (by decide +kernel)
set_option maxRecDepth 20000 in
theorem gX4_canBe_X4_cellOf : GoodIn wsX4_canBe (wsV RX4 79 RX4 yX4_cellOf wsX4_cellOf) := goodIn_app (goodIn_of _ (by decide +kernel)) ggX4_canBe_X4_cellOf
set_option maxRecDepth 20000 in
theorem ggX4_canBe_X4_sumOfSet : GoodIn wsX4_canBe wsX4_sumOfSet := goodIn_r _ [13] (by decide +kernel) (by decide +kernel)
set_option maxRecDepth 20000 in
theorem gX4_canBe_X4_sumOfSet : GoodIn wsX4_canBe (va_wsS RX4 136 yX4_sumOfSet wsX4_sumOfSet) := goodIn_app (goodIn_of _ (by decide +kernel)) ggX4_canBe_X4_sumOfSet
theorem dX4_canBe_0 : decode cX4_canBe 0 = .ok (.iconst 1, 1) := by decide +kernel
theorem dX4_canBe_1 : decode cX4_canBe 1 = .ok (.istore 4, 2) := by decide +kernel
theorem dX4_canBe_3 : decode cX4_canBe 3 = .ok (.iconst 0, 1) := by decide +kernel
theorem dX4_canBe_4 : decode cX4_canBe 4 = .ok (.istore 5, 2) := by decide +kernel
theorem dX4_canBe_6 : decode cX4_canBe 6 = .ok (.iload 5, 2) := by decide +kernel
theorem dX4_canBe_8 : decode cX4_canBe 8 = .ok (.aload_n 0, 1) := by decide +kernel
theorem dX4_canBe_9 : decode cX4_canBe 9 = .ok (.getfield 24, 3) := by decide +kernel
theorem dX4_canBe_12 : decode cX4_canBe 12 = .ok (.iload_n 1, 1) := by decide +kernel
theorem dX4_canBe_13 : decode cX4_canBe 13 = .ok (.iaload, 1) := by decide +kernel
theorem dX4_canBe_14 : decode cX4_canBe 14 = .ok (.if_icmp .ge 16, 3) := by decide +kernel
theorem dX4_canBe_17 : decode cX4_canBe 17 = .ok (.iload 4, 2) := by decide +kernel
theorem dX4_canBe_19 : decode cX4_canBe 19 = .ok (.bipush 9, 2) := by decide +kernel
theorem dX4_canBe_21 : decode cX4_canBe 21 = .ok (.imul, 1) := by decide +kernel
theorem dX4_canBe_22 : decode cX4_canBe 22 = .ok (.istore 4, 2) := by decide +kernel
theorem dX4_canBe_24 : decode cX4_canBe 24 = .ok (.iinc 5 1, 3) := by decide +kernel
theorem dX4_canBe_27 : decode cX4_canBe 27 = .ok (.goto (-21), 3) := by decide +kernel
theorem dX4_canBe_30 : decode cX4_canBe 30 = .ok (.iconst 0, 1) := by decide +kernel
theorem dX4_canBe_31 : decode cX4_canBe 31 = .ok (.istore 5, 2) := by decide +kernel
theorem dX4_canBe_33 : decode cX4_canBe 33 = .ok (.iload 5, 2) := by decide +kernel
theorem dX4_canBe_35 : decode cX4_canBe 35 = .ok (.iload 4, 2) := by decide +kernel
theorem dX4_canBe_37 : decode cX4_canBe 37 = .ok (.if_icmp .ge 140, 3) := by decide +kernel
theorem dX4_canBe_40 : decode cX4_canBe 40 = .ok (.iload 5, 2) := by decide +kernel
theorem dX4_canBe_42 : decode cX4_canBe 42 = .ok (.istore 6, 2) := by decide +kernel
theorem dX4_canBe_44 : decode cX4_canBe 44 = .ok (.iconst 0, 1) := by decide +kernel
theorem dX4_canBe_45 : decode cX4_canBe 45 = .ok (.istore 7, 2) := by decide +kernel
theorem dX4_canBe_47 : decode cX4_canBe 47 = .ok (.iconst 1, 1) := by decide +kernel
theorem dX4_canBe_48 : decode cX4_canBe 48 = .ok (.istore 8, 2) := by decide +kernel
theorem dX4_canBe_50 : decode cX4_canBe 50 = .ok (.iconst 0, 1) := by decide +kernel
theorem dX4_canBe_51 : decode cX4_canBe 51 = .ok (.istore 9, 2) := by decide +kernel
theorem dX4_canBe_53 : decode cX4_canBe 53 = .ok (.iload 9, 2) := by decide +kernel
theorem dX4_canBe_55 : decode cX4_canBe 55 = .ok (.aload_n 0, 1) := by decide +kernel
theorem dX4_canBe_56 : decode cX4_canBe 56 = .ok (.getfield 24, 3) := by decide +kernel
theorem dX4_canBe_59 : decode cX4_canBe 59 = .ok (.iload_n 1, 1) := by decide +kernel
theorem dX4_canBe_60 : decode cX4_canBe 60 = .ok (.iaload, 1) := by decide +kernel
theorem dX4_canBe_61 : decode cX4_canBe 61 = .ok (.if_icmp .ge 89, 3) := by decide +kernel
theorem dX4_canBe_64 : decode cX4_canBe 64 = .ok (.iload 8, 2) := by decide +kernel
theorem dX4_canBe_66 : decode cX4_canBe 66 = .ok (.ifCond .eq 84, 3) := by decide +kernel
theorem dX4_canBe_69 : decode cX4_canBe 69 = .ok (.iconst 1, 1) := by decide +kernel
theorem dX4_canBe_70 : decode cX4_canBe 70 = .ok (.iload 6, 2) := by decide +kernel
theorem dX4_canBe_72 : decode cX4_canBe 72 = .ok (.bipush 9, 2) := by decide +kernel
theorem dX4_canBe_74 : decode cX4_canBe 74 = .ok (.irem, 1) := by decide +kernel
theorem dX4_canBe_75 : decode cX4_canBe 75 = .ok (.iadd, 1) := by decide +kernel
theorem dX4_canBe_76 : decode cX4_canBe 76 = .ok (.istore 10, 2) := by decide +kernel
theorem dX4_canBe_78 : decode cX4_canBe 78 = .ok (.iload 6, 2) := by decide +kernel
theorem dX4_canBe_80 : decode cX4_canBe 80 = .ok (.bipush 9, 2) := by decide +kernel
theorem dX4_canBe_82 : decode cX4_canBe 82 = .ok (.idiv, 1) := by decide +kernel
theorem dX4_canBe_83 : decode cX4_canBe 83 = .ok (.istore 6, 2) := by decide +kernel
theorem dX4_canBe_85 : decode cX4_canBe 85 = .ok (.iload 7, 2) := by decide +kernel
theorem dX4_canBe_87 : decode cX4_canBe 87 = .ok (.iload 10, 2) := by decide +kernel
theorem dX4_canBe_89 : decode cX4_canBe 89 = .ok (.ishr, 1) := by decide +kernel
theorem dX4_canBe_90 : decode cX4_canBe 90 = .ok (.iconst 1, 1) := by decide +kernel
theorem dX4_canBe_91 : decode cX4_canBe 91 = .ok (.iand, 1) := by decide +kernel
theorem dX4_canBe_92 : decode cX4_canBe 92 = .ok (.ifCond .ne 40, 3) := by decide +kernel
theorem dX4_canBe_95 : decode cX4_canBe 95 = .ok (.aload_n 0, 1) := by decide +kernel
theorem dX4_canBe_96 : decode cX4_canBe 96 = .ok (.getfield 42, 3) := by decide +kernel
theorem dX4_canBe_99 : decode cX4_canBe 99 = .ok (.aload_n 0, 1) := by decide +kernel
theorem dX4_canBe_100 : decode cX4_canBe 100 = .ok (.iload_n 1, 1) := by decide +kernel
theorem dX4_canBe_101 : decode cX4_canBe 101 = .ok (.iload 9, 2) := by decide +kernel
theorem dX4_canBe_103 : decode cX4_canBe 103 = .ok (.invokevirtual 79, 3) := by decide +kernel
theorem dX4_canBe_106 : decode cX4_canBe 106 = .ok (.iaload, 1) := by decide +kernel
theorem dX4_canBe_107 : decode cX4_canBe 107 = .ok (.iload 10, 2) := by decide +kernel
theorem dX4_canBe_109 : decode cX4_canBe 109 = .ok (.ishr, 1) := by decide +kernel
theorem dX4_canBe_110 : decode cX4_canBe 110 = .ok (.iconst 1, 1) := by decide +kernel
theorem dX4_canBe_111 : decode cX4_canBe 111 = .ok (.iand, 1) := by decide +kernel
theorem dX4_canBe_112 : decode cX4_canBe 112 = .ok (.iconst 1, 1) := by decide +kernel
theorem dX4_canBe_113 : decode cX4_canBe 113 = .ok (.if_icmp .ne 19, 3) := by decide +kernel
theorem dX4_canBe_116 : decode cX4_canBe 116 = .ok (.iload 9, 2) := by decide +kernel
theorem dX4_canBe_118 : decode cX4_canBe 118 = .ok (.iload_n 2, 1) := by decide +kernel
theorem dX4_canBe_119 : decode cX4_canBe 119 = .ok (.if_icmp .ne 9, 3) := by decide +kernel
theorem dX4_canBe_122 : decode cX4_canBe 122 = .ok (.iload 10, 2) := by decide +kernel
theorem dX4_canBe_124 : decode cX4_canBe 124 = .ok (.iload_n 3, 1) := by decide +kernel
theorem dX4_canBe_125 : decode cX4_canBe 125 = .ok (.if_icmp .ne 7, 3) := by decide +kernel
theorem dX4_canBe_128 : decode cX4_canBe 128 = .ok (.iconst 1, 1) := by decide +kernel
theorem dX4_canBe_129 : decode cX4_canBe 129 = .ok (.goto 4, 3) := by decide +kernel
theorem dX4_canBe_132 : decode cX4_canBe 132 = .ok (.iconst 0, 1) := by decide +kernel
theorem dX4_canBe_133 : decode cX4_canBe 133 = .ok (.istore 8, 2) := by decide +kernel
theorem dX4_canBe_135 : decode cX4_canBe 135 = .ok (.iload 7, 2) := by decide +kernel
theorem dX4_canBe_137 : decode cX4_canBe 137 = .ok (.iconst 1, 1) := by decide +kernel
theorem dX4_canBe_138 : decode cX4_canBe 138 = .ok (.iload 10, 2) := by decide +kernel
theorem dX4_canBe_140 : decode cX4_canBe 140 = .ok (.ishl, 1) := by decide +kernel
theorem dX4_canBe_141 : decode cX4_canBe 141 = .ok (.ior, 1) := by decide +kernel
theorem dX4_canBe_142 : decode cX4_canBe 142 = .ok (.istore 7, 2) := by decide +kernel
theorem dX4_canBe_144 : decode cX4_canBe 144 = .ok (.iinc 9 1, 3) := by decide +kernel
theorem dX4_canBe_147 : decode cX4_canBe 147 = .ok (.goto (-94), 3) := by decide +kernel
theorem dX4_canBe_150 : decode cX4_canBe 150 = .ok (.iload 8, 2) := by decide +kernel
theorem dX4_canBe_152 : decode cX4_canBe 152 = .ok (.ifCond .eq 19, 3) := by decide +kernel
theorem dX4_canBe_155 : decode cX4_canBe 155 = .ok (.iload 7, 2) := by decide +kernel
theorem dX4_canBe_157 : decode cX4_canBe 157 = .ok (.invokestatic 136, 3) := by decide +kernel
theorem dX4_canBe_160 : decode cX4_canBe 160 = .ok (.aload_n 0, 1) := by decide +kernel
theorem dX4_canBe_161 : decode cX4_canBe 161 = .ok (.getfield 30, 3) := by decide +kernel
theorem dX4_canBe_164 : decode cX4_canBe 164 = .ok (.iload_n 1, 1) := by decide +kernel
theorem dX4_canBe_165 : decode cX4_canBe 165 = .ok (.iaload, 1) := by decide +kernel
theorem dX4_canBe_166 : decode cX4_canBe 166 = .ok (.if_icmp .ne 5, 3) := by decide +kernel
theorem dX4_canBe_169 : decode cX4_canBe 169 = .ok (.iconst 1, 1) := by decide +kernel
theorem dX4_canBe_170 : decode cX4_canBe 170 = .ok (.ireturn, 1) := by decide +kernel
theorem dX4_canBe_171 : decode cX4_canBe 171 = .ok (.iinc 5 1, 3) := by decide +kernel
theorem dX4_canBe_174 : decode cX4_canBe 174 = .ok (.goto (-141), 3) := by decide +kernel
theorem dX4_canBe_177 : decode cX4_canBe 177 = .ok (.iconst 0, 1) := by decide +kernel
theorem dX4_canBe_178 : decode cX4_canBe 178 = .ok (.ireturn, 1) := by decide +kernel
set_option maxRecDepth 20000 in
theorem ggX4_goThroughRows_X4_cellOf : GoodIn wsX4_goThroughRows wsX4_cellOf := goodIn_r _ [9, 10, 11, 24, 25, 26, 27, 28, 29, 30, 31, 32, 33, 34, 35, 36, 37, 38, 39, 40, 41] (by decide +kernel) (by decide +kernel)
set_option maxRecDepth 20000 in
theorem gX4_goThroughRows_X4_cellOf : GoodIn wsX4_goThroughRows (wsV RX4 79 RX4 yX4_cellOf wsX4_cellOf) := goodIn_app (goodIn_of _ (by decide +kernel)) ggX4_goThroughRows_X4_cellOf
set_option maxRecDepth 20000 in
theorem ggX4_goThroughRows_X4_canBe : GoodIn wsX4_goThroughRows wsX4_canBe := goodIn_r _ [15, 2, 4, 3, 5, 6, 7, 8, 9, 10, 11, 16, 17, 18, 24, 25, 26, 27, 28, 29, 30, 31, 32, 33, 34, 35, 36, 37, 38, 39, 40, 41] (by decide +kernel) (by decide +kernel)
set_option maxRecDepth 20000 in
theorem gX4_goThroughRows_X4_canBe : GoodIn wsX4_goThroughRows (wsV RX4 139 RX4 yX4_canBe wsX4_canBe) := goodIn_app (goodIn_of _ (by decide +kernel)) ggX4_goThroughRows_X4_canBe
set_option maxRecDepth 20000 in
theorem ggX4_goThroughRows_X4_take : GoodIn wsX4_goThroughRows wsX4_take := goodIn_r _ [22, 23, 4, 24, 25, 26, 27, 28, 29, 30, 31, 32, 33, 34, 35, 36, 37, 38, 39, 40, 41] (by decide +kernel) (by decide +kernel)
set_option maxRecDepth 20000 in
theorem gX4_goThroughRows_X4_take : GoodIn wsX4_goThroughRows (wsV RX4 129 RX4 yX4_take wsX4_take) := goodIn_app (goodIn_of _ (by decide +kernel)) ggX4_goThroughRows_X4_take
theorem dX4_goThroughRows_0 : decode cX4_goThroughRows 0 = .ok (.iconst 0, 1) := by decide +kernel
theorem dX4_goThroughRows_1 : decode cX4_goThroughRows 1 = .ok (.istore_n 1, 1) := by decide +kernel
theorem dX4_goThroughRows_2 : decode cX4_goThroughRows 2 = .ok (.iload_n 1, 1) := by decide +kernel
theorem dX4_goThroughRows_3 : decode cX4_goThroughRows 3 = .ok (.aload_n 0, 1) := by decide +kernel
theorem dX4_goThroughRows_4 : decode cX4_goThroughRows 4 = .ok (.getfield 59, 3) := by decide +kernel
theorem dX4_goThroughRows_7 : decode cX4_goThroughRows 7 = .ok (.if_icmp .ge 104, 3) := by decide +kernel
theorem dX4_goThroughRows_10 : decode cX4_goThroughRows 10 = .ok (.iconst 0, 1) := by decide +kernel
theorem dX4_goThroughRows_11 : decode cX4_goThroughRows 11 = .ok (.istore_n 2, 1) := by decide +kernel
theorem dX4_goThroughRows_12 : decode cX4_goThroughRows 12 = .ok (.iload_n 2, 1) := by decide +kernel
theorem dX4_goThroughRows_13 : decode cX4_goThroughRows 13 = .ok (.aload_n 0, 1) := by decide +kernel
theorem dX4_goThroughRows_14 : decode cX4_goThroughRows 14 = .ok (.getfield 24, 3) := by decide +kernel
theorem dX4_goThroughRows_17 : decode cX4_goThroughRows 17 = .ok (.iload_n 1, 1) := by decide +kernel
theorem dX4_goThroughRows_18 : decode cX4_goThroughRows 18 = .ok (.iaload, 1) := by decide +kernel
theorem dX4_goThroughRows_19 : decode cX4_goThroughRows 19 = .ok (.if_icmp .ge 86, 3) := by decide +kernel
theorem dX4_goThroughRows_22 : decode cX4_goThroughRows 22 = .ok (.aload_n 0, 1) := by decide +kernel
theorem dX4_goThroughRows_23 : decode cX4_goThroughRows 23 = .ok (.getfield 30, 3) := by decide +kernel
theorem dX4_goThroughRows_26 : decode cX4_goThroughRows 26 = .ok (.iload_n 1, 1) := by decide +kernel
theorem dX4_goThroughRows_27 : decode cX4_goThroughRows 27 = .ok (.iaload, 1) := by decide +kernel
theorem dX4_goThroughRows_28 : decode cX4_goThroughRows 28 = .ok (.ifCond .le 77, 3) := by decide +kernel
theorem dX4_goThroughRows_31 : decode cX4_goThroughRows 31 = .ok (.iconst 1, 1) := by decide +kernel
theorem dX4_goThroughRows_32 : decode cX4_goThroughRows 32 = .ok (.istore_n 3, 1) := by decide +kernel
theorem dX4_goThroughRows_33 : decode cX4_goThroughRows 33 = .ok (.iload_n 3, 1) := by decide +kernel
theorem dX4_goThroughRows_34 : decode cX4_goThroughRows 34 = .ok (.bipush 9, 2) := by decide +kernel
theorem dX4_goThroughRows_36 : decode cX4_goThroughRows 36 = .ok (.if_icmp .gt 63, 3) := by decide +kernel
theorem dX4_goThroughRows_39 : decode cX4_goThroughRows 39 = .ok (.aload_n 0, 1) := by decide +kernel
theorem dX4_goThroughRows_40 : decode cX4_goThroughRows 40 = .ok (.getfield 42, 3) := by decide +kernel
theorem dX4_goThroughRows_43 : decode cX4_goThroughRows 43 = .ok (.aload_n 0, 1) := by decide +kernel
theorem dX4_goThroughRows_44 : decode cX4_goThroughRows 44 = .ok (.iload_n 1, 1) := by decide +kernel
theorem dX4_goThroughRows_45 : decode cX4_goThroughRows 45 = .ok (.iload_n 2, 1) := by decide +kernel
theorem dX4_goThroughRows_46 : decode cX4_goThroughRows 46 = .ok (.invokevirtual 79, 3) := by decide +kernel
theorem dX4_goThroughRows_49 : decode cX4_goThroughRows 49 = .ok (.iaload, 1) := by decide +kernel
theorem dX4_goThroughRows_50 : decode cX4_goThroughRows 50 = .ok (.iload_n 3, 1) := by decide +kernel
theorem dX4_goThroughRows_51 : decode cX4_goThroughRows 51 = .ok (.ishr, 1) := by decide +kernel
theorem dX4_goThroughRows_52 : decode cX4_goThroughRows 52 = .ok (.iconst 1, 1) := by decide +kernel
theorem dX4_goThroughRows_53 : decode cX4_goThroughRows 53 = .ok (.iand, 1) := by decide +kernel
theorem dX4_goThroughRows_54 : decode cX4_goThroughRows 54 = .ok (.iconst 1, 1) := by decide +kernel
theorem dX4_goThroughRows_55 : decode cX4_goThroughRows 55 = .ok (.if_icmp .ne 7, 3) := by decide +kernel
theorem dX4_goThroughRows_58 : decode cX4_goThroughRows 58 = .ok (.iconst 1, 1) := by decide +kernel
theorem dX4_goThroughRows_59 : decode cX4_goThroughRows 59 = .ok (.goto 4, 3) := by decide +kernel
theorem dX4_goThroughRows_62 : decode cX4_goThroughRows 62 = .ok (.iconst 0, 1) := by decide +kernel
theorem dX4_goThroughRows_63 : decode cX4_goThroughRows 63 = .ok (.istore 4, 2) := by decide +kernel
theorem dX4_goThroughRows_65 : decode cX4_goThroughRows 65 = .ok (.iload 4, 2) := by decide +kernel
theorem dX4_goThroughRows_67 : decode cX4_goThroughRows 67 = .ok (.ifCond .eq 26, 3) := by decide +kernel
theorem dX4_goThroughRows_70 : decode cX4_goThroughRows 70 = .ok (.aload_n 0, 1) := by decide +kernel
theorem dX4_goThroughRows_71 : decode cX4_goThroughRows 71 = .ok (.iload_n 1, 1) := by decide +kernel
theorem dX4_goThroughRows_72 : decode cX4_goThroughRows 72 = .ok (.iload_n 2, 1) := by decide +kernel
theorem dX4_goThroughRows_73 : decode cX4_goThroughRows 73 = .ok (.iload_n 3, 1) := by decide +kernel
theorem dX4_goThroughRows_74 : decode cX4_goThroughRows 74 = .ok (.invokevirtual 139, 3) := by decide +kernel
theorem dX4_goThroughRows_77 : decode cX4_goThroughRows 77 = .ok (.ifCond .ne 16, 3) := by decide +kernel
theorem dX4_goThroughRows_80 : decode cX4_goThroughRows 80 = .ok (.aload_n 0, 1) := by decide +kernel
theorem dX4_goThroughRows_81 : decode cX4_goThroughRows 81 = .ok (.aload_n 0, 1) := by decide +kernel
theorem dX4_goThroughRows_82 : decode cX4_goThroughRows 82 = .ok (.iload_n 1, 1) := by decide +kernel
theorem dX4_goThroughRows_83 : decode cX4_goThroughRows 83 = .ok (.iload_n 2, 1) := by decide +kernel
theorem dX4_goThroughRows_84 : decode cX4_goThroughRows 84 = .ok (.invokevirtual 79, 3) := by decide +kernel
theorem dX4_goThroughRows_87 : decode cX4_goThroughRows 87 = .ok (.iconst 1, 1) := by decide +kernel
theorem dX4_goThroughRows_88 : decode cX4_goThroughRows 88 = .ok (.iload_n 3, 1) := by decide +kernel
theorem dX4_goThroughRows_89 : decode cX4_goThroughRows 89 = .ok (.ishl, 1) := by decide +kernel
theorem dX4_goThroughRows_90 : decode cX4_goThroughRows 90 = .ok (.invokevirtual 129, 3) := by decide +kernel
theorem dX4_goThroughRows_93 : decode cX4_goThroughRows 93 = .ok (.iinc 3 1, 3) := by decide +kernel
theorem dX4_goThroughRows_96 : decode cX4_goThroughRows 96 = .ok (.goto (-63), 3) := by decide +kernel
theorem dX4_goThroughRows_99 : decode cX4_goThroughRows 99 = .ok (.iinc 2 1, 3) := by decide +kernel
theorem dX4_goThroughRows_102 : decode cX4_goThroughRows 102 = .ok (.goto (-90), 3) := by decide +kernel
theorem dX4_goThroughRows_105 : decode cX4_goThroughRows 105 = .ok (.iinc 1 1, 3) := by decide +kernel
theorem dX4_goThroughRows_108 : decode cX4_goThroughRows 108 = .ok (.goto (-106), 3) := by decide +kernel
theorem dX4_goThroughRows_111 : decode cX4_goThroughRows 111 = .ok (.return_, 1) := by decide +kernel
set_option maxRecDepth 20000 in
theorem ggX4_isDead_X4_isOpen : GoodIn wsX4_isDead wsX4_isOpen := goodIn_r _ [6, 7, 8, 9, 10, 5, 11, 12, 13, 14, 15, 16, 17, 18, 19, 20, 21, 22, 23, 24, 25, 26, 27, 28, 29, 30, 31, 32, 33] (by decide +kernel) (by decide +kernel)
set_option maxRecDepth 20000 in
theorem gX4_isDead_X4_isOpen : GoodIn wsX4_isDead (wsV RX4 69 RX4 yX4_isOpen wsX4_isOpen) := goodIn_app (goodIn_of _ (by decide +kernel)) ggX4_isDead_X4_isOpen
theorem dX4_isDead_0 : decode cX4_isDead 0 = .ok (.iconst 0, 1) := by decide +kernel
theorem dX4_isDead_1 : decode cX4_isDead 1 = .ok (.istore_n 1, 1) := by decide +kernel
theorem dX4_isDead_2 : decode cX4_isDead 2 = .ok (.iconst 0, 1) := by decide +kernel
theorem dX4_isDead_3 : decode cX4_isDead 3 = .ok (.istore_n 2, 1) := by decide +kernel
theorem dX4_isDead_4 : decode cX4_isDead 4 = .ok (.iload_n 2, 1) := by decide +kernel
theorem dX4_isDead_5 : decode cX4_isDead 5 = .ok (.bipush 16, 2) := by decide +kernel
theorem dX4_isDead_7 : decode cX4_isDead 7 = .ok (.if_icmp .ge 36, 3) := by decide +kernel
theorem dX4_isDead_10 : decode cX4_isDead 10 = .ok (.iload_n 1, 1) := by decide +kernel
theorem dX4_isDead_11 : decode cX4_isDead 11 = .ok (.ifCond .ne 20, 3) := by decide +kernel
theorem dX4_isDead_14 : decode cX4_isDead 14 = .ok (.aload_n 0, 1) := by decide +kernel
theorem dX4_isDead_15 : decode cX4_isDead 15 = .ok (.iload_n 2, 1) := by decide +kernel
theorem dX4_isDead_16 : decode cX4_isDead 16 = .ok (.invokevirtual 69, 3) := by decide +kernel
theorem dX4_isDead_19 : decode cX4_isDead 19 = .ok (.ifCond .eq 16, 3) := by decide +kernel
theorem dX4_isDead_22 : decode cX4_isDead 22 = .ok (.aload_n 0, 1) := by decide +kernel
theorem dX4_isDead_23 : decode cX4_isDead 23 = .ok (.getfield 42, 3) := by decide +kernel
theorem dX4_isDead_26 : decode cX4_isDead 26 = .ok (.iload_n 2, 1) := by decide +kernel
theorem dX4_isDead_27 : decode cX4_isDead 27 = .ok (.iaload, 1) := by decide +kernel
theorem dX4_isDead_28 : decode cX4_isDead 28 = .ok (.ifCond .ne 7, 3) := by decide +kernel
theorem dX4_isDead_31 : decode cX4_isDead 31 = .ok (.iconst 1, 1) := by decide +kernel
theorem dX4_isDead_32 : decode cX4_isDead 32 = .ok (.goto 4, 3) := by decide +kernel
theorem dX4_isDead_35 : decode cX4_isDead 35 = .ok (.iconst 0, 1) := by decide +kernel
theorem dX4_isDead_36 : decode cX4_isDead 36 = .ok (.istore_n 1, 1) := by decide +kernel
theorem dX4_isDead_37 : decode cX4_isDead 37 = .ok (.iinc 2 1, 3) := by decide +kernel
theorem dX4_isDead_40 : decode cX4_isDead 40 = .ok (.goto (-36), 3) := by decide +kernel
theorem dX4_isDead_43 : decode cX4_isDead 43 = .ok (.iload_n 1, 1) := by decide +kernel
theorem dX4_isDead_44 : decode cX4_isDead 44 = .ok (.ireturn, 1) := by decide +kernel
set_option maxRecDepth 20000 in
theorem ggX4_solve_X4_isOpen : GoodIn wsX4_solve wsX4_isOpen := goodIn_r _ [9, 10, 11, 12, 13, 8, 14, 15, 16, 17, 18, 61, 62, 63, 64, 65, 66, 67, 68, 69, 70, 71, 72, 73, 74, 75, 76, 77, 78] (by decide +kernel) (by decide +kernel)
set_option maxRecDepth 20000 in
theorem gX4_solve_X4_isOpen : GoodIn wsX4_solve (wsV RX4 69 RX4 yX4_isOpen wsX4_isOpen) := goodIn_app (goodIn_of _ (by decide +kernel)) ggX4_solve_X4_isOpen
set_option maxRecDepth 20000 in
theorem ggX4_solve_X4_goThroughSingles : GoodIn wsX4_solve wsX4_goThroughSingles := goodIn_r _ [22, 23, 24, 2, 25, 26, 27, 8, 28, 29, 30, 31, 32, 33, 34, 35, 36, 37, 4, 61, 62, 63, 64, 65, 66, 67, 68, 69, 70, 71, 72, 73, 74, 75, 76, 77, 78] (by decide +kernel) (by decide +kernel)
set_option maxRecDepth 20000 in
theorem gX4_solve_X4_goThroughSingles : GoodIn wsX4_solve (wsV RX4 145 RX4 yX4_goThroughSingles wsX4_goThroughSingles) := goodIn_app (goodIn_of _ (by decide +kernel)) ggX4_solve_X4_goThroughSingles
set_option maxRecDepth 20000 in
theorem ggX4_solve_X4_goThroughSets : GoodIn wsX4_solve wsX4_goThroughSets := goodIn_r _ [41, 23, 24, 2, 42, 25, 26, 27, 8, 28, 29, 30, 31, 32, 33, 43, 44, 45, 46, 47, 48, 34, 35, 36, 37, 4, 61, 62, 63, 64, 65, 66, 67, 68, 69, 70, 71, 72, 73, 74, 75, 76, 77, 78] (by decide +kernel) (by decide +kernel)
set_option maxRecDepth 20000 in
theorem gX4_solve_X4_goThroughSets : GoodIn wsX4_solve (wsV RX4 148 RX4 yX4_goThroughSets wsX4_goThroughSets) := goodIn_app (goodIn_of _ (by decide +kernel)) ggX4_solve_X4_goThroughSets
set_option maxRecDepth 20000 in
theorem ggX4_solve_X4_goThroughRows : GoodIn wsX4_solve wsX4_goThroughRows := goodIn_r _ [52, 23, 24, 42, 2, 25, 26, 27, 8, 28, 29, 30, 53, 54, 55, 56, 46, 47, 48, 34, 35, 36, 37, 4, 61, 62, 63, 64, 65, 66, 67, 68, 69, 70, 71, 72, 73, 74, 75, 76, 77, 78] (by decide +kernel) (by decide +kernel)
set_option maxRecDepth 20000 in
theorem gX4_solve_X4_goThroughRows : GoodIn wsX4_solve (wsV RX4 151 RX4 yX4_goThroughRows wsX4_goThroughRows) := goodIn_app (goodIn_of _ (by decide +kernel)) ggX4_solve_X4_goThroughRows
set_option maxRecDepth 20000 in
theorem ggX4_solve_X4_isDead : GoodIn wsX4_solve wsX4_isDead := goodIn_r _ [60, 2, 5, 6, 7, 8, 9, 10, 11, 12, 13, 14, 15, 16, 17, 18, 61, 62, 63, 64, 65, 66, 67, 68, 69, 70, 71, 72, 73, 74, 75, 76, 77, 78] (by decide +kernel) (by decide +kernel)
set_option maxRecDepth 20000 in
theorem gX4_solve_X4_isDead : GoodIn wsX4_solve (wsV RX4 154 RX4 yX4_isDead wsX4_isDead) := goodIn_app (goodIn_of _ (by decide +kernel)) ggX4_solve_X4_isDead
theorem dX4_solve_0 : decode cX4_solve 0 = .ok (.aload_n 0, 1) := by decide +kernel
theorem dX4_solve_1 : decode cX4_solve 1 = .ok (.iconst 0, 1) := by decide +kernel
theorem dX4_solve_2 : decode cX4_solve 2 = .ok (.putfield 142, 3) := by decide +kernel
theorem dX4_solve_5 : decode cX4_solve 5 = .ok (.iconst 0, 1) := by decide +kernel
theorem dX4_solve_6 : decode cX4_solve 6 = .ok (.istore_n 2, 1) := by decide +kernel
theorem dX4_solve_7 : decode cX4_solve 7 = .ok (.iload_n 2, 1) := by decide +kernel
theorem dX4_solve_8 : decode cX4_solve 8 = .ok (.bipush 16, 2) := by decide +kernel
theorem dX4_solve_10 : decode cX4_solve 10 = .ok (.if_icmp .ge 50, 3) := by decide +kernel
theorem dX4_solve_13 : decode cX4_solve 13 = .ok (.aload_n 0, 1) := by decide +kernel
theorem dX4_solve_14 : decode cX4_solve 14 = .ok (.getfield 42, 3) := by decide +kernel
theorem dX4_solve_17 : decode cX4_solve 17 = .ok (.iload_n 2, 1) := by decide +kernel
theorem dX4_solve_18 : decode cX4_solve 18 = .ok (.aload_n 0, 1) := by decide +kernel
theorem dX4_solve_19 : decode cX4_solve 19 = .ok (.iload_n 2, 1) := by decide +kernel
theorem dX4_solve_20 : decode cX4_solve 20 = .ok (.invokevirtual 69, 3) := by decide +kernel
theorem dX4_solve_23 : decode cX4_solve 23 = .ok (.ifCond .ne 7, 3) := by decide +kernel
theorem dX4_solve_26 : decode cX4_solve 26 = .ok (.iconst 0, 1) := by decide +kernel
theorem dX4_solve_27 : decode cX4_solve 27 = .ok (.goto 26, 3) := by decide +kernel
theorem dX4_solve_30 : decode cX4_solve 30 = .ok (.aload_n 0, 1) := by decide +kernel
theorem dX4_solve_31 : decode cX4_solve 31 = .ok (.getfield 17, 3) := by decide +kernel
theorem dX4_solve_34 : decode cX4_solve 34 = .ok (.iload_n 2, 1) := by decide +kernel
theorem dX4_solve_35 : decode cX4_solve 35 = .ok (.iaload, 1) := by decide +kernel
theorem dX4_solve_36 : decode cX4_solve 36 = .ok (.ifCond .le 14, 3) := by decide +kernel
theorem dX4_solve_39 : decode cX4_solve 39 = .ok (.iconst 1, 1) := by decide +kernel
theorem dX4_solve_40 : decode cX4_solve 40 = .ok (.aload_n 0, 1) := by decide +kernel
theorem dX4_solve_41 : decode cX4_solve 41 = .ok (.getfield 17, 3) := by decide +kernel
theorem dX4_solve_44 : decode cX4_solve 44 = .ok (.iload_n 2, 1) := by decide +kernel
theorem dX4_solve_45 : decode cX4_solve 45 = .ok (.iaload, 1) := by decide +kernel
theorem dX4_solve_46 : decode cX4_solve 46 = .ok (.ishl, 1) := by decide +kernel
theorem dX4_solve_47 : decode cX4_solve 47 = .ok (.goto 6, 3) := by decide +kernel
theorem dX4_solve_50 : decode cX4_solve 50 = .ok (.sipush 1022, 3) := by decide +kernel
theorem dX4_solve_53 : decode cX4_solve 53 = .ok (.iastore, 1) := by decide +kernel
theorem dX4_solve_54 : decode cX4_solve 54 = .ok (.iinc 2 1, 3) := by decide +kernel
theorem dX4_solve_57 : decode cX4_solve 57 = .ok (.goto (-50), 3) := by decide +kernel
theorem dX4_solve_60 : decode cX4_solve 60 = .ok (.iconst 1, 1) := by decide +kernel
theorem dX4_solve_61 : decode cX4_solve 61 = .ok (.istore_n 2, 1) := by decide +kernel
theorem dX4_solve_62 : decode cX4_solve 62 = .ok (.iload_n 2, 1) := by decide +kernel
theorem dX4_solve_63 : decode cX4_solve 63 = .ok (.iload_n 1, 1) := by decide +kernel
theorem dX4_solve_64 : decode cX4_solve 64 = .ok (.if_icmp .gt 89, 3) := by decide +kernel
theorem dX4_solve_67 : decode cX4_solve 67 = .ok (.aload_n 0, 1) := by decide +kernel
theorem dX4_solve_68 : decode cX4_solve 68 = .ok (.iconst 0, 1) := by decide +kernel
theorem dX4_solve_69 : decode cX4_solve 69 = .ok (.putfield 123, 3) := by decide +kernel
theorem dX4_solve_72 : decode cX4_solve 72 = .ok (.iload_n 2, 1) := by decide +kernel
theorem dX4_solve_73 : decode cX4_solve 73 = .ok (.iconst 1, 1) := by decide +kernel
theorem dX4_solve_74 : decode cX4_solve 74 = .ok (.if_icmp .ne 10, 3) := by decide +kernel
theorem dX4_solve_77 : decode cX4_solve 77 = .ok (.aload_n 0, 1) := by decide +kernel
theorem dX4_solve_78 : decode cX4_solve 78 = .ok (.invokevirtual 145, 3) := by decide +kernel
theorem dX4_solve_81 : decode cX4_solve 81 = .ok (.goto 19, 3) := by decide +kernel
theorem dX4_solve_84 : decode cX4_solve 84 = .ok (.iload_n 2, 1) := by decide +kernel
theorem dX4_solve_85 : decode cX4_solve 85 = .ok (.iconst 2, 1) := by decide +kernel
theorem dX4_solve_86 : decode cX4_solve 86 = .ok (.if_icmp .ne 10, 3) := by decide +kernel
theorem dX4_solve_89 : decode cX4_solve 89 = .ok (.aload_n 0, 1) := by decide +kernel
theorem dX4_solve_90 : decode cX4_solve 90 = .ok (.invokevirtual 148, 3) := by decide +kernel
theorem dX4_solve_93 : decode cX4_solve 93 = .ok (.goto 7, 3) := by decide +kernel
theorem dX4_solve_96 : decode cX4_solve 96 = .ok (.aload_n 0, 1) := by decide +kernel
theorem dX4_solve_97 : decode cX4_solve 97 = .ok (.invokevirtual 151, 3) := by decide +kernel
theorem dX4_solve_100 : decode cX4_solve 100 = .ok (.aload_n 0, 1) := by decide +kernel
theorem dX4_solve_101 : decode cX4_solve 101 = .ok (.aload_n 0, 1) := by decide +kernel
theorem dX4_solve_102 : decode cX4_solve 102 = .ok (.getfield 123, 3) := by decide +kernel
theorem dX4_solve_105 : decode cX4_solve 105 = .ok (.ifCond .eq 15, 3) := by decide +kernel
theorem dX4_solve_108 : decode cX4_solve 108 = .ok (.iload_n 2, 1) := by decide +kernel
theorem dX4_solve_109 : decode cX4_solve 109 = .ok (.aload_n 0, 1) := by decide +kernel
theorem dX4_solve_110 : decode cX4_solve 110 = .ok (.getfield 142, 3) := by decide +kernel
theorem dX4_solve_113 : decode cX4_solve 113 = .ok (.if_icmp .le 7, 3) := by decide +kernel
theorem dX4_solve_116 : decode cX4_solve 116 = .ok (.iload_n 2, 1) := by decide +kernel
theorem dX4_solve_117 : decode cX4_solve 117 = .ok (.goto 7, 3) := by decide +kernel
theorem dX4_solve_120 : decode cX4_solve 120 = .ok (.aload_n 0, 1) := by decide +kernel
theorem dX4_solve_121 : decode cX4_solve 121 = .ok (.getfield 142, 3) := by decide +kernel
theorem dX4_solve_124 : decode cX4_solve 124 = .ok (.putfield 142, 3) := by decide +kernel
theorem dX4_solve_127 : decode cX4_solve 127 = .ok (.aload_n 0, 1) := by decide +kernel
theorem dX4_solve_128 : decode cX4_solve 128 = .ok (.invokevirtual 154, 3) := by decide +kernel
theorem dX4_solve_131 : decode cX4_solve 131 = .ok (.ifCond .eq 4, 3) := by decide +kernel
theorem dX4_solve_134 : decode cX4_solve 134 = .ok (.return_, 1) := by decide +kernel
theorem dX4_solve_135 : decode cX4_solve 135 = .ok (.aload_n 0, 1) := by decide +kernel
theorem dX4_solve_136 : decode cX4_solve 136 = .ok (.getfield 123, 3) := by decide +kernel
theorem dX4_solve_139 : decode cX4_solve 139 = .ok (.ifCond .eq 7, 3) := by decide +kernel
theorem dX4_solve_142 : decode cX4_solve 142 = .ok (.iconst 1, 1) := by decide +kernel
theorem dX4_solve_143 : decode cX4_solve 143 = .ok (.goto 6, 3) := by decide +kernel
theorem dX4_solve_146 : decode cX4_solve 146 = .ok (.iload_n 2, 1) := by decide +kernel
theorem dX4_solve_147 : decode cX4_solve 147 = .ok (.iconst 1, 1) := by decide +kernel
theorem dX4_solve_148 : decode cX4_solve 148 = .ok (.iadd, 1) := by decide +kernel
theorem dX4_solve_149 : decode cX4_solve 149 = .ok (.istore_n 2, 1) := by decide +kernel
theorem dX4_solve_150 : decode cX4_solve 150 = .ok (.goto (-88), 3) := by decide +kernel
theorem dX4_solve_153 : decode cX4_solve 153 = .ok (.return_, 1) := by decide +kernel
set_option maxRecDepth 20000 in
theorem ggX4_level_X4_solve : GoodIn wsX4_level wsX4_solve := goodIn_r _ [8, 3, 2, 9, 10, 11, 12, 13, 7, 14, 15, 16, 17, 18, 19, 20, 21, 22, 23, 24, 25, 26, 27, 28, 29, 30, 31, 32, 33, 34, 35, 36, 37, 38, 39, 40, 41, 42, 43, 44, 45, 46, 47, 48, 49, 50, 51, 52, 53, 54, 55, 56, 57, 58, 59, 60, 61, 62, 63, 64, 65, 66, 67, 68, 69, 70, 71, 72, 73, 74, 75, 76, 77, 78, 79, 80, 81, 82, 83] (by decide +kernel) (by decide +kernel)
set_option maxRecDepth 20000 in
theorem gX4_level_X4_solve : GoodIn wsX4_level (wsV RX4 157 RX4 yX4_solve wsX4_solve) := goodIn_app (goodIn_of _ (by decide +kernel)) ggX4_level_X4_solve
set_option maxRecDepth 20000 in
theorem ggX4_level_X4_isOpen : GoodIn wsX4_level wsX4_isOpen := goodIn_r _ [14, 15, 16, 17, 18, 7, 19, 20, 21, 22, 23, 66, 67, 68, 69, 70, 71, 72, 73, 74, 75, 76, 77, 78, 79, 80, 81, 82, 83] (by decide +kernel) (by decide +kernel)
set_option maxRecDepth 20000 in
theorem gX4_level_X4_isOpen : GoodIn wsX4_level (wsV RX4 69 RX4 yX4_isOpen wsX4_isOpen) := goodIn_app (goodIn_of _ (by decide +kernel)) ggX4_level_X4_isOpen
set_option maxRecDepth 20000 in
theorem ggX4_level_X4_isSingle : GoodIn wsX4_level wsX4_isSingle := goodIn_r _ [38] (by decide +kernel) (by decide +kernel)
set_option maxRecDepth 20000 in
theorem gX4_level_X4_isSingle : GoodIn wsX4_level (va_wsS RX4 126 yX4_isSingle wsX4_isSingle) := goodIn_app (goodIn_of _ (by decide +kernel)) ggX4_level_X4_isSingle
theorem dX4_level_0 : decode cX4_level 0 = .ok (.aload_n 0, 1) := by decide +kernel
theorem dX4_level_1 : decode cX4_level 1 = .ok (.iconst 0, 1) := by decide +kernel
theorem dX4_level_2 : decode cX4_level 2 = .ok (.putfield 48, 3) := by decide +kernel
theorem dX4_level_5 : decode cX4_level 5 = .ok (.aload_n 0, 1) := by decide +kernel
theorem dX4_level_6 : decode cX4_level 6 = .ok (.iconst 3, 1) := by decide +kernel
theorem dX4_level_7 : decode cX4_level 7 = .ok (.invokevirtual 157, 3) := by decide +kernel
theorem dX4_level_10 : decode cX4_level 10 = .ok (.iconst 0, 1) := by decide +kernel
theorem dX4_level_11 : decode cX4_level 11 = .ok (.istore_n 1, 1) := by decide +kernel
theorem dX4_level_12 : decode cX4_level 12 = .ok (.iload_n 1, 1) := by decide +kernel
theorem dX4_level_13 : decode cX4_level 13 = .ok (.bipush 16, 2) := by decide +kernel
theorem dX4_level_15 : decode cX4_level 15 = .ok (.if_icmp .ge 31, 3) := by decide +kernel
theorem dX4_level_18 : decode cX4_level 18 = .ok (.aload_n 0, 1) := by decide +kernel
theorem dX4_level_19 : decode cX4_level 19 = .ok (.iload_n 1, 1) := by decide +kernel
theorem dX4_level_20 : decode cX4_level 20 = .ok (.invokevirtual 69, 3) := by decide +kernel
theorem dX4_level_23 : decode cX4_level 23 = .ok (.ifCond .eq 17, 3) := by decide +kernel
theorem dX4_level_26 : decode cX4_level 26 = .ok (.aload_n 0, 1) := by decide +kernel
theorem dX4_level_27 : decode cX4_level 27 = .ok (.getfield 42, 3) := by decide +kernel
theorem dX4_level_30 : decode cX4_level 30 = .ok (.iload_n 1, 1) := by decide +kernel
theorem dX4_level_31 : decode cX4_level 31 = .ok (.iaload, 1) := by decide +kernel
theorem dX4_level_32 : decode cX4_level 32 = .ok (.invokestatic 126, 3) := by decide +kernel
theorem dX4_level_35 : decode cX4_level 35 = .ok (.ifCond .ne 5, 3) := by decide +kernel
theorem dX4_level_38 : decode cX4_level 38 = .ok (.iconst (-1), 1) := by decide +kernel
theorem dX4_level_39 : decode cX4_level 39 = .ok (.ireturn, 1) := by decide +kernel
theorem dX4_level_40 : decode cX4_level 40 = .ok (.iinc 1 1, 3) := by decide +kernel
theorem dX4_level_43 : decode cX4_level 43 = .ok (.goto (-31), 3) := by decide +kernel
theorem dX4_level_46 : decode cX4_level 46 = .ok (.aload_n 0, 1) := by decide +kernel
theorem dX4_level_47 : decode cX4_level 47 = .ok (.getfield 142, 3) := by decide +kernel
theorem dX4_level_50 : decode cX4_level 50 = .ok (.ireturn, 1) := by decide +kernel
set_option maxRecDepth 20000 in
theorem ggX4_candidates_X4_isCell : GoodIn wsX4_candidates wsX4_isCell := goodIn_r _ [6, 7, 8, 9, 5, 10, 70, 71, 72, 73, 74, 75, 76, 77, 78, 79, 80, 81, 82, 83, 84, 85, 86, 87] (by decide +kernel) (by decide +kernel)
set_option maxRecDepth 20000 in
theorem gX4_candidates_X4_isCell : GoodIn wsX4_candidates (wsV RX4 55 RX4 yX4_isCell wsX4_isCell) := goodIn_app (goodIn_of _ (by decide +kernel)) ggX4_candidates_X4_isCell
set_option maxRecDepth 20000 in
theorem ggX4_candidates_X4_in : GoodIn wsX4_candidates wsX4_in := goodIn_r _ [10] (by decide +kernel) (by decide +kernel)
set_option maxRecDepth 20000 in
theorem gX4_candidates_X4_in : GoodIn wsX4_candidates (va_wsS RX4 51 yX4_in wsX4_in) := goodIn_app (goodIn_of _ (by decide +kernel)) ggX4_candidates_X4_in
set_option maxRecDepth 20000 in
theorem ggX4_candidates_X4_goesWell : GoodIn wsX4_candidates wsX4_goesWell := goodIn_r _ [14, 15, 70, 71, 72, 73, 74, 75, 76, 77, 78, 79, 80, 81, 82, 83, 84, 85, 86, 87] (by decide +kernel) (by decide +kernel)
set_option maxRecDepth 20000 in
theorem gX4_candidates_X4_goesWell : GoodIn wsX4_candidates (wsV RX4 62 RX4 yX4_goesWell wsX4_goesWell) := goodIn_app (goodIn_of _ (by decide +kernel)) ggX4_candidates_X4_goesWell
set_option maxRecDepth 20000 in
theorem ggX4_candidates_X4_solve : GoodIn wsX4_candidates wsX4_solve := goodIn_r _ [19, 20, 1, 21, 22, 23, 24, 25, 5, 26, 27, 2, 3, 4, 6, 7, 8, 9, 10, 28, 29, 30, 31, 32, 33, 34, 35, 36, 37, 38, 39, 40, 41, 42, 43, 44, 45, 46, 47, 48, 49, 50, 51, 52, 53, 54, 55, 56, 57, 58, 59, 60, 61, 62, 63, 64, 65, 66, 67, 68, 69, 70, 71, 72, 73, 74, 75, 76, 77, 78, 79, 80, 81, 82, 83, 84, 85, 86, 87] (by decide +kernel) (by decide +kernel)
set_option maxRecDepth 20000 in
theorem gX4_candidates_X4_solve : GoodIn wsX4_candidates (wsV RX4 157 RX4 yX4_solve wsX4_solve) := goodIn_app (goodIn_of _ (by decide +kernel)) ggX4_candidates_X4_solve
theorem dX4_candidates_0 : decode cX4_candidates 0 = .ok (.aload_n 0, 1) := by decide +kernel
theorem dX4_candidates_1 : decode cX4_candidates 1 = .ok (.aload_n 0, 1) := by decide +kernel
theorem dX4_candidates_2 : decode cX4_candidates 2 = .ok (.iload_n 1, 1) := by decide +kernel
theorem dX4_candidates_3 : decode cX4_candidates 3 = .ok (.invokevirtual 55, 3) := by decide +kernel
theorem dX4_candidates_6 : decode cX4_candidates 6 = .ok (.ifCond .ne 7, 3) := by decide +kernel
theorem dX4_candidates_9 : decode cX4_candidates 9 = .ok (.iconst 1, 1) := by decide +kernel
theorem dX4_candidates_10 : decode cX4_candidates 10 = .ok (.goto 17, 3) := by decide +kernel
theorem dX4_candidates_13 : decode cX4_candidates 13 = .ok (.iload_n 2, 1) := by decide +kernel
theorem dX4_candidates_14 : decode cX4_candidates 14 = .ok (.iconst 0, 1) := by decide +kernel
theorem dX4_candidates_15 : decode cX4_candidates 15 = .ok (.iconst 3, 1) := by decide +kernel
theorem dX4_candidates_16 : decode cX4_candidates 16 = .ok (.invokestatic 51, 3) := by decide +kernel
theorem dX4_candidates_19 : decode cX4_candidates 19 = .ok (.ifCond .eq 7, 3) := by decide +kernel
theorem dX4_candidates_22 : decode cX4_candidates 22 = .ok (.iconst 0, 1) := by decide +kernel
theorem dX4_candidates_23 : decode cX4_candidates 23 = .ok (.goto 4, 3) := by decide +kernel
theorem dX4_candidates_26 : decode cX4_candidates 26 = .ok (.iconst 2, 1) := by decide +kernel
theorem dX4_candidates_27 : decode cX4_candidates 27 = .ok (.invokevirtual 62, 3) := by decide +kernel
theorem dX4_candidates_30 : decode cX4_candidates 30 = .ok (.ifCond .ne 5, 3) := by decide +kernel
theorem dX4_candidates_33 : decode cX4_candidates 33 = .ok (.iconst 0, 1) := by decide +kernel
theorem dX4_candidates_34 : decode cX4_candidates 34 = .ok (.ireturn, 1) := by decide +kernel
theorem dX4_candidates_35 : decode cX4_candidates 35 = .ok (.aload_n 0, 1) := by decide +kernel
theorem dX4_candidates_36 : decode cX4_candidates 36 = .ok (.iload_n 2, 1) := by decide +kernel
theorem dX4_candidates_37 : decode cX4_candidates 37 = .ok (.invokevirtual 157, 3) := by decide +kernel
theorem dX4_candidates_40 : decode cX4_candidates 40 = .ok (.aload_n 0, 1) := by decide +kernel
theorem dX4_candidates_41 : decode cX4_candidates 41 = .ok (.getfield 42, 3) := by decide +kernel
theorem dX4_candidates_44 : decode cX4_candidates 44 = .ok (.iload_n 1, 1) := by decide +kernel
theorem dX4_candidates_45 : decode cX4_candidates 45 = .ok (.iaload, 1) := by decide +kernel
theorem dX4_candidates_46 : decode cX4_candidates 46 = .ok (.ireturn, 1) := by decide +kernel
set_option maxRecDepth 20000 in
theorem ggX4_find_X4_solve : GoodIn wsX4_find wsX4_solve := goodIn_r _ [7, 8, 2, 1, 9, 10, 11, 12, 6, 13, 14, 15, 16, 17, 18, 19, 20, 21, 22, 23, 24, 25, 26, 27, 28, 29, 30, 31, 32, 33, 34, 35, 36, 37, 38, 39, 40, 41, 42, 43, 44, 45, 46, 47, 48, 49, 50, 51, 52, 53, 54, 55, 56, 57, 58, 59, 60, 61, 62, 63, 64, 65, 66, 67, 68, 69, 70, 71, 72, 73, 74, 75, 76, 77, 78, 79, 80, 81, 82] (by decide +kernel) (by decide +kernel)
set_option maxRecDepth 20000 in
theorem gX4_find_X4_solve : GoodIn wsX4_find (wsV RX4 157 RX4 yX4_solve wsX4_solve) := goodIn_app (goodIn_of _ (by decide +kernel)) ggX4_find_X4_solve
set_option maxRecDepth 20000 in
theorem ggX4_find_X4_isOpen : GoodIn wsX4_find wsX4_isOpen := goodIn_r _ [13, 14, 15, 16, 17, 6, 18, 19, 20, 21, 22, 65, 66, 67, 68, 69, 70, 71, 72, 73, 74, 75, 76, 77, 78, 79, 80, 81, 82] (by decide +kernel) (by decide +kernel)
set_option maxRecDepth 20000 in
theorem gX4_find_X4_isOpen : GoodIn wsX4_find (wsV RX4 69 RX4 yX4_isOpen wsX4_isOpen) := goodIn_app (goodIn_of _ (by decide +kernel)) ggX4_find_X4_isOpen
set_option maxRecDepth 20000 in
theorem ggX4_find_X4_isSingle : GoodIn wsX4_find wsX4_isSingle := goodIn_r _ [37] (by decide +kernel) (by decide +kernel)
set_option maxRecDepth 20000 in
theorem gX4_find_X4_isSingle : GoodIn wsX4_find (va_wsS RX4 126 yX4_isSingle wsX4_isSingle) := goodIn_app (goodIn_of _ (by decide +kernel)) ggX4_find_X4_isSingle
theorem dX4_find_0 : decode cX4_find 0 = .ok (.aload_n 0, 1) := by decide +kernel
theorem dX4_find_1 : decode cX4_find 1 = .ok (.iload_n 1, 1) := by decide +kernel
theorem dX4_find_2 : decode cX4_find 2 = .ok (.invokevirtual 157, 3) := by decide +kernel
theorem dX4_find_5 : decode cX4_find 5 = .ok (.iconst 0, 1) := by decide +kernel
theorem dX4_find_6 : decode cX4_find 6 = .ok (.istore_n 2, 1) := by decide +kernel
theorem dX4_find_7 : decode cX4_find 7 = .ok (.iload_n 2, 1) := by decide +kernel
theorem dX4_find_8 : decode cX4_find 8 = .ok (.bipush 16, 2) := by decide +kernel
theorem dX4_find_10 : decode cX4_find 10 = .ok (.if_icmp .ge 40, 3) := by decide +kernel
theorem dX4_find_13 : decode cX4_find 13 = .ok (.aload_n 0, 1) := by decide +kernel
theorem dX4_find_14 : decode cX4_find 14 = .ok (.iload_n 2, 1) := by decide +kernel
theorem dX4_find_15 : decode cX4_find 15 = .ok (.invokevirtual 69, 3) := by decide +kernel
theorem dX4_find_18 : decode cX4_find 18 = .ok (.ifCond .eq 26, 3) := by decide +kernel
theorem dX4_find_21 : decode cX4_find 21 = .ok (.aload_n 0, 1) := by decide +kernel
theorem dX4_find_22 : decode cX4_find 22 = .ok (.getfield 17, 3) := by decide +kernel
theorem dX4_find_25 : decode cX4_find 25 = .ok (.iload_n 2, 1) := by decide +kernel
theorem dX4_find_26 : decode cX4_find 26 = .ok (.iaload, 1) := by decide +kernel
theorem dX4_find_27 : decode cX4_find 27 = .ok (.ifCond .ne 17, 3) := by decide +kernel
theorem dX4_find_30 : decode cX4_find 30 = .ok (.aload_n 0, 1) := by decide +kernel
theorem dX4_find_31 : decode cX4_find 31 = .ok (.getfield 42, 3) := by decide +kernel
theorem dX4_find_34 : decode cX4_find 34 = .ok (.iload_n 2, 1) := by decide +kernel
theorem dX4_find_35 : decode cX4_find 35 = .ok (.iaload, 1) := by decide +kernel
theorem dX4_find_36 : decode cX4_find 36 = .ok (.invokestatic 126, 3) := by decide +kernel
theorem dX4_find_39 : decode cX4_find 39 = .ok (.ifCond .eq 5, 3) := by decide +kernel
theorem dX4_find_42 : decode cX4_find 42 = .ok (.iload_n 2, 1) := by decide +kernel
theorem dX4_find_43 : decode cX4_find 43 = .ok (.ireturn, 1) := by decide +kernel
theorem dX4_find_44 : decode cX4_find 44 = .ok (.iinc 2 1, 3) := by decide +kernel
theorem dX4_find_47 : decode cX4_find 47 = .ok (.goto (-40), 3) := by decide +kernel
theorem dX4_find_50 : decode cX4_find 50 = .ok (.iconst (-1), 1) := by decide +kernel
theorem dX4_find_51 : decode cX4_find 51 = .ok (.ireturn, 1) := by decide +kernel
set_option maxRecDepth 20000 in
theorem ggX4_hint_X4_find : GoodIn wsX4_hint wsX4_find := goodIn_r _ [6, 7, 8, 9, 10, 11, 5, 12, 13, 14, 15, 16, 17, 18, 19, 20, 21, 22, 23, 24, 25, 26, 27, 28, 29, 30, 31, 32, 33, 34, 35, 36, 37, 38, 39, 40, 41, 42, 43, 44, 45, 46, 47, 48, 49, 50, 51, 52, 53, 54, 55, 56, 57, 58, 59, 60, 61, 62, 63, 64, 65, 66, 67, 68, 69, 70, 71, 72, 73, 74, 75, 76, 77, 78, 79, 80, 81, 82, 83, 84, 85, 86, 87] (by decide +kernel) (by decide +kernel)
set_option maxRecDepth 20000 in
theorem gX4_hint_X4_find : GoodIn wsX4_hint (wsV RX4 160 RX4 yX4_find wsX4_find) := goodIn_app (goodIn_of _ (by decide +kernel)) ggX4_hint_X4_find
theorem dX4_hint_0 : decode cX4_hint 0 = .ok (.aload_n 0, 1) := by decide +kernel
theorem dX4_hint_1 : decode cX4_hint 1 = .ok (.iconst 0, 1) := by decide +kernel
theorem dX4_hint_2 : decode cX4_hint 2 = .ok (.putfield 48, 3) := by decide +kernel
theorem dX4_hint_5 : decode cX4_hint 5 = .ok (.iconst 1, 1) := by decide +kernel
theorem dX4_hint_6 : decode cX4_hint 6 = .ok (.istore_n 1, 1) := by decide +kernel
theorem dX4_hint_7 : decode cX4_hint 7 = .ok (.aload_n 0, 1) := by decide +kernel
theorem dX4_hint_8 : decode cX4_hint 8 = .ok (.iconst 1, 1) := by decide +kernel
theorem dX4_hint_9 : decode cX4_hint 9 = .ok (.invokevirtual 160, 3) := by decide +kernel
theorem dX4_hint_12 : decode cX4_hint 12 = .ok (.istore_n 2, 1) := by decide +kernel
theorem dX4_hint_13 : decode cX4_hint 13 = .ok (.iload_n 2, 1) := by decide +kernel
theorem dX4_hint_14 : decode cX4_hint 14 = .ok (.iconst (-1), 1) := by decide +kernel
theorem dX4_hint_15 : decode cX4_hint 15 = .ok (.if_icmp .ne 20, 3) := by decide +kernel
theorem dX4_hint_18 : decode cX4_hint 18 = .ok (.iload_n 1, 1) := by decide +kernel
theorem dX4_hint_19 : decode cX4_hint 19 = .ok (.iconst 3, 1) := by decide +kernel
theorem dX4_hint_20 : decode cX4_hint 20 = .ok (.if_icmp .ge 15, 3) := by decide +kernel
theorem dX4_hint_23 : decode cX4_hint 23 = .ok (.iinc 1 1, 3) := by decide +kernel
theorem dX4_hint_26 : decode cX4_hint 26 = .ok (.aload_n 0, 1) := by decide +kernel
theorem dX4_hint_27 : decode cX4_hint 27 = .ok (.iload_n 1, 1) := by decide +kernel
theorem dX4_hint_28 : decode cX4_hint 28 = .ok (.invokevirtual 160, 3) := by decide +kernel
theorem dX4_hint_31 : decode cX4_hint 31 = .ok (.istore_n 2, 1) := by decide +kernel
theorem dX4_hint_32 : decode cX4_hint 32 = .ok (.goto (-19), 3) := by decide +kernel
theorem dX4_hint_35 : decode cX4_hint 35 = .ok (.iload_n 2, 1) := by decide +kernel
theorem dX4_hint_36 : decode cX4_hint 36 = .ok (.ireturn, 1) := by decide +kernel
set_option maxRecDepth 20000 in
theorem ggX4_hintRules_X4_find : GoodIn wsX4_hintRules wsX4_find := goodIn_r _ [6, 7, 8, 9, 10, 11, 5, 12, 13, 14, 15, 16, 17, 18, 19, 20, 21, 22, 23, 24, 25, 26, 27, 28, 29, 30, 31, 32, 33, 34, 35, 36, 37, 38, 39, 40, 41, 42, 43, 44, 45, 46, 47, 48, 49, 50, 51, 52, 53, 54, 55, 56, 57, 58, 59, 60, 61, 62, 63, 64, 65, 66, 67, 68, 69, 70, 71, 72, 73, 74, 75, 76, 77, 78, 79, 80, 81, 82, 83, 84, 85, 86, 87] (by decide +kernel) (by decide +kernel)
set_option maxRecDepth 20000 in
theorem gX4_hintRules_X4_find : GoodIn wsX4_hintRules (wsV RX4 160 RX4 yX4_find wsX4_find) := goodIn_app (goodIn_of _ (by decide +kernel)) ggX4_hintRules_X4_find
theorem dX4_hintRules_0 : decode cX4_hintRules 0 = .ok (.aload_n 0, 1) := by decide +kernel
theorem dX4_hintRules_1 : decode cX4_hintRules 1 = .ok (.iconst 0, 1) := by decide +kernel
theorem dX4_hintRules_2 : decode cX4_hintRules 2 = .ok (.putfield 48, 3) := by decide +kernel
theorem dX4_hintRules_5 : decode cX4_hintRules 5 = .ok (.iconst 1, 1) := by decide +kernel
theorem dX4_hintRules_6 : decode cX4_hintRules 6 = .ok (.istore_n 1, 1) := by decide +kernel
theorem dX4_hintRules_7 : decode cX4_hintRules 7 = .ok (.iload_n 1, 1) := by decide +kernel
theorem dX4_hintRules_8 : decode cX4_hintRules 8 = .ok (.iconst 3, 1) := by decide +kernel
theorem dX4_hintRules_9 : decode cX4_hintRules 9 = .ok (.if_icmp .gt 20, 3) := by decide +kernel
theorem dX4_hintRules_12 : decode cX4_hintRules 12 = .ok (.aload_n 0, 1) := by decide +kernel
theorem dX4_hintRules_13 : decode cX4_hintRules 13 = .ok (.iload_n 1, 1) := by decide +kernel
theorem dX4_hintRules_14 : decode cX4_hintRules 14 = .ok (.invokevirtual 160, 3) := by decide +kernel
theorem dX4_hintRules_17 : decode cX4_hintRules 17 = .ok (.iconst (-1), 1) := by decide +kernel
theorem dX4_hintRules_18 : decode cX4_hintRules 18 = .ok (.if_icmp .eq 5, 3) := by decide +kernel
theorem dX4_hintRules_21 : decode cX4_hintRules 21 = .ok (.iload_n 1, 1) := by decide +kernel
theorem dX4_hintRules_22 : decode cX4_hintRules 22 = .ok (.ireturn, 1) := by decide +kernel
theorem dX4_hintRules_23 : decode cX4_hintRules 23 = .ok (.iinc 1 1, 3) := by decide +kernel
theorem dX4_hintRules_26 : decode cX4_hintRules 26 = .ok (.goto (-19), 3) := by decide +kernel
theorem dX4_hintRules_29 : decode cX4_hintRules 29 = .ok (.iconst (-1), 1) := by decide +kernel
theorem dX4_hintRules_30 : decode cX4_hintRules 30 = .ok (.ireturn, 1) := by decide +kernel
theorem dJ9_max_7cf53_0 : decode cJ9_max_7cf53 0 = .ok (.iload_n 0, 1) := by decide +kernel
theorem dJ9_max_7cf53_1 : decode cJ9_max_7cf53 1 = .ok (.iload_n 1, 1) := by decide +kernel
theorem dJ9_max_7cf53_2 : decode cJ9_max_7cf53 2 = .ok (.if_icmp .lt 7, 3) := by decide +kernel
theorem dJ9_max_7cf53_5 : decode cJ9_max_7cf53 5 = .ok (.iload_n 0, 1) := by decide +kernel
theorem dJ9_max_7cf53_6 : decode cJ9_max_7cf53 6 = .ok (.goto 4, 3) := by decide +kernel
theorem dJ9_max_7cf53_9 : decode cJ9_max_7cf53 9 = .ok (.iload_n 1, 1) := by decide +kernel
theorem dJ9_max_7cf53_10 : decode cJ9_max_7cf53 10 = .ok (.ireturn, 1) := by decide +kernel
