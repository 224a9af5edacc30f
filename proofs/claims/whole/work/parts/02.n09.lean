set_option maxRecDepth 20000 in
theorem ggX8_odds_X8_isNight : GoodIn wsX8_odds wsX8_isNight := goodIn_r _ [15, 16, 10, 11, 7, 12] (by decide +kernel) (by decide +kernel)
set_option maxRecDepth 20000 in
theorem gX8_odds_X8_isNight : GoodIn wsX8_odds (va_wsS RX8 171 yX8_isNight wsX8_isNight) := goodIn_app (goodIn_of _ (by decide +kernel)) ggX8_odds_X8_isNight
set_option maxRecDepth 20000 in
theorem ggX8_odds_X8_in : GoodIn wsX8_odds wsX8_in := goodIn_r _ [12] (by decide +kernel) (by decide +kernel)
set_option maxRecDepth 20000 in
theorem gX8_odds_X8_in : GoodIn wsX8_odds (va_wsS RX8 102 yX8_in wsX8_in) := goodIn_app (goodIn_of _ (by decide +kernel)) ggX8_odds_X8_in
set_option maxRecDepth 20000 in
theorem ggX8_odds_X8_lost : GoodIn wsX8_odds wsX8_lost := goodIn_r _ [19, 20] (by decide +kernel) (by decide +kernel)
set_option maxRecDepth 20000 in
theorem gX8_odds_X8_lost : GoodIn wsX8_odds (va_wsS RX8 95 yX8_lost wsX8_lost) := goodIn_app (goodIn_of _ (by decide +kernel)) ggX8_odds_X8_lost
set_option maxRecDepth 20000 in
theorem ggX8_odds_X8_goTo : GoodIn wsX8_odds wsX8_goTo := goodIn_r _ [24, 3, 2, 25, 26, 27, 7, 28, 29, 30, 31, 32, 33, 34, 35, 36, 37, 38, 39, 40, 41, 42, 43, 44, 45, 46, 47, 48, 49, 53, 54, 55, 56, 57, 58, 59, 60, 61, 62, 63, 64, 65, 66, 67, 68, 69, 70, 71, 72, 73, 74, 75, 76, 77, 78, 79, 80, 81, 82, 83, 84, 85, 86, 87, 88, 89, 90, 91, 92, 93, 94] (by decide +kernel) (by decide +kernel)
set_option maxRecDepth 20000 in
theorem gX8_odds_X8_goTo : GoodIn wsX8_odds (wsV RX8 214 RX8 yX8_goTo wsX8_goTo) := goodIn_app (goodIn_of _ (by decide +kernel)) ggX8_odds_X8_goTo
set_option maxRecDepth 20000 in
theorem ggX8_odds_X8_shareOf : GoodIn wsX8_odds wsX8_shareOf := goodIn_r _ [52] (by decide +kernel) (by decide +kernel)
set_option maxRecDepth 20000 in
theorem gX8_odds_X8_shareOf : GoodIn wsX8_odds (va_wsS RX8 256 yX8_shareOf wsX8_shareOf) := goodIn_app (goodIn_of _ (by decide +kernel)) ggX8_odds_X8_shareOf
theorem dX8_odds_0 : decode cX8_odds 0 = .ok (.aload_n 0, 1) := by decide +kernel
theorem dX8_odds_1 : decode cX8_odds 1 = .ok (.iload_n 1, 1) := by decide +kernel
theorem dX8_odds_2 : decode cX8_odds 2 = .ok (.invokevirtual 177, 3) := by decide +kernel
theorem dX8_odds_5 : decode cX8_odds 5 = .ok (.ifCond .ne 33, 3) := by decide +kernel
theorem dX8_odds_8 : decode cX8_odds 8 = .ok (.iload_n 2, 1) := by decide +kernel
theorem dX8_odds_9 : decode cX8_odds 9 = .ok (.invokestatic 171, 3) := by decide +kernel
theorem dX8_odds_12 : decode cX8_odds 12 = .ok (.ifCond .eq 26, 3) := by decide +kernel
theorem dX8_odds_15 : decode cX8_odds 15 = .ok (.iload_n 3, 1) := by decide +kernel
theorem dX8_odds_16 : decode cX8_odds 16 = .ok (.i2l, 1) := by decide +kernel
theorem dX8_odds_17 : decode cX8_odds 17 = .ok (.lconst 0, 1) := by decide +kernel
theorem dX8_odds_18 : decode cX8_odds 18 = .ok (.ldc2_w 254, 3) := by decide +kernel
theorem dX8_odds_21 : decode cX8_odds 21 = .ok (.invokestatic 102, 3) := by decide +kernel
theorem dX8_odds_24 : decode cX8_odds 24 = .ok (.ifCond .eq 14, 3) := by decide +kernel
theorem dX8_odds_27 : decode cX8_odds 27 = .ok (.iload 4, 2) := by decide +kernel
theorem dX8_odds_29 : decode cX8_odds 29 = .ok (.i2l, 1) := by decide +kernel
theorem dX8_odds_30 : decode cX8_odds 30 = .ok (.lconst 0, 1) := by decide +kernel
theorem dX8_odds_31 : decode cX8_odds 31 = .ok (.lconst 1, 1) := by decide +kernel
theorem dX8_odds_32 : decode cX8_odds 32 = .ok (.invokestatic 102, 3) := by decide +kernel
theorem dX8_odds_35 : decode cX8_odds 35 = .ok (.ifCond .ne 7, 3) := by decide +kernel
theorem dX8_odds_38 : decode cX8_odds 38 = .ok (.invokestatic 95, 3) := by decide +kernel
theorem dX8_odds_41 : decode cX8_odds 41 = .ok (.lreturn, 1) := by decide +kernel
theorem dX8_odds_42 : decode cX8_odds 42 = .ok (.aload_n 0, 1) := by decide +kernel
theorem dX8_odds_43 : decode cX8_odds 43 = .ok (.iload_n 2, 1) := by decide +kernel
theorem dX8_odds_44 : decode cX8_odds 44 = .ok (.invokevirtual 214, 3) := by decide +kernel
theorem dX8_odds_47 : decode cX8_odds 47 = .ok (.aload_n 0, 1) := by decide +kernel
theorem dX8_odds_48 : decode cX8_odds 48 = .ok (.getfield 49, 3) := by decide +kernel
theorem dX8_odds_51 : decode cX8_odds 51 = .ok (.aload_n 0, 1) := by decide +kernel
theorem dX8_odds_52 : decode cX8_odds 52 = .ok (.getfield 46, 3) := by decide +kernel
theorem dX8_odds_55 : decode cX8_odds 55 = .ok (.iload_n 1, 1) := by decide +kernel
theorem dX8_odds_56 : decode cX8_odds 56 = .ok (.iaload, 1) := by decide +kernel
theorem dX8_odds_57 : decode cX8_odds 57 = .ok (.iaload, 1) := by decide +kernel
theorem dX8_odds_58 : decode cX8_odds 58 = .ok (.istore 5, 2) := by decide +kernel
theorem dX8_odds_60 : decode cX8_odds 60 = .ok (.iload_n 3, 1) := by decide +kernel
theorem dX8_odds_61 : decode cX8_odds 61 = .ok (.iload 5, 2) := by decide +kernel
theorem dX8_odds_63 : decode cX8_odds 63 = .ok (.if_icmp .le 7, 3) := by decide +kernel
theorem dX8_odds_66 : decode cX8_odds 66 = .ok (.lconst 0, 1) := by decide +kernel
theorem dX8_odds_67 : decode cX8_odds 67 = .ok (.goto 4, 3) := by decide +kernel
theorem dX8_odds_70 : decode cX8_odds 70 = .ok (.lconst 1, 1) := by decide +kernel
theorem dX8_odds_71 : decode cX8_odds 71 = .ok (.lstore 6, 2) := by decide +kernel
theorem dX8_odds_73 : decode cX8_odds 73 = .ok (.iconst 0, 1) := by decide +kernel
theorem dX8_odds_74 : decode cX8_odds 74 = .ok (.istore 8, 2) := by decide +kernel
theorem dX8_odds_76 : decode cX8_odds 76 = .ok (.iload 8, 2) := by decide +kernel
theorem dX8_odds_78 : decode cX8_odds 78 = .ok (.iload_n 3, 1) := by decide +kernel
theorem dX8_odds_79 : decode cX8_odds 79 = .ok (.if_icmp .ge 33, 3) := by decide +kernel
theorem dX8_odds_82 : decode cX8_odds 82 = .ok (.iload 8, 2) := by decide +kernel
theorem dX8_odds_84 : decode cX8_odds 84 = .ok (.iload 5, 2) := by decide +kernel
theorem dX8_odds_86 : decode cX8_odds 86 = .ok (.if_icmp .ge 26, 3) := by decide +kernel
theorem dX8_odds_89 : decode cX8_odds 89 = .ok (.lload 6, 2) := by decide +kernel
theorem dX8_odds_91 : decode cX8_odds 91 = .ok (.iload 5, 2) := by decide +kernel
theorem dX8_odds_93 : decode cX8_odds 93 = .ok (.iload 8, 2) := by decide +kernel
theorem dX8_odds_95 : decode cX8_odds 95 = .ok (.isub, 1) := by decide +kernel
theorem dX8_odds_96 : decode cX8_odds 96 = .ok (.i2l, 1) := by decide +kernel
theorem dX8_odds_97 : decode cX8_odds 97 = .ok (.lmul, 1) := by decide +kernel
theorem dX8_odds_98 : decode cX8_odds 98 = .ok (.iload 8, 2) := by decide +kernel
theorem dX8_odds_100 : decode cX8_odds 100 = .ok (.iconst 1, 1) := by decide +kernel
theorem dX8_odds_101 : decode cX8_odds 101 = .ok (.iadd, 1) := by decide +kernel
theorem dX8_odds_102 : decode cX8_odds 102 = .ok (.i2l, 1) := by decide +kernel
theorem dX8_odds_103 : decode cX8_odds 103 = .ok (.ldiv, 1) := by decide +kernel
theorem dX8_odds_104 : decode cX8_odds 104 = .ok (.lstore 6, 2) := by decide +kernel
theorem dX8_odds_106 : decode cX8_odds 106 = .ok (.iinc 8 1, 3) := by decide +kernel
theorem dX8_odds_109 : decode cX8_odds 109 = .ok (.goto (-33), 3) := by decide +kernel
theorem dX8_odds_112 : decode cX8_odds 112 = .ok (.lload 6, 2) := by decide +kernel
theorem dX8_odds_114 : decode cX8_odds 114 = .ok (.lconst 1, 1) := by decide +kernel
theorem dX8_odds_115 : decode cX8_odds 115 = .ok (.iload 5, 2) := by decide +kernel
theorem dX8_odds_117 : decode cX8_odds 117 = .ok (.lshl, 1) := by decide +kernel
theorem dX8_odds_118 : decode cX8_odds 118 = .ok (.iload 4, 2) := by decide +kernel
theorem dX8_odds_120 : decode cX8_odds 120 = .ok (.invokestatic 256, 3) := by decide +kernel
theorem dX8_odds_123 : decode cX8_odds 123 = .ok (.lreturn, 1) := by decide +kernel
set_option maxRecDepth 20000 in
theorem ggX8_noSheet_X8_in : GoodIn wsX8_noSheet wsX8_in := goodIn_r _ [5] (by decide +kernel) (by decide +kernel)
set_option maxRecDepth 20000 in
theorem gX8_noSheet_X8_in : GoodIn wsX8_noSheet (va_wsS RX8 102 yX8_in wsX8_in) := goodIn_app (goodIn_of _ (by decide +kernel)) ggX8_noSheet_X8_in
theorem dX8_noSheet_0 : decode cX8_noSheet 0 = .ok (.iload_n 0, 1) := by decide +kernel
theorem dX8_noSheet_1 : decode cX8_noSheet 1 = .ok (.i2l, 1) := by decide +kernel
theorem dX8_noSheet_2 : decode cX8_noSheet 2 = .ok (.lconst 0, 1) := by decide +kernel
theorem dX8_noSheet_3 : decode cX8_noSheet 3 = .ok (.ldc2_w 234, 3) := by decide +kernel
theorem dX8_noSheet_6 : decode cX8_noSheet 6 = .ok (.invokestatic 102, 3) := by decide +kernel
theorem dX8_noSheet_9 : decode cX8_noSheet 9 = .ok (.ifCond .ne 7, 3) := by decide +kernel
theorem dX8_noSheet_12 : decode cX8_noSheet 12 = .ok (.iconst 1, 1) := by decide +kernel
theorem dX8_noSheet_13 : decode cX8_noSheet 13 = .ok (.goto 4, 3) := by decide +kernel
theorem dX8_noSheet_16 : decode cX8_noSheet 16 = .ok (.iconst 0, 1) := by decide +kernel
theorem dX8_noSheet_17 : decode cX8_noSheet 17 = .ok (.ireturn, 1) := by decide +kernel
set_option maxRecDepth 20000 in
theorem ggX8_sheet_X8_noSheet : GoodIn wsX8_sheet wsX8_noSheet := goodIn_r _ [8, 9, 10, 11, 7, 12] (by decide +kernel) (by decide +kernel)
set_option maxRecDepth 20000 in
theorem gX8_sheet_X8_noSheet : GoodIn wsX8_sheet (va_wsS RX8 140 yX8_noSheet wsX8_noSheet) := goodIn_app (goodIn_of _ (by decide +kernel)) ggX8_sheet_X8_noSheet
set_option maxRecDepth 20000 in
theorem ggX8_sheet_X8_refused : GoodIn wsX8_sheet wsX8_refused := goodIn_r _ [16, 17, 22, 23, 24, 25, 26, 27, 28, 29, 30, 31, 32, 33, 34, 35, 36, 37, 38, 39, 40, 41, 42, 43, 44, 45, 46, 47, 48, 49, 50, 51, 52, 53, 54, 55, 56, 57, 58, 59, 60, 61, 62, 63] (by decide +kernel) (by decide +kernel)
set_option maxRecDepth 20000 in
theorem gX8_sheet_X8_refused : GoodIn wsX8_sheet (wsV RX8 144 RX8 yX8_refused wsX8_refused) := goodIn_app (goodIn_of _ (by decide +kernel)) ggX8_sheet_X8_refused
set_option maxRecDepth 20000 in
theorem ggX8_sheet_X8_in : GoodIn wsX8_sheet wsX8_in := goodIn_r _ [12] (by decide +kernel) (by decide +kernel)
set_option maxRecDepth 20000 in
theorem gX8_sheet_X8_in : GoodIn wsX8_sheet (va_wsS RX8 102 yX8_in wsX8_in) := goodIn_app (goodIn_of _ (by decide +kernel)) ggX8_sheet_X8_in
set_option maxRecDepth 20000 in
theorem ggX8_sheet_X8_failed : GoodIn wsX8_sheet wsX8_failed := goodIn_r _ [21, 17, 22, 23, 24, 25, 26, 27, 28, 29, 30, 31, 32, 33, 34, 35, 36, 37, 38, 39, 40, 41, 42, 43, 44, 45, 46, 47, 48, 49, 50, 51, 52, 53, 54, 55, 56, 57, 58, 59, 60, 61, 62, 63] (by decide +kernel) (by decide +kernel)
set_option maxRecDepth 20000 in
theorem gX8_sheet_X8_failed : GoodIn wsX8_sheet (wsV RX8 132 RX8 yX8_failed wsX8_failed) := goodIn_app (goodIn_of _ (by decide +kernel)) ggX8_sheet_X8_failed
theorem dX8_sheet_0 : decode cX8_sheet 0 = .ok (.iload_n 1, 1) := by decide +kernel
theorem dX8_sheet_1 : decode cX8_sheet 1 = .ok (.invokestatic 140, 3) := by decide +kernel
theorem dX8_sheet_4 : decode cX8_sheet 4 = .ok (.ifCond .eq 9, 3) := by decide +kernel
theorem dX8_sheet_7 : decode cX8_sheet 7 = .ok (.aload_n 0, 1) := by decide +kernel
theorem dX8_sheet_8 : decode cX8_sheet 8 = .ok (.iconst (-1), 1) := by decide +kernel
theorem dX8_sheet_9 : decode cX8_sheet 9 = .ok (.invokevirtual 144, 3) := by decide +kernel
theorem dX8_sheet_12 : decode cX8_sheet 12 = .ok (.ireturn, 1) := by decide +kernel
theorem dX8_sheet_13 : decode cX8_sheet 13 = .ok (.iload_n 2, 1) := by decide +kernel
theorem dX8_sheet_14 : decode cX8_sheet 14 = .ok (.i2l, 1) := by decide +kernel
theorem dX8_sheet_15 : decode cX8_sheet 15 = .ok (.lconst 0, 1) := by decide +kernel
theorem dX8_sheet_16 : decode cX8_sheet 16 = .ok (.ldc2_w 147, 3) := by decide +kernel
theorem dX8_sheet_19 : decode cX8_sheet 19 = .ok (.invokestatic 102, 3) := by decide +kernel
theorem dX8_sheet_22 : decode cX8_sheet 22 = .ok (.ifCond .eq 9, 3) := by decide +kernel
theorem dX8_sheet_25 : decode cX8_sheet 25 = .ok (.iload_n 3, 1) := by decide +kernel
theorem dX8_sheet_26 : decode cX8_sheet 26 = .ok (.bipush 60, 2) := by decide +kernel
theorem dX8_sheet_28 : decode cX8_sheet 28 = .ok (.if_icmp .le 10, 3) := by decide +kernel
theorem dX8_sheet_31 : decode cX8_sheet 31 = .ok (.aload_n 0, 1) := by decide +kernel
theorem dX8_sheet_32 : decode cX8_sheet 32 = .ok (.bipush (-2), 2) := by decide +kernel
theorem dX8_sheet_34 : decode cX8_sheet 34 = .ok (.invokevirtual 144, 3) := by decide +kernel
theorem dX8_sheet_37 : decode cX8_sheet 37 = .ok (.ireturn, 1) := by decide +kernel
theorem dX8_sheet_38 : decode cX8_sheet 38 = .ok (.iload_n 3, 1) := by decide +kernel
theorem dX8_sheet_39 : decode cX8_sheet 39 = .ok (.ifCond .ge 9, 3) := by decide +kernel
theorem dX8_sheet_42 : decode cX8_sheet 42 = .ok (.aload_n 0, 1) := by decide +kernel
theorem dX8_sheet_43 : decode cX8_sheet 43 = .ok (.iconst 4, 1) := by decide +kernel
theorem dX8_sheet_44 : decode cX8_sheet 44 = .ok (.invokevirtual 132, 3) := by decide +kernel
theorem dX8_sheet_47 : decode cX8_sheet 47 = .ok (.ireturn, 1) := by decide +kernel
theorem dX8_sheet_48 : decode cX8_sheet 48 = .ok (.aload_n 0, 1) := by decide +kernel
theorem dX8_sheet_49 : decode cX8_sheet 49 = .ok (.getfield 74, 3) := by decide +kernel
theorem dX8_sheet_52 : decode cX8_sheet 52 = .ok (.iload_n 1, 1) := by decide +kernel
theorem dX8_sheet_53 : decode cX8_sheet 53 = .ok (.iload_n 3, 1) := by decide +kernel
theorem dX8_sheet_54 : decode cX8_sheet 54 = .ok (.iastore, 1) := by decide +kernel
theorem dX8_sheet_55 : decode cX8_sheet 55 = .ok (.aload_n 0, 1) := by decide +kernel
theorem dX8_sheet_56 : decode cX8_sheet 56 = .ok (.getfield 77, 3) := by decide +kernel
theorem dX8_sheet_59 : decode cX8_sheet 59 = .ok (.iload_n 1, 1) := by decide +kernel
theorem dX8_sheet_60 : decode cX8_sheet 60 = .ok (.iload_n 2, 1) := by decide +kernel
theorem dX8_sheet_61 : decode cX8_sheet 61 = .ok (.iastore, 1) := by decide +kernel
theorem dX8_sheet_62 : decode cX8_sheet 62 = .ok (.iconst 0, 1) := by decide +kernel
theorem dX8_sheet_63 : decode cX8_sheet 63 = .ok (.istore 4, 2) := by decide +kernel
theorem dX8_sheet_65 : decode cX8_sheet 65 = .ok (.iload 4, 2) := by decide +kernel
theorem dX8_sheet_67 : decode cX8_sheet 67 = .ok (.iload_n 3, 1) := by decide +kernel
theorem dX8_sheet_68 : decode cX8_sheet 68 = .ok (.if_icmp .ge 22, 3) := by decide +kernel
theorem dX8_sheet_71 : decode cX8_sheet 71 = .ok (.aload_n 0, 1) := by decide +kernel
theorem dX8_sheet_72 : decode cX8_sheet 72 = .ok (.getfield 80, 3) := by decide +kernel
theorem dX8_sheet_75 : decode cX8_sheet 75 = .ok (.bipush 60, 2) := by decide +kernel
theorem dX8_sheet_77 : decode cX8_sheet 77 = .ok (.iload_n 1, 1) := by decide +kernel
theorem dX8_sheet_78 : decode cX8_sheet 78 = .ok (.imul, 1) := by decide +kernel
theorem dX8_sheet_79 : decode cX8_sheet 79 = .ok (.iload 4, 2) := by decide +kernel
theorem dX8_sheet_81 : decode cX8_sheet 81 = .ok (.iadd, 1) := by decide +kernel
theorem dX8_sheet_82 : decode cX8_sheet 82 = .ok (.iconst 0, 1) := by decide +kernel
theorem dX8_sheet_83 : decode cX8_sheet 83 = .ok (.iastore, 1) := by decide +kernel
theorem dX8_sheet_84 : decode cX8_sheet 84 = .ok (.iinc 4 1, 3) := by decide +kernel
theorem dX8_sheet_87 : decode cX8_sheet 87 = .ok (.goto (-22), 3) := by decide +kernel
theorem dX8_sheet_90 : decode cX8_sheet 90 = .ok (.aload_n 0, 1) := by decide +kernel
theorem dX8_sheet_91 : decode cX8_sheet 91 = .ok (.iconst 1, 1) := by decide +kernel
theorem dX8_sheet_92 : decode cX8_sheet 92 = .ok (.invokevirtual 144, 3) := by decide +kernel
theorem dX8_sheet_95 : decode cX8_sheet 95 = .ok (.ireturn, 1) := by decide +kernel
set_option maxRecDepth 20000 in
theorem ggX8_lose_X8_noSheet : GoodIn wsX8_lose wsX8_noSheet := goodIn_r _ [5, 6, 7, 8, 4, 9] (by decide +kernel) (by decide +kernel)
set_option maxRecDepth 20000 in
theorem gX8_lose_X8_noSheet : GoodIn wsX8_lose (va_wsS RX8 140 yX8_noSheet wsX8_noSheet) := goodIn_app (goodIn_of _ (by decide +kernel)) ggX8_lose_X8_noSheet
theorem dX8_lose_0 : decode cX8_lose 0 = .ok (.iload_n 1, 1) := by decide +kernel
theorem dX8_lose_1 : decode cX8_lose 1 = .ok (.invokestatic 140, 3) := by decide +kernel
theorem dX8_lose_4 : decode cX8_lose 4 = .ok (.ifCond .eq 5, 3) := by decide +kernel
theorem dX8_lose_7 : decode cX8_lose 7 = .ok (.iconst (-1), 1) := by decide +kernel
theorem dX8_lose_8 : decode cX8_lose 8 = .ok (.ireturn, 1) := by decide +kernel
theorem dX8_lose_9 : decode cX8_lose 9 = .ok (.aload_n 0, 1) := by decide +kernel
theorem dX8_lose_10 : decode cX8_lose 10 = .ok (.getfield 74, 3) := by decide +kernel
theorem dX8_lose_13 : decode cX8_lose 13 = .ok (.iload_n 1, 1) := by decide +kernel
theorem dX8_lose_14 : decode cX8_lose 14 = .ok (.iaload, 1) := by decide +kernel
theorem dX8_lose_15 : decode cX8_lose 15 = .ok (.ifCond .ge 7, 3) := by decide +kernel
theorem dX8_lose_18 : decode cX8_lose 18 = .ok (.iconst 0, 1) := by decide +kernel
theorem dX8_lose_19 : decode cX8_lose 19 = .ok (.goto 4, 3) := by decide +kernel
theorem dX8_lose_22 : decode cX8_lose 22 = .ok (.iconst 1, 1) := by decide +kernel
theorem dX8_lose_23 : decode cX8_lose 23 = .ok (.istore_n 2, 1) := by decide +kernel
theorem dX8_lose_24 : decode cX8_lose 24 = .ok (.aload_n 0, 1) := by decide +kernel
theorem dX8_lose_25 : decode cX8_lose 25 = .ok (.getfield 74, 3) := by decide +kernel
theorem dX8_lose_28 : decode cX8_lose 28 = .ok (.iload_n 1, 1) := by decide +kernel
theorem dX8_lose_29 : decode cX8_lose 29 = .ok (.iconst (-1), 1) := by decide +kernel
theorem dX8_lose_30 : decode cX8_lose 30 = .ok (.iastore, 1) := by decide +kernel
theorem dX8_lose_31 : decode cX8_lose 31 = .ok (.iload_n 2, 1) := by decide +kernel
theorem dX8_lose_32 : decode cX8_lose 32 = .ok (.ireturn, 1) := by decide +kernel
set_option maxRecDepth 20000 in
theorem ggX8_noCell_X8_in : GoodIn wsX8_noCell wsX8_in := goodIn_r _ [5] (by decide +kernel) (by decide +kernel)
set_option maxRecDepth 20000 in
theorem gX8_noCell_X8_in : GoodIn wsX8_noCell (va_wsS RX8 102 yX8_in wsX8_in) := goodIn_app (goodIn_of _ (by decide +kernel)) ggX8_noCell_X8_in
theorem dX8_noCell_0 : decode cX8_noCell 0 = .ok (.aload_n 0, 1) := by decide +kernel
theorem dX8_noCell_1 : decode cX8_noCell 1 = .ok (.getfield 74, 3) := by decide +kernel
theorem dX8_noCell_4 : decode cX8_noCell 4 = .ok (.iload_n 1, 1) := by decide +kernel
theorem dX8_noCell_5 : decode cX8_noCell 5 = .ok (.iaload, 1) := by decide +kernel
theorem dX8_noCell_6 : decode cX8_noCell 6 = .ok (.ifCond .ge 7, 3) := by decide +kernel
theorem dX8_noCell_9 : decode cX8_noCell 9 = .ok (.iconst 1, 1) := by decide +kernel
theorem dX8_noCell_10 : decode cX8_noCell 10 = .ok (.goto 26, 3) := by decide +kernel
theorem dX8_noCell_13 : decode cX8_noCell 13 = .ok (.iload_n 2, 1) := by decide +kernel
theorem dX8_noCell_14 : decode cX8_noCell 14 = .ok (.i2l, 1) := by decide +kernel
theorem dX8_noCell_15 : decode cX8_noCell 15 = .ok (.lconst 0, 1) := by decide +kernel
theorem dX8_noCell_16 : decode cX8_noCell 16 = .ok (.aload_n 0, 1) := by decide +kernel
theorem dX8_noCell_17 : decode cX8_noCell 17 = .ok (.getfield 74, 3) := by decide +kernel
theorem dX8_noCell_20 : decode cX8_noCell 20 = .ok (.iload_n 1, 1) := by decide +kernel
theorem dX8_noCell_21 : decode cX8_noCell 21 = .ok (.iaload, 1) := by decide +kernel
theorem dX8_noCell_22 : decode cX8_noCell 22 = .ok (.i2l, 1) := by decide +kernel
theorem dX8_noCell_23 : decode cX8_noCell 23 = .ok (.lconst 1, 1) := by decide +kernel
theorem dX8_noCell_24 : decode cX8_noCell 24 = .ok (.lsub, 1) := by decide +kernel
theorem dX8_noCell_25 : decode cX8_noCell 25 = .ok (.invokestatic 102, 3) := by decide +kernel
theorem dX8_noCell_28 : decode cX8_noCell 28 = .ok (.ifCond .eq 7, 3) := by decide +kernel
theorem dX8_noCell_31 : decode cX8_noCell 31 = .ok (.iconst 0, 1) := by decide +kernel
theorem dX8_noCell_32 : decode cX8_noCell 32 = .ok (.goto 4, 3) := by decide +kernel
theorem dX8_noCell_35 : decode cX8_noCell 35 = .ok (.iconst 3, 1) := by decide +kernel
theorem dX8_noCell_36 : decode cX8_noCell 36 = .ok (.ireturn, 1) := by decide +kernel
set_option maxRecDepth 20000 in
theorem ggX8_put_X8_noSheet : GoodIn wsX8_put wsX8_noSheet := goodIn_r _ [6, 7, 8, 9, 5, 10] (by decide +kernel) (by decide +kernel)
set_option maxRecDepth 20000 in
theorem gX8_put_X8_noSheet : GoodIn wsX8_put (va_wsS RX8 140 yX8_noSheet wsX8_noSheet) := goodIn_app (goodIn_of _ (by decide +kernel)) ggX8_put_X8_noSheet
set_option maxRecDepth 20000 in
theorem ggX8_put_X8_refused : GoodIn wsX8_put wsX8_refused := goodIn_r _ [14, 15, 25, 26, 27, 28, 29, 30, 31, 32, 33, 34, 35, 36, 37, 38, 39, 40, 41, 42, 43, 44, 45, 46, 47, 48, 49, 50, 51, 52, 53, 54, 55, 56, 57, 58, 59, 60, 61, 62, 63, 64, 65, 66] (by decide +kernel) (by decide +kernel)
set_option maxRecDepth 20000 in
theorem gX8_put_X8_refused : GoodIn wsX8_put (wsV RX8 144 RX8 yX8_refused wsX8_refused) := goodIn_app (goodIn_of _ (by decide +kernel)) ggX8_put_X8_refused
set_option maxRecDepth 20000 in
theorem ggX8_put_X8_noCell : GoodIn wsX8_put wsX8_noCell := goodIn_r _ [19, 20, 8, 9, 5, 10, 25, 26, 27, 28, 29, 30, 31, 32, 33, 34, 35, 36, 37, 38, 39, 40, 41, 42, 43, 44, 45, 46, 47, 48, 49, 50, 51, 52, 53, 54, 55, 56, 57, 58, 59, 60, 61, 62, 63, 64, 65, 66] (by decide +kernel) (by decide +kernel)
set_option maxRecDepth 20000 in
theorem gX8_put_X8_noCell : GoodIn wsX8_put (wsV RX8 260 RX8 yX8_noCell wsX8_noCell) := goodIn_app (goodIn_of _ (by decide +kernel)) ggX8_put_X8_noCell
set_option maxRecDepth 20000 in
theorem ggX8_put_X8_failed : GoodIn wsX8_put wsX8_failed := goodIn_r _ [24, 15, 25, 26, 27, 28, 29, 30, 31, 32, 33, 34, 35, 36, 37, 38, 39, 40, 41, 42, 43, 44, 45, 46, 47, 48, 49, 50, 51, 52, 53, 54, 55, 56, 57, 58, 59, 60, 61, 62, 63, 64, 65, 66] (by decide +kernel) (by decide +kernel)
set_option maxRecDepth 20000 in
theorem gX8_put_X8_failed : GoodIn wsX8_put (wsV RX8 132 RX8 yX8_failed wsX8_failed) := goodIn_app (goodIn_of _ (by decide +kernel)) ggX8_put_X8_failed
theorem dX8_put_0 : decode cX8_put 0 = .ok (.iload_n 1, 1) := by decide +kernel
theorem dX8_put_1 : decode cX8_put 1 = .ok (.invokestatic 140, 3) := by decide +kernel
theorem dX8_put_4 : decode cX8_put 4 = .ok (.ifCond .eq 9, 3) := by decide +kernel
theorem dX8_put_7 : decode cX8_put 7 = .ok (.aload_n 0, 1) := by decide +kernel
theorem dX8_put_8 : decode cX8_put 8 = .ok (.iconst (-1), 1) := by decide +kernel
theorem dX8_put_9 : decode cX8_put 9 = .ok (.invokevirtual 144, 3) := by decide +kernel
theorem dX8_put_12 : decode cX8_put 12 = .ok (.ireturn, 1) := by decide +kernel
theorem dX8_put_13 : decode cX8_put 13 = .ok (.aload_n 0, 1) := by decide +kernel
theorem dX8_put_14 : decode cX8_put 14 = .ok (.iload_n 1, 1) := by decide +kernel
theorem dX8_put_15 : decode cX8_put 15 = .ok (.iload_n 2, 1) := by decide +kernel
theorem dX8_put_16 : decode cX8_put 16 = .ok (.invokevirtual 260, 3) := by decide +kernel
theorem dX8_put_19 : decode cX8_put 19 = .ok (.ifCond .le 14, 3) := by decide +kernel
theorem dX8_put_22 : decode cX8_put 22 = .ok (.aload_n 0, 1) := by decide +kernel
theorem dX8_put_23 : decode cX8_put 23 = .ok (.aload_n 0, 1) := by decide +kernel
theorem dX8_put_24 : decode cX8_put 24 = .ok (.iload_n 1, 1) := by decide +kernel
theorem dX8_put_25 : decode cX8_put 25 = .ok (.iload_n 2, 1) := by decide +kernel
theorem dX8_put_26 : decode cX8_put 26 = .ok (.invokevirtual 260, 3) := by decide +kernel
theorem dX8_put_29 : decode cX8_put 29 = .ok (.invokevirtual 132, 3) := by decide +kernel
theorem dX8_put_32 : decode cX8_put 32 = .ok (.ireturn, 1) := by decide +kernel
theorem dX8_put_33 : decode cX8_put 33 = .ok (.aload_n 0, 1) := by decide +kernel
theorem dX8_put_34 : decode cX8_put 34 = .ok (.getfield 80, 3) := by decide +kernel
theorem dX8_put_37 : decode cX8_put 37 = .ok (.bipush 60, 2) := by decide +kernel
theorem dX8_put_39 : decode cX8_put 39 = .ok (.iload_n 1, 1) := by decide +kernel
theorem dX8_put_40 : decode cX8_put 40 = .ok (.imul, 1) := by decide +kernel
theorem dX8_put_41 : decode cX8_put 41 = .ok (.iload_n 2, 1) := by decide +kernel
theorem dX8_put_42 : decode cX8_put 42 = .ok (.iadd, 1) := by decide +kernel
theorem dX8_put_43 : decode cX8_put 43 = .ok (.aload_n 0, 1) := by decide +kernel
theorem dX8_put_44 : decode cX8_put 44 = .ok (.getfield 77, 3) := by decide +kernel
theorem dX8_put_47 : decode cX8_put 47 = .ok (.iload_n 1, 1) := by decide +kernel
theorem dX8_put_48 : decode cX8_put 48 = .ok (.iaload, 1) := by decide +kernel
theorem dX8_put_49 : decode cX8_put 49 = .ok (.ifCond .ne 8, 3) := by decide +kernel
theorem dX8_put_52 : decode cX8_put 52 = .ok (.iload_n 3, 1) := by decide +kernel
theorem dX8_put_53 : decode cX8_put 53 = .ok (.i2b, 1) := by decide +kernel
theorem dX8_put_54 : decode cX8_put 54 = .ok (.goto 19, 3) := by decide +kernel
theorem dX8_put_57 : decode cX8_put 57 = .ok (.aload_n 0, 1) := by decide +kernel
theorem dX8_put_58 : decode cX8_put 58 = .ok (.getfield 77, 3) := by decide +kernel
theorem dX8_put_61 : decode cX8_put 61 = .ok (.iload_n 1, 1) := by decide +kernel
theorem dX8_put_62 : decode cX8_put 62 = .ok (.iaload, 1) := by decide +kernel
theorem dX8_put_63 : decode cX8_put 63 = .ok (.iconst 1, 1) := by decide +kernel
theorem dX8_put_64 : decode cX8_put 64 = .ok (.if_icmp .ne 8, 3) := by decide +kernel
theorem dX8_put_67 : decode cX8_put 67 = .ok (.iload_n 3, 1) := by decide +kernel
theorem dX8_put_68 : decode cX8_put 68 = .ok (.i2s, 1) := by decide +kernel
theorem dX8_put_69 : decode cX8_put 69 = .ok (.goto 4, 3) := by decide +kernel
theorem dX8_put_72 : decode cX8_put 72 = .ok (.iload_n 3, 1) := by decide +kernel
theorem dX8_put_73 : decode cX8_put 73 = .ok (.iastore, 1) := by decide +kernel
theorem dX8_put_74 : decode cX8_put 74 = .ok (.aload_n 0, 1) := by decide +kernel
theorem dX8_put_75 : decode cX8_put 75 = .ok (.iconst 1, 1) := by decide +kernel
theorem dX8_put_76 : decode cX8_put 76 = .ok (.invokevirtual 144, 3) := by decide +kernel
theorem dX8_put_79 : decode cX8_put 79 = .ok (.ireturn, 1) := by decide +kernel
set_option maxRecDepth 20000 in
theorem ggX8_cell_X8_noSheet : GoodIn wsX8_cell wsX8_noSheet := goodIn_r _ [9, 10, 11, 12, 8, 13] (by decide +kernel) (by decide +kernel)
set_option maxRecDepth 20000 in
theorem gX8_cell_X8_noSheet : GoodIn wsX8_cell (va_wsS RX8 140 yX8_noSheet wsX8_noSheet) := goodIn_app (goodIn_of _ (by decide +kernel)) ggX8_cell_X8_noSheet
set_option maxRecDepth 20000 in
theorem ggX8_cell_X8_in : GoodIn wsX8_cell wsX8_in := goodIn_r _ [13] (by decide +kernel) (by decide +kernel)
set_option maxRecDepth 20000 in
theorem gX8_cell_X8_in : GoodIn wsX8_cell (va_wsS RX8 102 yX8_in wsX8_in) := goodIn_app (goodIn_of _ (by decide +kernel)) ggX8_cell_X8_in
set_option maxRecDepth 20000 in
theorem ggX8_cell_X8_lost : GoodIn wsX8_cell wsX8_lost := goodIn_r _ [16, 17] (by decide +kernel) (by decide +kernel)
set_option maxRecDepth 20000 in
theorem gX8_cell_X8_lost : GoodIn wsX8_cell (va_wsS RX8 95 yX8_lost wsX8_lost) := goodIn_app (goodIn_of _ (by decide +kernel)) ggX8_cell_X8_lost
set_option maxRecDepth 20000 in
theorem ggX8_cell_X8_failedLong : GoodIn wsX8_cell wsX8_failedLong := goodIn_r _ [21, 1, 14, 15, 8, 16, 17, 26, 27, 28, 29, 30, 31, 32, 33, 34, 35, 36, 37, 38, 39, 40, 41, 42, 43, 44, 45, 46, 47, 48, 49, 50, 51, 52, 53, 54, 55, 56, 57, 58, 59, 60, 61, 62, 63, 64, 65, 66, 67] (by decide +kernel) (by decide +kernel)
set_option maxRecDepth 20000 in
theorem gX8_cell_X8_failedLong : GoodIn wsX8_cell (wsV RX8 263 RX8 yX8_failedLong wsX8_failedLong) := goodIn_app (goodIn_of _ (by decide +kernel)) ggX8_cell_X8_failedLong
set_option maxRecDepth 20000 in
theorem ggX8_cell_X8_noCell : GoodIn wsX8_cell wsX8_noCell := goodIn_r _ [25, 3, 11, 12, 8, 13, 26, 27, 28, 29, 30, 31, 32, 33, 34, 35, 36, 37, 38, 39, 40, 41, 42, 43, 44, 45, 46, 47, 48, 49, 50, 51, 52, 53, 54, 55, 56, 57, 58, 59, 60, 61, 62, 63, 64, 65, 66, 67] (by decide +kernel) (by decide +kernel)
set_option maxRecDepth 20000 in
theorem gX8_cell_X8_noCell : GoodIn wsX8_cell (wsV RX8 260 RX8 yX8_noCell wsX8_noCell) := goodIn_app (goodIn_of _ (by decide +kernel)) ggX8_cell_X8_noCell
theorem dX8_cell_0 : decode cX8_cell 0 = .ok (.aload_n 0, 1) := by decide +kernel
theorem dX8_cell_1 : decode cX8_cell 1 = .ok (.iconst 0, 1) := by decide +kernel
theorem dX8_cell_2 : decode cX8_cell 2 = .ok (.putfield 91, 3) := by decide +kernel
theorem dX8_cell_5 : decode cX8_cell 5 = .ok (.iload_n 1, 1) := by decide +kernel
theorem dX8_cell_6 : decode cX8_cell 6 = .ok (.invokestatic 140, 3) := by decide +kernel
theorem dX8_cell_9 : decode cX8_cell 9 = .ok (.ifCond .ne 15, 3) := by decide +kernel
theorem dX8_cell_12 : decode cX8_cell 12 = .ok (.iload_n 3, 1) := by decide +kernel
theorem dX8_cell_13 : decode cX8_cell 13 = .ok (.i2l, 1) := by decide +kernel
theorem dX8_cell_14 : decode cX8_cell 14 = .ok (.lconst 0, 1) := by decide +kernel
theorem dX8_cell_15 : decode cX8_cell 15 = .ok (.ldc2_w 147, 3) := by decide +kernel
theorem dX8_cell_18 : decode cX8_cell 18 = .ok (.invokestatic 102, 3) := by decide +kernel
theorem dX8_cell_21 : decode cX8_cell 21 = .ok (.ifCond .ne 7, 3) := by decide +kernel
theorem dX8_cell_24 : decode cX8_cell 24 = .ok (.invokestatic 95, 3) := by decide +kernel
theorem dX8_cell_27 : decode cX8_cell 27 = .ok (.lreturn, 1) := by decide +kernel
theorem dX8_cell_28 : decode cX8_cell 28 = .ok (.aload_n 0, 1) := by decide +kernel
theorem dX8_cell_29 : decode cX8_cell 29 = .ok (.getfield 74, 3) := by decide +kernel
theorem dX8_cell_32 : decode cX8_cell 32 = .ok (.iload_n 1, 1) := by decide +kernel
theorem dX8_cell_33 : decode cX8_cell 33 = .ok (.iaload, 1) := by decide +kernel
theorem dX8_cell_34 : decode cX8_cell 34 = .ok (.ifCond .lt 19, 3) := by decide +kernel
theorem dX8_cell_37 : decode cX8_cell 37 = .ok (.aload_n 0, 1) := by decide +kernel
theorem dX8_cell_38 : decode cX8_cell 38 = .ok (.getfield 77, 3) := by decide +kernel
theorem dX8_cell_41 : decode cX8_cell 41 = .ok (.iload_n 1, 1) := by decide +kernel
theorem dX8_cell_42 : decode cX8_cell 42 = .ok (.iaload, 1) := by decide +kernel
theorem dX8_cell_43 : decode cX8_cell 43 = .ok (.iload_n 3, 1) := by decide +kernel
theorem dX8_cell_44 : decode cX8_cell 44 = .ok (.if_icmp .eq 9, 3) := by decide +kernel
theorem dX8_cell_47 : decode cX8_cell 47 = .ok (.aload_n 0, 1) := by decide +kernel
theorem dX8_cell_48 : decode cX8_cell 48 = .ok (.iconst 2, 1) := by decide +kernel
theorem dX8_cell_49 : decode cX8_cell 49 = .ok (.invokevirtual 263, 3) := by decide +kernel
theorem dX8_cell_52 : decode cX8_cell 52 = .ok (.lreturn, 1) := by decide +kernel
theorem dX8_cell_53 : decode cX8_cell 53 = .ok (.aload_n 0, 1) := by decide +kernel
theorem dX8_cell_54 : decode cX8_cell 54 = .ok (.iload_n 1, 1) := by decide +kernel
theorem dX8_cell_55 : decode cX8_cell 55 = .ok (.iload_n 2, 1) := by decide +kernel
theorem dX8_cell_56 : decode cX8_cell 56 = .ok (.invokevirtual 260, 3) := by decide +kernel
theorem dX8_cell_59 : decode cX8_cell 59 = .ok (.ifCond .le 16, 3) := by decide +kernel
theorem dX8_cell_62 : decode cX8_cell 62 = .ok (.aload_n 0, 1) := by decide +kernel
theorem dX8_cell_63 : decode cX8_cell 63 = .ok (.aload_n 0, 1) := by decide +kernel
theorem dX8_cell_64 : decode cX8_cell 64 = .ok (.iload_n 1, 1) := by decide +kernel
theorem dX8_cell_65 : decode cX8_cell 65 = .ok (.iload_n 2, 1) := by decide +kernel
theorem dX8_cell_66 : decode cX8_cell 66 = .ok (.invokevirtual 260, 3) := by decide +kernel
theorem dX8_cell_69 : decode cX8_cell 69 = .ok (.invokevirtual 263, 3) := by decide +kernel
theorem dX8_cell_72 : decode cX8_cell 72 = .ok (.goto 15, 3) := by decide +kernel
theorem dX8_cell_75 : decode cX8_cell 75 = .ok (.aload_n 0, 1) := by decide +kernel
theorem dX8_cell_76 : decode cX8_cell 76 = .ok (.getfield 80, 3) := by decide +kernel
theorem dX8_cell_79 : decode cX8_cell 79 = .ok (.bipush 60, 2) := by decide +kernel
theorem dX8_cell_81 : decode cX8_cell 81 = .ok (.iload_n 1, 1) := by decide +kernel
theorem dX8_cell_82 : decode cX8_cell 82 = .ok (.imul, 1) := by decide +kernel
theorem dX8_cell_83 : decode cX8_cell 83 = .ok (.iload_n 2, 1) := by decide +kernel
theorem dX8_cell_84 : decode cX8_cell 84 = .ok (.iadd, 1) := by decide +kernel
theorem dX8_cell_85 : decode cX8_cell 85 = .ok (.iaload, 1) := by decide +kernel
theorem dX8_cell_86 : decode cX8_cell 86 = .ok (.i2l, 1) := by decide +kernel
theorem dX8_cell_87 : decode cX8_cell 87 = .ok (.lreturn, 1) := by decide +kernel
theorem dX8_isBeyond_0 : decode cX8_isBeyond 0 = .ok (.iload_n 0, 1) := by decide +kernel
theorem dX8_isBeyond_1 : decode cX8_isBeyond 1 = .ok (.ifCond .lt 19, 3) := by decide +kernel
theorem dX8_isBeyond_4 : decode cX8_isBeyond 4 = .ok (.lload_n 1, 1) := by decide +kernel
theorem dX8_isBeyond_5 : decode cX8_isBeyond 5 = .ok (.lconst 0, 1) := by decide +kernel
theorem dX8_isBeyond_6 : decode cX8_isBeyond 6 = .ok (.lcmp, 1) := by decide +kernel
theorem dX8_isBeyond_7 : decode cX8_isBeyond 7 = .ok (.ifCond .lt 13, 3) := by decide +kernel
theorem dX8_isBeyond_10 : decode cX8_isBeyond 10 = .ok (.iload_n 0, 1) := by decide +kernel
theorem dX8_isBeyond_11 : decode cX8_isBeyond 11 = .ok (.i2l, 1) := by decide +kernel
theorem dX8_isBeyond_12 : decode cX8_isBeyond 12 = .ok (.lload_n 1, 1) := by decide +kernel
theorem dX8_isBeyond_13 : decode cX8_isBeyond 13 = .ok (.ladd, 1) := by decide +kernel
theorem dX8_isBeyond_14 : decode cX8_isBeyond 14 = .ok (.iload_n 3, 1) := by decide +kernel
theorem dX8_isBeyond_15 : decode cX8_isBeyond 15 = .ok (.i2l, 1) := by decide +kernel
theorem dX8_isBeyond_16 : decode cX8_isBeyond 16 = .ok (.lcmp, 1) := by decide +kernel
theorem dX8_isBeyond_17 : decode cX8_isBeyond 17 = .ok (.ifCond .le 7, 3) := by decide +kernel
theorem dX8_isBeyond_20 : decode cX8_isBeyond 20 = .ok (.iconst 1, 1) := by decide +kernel
theorem dX8_isBeyond_21 : decode cX8_isBeyond 21 = .ok (.goto 4, 3) := by decide +kernel
theorem dX8_isBeyond_24 : decode cX8_isBeyond 24 = .ok (.iconst 0, 1) := by decide +kernel
theorem dX8_isBeyond_25 : decode cX8_isBeyond 25 = .ok (.ireturn, 1) := by decide +kernel
set_option maxRecDepth 20000 in
theorem ggX8_copy_X8_noSheet : GoodIn wsX8_copy wsX8_noSheet := goodIn_r _ [8, 9, 10, 11, 7, 12] (by decide +kernel) (by decide +kernel)
set_option maxRecDepth 20000 in
theorem gX8_copy_X8_noSheet : GoodIn wsX8_copy (va_wsS RX8 140 yX8_noSheet wsX8_noSheet) := goodIn_app (goodIn_of _ (by decide +kernel)) ggX8_copy_X8_noSheet
set_option maxRecDepth 20000 in
theorem ggX8_copy_X8_refused : GoodIn wsX8_copy wsX8_refused := goodIn_r _ [16, 17, 25, 26, 27, 28, 29, 30, 31, 32, 33, 34, 35, 36, 37, 38, 39, 40, 41, 42, 43, 44, 45, 46, 47, 48, 49, 50, 51, 52, 53, 54, 55, 56, 57, 58, 59, 60, 61, 62, 63, 64, 65, 66] (by decide +kernel) (by decide +kernel)
set_option maxRecDepth 20000 in
theorem gX8_copy_X8_refused : GoodIn wsX8_copy (wsV RX8 144 RX8 yX8_refused wsX8_refused) := goodIn_app (goodIn_of _ (by decide +kernel)) ggX8_copy_X8_refused
set_option maxRecDepth 20000 in
theorem ggX8_copy_X8_failed : GoodIn wsX8_copy wsX8_failed := goodIn_r _ [21, 17, 25, 26, 27, 28, 29, 30, 31, 32, 33, 34, 35, 36, 37, 38, 39, 40, 41, 42, 43, 44, 45, 46, 47, 48, 49, 50, 51, 52, 53, 54, 55, 56, 57, 58, 59, 60, 61, 62, 63, 64, 65, 66] (by decide +kernel) (by decide +kernel)
set_option maxRecDepth 20000 in
theorem gX8_copy_X8_failed : GoodIn wsX8_copy (wsV RX8 132 RX8 yX8_failed wsX8_failed) := goodIn_app (goodIn_of _ (by decide +kernel)) ggX8_copy_X8_failed
set_option maxRecDepth 20000 in
theorem ggX8_copy_X8_isBeyond : GoodIn wsX8_copy wsX8_isBeyond := goodIn_r _ [24] (by decide +kernel) (by decide +kernel)
set_option maxRecDepth 20000 in
theorem gX8_copy_X8_isBeyond : GoodIn wsX8_copy (va_wsS RX8 136 yX8_isBeyond wsX8_isBeyond) := goodIn_app (goodIn_of _ (by decide +kernel)) ggX8_copy_X8_isBeyond
theorem dX8_copy_0 : decode cX8_copy 0 = .ok (.iload_n 1, 1) := by decide +kernel
theorem dX8_copy_1 : decode cX8_copy 1 = .ok (.invokestatic 140, 3) := by decide +kernel
theorem dX8_copy_4 : decode cX8_copy 4 = .ok (.ifCond .ne 10, 3) := by decide +kernel
theorem dX8_copy_7 : decode cX8_copy 7 = .ok (.iload_n 3, 1) := by decide +kernel
theorem dX8_copy_8 : decode cX8_copy 8 = .ok (.invokestatic 140, 3) := by decide +kernel
theorem dX8_copy_11 : decode cX8_copy 11 = .ok (.ifCond .eq 9, 3) := by decide +kernel
theorem dX8_copy_14 : decode cX8_copy 14 = .ok (.aload_n 0, 1) := by decide +kernel
theorem dX8_copy_15 : decode cX8_copy 15 = .ok (.iconst (-1), 1) := by decide +kernel
theorem dX8_copy_16 : decode cX8_copy 16 = .ok (.invokevirtual 144, 3) := by decide +kernel
theorem dX8_copy_19 : decode cX8_copy 19 = .ok (.ireturn, 1) := by decide +kernel
theorem dX8_copy_20 : decode cX8_copy 20 = .ok (.aload_n 0, 1) := by decide +kernel
theorem dX8_copy_21 : decode cX8_copy 21 = .ok (.getfield 74, 3) := by decide +kernel
theorem dX8_copy_24 : decode cX8_copy 24 = .ok (.iload_n 1, 1) := by decide +kernel
theorem dX8_copy_25 : decode cX8_copy 25 = .ok (.iaload, 1) := by decide +kernel
theorem dX8_copy_26 : decode cX8_copy 26 = .ok (.ifCond .lt 12, 3) := by decide +kernel
theorem dX8_copy_29 : decode cX8_copy 29 = .ok (.aload_n 0, 1) := by decide +kernel
theorem dX8_copy_30 : decode cX8_copy 30 = .ok (.getfield 74, 3) := by decide +kernel
theorem dX8_copy_33 : decode cX8_copy 33 = .ok (.iload_n 3, 1) := by decide +kernel
theorem dX8_copy_34 : decode cX8_copy 34 = .ok (.iaload, 1) := by decide +kernel
theorem dX8_copy_35 : decode cX8_copy 35 = .ok (.ifCond .ge 9, 3) := by decide +kernel
theorem dX8_copy_38 : decode cX8_copy 38 = .ok (.aload_n 0, 1) := by decide +kernel
theorem dX8_copy_39 : decode cX8_copy 39 = .ok (.iconst 1, 1) := by decide +kernel
theorem dX8_copy_40 : decode cX8_copy 40 = .ok (.invokevirtual 132, 3) := by decide +kernel
theorem dX8_copy_43 : decode cX8_copy 43 = .ok (.ireturn, 1) := by decide +kernel
theorem dX8_copy_44 : decode cX8_copy 44 = .ok (.aload_n 0, 1) := by decide +kernel
theorem dX8_copy_45 : decode cX8_copy 45 = .ok (.getfield 77, 3) := by decide +kernel
theorem dX8_copy_48 : decode cX8_copy 48 = .ok (.iload_n 1, 1) := by decide +kernel
theorem dX8_copy_49 : decode cX8_copy 49 = .ok (.iaload, 1) := by decide +kernel
theorem dX8_copy_50 : decode cX8_copy 50 = .ok (.aload_n 0, 1) := by decide +kernel
theorem dX8_copy_51 : decode cX8_copy 51 = .ok (.getfield 77, 3) := by decide +kernel
theorem dX8_copy_54 : decode cX8_copy 54 = .ok (.iload_n 3, 1) := by decide +kernel
theorem dX8_copy_55 : decode cX8_copy 55 = .ok (.iaload, 1) := by decide +kernel
theorem dX8_copy_56 : decode cX8_copy 56 = .ok (.if_icmp .eq 9, 3) := by decide +kernel
theorem dX8_copy_59 : decode cX8_copy 59 = .ok (.aload_n 0, 1) := by decide +kernel
theorem dX8_copy_60 : decode cX8_copy 60 = .ok (.iconst 2, 1) := by decide +kernel
theorem dX8_copy_61 : decode cX8_copy 61 = .ok (.invokevirtual 132, 3) := by decide +kernel
theorem dX8_copy_64 : decode cX8_copy 64 = .ok (.ireturn, 1) := by decide +kernel
theorem dX8_copy_65 : decode cX8_copy 65 = .ok (.iload_n 2, 1) := by decide +kernel
theorem dX8_copy_66 : decode cX8_copy 66 = .ok (.iload 5, 2) := by decide +kernel
theorem dX8_copy_68 : decode cX8_copy 68 = .ok (.i2l, 1) := by decide +kernel
theorem dX8_copy_69 : decode cX8_copy 69 = .ok (.aload_n 0, 1) := by decide +kernel
theorem dX8_copy_70 : decode cX8_copy 70 = .ok (.getfield 74, 3) := by decide +kernel
theorem dX8_copy_73 : decode cX8_copy 73 = .ok (.iload_n 1, 1) := by decide +kernel
theorem dX8_copy_74 : decode cX8_copy 74 = .ok (.iaload, 1) := by decide +kernel
theorem dX8_copy_75 : decode cX8_copy 75 = .ok (.invokestatic 136, 3) := by decide +kernel
theorem dX8_copy_78 : decode cX8_copy 78 = .ok (.ifCond .ne 20, 3) := by decide +kernel
theorem dX8_copy_81 : decode cX8_copy 81 = .ok (.iload 4, 2) := by decide +kernel
theorem dX8_copy_83 : decode cX8_copy 83 = .ok (.iload 5, 2) := by decide +kernel
theorem dX8_copy_85 : decode cX8_copy 85 = .ok (.i2l, 1) := by decide +kernel
theorem dX8_copy_86 : decode cX8_copy 86 = .ok (.aload_n 0, 1) := by decide +kernel
theorem dX8_copy_87 : decode cX8_copy 87 = .ok (.getfield 74, 3) := by decide +kernel
theorem dX8_copy_90 : decode cX8_copy 90 = .ok (.iload_n 3, 1) := by decide +kernel
theorem dX8_copy_91 : decode cX8_copy 91 = .ok (.iaload, 1) := by decide +kernel
theorem dX8_copy_92 : decode cX8_copy 92 = .ok (.invokestatic 136, 3) := by decide +kernel
theorem dX8_copy_95 : decode cX8_copy 95 = .ok (.ifCond .eq 9, 3) := by decide +kernel
theorem dX8_copy_98 : decode cX8_copy 98 = .ok (.aload_n 0, 1) := by decide +kernel
theorem dX8_copy_99 : decode cX8_copy 99 = .ok (.iconst 3, 1) := by decide +kernel
theorem dX8_copy_100 : decode cX8_copy 100 = .ok (.invokevirtual 132, 3) := by decide +kernel
theorem dX8_copy_103 : decode cX8_copy 103 = .ok (.ireturn, 1) := by decide +kernel
theorem dX8_copy_104 : decode cX8_copy 104 = .ok (.iconst 0, 1) := by decide +kernel
theorem dX8_copy_105 : decode cX8_copy 105 = .ok (.istore 6, 2) := by decide +kernel
theorem dX8_copy_107 : decode cX8_copy 107 = .ok (.iload 6, 2) := by decide +kernel
theorem dX8_copy_109 : decode cX8_copy 109 = .ok (.iload 5, 2) := by decide +kernel
theorem dX8_copy_111 : decode cX8_copy 111 = .ok (.if_icmp .ge 30, 3) := by decide +kernel
theorem dX8_copy_114 : decode cX8_copy 114 = .ok (.aload_n 0, 1) := by decide +kernel
theorem dX8_copy_115 : decode cX8_copy 115 = .ok (.getfield 83, 3) := by decide +kernel
theorem dX8_copy_118 : decode cX8_copy 118 = .ok (.iload 6, 2) := by decide +kernel
theorem dX8_copy_120 : decode cX8_copy 120 = .ok (.aload_n 0, 1) := by decide +kernel
theorem dX8_copy_121 : decode cX8_copy 121 = .ok (.getfield 80, 3) := by decide +kernel
theorem dX8_copy_124 : decode cX8_copy 124 = .ok (.bipush 60, 2) := by decide +kernel
theorem dX8_copy_126 : decode cX8_copy 126 = .ok (.iload_n 1, 1) := by decide +kernel
theorem dX8_copy_127 : decode cX8_copy 127 = .ok (.imul, 1) := by decide +kernel
theorem dX8_copy_128 : decode cX8_copy 128 = .ok (.iload_n 2, 1) := by decide +kernel
theorem dX8_copy_129 : decode cX8_copy 129 = .ok (.iadd, 1) := by decide +kernel
theorem dX8_copy_130 : decode cX8_copy 130 = .ok (.iload 6, 2) := by decide +kernel
theorem dX8_copy_132 : decode cX8_copy 132 = .ok (.iadd, 1) := by decide +kernel
theorem dX8_copy_133 : decode cX8_copy 133 = .ok (.iaload, 1) := by decide +kernel
theorem dX8_copy_134 : decode cX8_copy 134 = .ok (.iastore, 1) := by decide +kernel
theorem dX8_copy_135 : decode cX8_copy 135 = .ok (.iinc 6 1, 3) := by decide +kernel
theorem dX8_copy_138 : decode cX8_copy 138 = .ok (.goto (-31), 3) := by decide +kernel
theorem dX8_copy_141 : decode cX8_copy 141 = .ok (.iconst 0, 1) := by decide +kernel
theorem dX8_copy_142 : decode cX8_copy 142 = .ok (.istore 6, 2) := by decide +kernel
theorem dX8_copy_144 : decode cX8_copy 144 = .ok (.iload 6, 2) := by decide +kernel
theorem dX8_copy_146 : decode cX8_copy 146 = .ok (.iload 5, 2) := by decide +kernel
theorem dX8_copy_148 : decode cX8_copy 148 = .ok (.if_icmp .ge 31, 3) := by decide +kernel
theorem dX8_copy_151 : decode cX8_copy 151 = .ok (.aload_n 0, 1) := by decide +kernel
theorem dX8_copy_152 : decode cX8_copy 152 = .ok (.getfield 80, 3) := by decide +kernel
theorem dX8_copy_155 : decode cX8_copy 155 = .ok (.bipush 60, 2) := by decide +kernel
theorem dX8_copy_157 : decode cX8_copy 157 = .ok (.iload_n 3, 1) := by decide +kernel
theorem dX8_copy_158 : decode cX8_copy 158 = .ok (.imul, 1) := by decide +kernel
theorem dX8_copy_159 : decode cX8_copy 159 = .ok (.iload 4, 2) := by decide +kernel
theorem dX8_copy_161 : decode cX8_copy 161 = .ok (.iadd, 1) := by decide +kernel
theorem dX8_copy_162 : decode cX8_copy 162 = .ok (.iload 6, 2) := by decide +kernel
theorem dX8_copy_164 : decode cX8_copy 164 = .ok (.iadd, 1) := by decide +kernel
theorem dX8_copy_165 : decode cX8_copy 165 = .ok (.aload_n 0, 1) := by decide +kernel
theorem dX8_copy_166 : decode cX8_copy 166 = .ok (.getfield 83, 3) := by decide +kernel
theorem dX8_copy_169 : decode cX8_copy 169 = .ok (.iload 6, 2) := by decide +kernel
theorem dX8_copy_171 : decode cX8_copy 171 = .ok (.iaload, 1) := by decide +kernel
theorem dX8_copy_172 : decode cX8_copy 172 = .ok (.iastore, 1) := by decide +kernel
theorem dX8_copy_173 : decode cX8_copy 173 = .ok (.iinc 6 1, 3) := by decide +kernel
theorem dX8_copy_176 : decode cX8_copy 176 = .ok (.goto (-32), 3) := by decide +kernel
theorem dX8_copy_179 : decode cX8_copy 179 = .ok (.aload_n 0, 1) := by decide +kernel
theorem dX8_copy_180 : decode cX8_copy 180 = .ok (.iload 5, 2) := by decide +kernel
theorem dX8_copy_182 : decode cX8_copy 182 = .ok (.invokevirtual 144, 3) := by decide +kernel
theorem dX8_copy_185 : decode cX8_copy 185 = .ok (.ireturn, 1) := by decide +kernel
theorem dX8_traced_0 : decode cX8_traced 0 = .ok (.aload_n 0, 1) := by decide +kernel
theorem dX8_traced_1 : decode cX8_traced 1 = .ok (.bipush 31, 2) := by decide +kernel
theorem dX8_traced_3 : decode cX8_traced 3 = .ok (.aload_n 0, 1) := by decide +kernel
theorem dX8_traced_4 : decode cX8_traced 4 = .ok (.getfield 267, 3) := by decide +kernel
theorem dX8_traced_7 : decode cX8_traced 7 = .ok (.imul, 1) := by decide +kernel
theorem dX8_traced_8 : decode cX8_traced 8 = .ok (.iload_n 1, 1) := by decide +kernel
theorem dX8_traced_9 : decode cX8_traced 9 = .ok (.iadd, 1) := by decide +kernel
theorem dX8_traced_10 : decode cX8_traced 10 = .ok (.putfield 267, 3) := by decide +kernel
theorem dX8_traced_13 : decode cX8_traced 13 = .ok (.return_, 1) := by decide +kernel
set_option maxRecDepth 20000 in
theorem ggX8_tell_X8_noPerson : GoodIn wsX8_tell wsX8_noPerson := goodIn_r _ [7, 8, 9, 10, 6, 11, 17, 18, 19, 20, 21, 22, 23, 24, 25, 26, 27, 28, 29, 30, 31, 32, 33, 34, 35, 36, 37, 38, 39, 40, 41, 42, 43, 44, 45, 46, 47, 48, 49, 50, 51, 52, 53, 54, 55, 56, 57, 58] (by decide +kernel) (by decide +kernel)
set_option maxRecDepth 20000 in
theorem gX8_tell_X8_noPerson : GoodIn wsX8_tell (wsV RX8 168 RX8 yX8_noPerson wsX8_noPerson) := goodIn_app (goodIn_of _ (by decide +kernel)) ggX8_tell_X8_noPerson
set_option maxRecDepth 20000 in
theorem ggX8_tell_X8_traced : GoodIn wsX8_tell wsX8_traced := goodIn_r _ [15, 16, 17, 18, 19, 20, 21, 22, 23, 24, 25, 26, 27, 28, 29, 30, 31, 32, 33, 34, 35, 36, 37, 38, 39, 40, 41, 42, 43, 44, 45, 46, 47, 48, 49, 50, 51, 52, 53, 54, 55, 56, 57, 58] (by decide +kernel) (by decide +kernel)
set_option maxRecDepth 20000 in
theorem gX8_tell_X8_traced : GoodIn wsX8_tell (wsV RX8 270 RX8 yX8_traced wsX8_traced) := goodIn_app (goodIn_of _ (by decide +kernel)) ggX8_tell_X8_traced
theorem dX8_tell_0 : decode cX8_tell 0 = .ok (.aload_n 0, 1) := by decide +kernel
theorem dX8_tell_1 : decode cX8_tell 1 = .ok (.iload_n 1, 1) := by decide +kernel
theorem dX8_tell_2 : decode cX8_tell 2 = .ok (.invokevirtual 168, 3) := by decide +kernel
theorem dX8_tell_5 : decode cX8_tell 5 = .ok (.ifCond .eq 5, 3) := by decide +kernel
theorem dX8_tell_8 : decode cX8_tell 8 = .ok (.iconst (-1), 1) := by decide +kernel
theorem dX8_tell_9 : decode cX8_tell 9 = .ok (.ireturn, 1) := by decide +kernel
theorem dX8_tell_10 : decode cX8_tell 10 = .ok (.aload_n 0, 1) := by decide +kernel
theorem dX8_tell_11 : decode cX8_tell 11 = .ok (.getfield 7, 3) := by decide +kernel
theorem dX8_tell_14 : decode cX8_tell 14 = .ok (.iload_n 1, 1) := by decide +kernel
theorem dX8_tell_15 : decode cX8_tell 15 = .ok (.iaload, 1) := by decide +kernel
theorem dX8_tell_16 : decode cX8_tell 16 = .ok (.istore_n 2, 1) := by decide +kernel
theorem dX8_tell_17 : decode cX8_tell 17 = .ok (.iload_n 2, 1) := by decide +kernel
theorem dX8_tell_18 : decode cX8_tell 18 = .ok (.iconst 2, 1) := by decide +kernel
theorem dX8_tell_19 : decode cX8_tell 19 = .ok (.if_icmp .ne 8, 3) := by decide +kernel
theorem dX8_tell_22 : decode cX8_tell 22 = .ok (.aload_n 0, 1) := by decide +kernel
theorem dX8_tell_23 : decode cX8_tell 23 = .ok (.iconst 3, 1) := by decide +kernel
theorem dX8_tell_24 : decode cX8_tell 24 = .ok (.invokevirtual 270, 3) := by decide +kernel
theorem dX8_tell_27 : decode cX8_tell 27 = .ok (.iload_n 2, 1) := by decide +kernel
theorem dX8_tell_28 : decode cX8_tell 28 = .ok (.ifCond .le 8, 3) := by decide +kernel
theorem dX8_tell_31 : decode cX8_tell 31 = .ok (.aload_n 0, 1) := by decide +kernel
theorem dX8_tell_32 : decode cX8_tell 32 = .ok (.iconst 2, 1) := by decide +kernel
theorem dX8_tell_33 : decode cX8_tell 33 = .ok (.invokevirtual 270, 3) := by decide +kernel
theorem dX8_tell_36 : decode cX8_tell 36 = .ok (.aload_n 0, 1) := by decide +kernel
theorem dX8_tell_37 : decode cX8_tell 37 = .ok (.iconst 1, 1) := by decide +kernel
theorem dX8_tell_38 : decode cX8_tell 38 = .ok (.invokevirtual 270, 3) := by decide +kernel
theorem dX8_tell_41 : decode cX8_tell 41 = .ok (.iload_n 2, 1) := by decide +kernel
theorem dX8_tell_42 : decode cX8_tell 42 = .ok (.iconst 2, 1) := by decide +kernel
theorem dX8_tell_43 : decode cX8_tell 43 = .ok (.if_icmp .ne 8, 3) := by decide +kernel
theorem dX8_tell_46 : decode cX8_tell 46 = .ok (.aload_n 0, 1) := by decide +kernel
theorem dX8_tell_47 : decode cX8_tell 47 = .ok (.iconst 1, 1) := by decide +kernel
theorem dX8_tell_48 : decode cX8_tell 48 = .ok (.invokevirtual 270, 3) := by decide +kernel
theorem dX8_tell_51 : decode cX8_tell 51 = .ok (.aload_n 0, 1) := by decide +kernel
theorem dX8_tell_52 : decode cX8_tell 52 = .ok (.getfield 13, 3) := by decide +kernel
theorem dX8_tell_55 : decode cX8_tell 55 = .ok (.iload_n 1, 1) := by decide +kernel
theorem dX8_tell_56 : decode cX8_tell 56 = .ok (.iaload, 1) := by decide +kernel
theorem dX8_tell_57 : decode cX8_tell 57 = .ok (.istore_n 3, 1) := by decide +kernel
theorem dX8_tell_58 : decode cX8_tell 58 = .ok (.iload_n 2, 1) := by decide +kernel
theorem dX8_tell_59 : decode cX8_tell 59 = .ok (.ifCond .ne 7, 3) := by decide +kernel
theorem dX8_tell_62 : decode cX8_tell 62 = .ok (.iload_n 3, 1) := by decide +kernel
theorem dX8_tell_63 : decode cX8_tell 63 = .ok (.goto 21, 3) := by decide +kernel
theorem dX8_tell_66 : decode cX8_tell 66 = .ok (.iload_n 2, 1) := by decide +kernel
theorem dX8_tell_67 : decode cX8_tell 67 = .ok (.iconst 1, 1) := by decide +kernel
theorem dX8_tell_68 : decode cX8_tell 68 = .ok (.if_icmp .ne 10, 3) := by decide +kernel
theorem dX8_tell_71 : decode cX8_tell 71 = .ok (.iload_n 3, 1) := by decide +kernel
theorem dX8_tell_72 : decode cX8_tell 72 = .ok (.bipush 100, 2) := by decide +kernel
theorem dX8_tell_74 : decode cX8_tell 74 = .ok (.iadd, 1) := by decide +kernel
theorem dX8_tell_75 : decode cX8_tell 75 = .ok (.goto 9, 3) := by decide +kernel
theorem dX8_tell_78 : decode cX8_tell 78 = .ok (.iconst 2, 1) := by decide +kernel
theorem dX8_tell_79 : decode cX8_tell 79 = .ok (.iload_n 3, 1) := by decide +kernel
theorem dX8_tell_80 : decode cX8_tell 80 = .ok (.imul, 1) := by decide +kernel
theorem dX8_tell_81 : decode cX8_tell 81 = .ok (.bipush 100, 2) := by decide +kernel
theorem dX8_tell_83 : decode cX8_tell 83 = .ok (.iadd, 1) := by decide +kernel
theorem dX8_tell_84 : decode cX8_tell 84 = .ok (.ireturn, 1) := by decide +kernel
set_option maxRecDepth 20000 in
theorem ggX8_greet_X8_noPerson : GoodIn wsX8_greet wsX8_noPerson := goodIn_r _ [6, 7, 8, 9, 5, 10, 16, 17, 18, 19, 20, 21, 22, 23, 24, 25, 26, 27, 28, 29, 30, 31, 32, 33, 34, 35, 36, 37, 38, 39, 40, 41, 42, 43, 44, 45, 46, 47, 48, 49, 50, 51, 52, 53, 54, 55, 56, 57] (by decide +kernel) (by decide +kernel)
set_option maxRecDepth 20000 in
theorem gX8_greet_X8_noPerson : GoodIn wsX8_greet (wsV RX8 168 RX8 yX8_noPerson wsX8_noPerson) := goodIn_app (goodIn_of _ (by decide +kernel)) ggX8_greet_X8_noPerson
set_option maxRecDepth 20000 in
theorem ggX8_greet_X8_traced : GoodIn wsX8_greet wsX8_traced := goodIn_r _ [14, 15, 16, 17, 18, 19, 20, 21, 22, 23, 24, 25, 26, 27, 28, 29, 30, 31, 32, 33, 34, 35, 36, 37, 38, 39, 40, 41, 42, 43, 44, 45, 46, 47, 48, 49, 50, 51, 52, 53, 54, 55, 56, 57] (by decide +kernel) (by decide +kernel)
set_option maxRecDepth 20000 in
theorem gX8_greet_X8_traced : GoodIn wsX8_greet (wsV RX8 270 RX8 yX8_traced wsX8_traced) := goodIn_app (goodIn_of _ (by decide +kernel)) ggX8_greet_X8_traced
theorem dX8_greet_0 : decode cX8_greet 0 = .ok (.aload_n 0, 1) := by decide +kernel
theorem dX8_greet_1 : decode cX8_greet 1 = .ok (.iload_n 1, 1) := by decide +kernel
theorem dX8_greet_2 : decode cX8_greet 2 = .ok (.invokevirtual 168, 3) := by decide +kernel
theorem dX8_greet_5 : decode cX8_greet 5 = .ok (.ifCond .eq 5, 3) := by decide +kernel
theorem dX8_greet_8 : decode cX8_greet 8 = .ok (.iconst (-1), 1) := by decide +kernel
theorem dX8_greet_9 : decode cX8_greet 9 = .ok (.ireturn, 1) := by decide +kernel
theorem dX8_greet_10 : decode cX8_greet 10 = .ok (.aload_n 0, 1) := by decide +kernel
theorem dX8_greet_11 : decode cX8_greet 11 = .ok (.aload_n 0, 1) := by decide +kernel
theorem dX8_greet_12 : decode cX8_greet 12 = .ok (.getfield 7, 3) := by decide +kernel
theorem dX8_greet_15 : decode cX8_greet 15 = .ok (.iload_n 1, 1) := by decide +kernel
theorem dX8_greet_16 : decode cX8_greet 16 = .ok (.iaload, 1) := by decide +kernel
theorem dX8_greet_17 : decode cX8_greet 17 = .ok (.iconst 2, 1) := by decide +kernel
theorem dX8_greet_18 : decode cX8_greet 18 = .ok (.if_icmp .ne 7, 3) := by decide +kernel
theorem dX8_greet_21 : decode cX8_greet 21 = .ok (.iconst 5, 1) := by decide +kernel
theorem dX8_greet_22 : decode cX8_greet 22 = .ok (.goto 4, 3) := by decide +kernel
theorem dX8_greet_25 : decode cX8_greet 25 = .ok (.iconst 4, 1) := by decide +kernel
theorem dX8_greet_26 : decode cX8_greet 26 = .ok (.invokevirtual 270, 3) := by decide +kernel
theorem dX8_greet_29 : decode cX8_greet 29 = .ok (.aload_n 0, 1) := by decide +kernel
theorem dX8_greet_30 : decode cX8_greet 30 = .ok (.getfield 7, 3) := by decide +kernel
theorem dX8_greet_33 : decode cX8_greet 33 = .ok (.iload_n 1, 1) := by decide +kernel
theorem dX8_greet_34 : decode cX8_greet 34 = .ok (.iaload, 1) := by decide +kernel
theorem dX8_greet_35 : decode cX8_greet 35 = .ok (.iconst 2, 1) := by decide +kernel
theorem dX8_greet_36 : decode cX8_greet 36 = .ok (.if_icmp .ne 8, 3) := by decide +kernel
theorem dX8_greet_39 : decode cX8_greet 39 = .ok (.bipush 70, 2) := by decide +kernel
theorem dX8_greet_41 : decode cX8_greet 41 = .ok (.goto 4, 3) := by decide +kernel
theorem dX8_greet_44 : decode cX8_greet 44 = .ok (.iload_n 1, 1) := by decide +kernel
theorem dX8_greet_45 : decode cX8_greet 45 = .ok (.ireturn, 1) := by decide +kernel
set_option maxRecDepth 20000 in
theorem ggX8_as_X8_noPerson : GoodIn wsX8_as wsX8_noPerson := goodIn_r _ [7, 8, 9, 10, 6, 11, 21, 22, 23, 24, 25, 26, 27, 28, 29, 30, 31, 32, 33, 34, 35, 36, 37, 38, 39, 40, 41, 42, 43, 44, 45, 46, 47, 48, 49, 50, 51, 52, 53, 54, 55, 56, 57, 58, 59, 60, 61, 62] (by decide +kernel) (by decide +kernel)
set_option maxRecDepth 20000 in
theorem gX8_as_X8_noPerson : GoodIn wsX8_as (wsV RX8 168 RX8 yX8_noPerson wsX8_noPerson) := goodIn_app (goodIn_of _ (by decide +kernel)) ggX8_as_X8_noPerson
set_option maxRecDepth 20000 in
theorem ggX8_as_X8_refused : GoodIn wsX8_as wsX8_refused := goodIn_r _ [15, 16, 21, 22, 23, 24, 25, 26, 27, 28, 29, 30, 31, 32, 33, 34, 35, 36, 37, 38, 39, 40, 41, 42, 43, 44, 45, 46, 47, 48, 49, 50, 51, 52, 53, 54, 55, 56, 57, 58, 59, 60, 61, 62] (by decide +kernel) (by decide +kernel)
set_option maxRecDepth 20000 in
theorem gX8_as_X8_refused : GoodIn wsX8_as (wsV RX8 144 RX8 yX8_refused wsX8_refused) := goodIn_app (goodIn_of _ (by decide +kernel)) ggX8_as_X8_refused
set_option maxRecDepth 20000 in
theorem ggX8_as_X8_in : GoodIn wsX8_as wsX8_in := goodIn_r _ [11] (by decide +kernel) (by decide +kernel)
set_option maxRecDepth 20000 in
theorem gX8_as_X8_in : GoodIn wsX8_as (va_wsS RX8 102 yX8_in wsX8_in) := goodIn_app (goodIn_of _ (by decide +kernel)) ggX8_as_X8_in
set_option maxRecDepth 20000 in
theorem ggX8_as_X8_failed : GoodIn wsX8_as wsX8_failed := goodIn_r _ [20, 16, 21, 22, 23, 24, 25, 26, 27, 28, 29, 30, 31, 32, 33, 34, 35, 36, 37, 38, 39, 40, 41, 42, 43, 44, 45, 46, 47, 48, 49, 50, 51, 52, 53, 54, 55, 56, 57, 58, 59, 60, 61, 62] (by decide +kernel) (by decide +kernel)
set_option maxRecDepth 20000 in
theorem gX8_as_X8_failed : GoodIn wsX8_as (wsV RX8 132 RX8 yX8_failed wsX8_failed) := goodIn_app (goodIn_of _ (by decide +kernel)) ggX8_as_X8_failed
theorem dX8_as_0 : decode cX8_as 0 = .ok (.aload_n 0, 1) := by decide +kernel
theorem dX8_as_1 : decode cX8_as 1 = .ok (.iload_n 1, 1) := by decide +kernel
theorem dX8_as_2 : decode cX8_as 2 = .ok (.invokevirtual 168, 3) := by decide +kernel
theorem dX8_as_5 : decode cX8_as 5 = .ok (.ifCond .eq 9, 3) := by decide +kernel
theorem dX8_as_8 : decode cX8_as 8 = .ok (.aload_n 0, 1) := by decide +kernel
theorem dX8_as_9 : decode cX8_as 9 = .ok (.iconst (-1), 1) := by decide +kernel
theorem dX8_as_10 : decode cX8_as 10 = .ok (.invokevirtual 144, 3) := by decide +kernel
theorem dX8_as_13 : decode cX8_as 13 = .ok (.ireturn, 1) := by decide +kernel
theorem dX8_as_14 : decode cX8_as 14 = .ok (.iload_n 2, 1) := by decide +kernel
theorem dX8_as_15 : decode cX8_as 15 = .ok (.i2l, 1) := by decide +kernel
theorem dX8_as_16 : decode cX8_as 16 = .ok (.lconst 0, 1) := by decide +kernel
theorem dX8_as_17 : decode cX8_as 17 = .ok (.ldc2_w 147, 3) := by decide +kernel
theorem dX8_as_20 : decode cX8_as 20 = .ok (.invokestatic 102, 3) := by decide +kernel
theorem dX8_as_23 : decode cX8_as 23 = .ok (.ifCond .ne 10, 3) := by decide +kernel
theorem dX8_as_26 : decode cX8_as 26 = .ok (.aload_n 0, 1) := by decide +kernel
theorem dX8_as_27 : decode cX8_as 27 = .ok (.bipush (-2), 2) := by decide +kernel
theorem dX8_as_29 : decode cX8_as 29 = .ok (.invokevirtual 144, 3) := by decide +kernel
theorem dX8_as_32 : decode cX8_as 32 = .ok (.ireturn, 1) := by decide +kernel
theorem dX8_as_33 : decode cX8_as 33 = .ok (.aload_n 0, 1) := by decide +kernel
theorem dX8_as_34 : decode cX8_as 34 = .ok (.getfield 7, 3) := by decide +kernel
theorem dX8_as_37 : decode cX8_as 37 = .ok (.iload_n 1, 1) := by decide +kernel
theorem dX8_as_38 : decode cX8_as 38 = .ok (.iaload, 1) := by decide +kernel
theorem dX8_as_39 : decode cX8_as 39 = .ok (.iload_n 2, 1) := by decide +kernel
theorem dX8_as_40 : decode cX8_as 40 = .ok (.if_icmp .lt 11, 3) := by decide +kernel
theorem dX8_as_43 : decode cX8_as 43 = .ok (.aload_n 0, 1) := by decide +kernel
theorem dX8_as_44 : decode cX8_as 44 = .ok (.iconst 1, 1) := by decide +kernel
theorem dX8_as_45 : decode cX8_as 45 = .ok (.invokevirtual 144, 3) := by decide +kernel
theorem dX8_as_48 : decode cX8_as 48 = .ok (.goto 8, 3) := by decide +kernel
theorem dX8_as_51 : decode cX8_as 51 = .ok (.aload_n 0, 1) := by decide +kernel
theorem dX8_as_52 : decode cX8_as 52 = .ok (.iconst 2, 1) := by decide +kernel
theorem dX8_as_53 : decode cX8_as 53 = .ok (.invokevirtual 132, 3) := by decide +kernel
theorem dX8_as_56 : decode cX8_as 56 = .ok (.ireturn, 1) := by decide +kernel
theorem dX8_trace_0 : decode cX8_trace 0 = .ok (.aload_n 0, 1) := by decide +kernel
theorem dX8_trace_1 : decode cX8_trace 1 = .ok (.getfield 267, 3) := by decide +kernel
theorem dX8_trace_4 : decode cX8_trace 4 = .ok (.ireturn, 1) := by decide +kernel
theorem dX8_fault_0 : decode cX8_fault 0 = .ok (.aload_n 0, 1) := by decide +kernel
theorem dX8_fault_1 : decode cX8_fault 1 = .ok (.getfield 91, 3) := by decide +kernel
theorem dX8_fault_4 : decode cX8_fault 4 = .ok (.ireturn, 1) := by decide +kernel
theorem dX8_many_0 : decode cX8_many 0 = .ok (.iload_n 1, 1) := by decide +kernel
theorem dX8_many_1 : decode cX8_many 1 = .ok (.tableswitch 69 0 5 #[39, 44, 49, 54, 59, 64], 39) := by decide +kernel
theorem dX8_many_40 : decode cX8_many 40 = .ok (.aload_n 0, 1) := by decide +kernel
theorem dX8_many_41 : decode cX8_many 41 = .ok (.getfield 99, 3) := by decide +kernel
theorem dX8_many_44 : decode cX8_many 44 = .ok (.ireturn, 1) := by decide +kernel
theorem dX8_many_45 : decode cX8_many 45 = .ok (.aload_n 0, 1) := by decide +kernel
theorem dX8_many_46 : decode cX8_many 46 = .ok (.getfield 106, 3) := by decide +kernel
theorem dX8_many_49 : decode cX8_many 49 = .ok (.ireturn, 1) := by decide +kernel
theorem dX8_many_50 : decode cX8_many 50 = .ok (.aload_n 0, 1) := by decide +kernel
theorem dX8_many_51 : decode cX8_many 51 = .ok (.getfield 156, 3) := by decide +kernel
theorem dX8_many_54 : decode cX8_many 54 = .ok (.ireturn, 1) := by decide +kernel
theorem dX8_many_55 : decode cX8_many 55 = .ok (.aload_n 0, 1) := by decide +kernel
theorem dX8_many_56 : decode cX8_many 56 = .ok (.getfield 159, 3) := by decide +kernel
theorem dX8_many_59 : decode cX8_many 59 = .ok (.ireturn, 1) := by decide +kernel
theorem dX8_many_60 : decode cX8_many 60 = .ok (.aload_n 0, 1) := by decide +kernel
theorem dX8_many_61 : decode cX8_many 61 = .ok (.getfield 162, 3) := by decide +kernel
theorem dX8_many_64 : decode cX8_many 64 = .ok (.ireturn, 1) := by decide +kernel
theorem dX8_many_65 : decode cX8_many 65 = .ok (.aload_n 0, 1) := by decide +kernel
theorem dX8_many_66 : decode cX8_many 66 = .ok (.getfield 165, 3) := by decide +kernel
theorem dX8_many_69 : decode cX8_many 69 = .ok (.ireturn, 1) := by decide +kernel
theorem dX8_many_70 : decode cX8_many 70 = .ok (.bipush (-2), 2) := by decide +kernel
theorem dX8_many_72 : decode cX8_many 72 = .ok (.ireturn, 1) := by decide +kernel
theorem dJ9_abs_0f7a4_0 : decode cJ9_abs_0f7a4 0 = .ok (.iload_n 0, 1) := by decide +kernel
theorem dJ9_abs_0f7a4_1 : decode cJ9_abs_0f7a4 1 = .ok (.ifCond .ge 8, 3) := by decide +kernel
theorem dJ9_abs_0f7a4_4 : decode cJ9_abs_0f7a4 4 = .ok (.iload_n 0, 1) := by decide +kernel
theorem dJ9_abs_0f7a4_5 : decode cJ9_abs_0f7a4 5 = .ok (.ineg, 1) := by decide +kernel
theorem dJ9_abs_0f7a4_6 : decode cJ9_abs_0f7a4 6 = .ok (.goto 4, 3) := by decide +kernel
theorem dJ9_abs_0f7a4_9 : decode cJ9_abs_0f7a4 9 = .ok (.iload_n 0, 1) := by decide +kernel
theorem dJ9_abs_0f7a4_10 : decode cJ9_abs_0f7a4 10 = .ok (.ireturn, 1) := by decide +kernel
theorem dJ9_max_7cf53_0 : decode cJ9_max_7cf53 0 = .ok (.iload_n 0, 1) := by decide +kernel
theorem dJ9_max_7cf53_1 : decode cJ9_max_7cf53 1 = .ok (.iload_n 1, 1) := by decide +kernel
theorem dJ9_max_7cf53_2 : decode cJ9_max_7cf53 2 = .ok (.if_icmp .lt 7, 3) := by decide +kernel
theorem dJ9_max_7cf53_5 : decode cJ9_max_7cf53 5 = .ok (.iload_n 0, 1) := by decide +kernel
theorem dJ9_max_7cf53_6 : decode cJ9_max_7cf53 6 = .ok (.goto 4, 3) := by decide +kernel
theorem dJ9_max_7cf53_9 : decode cJ9_max_7cf53 9 = .ok (.iload_n 1, 1) := by decide +kernel
theorem dJ9_max_7cf53_10 : decode cJ9_max_7cf53 10 = .ok (.ireturn, 1) := by decide +kernel
theorem dJ9_min_7cf53_0 : decode cJ9_min_7cf53 0 = .ok (.iload_n 0, 1) := by decide +kernel
theorem dJ9_min_7cf53_1 : decode cJ9_min_7cf53 1 = .ok (.iload_n 1, 1) := by decide +kernel
theorem dJ9_min_7cf53_2 : decode cJ9_min_7cf53 2 = .ok (.if_icmp .gt 7, 3) := by decide +kernel
theorem dJ9_min_7cf53_5 : decode cJ9_min_7cf53 5 = .ok (.iload_n 0, 1) := by decide +kernel
theorem dJ9_min_7cf53_6 : decode cJ9_min_7cf53 6 = .ok (.goto 4, 3) := by decide +kernel
theorem dJ9_min_7cf53_9 : decode cJ9_min_7cf53 9 = .ok (.iload_n 1, 1) := by decide +kernel
theorem dJ9_min_7cf53_10 : decode cJ9_min_7cf53 10 = .ok (.ireturn, 1) := by decide +kernel
theorem dJ7_fill_53178_0 : decode cJ7_fill_53178 0 = .ok (.iconst 0, 1) := by decide +kernel
theorem dJ7_fill_53178_1 : decode cJ7_fill_53178 1 = .ok (.istore_n 2, 1) := by decide +kernel
theorem dJ7_fill_53178_2 : decode cJ7_fill_53178 2 = .ok (.aload_n 0, 1) := by decide +kernel
theorem dJ7_fill_53178_3 : decode cJ7_fill_53178 3 = .ok (.arraylength, 1) := by decide +kernel
theorem dJ7_fill_53178_4 : decode cJ7_fill_53178 4 = .ok (.istore_n 3, 1) := by decide +kernel
theorem dJ7_fill_53178_5 : decode cJ7_fill_53178 5 = .ok (.iload_n 2, 1) := by decide +kernel
theorem dJ7_fill_53178_6 : decode cJ7_fill_53178 6 = .ok (.iload_n 3, 1) := by decide +kernel
theorem dJ7_fill_53178_7 : decode cJ7_fill_53178 7 = .ok (.if_icmp .ge 13, 3) := by decide +kernel
theorem dJ7_fill_53178_10 : decode cJ7_fill_53178 10 = .ok (.aload_n 0, 1) := by decide +kernel
theorem dJ7_fill_53178_11 : decode cJ7_fill_53178 11 = .ok (.iload_n 2, 1) := by decide +kernel
theorem dJ7_fill_53178_12 : decode cJ7_fill_53178 12 = .ok (.iload_n 1, 1) := by decide +kernel
theorem dJ7_fill_53178_13 : decode cJ7_fill_53178 13 = .ok (.iastore, 1) := by decide +kernel
theorem dJ7_fill_53178_14 : decode cJ7_fill_53178 14 = .ok (.iinc 2 1, 3) := by decide +kernel
theorem dJ7_fill_53178_17 : decode cJ7_fill_53178 17 = .ok (.goto (-12), 3) := by decide +kernel
theorem dJ7_fill_53178_20 : decode cJ7_fill_53178 20 = .ok (.return_, 1) := by decide +kernel
abbrev vwCl : List vw_C := [(RX0, TX0, 1), (RX1, TX1, 3), (RX2, TX2, 1), (RX3, TX3, 3), (RX4, TX4, 1), (RX5, TX5, 7), (RX6, TX6, 1), (RX7, TX7, 9), (RX8, TX8, 42)]
