theorem dX8_maySit_48 : decode cX8_maySit 48 = .ok (.iaload, 1) := by decide +kernel
theorem dX8_maySit_49 : decode cX8_maySit 49 = .ok (.iload_n 2, 1) := by decide +kernel
theorem dX8_maySit_50 : decode cX8_maySit 50 = .ok (.if_icmp .eq 7, 3) := by decide +kernel
theorem dX8_maySit_53 : decode cX8_maySit 53 = .ok (.iconst 1, 1) := by decide +kernel
theorem dX8_maySit_54 : decode cX8_maySit 54 = .ok (.goto 4, 3) := by decide +kernel
theorem dX8_maySit_57 : decode cX8_maySit 57 = .ok (.iconst 0, 1) := by decide +kernel
theorem dX8_maySit_58 : decode cX8_maySit 58 = .ok (.istore 4, 2) := by decide +kernel
theorem dX8_maySit_60 : decode cX8_maySit 60 = .ok (.iinc 5 1, 3) := by decide +kernel
theorem dX8_maySit_63 : decode cX8_maySit 63 = .ok (.goto (-57), 3) := by decide +kernel
theorem dX8_maySit_66 : decode cX8_maySit 66 = .ok (.iload 4, 2) := by decide +kernel
theorem dX8_maySit_68 : decode cX8_maySit 68 = .ok (.ireturn, 1) := by decide +kernel
theorem dX8_sitDown_0 : decode cX8_sitDown 0 = .ok (.aload_n 0, 1) := by decide +kernel
theorem dX8_sitDown_1 : decode cX8_sitDown 1 = .ok (.getfield 22, 3) := by decide +kernel
theorem dX8_sitDown_4 : decode cX8_sitDown 4 = .ok (.aload_n 0, 1) := by decide +kernel
theorem dX8_sitDown_5 : decode cX8_sitDown 5 = .ok (.getfield 156, 3) := by decide +kernel
theorem dX8_sitDown_8 : decode cX8_sitDown 8 = .ok (.iload_n 1, 1) := by decide +kernel
theorem dX8_sitDown_9 : decode cX8_sitDown 9 = .ok (.iastore, 1) := by decide +kernel
theorem dX8_sitDown_10 : decode cX8_sitDown 10 = .ok (.aload_n 0, 1) := by decide +kernel
theorem dX8_sitDown_11 : decode cX8_sitDown 11 = .ok (.getfield 25, 3) := by decide +kernel
theorem dX8_sitDown_14 : decode cX8_sitDown 14 = .ok (.aload_n 0, 1) := by decide +kernel
theorem dX8_sitDown_15 : decode cX8_sitDown 15 = .ok (.getfield 156, 3) := by decide +kernel
theorem dX8_sitDown_18 : decode cX8_sitDown 18 = .ok (.iload_n 2, 1) := by decide +kernel
theorem dX8_sitDown_19 : decode cX8_sitDown 19 = .ok (.iastore, 1) := by decide +kernel
theorem dX8_sitDown_20 : decode cX8_sitDown 20 = .ok (.aload_n 0, 1) := by decide +kernel
theorem dX8_sitDown_21 : decode cX8_sitDown 21 = .ok (.getfield 28, 3) := by decide +kernel
theorem dX8_sitDown_24 : decode cX8_sitDown 24 = .ok (.aload_n 0, 1) := by decide +kernel
theorem dX8_sitDown_25 : decode cX8_sitDown 25 = .ok (.getfield 156, 3) := by decide +kernel
theorem dX8_sitDown_28 : decode cX8_sitDown 28 = .ok (.iload_n 3, 1) := by decide +kernel
theorem dX8_sitDown_29 : decode cX8_sitDown 29 = .ok (.iastore, 1) := by decide +kernel
theorem dX8_sitDown_30 : decode cX8_sitDown 30 = .ok (.aload_n 0, 1) := by decide +kernel
theorem dX8_sitDown_31 : decode cX8_sitDown 31 = .ok (.dup, 1) := by decide +kernel
theorem dX8_sitDown_32 : decode cX8_sitDown 32 = .ok (.getfield 156, 3) := by decide +kernel
theorem dX8_sitDown_35 : decode cX8_sitDown 35 = .ok (.iconst 1, 1) := by decide +kernel
theorem dX8_sitDown_36 : decode cX8_sitDown 36 = .ok (.iadd, 1) := by decide +kernel
theorem dX8_sitDown_37 : decode cX8_sitDown 37 = .ok (.putfield 156, 3) := by decide +kernel
theorem dX8_sitDown_40 : decode cX8_sitDown 40 = .ok (.return_, 1) := by decide +kernel
set_option maxRecDepth 20000 in
theorem ggX8_sit_X8_noPerson : GoodIn wsX8_sit wsX8_noPerson := goodIn_r _ [6, 7, 8, 9, 5, 10, 31, 32, 33, 34, 35, 36, 37, 38, 39, 40, 41, 42, 43, 44, 45, 46, 47, 48, 49, 50, 51, 52, 53, 54, 55, 56, 57, 58, 59, 60, 61, 62, 63, 64, 65, 66, 67, 68, 69, 70, 71, 72] (by decide +kernel) (by decide +kernel)
set_option maxRecDepth 20000 in
theorem gX8_sit_X8_noPerson : GoodIn wsX8_sit (wsV RX8 168 RX8 yX8_noPerson wsX8_noPerson) := goodIn_app (goodIn_of _ (by decide +kernel)) ggX8_sit_X8_noPerson
set_option maxRecDepth 20000 in
theorem ggX8_sit_X8_noPlace : GoodIn wsX8_sit wsX8_noPlace := goodIn_r _ [14, 15, 8, 9, 5, 10, 31, 32, 33, 34, 35, 36, 37, 38, 39, 40, 41, 42, 43, 44, 45, 46, 47, 48, 49, 50, 51, 52, 53, 54, 55, 56, 57, 58, 59, 60, 61, 62, 63, 64, 65, 66, 67, 68, 69, 70, 71, 72] (by decide +kernel) (by decide +kernel)
set_option maxRecDepth 20000 in
theorem gX8_sit_X8_noPlace : GoodIn wsX8_sit (wsV RX8 177 RX8 yX8_noPlace wsX8_noPlace) := goodIn_app (goodIn_of _ (by decide +kernel)) ggX8_sit_X8_noPlace
set_option maxRecDepth 20000 in
theorem ggX8_sit_X8_isNight : GoodIn wsX8_sit wsX8_isNight := goodIn_r _ [18, 19, 8, 9, 5, 10] (by decide +kernel) (by decide +kernel)
set_option maxRecDepth 20000 in
theorem gX8_sit_X8_isNight : GoodIn wsX8_sit (va_wsS RX8 171 yX8_isNight wsX8_isNight) := goodIn_app (goodIn_of _ (by decide +kernel)) ggX8_sit_X8_isNight
set_option maxRecDepth 20000 in
theorem ggX8_sit_X8_maySit : GoodIn wsX8_sit wsX8_maySit := goodIn_r _ [23, 1, 24, 25, 26, 31, 32, 33, 34, 35, 36, 37, 38, 39, 40, 41, 42, 43, 44, 45, 46, 47, 48, 49, 50, 51, 52, 53, 54, 55, 56, 57, 58, 59, 60, 61, 62, 63, 64, 65, 66, 67, 68, 69, 70, 71, 72] (by decide +kernel) (by decide +kernel)
set_option maxRecDepth 20000 in
theorem gX8_sit_X8_maySit : GoodIn wsX8_sit (wsV RX8 180 RX8 yX8_maySit wsX8_maySit) := goodIn_app (goodIn_of _ (by decide +kernel)) ggX8_sit_X8_maySit
set_option maxRecDepth 20000 in
theorem ggX8_sit_X8_sitDown : GoodIn wsX8_sit wsX8_sitDown := goodIn_r _ [30, 25, 1, 26, 24, 31, 32, 33, 34, 35, 36, 37, 38, 39, 40, 41, 42, 43, 44, 45, 46, 47, 48, 49, 50, 51, 52, 53, 54, 55, 56, 57, 58, 59, 60, 61, 62, 63, 64, 65, 66, 67, 68, 69, 70, 71, 72] (by decide +kernel) (by decide +kernel)
set_option maxRecDepth 20000 in
theorem gX8_sit_X8_sitDown : GoodIn wsX8_sit (wsV RX8 184 RX8 yX8_sitDown wsX8_sitDown) := goodIn_app (goodIn_of _ (by decide +kernel)) ggX8_sit_X8_sitDown
theorem dX8_sit_0 : decode cX8_sit 0 = .ok (.aload_n 0, 1) := by decide +kernel
theorem dX8_sit_1 : decode cX8_sit 1 = .ok (.iload_n 1, 1) := by decide +kernel
theorem dX8_sit_2 : decode cX8_sit 2 = .ok (.invokevirtual 168, 3) := by decide +kernel
theorem dX8_sit_5 : decode cX8_sit 5 = .ok (.ifCond .ne 11, 3) := by decide +kernel
theorem dX8_sit_8 : decode cX8_sit 8 = .ok (.aload_n 0, 1) := by decide +kernel
theorem dX8_sit_9 : decode cX8_sit 9 = .ok (.iload_n 2, 1) := by decide +kernel
theorem dX8_sit_10 : decode cX8_sit 10 = .ok (.invokevirtual 177, 3) := by decide +kernel
theorem dX8_sit_13 : decode cX8_sit 13 = .ok (.ifCond .eq 5, 3) := by decide +kernel
theorem dX8_sit_16 : decode cX8_sit 16 = .ok (.iconst (-1), 1) := by decide +kernel
theorem dX8_sit_17 : decode cX8_sit 17 = .ok (.ireturn, 1) := by decide +kernel
theorem dX8_sit_18 : decode cX8_sit 18 = .ok (.iload_n 3, 1) := by decide +kernel
theorem dX8_sit_19 : decode cX8_sit 19 = .ok (.invokestatic 171, 3) := by decide +kernel
theorem dX8_sit_22 : decode cX8_sit 22 = .ok (.ifCond .ne 6, 3) := by decide +kernel
theorem dX8_sit_25 : decode cX8_sit 25 = .ok (.bipush (-2), 2) := by decide +kernel
theorem dX8_sit_27 : decode cX8_sit 27 = .ok (.ireturn, 1) := by decide +kernel
theorem dX8_sit_28 : decode cX8_sit 28 = .ok (.aload_n 0, 1) := by decide +kernel
theorem dX8_sit_29 : decode cX8_sit 29 = .ok (.iload_n 1, 1) := by decide +kernel
theorem dX8_sit_30 : decode cX8_sit 30 = .ok (.iload_n 2, 1) := by decide +kernel
theorem dX8_sit_31 : decode cX8_sit 31 = .ok (.iload_n 3, 1) := by decide +kernel
theorem dX8_sit_32 : decode cX8_sit 32 = .ok (.invokevirtual 180, 3) := by decide +kernel
theorem dX8_sit_35 : decode cX8_sit 35 = .ok (.ifCond .ne 6, 3) := by decide +kernel
theorem dX8_sit_38 : decode cX8_sit 38 = .ok (.bipush (-3), 2) := by decide +kernel
theorem dX8_sit_40 : decode cX8_sit 40 = .ok (.ireturn, 1) := by decide +kernel
theorem dX8_sit_41 : decode cX8_sit 41 = .ok (.aload_n 0, 1) := by decide +kernel
theorem dX8_sit_42 : decode cX8_sit 42 = .ok (.getfield 156, 3) := by decide +kernel
theorem dX8_sit_45 : decode cX8_sit 45 = .ok (.bipush 24, 2) := by decide +kernel
theorem dX8_sit_47 : decode cX8_sit 47 = .ok (.if_icmp .ne 6, 3) := by decide +kernel
theorem dX8_sit_50 : decode cX8_sit 50 = .ok (.bipush (-4), 2) := by decide +kernel
theorem dX8_sit_52 : decode cX8_sit 52 = .ok (.ireturn, 1) := by decide +kernel
theorem dX8_sit_53 : decode cX8_sit 53 = .ok (.aload_n 0, 1) := by decide +kernel
theorem dX8_sit_54 : decode cX8_sit 54 = .ok (.iload_n 1, 1) := by decide +kernel
theorem dX8_sit_55 : decode cX8_sit 55 = .ok (.iload_n 2, 1) := by decide +kernel
theorem dX8_sit_56 : decode cX8_sit 56 = .ok (.iload_n 3, 1) := by decide +kernel
theorem dX8_sit_57 : decode cX8_sit 57 = .ok (.invokevirtual 184, 3) := by decide +kernel
theorem dX8_sit_60 : decode cX8_sit 60 = .ok (.aload_n 0, 1) := by decide +kernel
theorem dX8_sit_61 : decode cX8_sit 61 = .ok (.getfield 156, 3) := by decide +kernel
theorem dX8_sit_64 : decode cX8_sit 64 = .ok (.iconst 1, 1) := by decide +kernel
theorem dX8_sit_65 : decode cX8_sit 65 = .ok (.isub, 1) := by decide +kernel
theorem dX8_sit_66 : decode cX8_sit 66 = .ok (.ireturn, 1) := by decide +kernel
set_option maxRecDepth 20000 in
theorem ggX8_rise_X8_in : GoodIn wsX8_rise wsX8_in := goodIn_r _ [5] (by decide +kernel) (by decide +kernel)
set_option maxRecDepth 20000 in
theorem gX8_rise_X8_in : GoodIn wsX8_rise (va_wsS RX8 102 yX8_in wsX8_in) := goodIn_app (goodIn_of _ (by decide +kernel)) ggX8_rise_X8_in
theorem dX8_rise_0 : decode cX8_rise 0 = .ok (.iload_n 1, 1) := by decide +kernel
theorem dX8_rise_1 : decode cX8_rise 1 = .ok (.i2l, 1) := by decide +kernel
theorem dX8_rise_2 : decode cX8_rise 2 = .ok (.lconst 0, 1) := by decide +kernel
theorem dX8_rise_3 : decode cX8_rise 3 = .ok (.aload_n 0, 1) := by decide +kernel
theorem dX8_rise_4 : decode cX8_rise 4 = .ok (.getfield 156, 3) := by decide +kernel
theorem dX8_rise_7 : decode cX8_rise 7 = .ok (.i2l, 1) := by decide +kernel
theorem dX8_rise_8 : decode cX8_rise 8 = .ok (.invokestatic 102, 3) := by decide +kernel
theorem dX8_rise_11 : decode cX8_rise 11 = .ok (.ifCond .ne 6, 3) := by decide +kernel
theorem dX8_rise_14 : decode cX8_rise 14 = .ok (.bipush (-2), 2) := by decide +kernel
theorem dX8_rise_16 : decode cX8_rise 16 = .ok (.ireturn, 1) := by decide +kernel
theorem dX8_rise_17 : decode cX8_rise 17 = .ok (.aload_n 0, 1) := by decide +kernel
theorem dX8_rise_18 : decode cX8_rise 18 = .ok (.dup, 1) := by decide +kernel
theorem dX8_rise_19 : decode cX8_rise 19 = .ok (.getfield 156, 3) := by decide +kernel
theorem dX8_rise_22 : decode cX8_rise 22 = .ok (.iload_n 1, 1) := by decide +kernel
theorem dX8_rise_23 : decode cX8_rise 23 = .ok (.isub, 1) := by decide +kernel
theorem dX8_rise_24 : decode cX8_rise 24 = .ok (.putfield 156, 3) := by decide +kernel
theorem dX8_rise_27 : decode cX8_rise 27 = .ok (.aload_n 0, 1) := by decide +kernel
theorem dX8_rise_28 : decode cX8_rise 28 = .ok (.getfield 156, 3) := by decide +kernel
theorem dX8_rise_31 : decode cX8_rise 31 = .ok (.ireturn, 1) := by decide +kernel
set_option maxRecDepth 20000 in
theorem ggX8_move_X8_noPlace : GoodIn wsX8_move wsX8_noPlace := goodIn_r _ [9, 10, 11, 12, 8, 13, 18, 19, 20, 21, 22, 23, 24, 25, 26, 27, 28, 29, 30, 31, 32, 33, 34, 35, 36, 37, 38, 39, 40, 41, 42, 43, 44, 45, 46, 47, 48, 49, 50, 51, 52, 53, 54, 55, 56, 57, 58, 59] (by decide +kernel) (by decide +kernel)
set_option maxRecDepth 20000 in
theorem gX8_move_X8_noPlace : GoodIn wsX8_move (wsV RX8 177 RX8 yX8_noPlace wsX8_noPlace) := goodIn_app (goodIn_of _ (by decide +kernel)) ggX8_move_X8_noPlace
set_option maxRecDepth 20000 in
theorem ggX8_move_X8_isNight : GoodIn wsX8_move wsX8_isNight := goodIn_r _ [16, 17, 11, 12, 8, 13] (by decide +kernel) (by decide +kernel)
set_option maxRecDepth 20000 in
theorem gX8_move_X8_isNight : GoodIn wsX8_move (va_wsS RX8 171 yX8_isNight wsX8_isNight) := goodIn_app (goodIn_of _ (by decide +kernel)) ggX8_move_X8_isNight
theorem dX8_move_0 : decode cX8_move 0 = .ok (.aload_n 0, 1) := by decide +kernel
theorem dX8_move_1 : decode cX8_move 1 = .ok (.iload_n 1, 1) := by decide +kernel
theorem dX8_move_2 : decode cX8_move 2 = .ok (.invokevirtual 177, 3) := by decide +kernel
theorem dX8_move_5 : decode cX8_move 5 = .ok (.ifCond .ne 16, 3) := by decide +kernel
theorem dX8_move_8 : decode cX8_move 8 = .ok (.aload_n 0, 1) := by decide +kernel
theorem dX8_move_9 : decode cX8_move 9 = .ok (.iload_n 2, 1) := by decide +kernel
theorem dX8_move_10 : decode cX8_move 10 = .ok (.invokevirtual 177, 3) := by decide +kernel
theorem dX8_move_13 : decode cX8_move 13 = .ok (.ifCond .ne 8, 3) := by decide +kernel
theorem dX8_move_16 : decode cX8_move 16 = .ok (.iload_n 1, 1) := by decide +kernel
theorem dX8_move_17 : decode cX8_move 17 = .ok (.iload_n 2, 1) := by decide +kernel
theorem dX8_move_18 : decode cX8_move 18 = .ok (.if_icmp .ne 5, 3) := by decide +kernel
theorem dX8_move_21 : decode cX8_move 21 = .ok (.iconst (-1), 1) := by decide +kernel
theorem dX8_move_22 : decode cX8_move 22 = .ok (.ireturn, 1) := by decide +kernel
theorem dX8_move_23 : decode cX8_move 23 = .ok (.iload_n 3, 1) := by decide +kernel
theorem dX8_move_24 : decode cX8_move 24 = .ok (.invokestatic 171, 3) := by decide +kernel
theorem dX8_move_27 : decode cX8_move 27 = .ok (.ifCond .ne 6, 3) := by decide +kernel
theorem dX8_move_30 : decode cX8_move 30 = .ok (.bipush (-2), 2) := by decide +kernel
theorem dX8_move_32 : decode cX8_move 32 = .ok (.ireturn, 1) := by decide +kernel
theorem dX8_move_33 : decode cX8_move 33 = .ok (.aload_n 0, 1) := by decide +kernel
theorem dX8_move_34 : decode cX8_move 34 = .ok (.getfield 159, 3) := by decide +kernel
theorem dX8_move_37 : decode cX8_move 37 = .ok (.bipush 6, 2) := by decide +kernel
theorem dX8_move_39 : decode cX8_move 39 = .ok (.if_icmp .ne 6, 3) := by decide +kernel
theorem dX8_move_42 : decode cX8_move 42 = .ok (.bipush (-4), 2) := by decide +kernel
theorem dX8_move_44 : decode cX8_move 44 = .ok (.ireturn, 1) := by decide +kernel
theorem dX8_move_45 : decode cX8_move 45 = .ok (.aload_n 0, 1) := by decide +kernel
theorem dX8_move_46 : decode cX8_move 46 = .ok (.getfield 31, 3) := by decide +kernel
theorem dX8_move_49 : decode cX8_move 49 = .ok (.aload_n 0, 1) := by decide +kernel
theorem dX8_move_50 : decode cX8_move 50 = .ok (.getfield 159, 3) := by decide +kernel
theorem dX8_move_53 : decode cX8_move 53 = .ok (.iload_n 1, 1) := by decide +kernel
theorem dX8_move_54 : decode cX8_move 54 = .ok (.iastore, 1) := by decide +kernel
theorem dX8_move_55 : decode cX8_move 55 = .ok (.aload_n 0, 1) := by decide +kernel
theorem dX8_move_56 : decode cX8_move 56 = .ok (.getfield 34, 3) := by decide +kernel
theorem dX8_move_59 : decode cX8_move 59 = .ok (.aload_n 0, 1) := by decide +kernel
theorem dX8_move_60 : decode cX8_move 60 = .ok (.getfield 159, 3) := by decide +kernel
theorem dX8_move_63 : decode cX8_move 63 = .ok (.iload_n 2, 1) := by decide +kernel
theorem dX8_move_64 : decode cX8_move 64 = .ok (.iastore, 1) := by decide +kernel
theorem dX8_move_65 : decode cX8_move 65 = .ok (.aload_n 0, 1) := by decide +kernel
theorem dX8_move_66 : decode cX8_move 66 = .ok (.getfield 37, 3) := by decide +kernel
theorem dX8_move_69 : decode cX8_move 69 = .ok (.aload_n 0, 1) := by decide +kernel
theorem dX8_move_70 : decode cX8_move 70 = .ok (.getfield 159, 3) := by decide +kernel
theorem dX8_move_73 : decode cX8_move 73 = .ok (.iload_n 3, 1) := by decide +kernel
theorem dX8_move_74 : decode cX8_move 74 = .ok (.iastore, 1) := by decide +kernel
theorem dX8_move_75 : decode cX8_move 75 = .ok (.aload_n 0, 1) := by decide +kernel
theorem dX8_move_76 : decode cX8_move 76 = .ok (.dup, 1) := by decide +kernel
theorem dX8_move_77 : decode cX8_move 77 = .ok (.getfield 159, 3) := by decide +kernel
theorem dX8_move_80 : decode cX8_move 80 = .ok (.iconst 1, 1) := by decide +kernel
theorem dX8_move_81 : decode cX8_move 81 = .ok (.iadd, 1) := by decide +kernel
theorem dX8_move_82 : decode cX8_move 82 = .ok (.putfield 159, 3) := by decide +kernel
theorem dX8_move_85 : decode cX8_move 85 = .ok (.aload_n 0, 1) := by decide +kernel
theorem dX8_move_86 : decode cX8_move 86 = .ok (.getfield 159, 3) := by decide +kernel
theorem dX8_move_89 : decode cX8_move 89 = .ok (.iconst 1, 1) := by decide +kernel
theorem dX8_move_90 : decode cX8_move 90 = .ok (.isub, 1) := by decide +kernel
theorem dX8_move_91 : decode cX8_move 91 = .ok (.ireturn, 1) := by decide +kernel
set_option maxRecDepth 20000 in
theorem ggX8_unmove_X8_in : GoodIn wsX8_unmove wsX8_in := goodIn_r _ [5] (by decide +kernel) (by decide +kernel)
set_option maxRecDepth 20000 in
theorem gX8_unmove_X8_in : GoodIn wsX8_unmove (va_wsS RX8 102 yX8_in wsX8_in) := goodIn_app (goodIn_of _ (by decide +kernel)) ggX8_unmove_X8_in
theorem dX8_unmove_0 : decode cX8_unmove 0 = .ok (.iload_n 1, 1) := by decide +kernel
theorem dX8_unmove_1 : decode cX8_unmove 1 = .ok (.i2l, 1) := by decide +kernel
theorem dX8_unmove_2 : decode cX8_unmove 2 = .ok (.lconst 0, 1) := by decide +kernel
theorem dX8_unmove_3 : decode cX8_unmove 3 = .ok (.aload_n 0, 1) := by decide +kernel
theorem dX8_unmove_4 : decode cX8_unmove 4 = .ok (.getfield 159, 3) := by decide +kernel
theorem dX8_unmove_7 : decode cX8_unmove 7 = .ok (.i2l, 1) := by decide +kernel
theorem dX8_unmove_8 : decode cX8_unmove 8 = .ok (.invokestatic 102, 3) := by decide +kernel
theorem dX8_unmove_11 : decode cX8_unmove 11 = .ok (.ifCond .ne 6, 3) := by decide +kernel
theorem dX8_unmove_14 : decode cX8_unmove 14 = .ok (.bipush (-2), 2) := by decide +kernel
theorem dX8_unmove_16 : decode cX8_unmove 16 = .ok (.ireturn, 1) := by decide +kernel
theorem dX8_unmove_17 : decode cX8_unmove 17 = .ok (.aload_n 0, 1) := by decide +kernel
theorem dX8_unmove_18 : decode cX8_unmove 18 = .ok (.dup, 1) := by decide +kernel
theorem dX8_unmove_19 : decode cX8_unmove 19 = .ok (.getfield 159, 3) := by decide +kernel
theorem dX8_unmove_22 : decode cX8_unmove 22 = .ok (.iload_n 1, 1) := by decide +kernel
theorem dX8_unmove_23 : decode cX8_unmove 23 = .ok (.isub, 1) := by decide +kernel
theorem dX8_unmove_24 : decode cX8_unmove 24 = .ok (.putfield 159, 3) := by decide +kernel
theorem dX8_unmove_27 : decode cX8_unmove 27 = .ok (.aload_n 0, 1) := by decide +kernel
theorem dX8_unmove_28 : decode cX8_unmove 28 = .ok (.getfield 159, 3) := by decide +kernel
theorem dX8_unmove_31 : decode cX8_unmove 31 = .ok (.ireturn, 1) := by decide +kernel
set_option maxRecDepth 20000 in
theorem ggX8_scrape_X8_noPlace : GoodIn wsX8_scrape wsX8_noPlace := goodIn_r _ [8, 9, 10, 11, 7, 12, 17, 18, 19, 20, 21, 22, 23, 24, 25, 26, 27, 28, 29, 30, 31, 32, 33, 34, 35, 36, 37, 38, 39, 40, 41, 42, 43, 44, 45, 46, 47, 48, 49, 50, 51, 52, 53, 54, 55, 56, 57, 58] (by decide +kernel) (by decide +kernel)
set_option maxRecDepth 20000 in
theorem gX8_scrape_X8_noPlace : GoodIn wsX8_scrape (wsV RX8 177 RX8 yX8_noPlace wsX8_noPlace) := goodIn_app (goodIn_of _ (by decide +kernel)) ggX8_scrape_X8_noPlace
set_option maxRecDepth 20000 in
theorem ggX8_scrape_X8_isNight : GoodIn wsX8_scrape wsX8_isNight := goodIn_r _ [15, 16, 10, 11, 7, 12] (by decide +kernel) (by decide +kernel)
set_option maxRecDepth 20000 in
theorem gX8_scrape_X8_isNight : GoodIn wsX8_scrape (va_wsS RX8 171 yX8_isNight wsX8_isNight) := goodIn_app (goodIn_of _ (by decide +kernel)) ggX8_scrape_X8_isNight
theorem dX8_scrape_0 : decode cX8_scrape 0 = .ok (.aload_n 0, 1) := by decide +kernel
theorem dX8_scrape_1 : decode cX8_scrape 1 = .ok (.iload_n 1, 1) := by decide +kernel
theorem dX8_scrape_2 : decode cX8_scrape 2 = .ok (.invokevirtual 177, 3) := by decide +kernel
theorem dX8_scrape_5 : decode cX8_scrape 5 = .ok (.ifCond .eq 5, 3) := by decide +kernel
theorem dX8_scrape_8 : decode cX8_scrape 8 = .ok (.iconst (-1), 1) := by decide +kernel
theorem dX8_scrape_9 : decode cX8_scrape 9 = .ok (.ireturn, 1) := by decide +kernel
theorem dX8_scrape_10 : decode cX8_scrape 10 = .ok (.iload_n 2, 1) := by decide +kernel
theorem dX8_scrape_11 : decode cX8_scrape 11 = .ok (.invokestatic 171, 3) := by decide +kernel
theorem dX8_scrape_14 : decode cX8_scrape 14 = .ok (.ifCond .ne 6, 3) := by decide +kernel
theorem dX8_scrape_17 : decode cX8_scrape 17 = .ok (.bipush (-2), 2) := by decide +kernel
theorem dX8_scrape_19 : decode cX8_scrape 19 = .ok (.ireturn, 1) := by decide +kernel
theorem dX8_scrape_20 : decode cX8_scrape 20 = .ok (.aload_n 0, 1) := by decide +kernel
theorem dX8_scrape_21 : decode cX8_scrape 21 = .ok (.getfield 162, 3) := by decide +kernel
theorem dX8_scrape_24 : decode cX8_scrape 24 = .ok (.bipush 6, 2) := by decide +kernel
theorem dX8_scrape_26 : decode cX8_scrape 26 = .ok (.if_icmp .ne 6, 3) := by decide +kernel
theorem dX8_scrape_29 : decode cX8_scrape 29 = .ok (.bipush (-4), 2) := by decide +kernel
theorem dX8_scrape_31 : decode cX8_scrape 31 = .ok (.ireturn, 1) := by decide +kernel
theorem dX8_scrape_32 : decode cX8_scrape 32 = .ok (.aload_n 0, 1) := by decide +kernel
theorem dX8_scrape_33 : decode cX8_scrape 33 = .ok (.getfield 40, 3) := by decide +kernel
theorem dX8_scrape_36 : decode cX8_scrape 36 = .ok (.aload_n 0, 1) := by decide +kernel
theorem dX8_scrape_37 : decode cX8_scrape 37 = .ok (.getfield 162, 3) := by decide +kernel
theorem dX8_scrape_40 : decode cX8_scrape 40 = .ok (.iload_n 1, 1) := by decide +kernel
theorem dX8_scrape_41 : decode cX8_scrape 41 = .ok (.iastore, 1) := by decide +kernel
theorem dX8_scrape_42 : decode cX8_scrape 42 = .ok (.aload_n 0, 1) := by decide +kernel
theorem dX8_scrape_43 : decode cX8_scrape 43 = .ok (.getfield 43, 3) := by decide +kernel
theorem dX8_scrape_46 : decode cX8_scrape 46 = .ok (.aload_n 0, 1) := by decide +kernel
theorem dX8_scrape_47 : decode cX8_scrape 47 = .ok (.getfield 162, 3) := by decide +kernel
theorem dX8_scrape_50 : decode cX8_scrape 50 = .ok (.iload_n 2, 1) := by decide +kernel
theorem dX8_scrape_51 : decode cX8_scrape 51 = .ok (.iastore, 1) := by decide +kernel
theorem dX8_scrape_52 : decode cX8_scrape 52 = .ok (.aload_n 0, 1) := by decide +kernel
theorem dX8_scrape_53 : decode cX8_scrape 53 = .ok (.dup, 1) := by decide +kernel
theorem dX8_scrape_54 : decode cX8_scrape 54 = .ok (.getfield 162, 3) := by decide +kernel
theorem dX8_scrape_57 : decode cX8_scrape 57 = .ok (.iconst 1, 1) := by decide +kernel
theorem dX8_scrape_58 : decode cX8_scrape 58 = .ok (.iadd, 1) := by decide +kernel
theorem dX8_scrape_59 : decode cX8_scrape 59 = .ok (.putfield 162, 3) := by decide +kernel
theorem dX8_scrape_62 : decode cX8_scrape 62 = .ok (.aload_n 0, 1) := by decide +kernel
theorem dX8_scrape_63 : decode cX8_scrape 63 = .ok (.getfield 162, 3) := by decide +kernel
theorem dX8_scrape_66 : decode cX8_scrape 66 = .ok (.iconst 1, 1) := by decide +kernel
theorem dX8_scrape_67 : decode cX8_scrape 67 = .ok (.isub, 1) := by decide +kernel
theorem dX8_scrape_68 : decode cX8_scrape 68 = .ok (.ireturn, 1) := by decide +kernel
set_option maxRecDepth 20000 in
theorem ggX8_unscrape_X8_in : GoodIn wsX8_unscrape wsX8_in := goodIn_r _ [5] (by decide +kernel) (by decide +kernel)
set_option maxRecDepth 20000 in
theorem gX8_unscrape_X8_in : GoodIn wsX8_unscrape (va_wsS RX8 102 yX8_in wsX8_in) := goodIn_app (goodIn_of _ (by decide +kernel)) ggX8_unscrape_X8_in
theorem dX8_unscrape_0 : decode cX8_unscrape 0 = .ok (.iload_n 1, 1) := by decide +kernel
theorem dX8_unscrape_1 : decode cX8_unscrape 1 = .ok (.i2l, 1) := by decide +kernel
theorem dX8_unscrape_2 : decode cX8_unscrape 2 = .ok (.lconst 0, 1) := by decide +kernel
theorem dX8_unscrape_3 : decode cX8_unscrape 3 = .ok (.aload_n 0, 1) := by decide +kernel
theorem dX8_unscrape_4 : decode cX8_unscrape 4 = .ok (.getfield 162, 3) := by decide +kernel
theorem dX8_unscrape_7 : decode cX8_unscrape 7 = .ok (.i2l, 1) := by decide +kernel
theorem dX8_unscrape_8 : decode cX8_unscrape 8 = .ok (.invokestatic 102, 3) := by decide +kernel
theorem dX8_unscrape_11 : decode cX8_unscrape 11 = .ok (.ifCond .ne 6, 3) := by decide +kernel
theorem dX8_unscrape_14 : decode cX8_unscrape 14 = .ok (.bipush (-2), 2) := by decide +kernel
theorem dX8_unscrape_16 : decode cX8_unscrape 16 = .ok (.ireturn, 1) := by decide +kernel
theorem dX8_unscrape_17 : decode cX8_unscrape 17 = .ok (.aload_n 0, 1) := by decide +kernel
theorem dX8_unscrape_18 : decode cX8_unscrape 18 = .ok (.dup, 1) := by decide +kernel
theorem dX8_unscrape_19 : decode cX8_unscrape 19 = .ok (.getfield 162, 3) := by decide +kernel
theorem dX8_unscrape_22 : decode cX8_unscrape 22 = .ok (.iload_n 1, 1) := by decide +kernel
theorem dX8_unscrape_23 : decode cX8_unscrape 23 = .ok (.isub, 1) := by decide +kernel
theorem dX8_unscrape_24 : decode cX8_unscrape 24 = .ok (.putfield 162, 3) := by decide +kernel
theorem dX8_unscrape_27 : decode cX8_unscrape 27 = .ok (.aload_n 0, 1) := by decide +kernel
theorem dX8_unscrape_28 : decode cX8_unscrape 28 = .ok (.getfield 162, 3) := by decide +kernel
theorem dX8_unscrape_31 : decode cX8_unscrape 31 = .ok (.ireturn, 1) := by decide +kernel
theorem dX8_meanNothing_0 : decode cX8_meanNothing 0 = .ok (.aload_n 0, 1) := by decide +kernel
theorem dX8_meanNothing_1 : decode cX8_meanNothing 1 = .ok (.bipush (-9), 2) := by decide +kernel
theorem dX8_meanNothing_3 : decode cX8_meanNothing 3 = .ok (.putfield 188, 3) := by decide +kernel
theorem dX8_meanNothing_6 : decode cX8_meanNothing 6 = .ok (.aload_n 0, 1) := by decide +kernel
theorem dX8_meanNothing_7 : decode cX8_meanNothing 7 = .ok (.bipush (-9), 2) := by decide +kernel
theorem dX8_meanNothing_9 : decode cX8_meanNothing 9 = .ok (.putfield 191, 3) := by decide +kernel
theorem dX8_meanNothing_12 : decode cX8_meanNothing 12 = .ok (.aload_n 0, 1) := by decide +kernel
theorem dX8_meanNothing_13 : decode cX8_meanNothing 13 = .ok (.bipush (-9), 2) := by decide +kernel
theorem dX8_meanNothing_15 : decode cX8_meanNothing 15 = .ok (.putfield 194, 3) := by decide +kernel
theorem dX8_meanNothing_18 : decode cX8_meanNothing 18 = .ok (.return_, 1) := by decide +kernel
theorem dX8_changeChairs_0 : decode cX8_changeChairs 0 = .ok (.aload_n 0, 1) := by decide +kernel
theorem dX8_changeChairs_1 : decode cX8_changeChairs 1 = .ok (.getfield 46, 3) := by decide +kernel
theorem dX8_changeChairs_4 : decode cX8_changeChairs 4 = .ok (.iload_n 1, 1) := by decide +kernel
theorem dX8_changeChairs_5 : decode cX8_changeChairs 5 = .ok (.iaload, 1) := by decide +kernel
theorem dX8_changeChairs_6 : decode cX8_changeChairs 6 = .ok (.istore_n 3, 1) := by decide +kernel
theorem dX8_changeChairs_7 : decode cX8_changeChairs 7 = .ok (.aload_n 0, 1) := by decide +kernel
theorem dX8_changeChairs_8 : decode cX8_changeChairs 8 = .ok (.getfield 46, 3) := by decide +kernel
theorem dX8_changeChairs_11 : decode cX8_changeChairs 11 = .ok (.iload_n 1, 1) := by decide +kernel
theorem dX8_changeChairs_12 : decode cX8_changeChairs 12 = .ok (.aload_n 0, 1) := by decide +kernel
theorem dX8_changeChairs_13 : decode cX8_changeChairs 13 = .ok (.getfield 46, 3) := by decide +kernel
theorem dX8_changeChairs_16 : decode cX8_changeChairs 16 = .ok (.iload_n 2, 1) := by decide +kernel
theorem dX8_changeChairs_17 : decode cX8_changeChairs 17 = .ok (.iaload, 1) := by decide +kernel
theorem dX8_changeChairs_18 : decode cX8_changeChairs 18 = .ok (.iastore, 1) := by decide +kernel
theorem dX8_changeChairs_19 : decode cX8_changeChairs 19 = .ok (.aload_n 0, 1) := by decide +kernel
theorem dX8_changeChairs_20 : decode cX8_changeChairs 20 = .ok (.getfield 46, 3) := by decide +kernel
theorem dX8_changeChairs_23 : decode cX8_changeChairs 23 = .ok (.iload_n 2, 1) := by decide +kernel
theorem dX8_changeChairs_24 : decode cX8_changeChairs 24 = .ok (.iload_n 3, 1) := by decide +kernel
theorem dX8_changeChairs_25 : decode cX8_changeChairs 25 = .ok (.iastore, 1) := by decide +kernel
theorem dX8_changeChairs_26 : decode cX8_changeChairs 26 = .ok (.return_, 1) := by decide +kernel
set_option maxRecDepth 20000 in
theorem ggX8_goNight_X8_changeChairs : GoodIn wsX8_goNight wsX8_changeChairs := goodIn_r _ [24, 3, 25, 26, 27, 28, 29, 30, 31, 32, 33, 34, 35, 36, 37, 38, 39, 40, 41, 42, 43, 44, 45, 46, 47, 48, 49, 50, 51, 52, 53, 54, 55, 56, 57, 58, 59, 60, 61, 62, 63, 64, 65, 66] (by decide +kernel) (by decide +kernel)
set_option maxRecDepth 20000 in
theorem gX8_goNight_X8_changeChairs : GoodIn wsX8_goNight (wsV RX8 200 RX8 yX8_changeChairs wsX8_changeChairs) := goodIn_app (goodIn_of _ (by decide +kernel)) ggX8_goNight_X8_changeChairs
theorem dX8_goNight_0 : decode cX8_goNight 0 = .ok (.aload_n 0, 1) := by decide +kernel
theorem dX8_goNight_1 : decode cX8_goNight 1 = .ok (.getfield 194, 3) := by decide +kernel
theorem dX8_goNight_4 : decode cX8_goNight 4 = .ok (.iload_n 1, 1) := by decide +kernel
theorem dX8_goNight_5 : decode cX8_goNight 5 = .ok (.if_icmp .ne 18, 3) := by decide +kernel
theorem dX8_goNight_8 : decode cX8_goNight 8 = .ok (.aload_n 0, 1) := by decide +kernel
theorem dX8_goNight_9 : decode cX8_goNight 9 = .ok (.getfield 49, 3) := by decide +kernel
theorem dX8_goNight_12 : decode cX8_goNight 12 = .ok (.aload_n 0, 1) := by decide +kernel
theorem dX8_goNight_13 : decode cX8_goNight 13 = .ok (.getfield 46, 3) := by decide +kernel
theorem dX8_goNight_16 : decode cX8_goNight 16 = .ok (.aload_n 0, 1) := by decide +kernel
theorem dX8_goNight_17 : decode cX8_goNight 17 = .ok (.getfield 197, 3) := by decide +kernel
theorem dX8_goNight_20 : decode cX8_goNight 20 = .ok (.iaload, 1) := by decide +kernel
theorem dX8_goNight_21 : decode cX8_goNight 21 = .ok (.iconst 0, 1) := by decide +kernel
theorem dX8_goNight_22 : decode cX8_goNight 22 = .ok (.iastore, 1) := by decide +kernel
theorem dX8_goNight_23 : decode cX8_goNight 23 = .ok (.iconst 0, 1) := by decide +kernel
theorem dX8_goNight_24 : decode cX8_goNight 24 = .ok (.istore_n 2, 1) := by decide +kernel
theorem dX8_goNight_25 : decode cX8_goNight 25 = .ok (.iload_n 2, 1) := by decide +kernel
theorem dX8_goNight_26 : decode cX8_goNight 26 = .ok (.aload_n 0, 1) := by decide +kernel
theorem dX8_goNight_27 : decode cX8_goNight 27 = .ok (.getfield 162, 3) := by decide +kernel
theorem dX8_goNight_30 : decode cX8_goNight 30 = .ok (.if_icmp .ge 36, 3) := by decide +kernel
theorem dX8_goNight_33 : decode cX8_goNight 33 = .ok (.aload_n 0, 1) := by decide +kernel
theorem dX8_goNight_34 : decode cX8_goNight 34 = .ok (.getfield 43, 3) := by decide +kernel
theorem dX8_goNight_37 : decode cX8_goNight 37 = .ok (.iload_n 2, 1) := by decide +kernel
theorem dX8_goNight_38 : decode cX8_goNight 38 = .ok (.iaload, 1) := by decide +kernel
theorem dX8_goNight_39 : decode cX8_goNight 39 = .ok (.iload_n 1, 1) := by decide +kernel
theorem dX8_goNight_40 : decode cX8_goNight 40 = .ok (.if_icmp .ne 20, 3) := by decide +kernel
theorem dX8_goNight_43 : decode cX8_goNight 43 = .ok (.aload_n 0, 1) := by decide +kernel
theorem dX8_goNight_44 : decode cX8_goNight 44 = .ok (.getfield 49, 3) := by decide +kernel
theorem dX8_goNight_47 : decode cX8_goNight 47 = .ok (.aload_n 0, 1) := by decide +kernel
theorem dX8_goNight_48 : decode cX8_goNight 48 = .ok (.getfield 46, 3) := by decide +kernel
theorem dX8_goNight_51 : decode cX8_goNight 51 = .ok (.aload_n 0, 1) := by decide +kernel
theorem dX8_goNight_52 : decode cX8_goNight 52 = .ok (.getfield 40, 3) := by decide +kernel
theorem dX8_goNight_55 : decode cX8_goNight 55 = .ok (.iload_n 2, 1) := by decide +kernel
theorem dX8_goNight_56 : decode cX8_goNight 56 = .ok (.iaload, 1) := by decide +kernel
theorem dX8_goNight_57 : decode cX8_goNight 57 = .ok (.iaload, 1) := by decide +kernel
theorem dX8_goNight_58 : decode cX8_goNight 58 = .ok (.iconst 0, 1) := by decide +kernel
theorem dX8_goNight_59 : decode cX8_goNight 59 = .ok (.iastore, 1) := by decide +kernel
theorem dX8_goNight_60 : decode cX8_goNight 60 = .ok (.iinc 2 1, 3) := by decide +kernel
theorem dX8_goNight_63 : decode cX8_goNight 63 = .ok (.goto (-38), 3) := by decide +kernel
theorem dX8_goNight_66 : decode cX8_goNight 66 = .ok (.iconst 0, 1) := by decide +kernel
theorem dX8_goNight_67 : decode cX8_goNight 67 = .ok (.istore_n 2, 1) := by decide +kernel
theorem dX8_goNight_68 : decode cX8_goNight 68 = .ok (.iload_n 2, 1) := by decide +kernel
theorem dX8_goNight_69 : decode cX8_goNight 69 = .ok (.aload_n 0, 1) := by decide +kernel
theorem dX8_goNight_70 : decode cX8_goNight 70 = .ok (.getfield 159, 3) := by decide +kernel
theorem dX8_goNight_73 : decode cX8_goNight 73 = .ok (.if_icmp .ge 35, 3) := by decide +kernel
theorem dX8_goNight_76 : decode cX8_goNight 76 = .ok (.aload_n 0, 1) := by decide +kernel
theorem dX8_goNight_77 : decode cX8_goNight 77 = .ok (.getfield 37, 3) := by decide +kernel
theorem dX8_goNight_80 : decode cX8_goNight 80 = .ok (.iload_n 2, 1) := by decide +kernel
theorem dX8_goNight_81 : decode cX8_goNight 81 = .ok (.iaload, 1) := by decide +kernel
theorem dX8_goNight_82 : decode cX8_goNight 82 = .ok (.iload_n 1, 1) := by decide +kernel
theorem dX8_goNight_83 : decode cX8_goNight 83 = .ok (.if_icmp .ne 19, 3) := by decide +kernel
theorem dX8_goNight_86 : decode cX8_goNight 86 = .ok (.aload_n 0, 1) := by decide +kernel
theorem dX8_goNight_87 : decode cX8_goNight 87 = .ok (.aload_n 0, 1) := by decide +kernel
theorem dX8_goNight_88 : decode cX8_goNight 88 = .ok (.getfield 31, 3) := by decide +kernel
theorem dX8_goNight_91 : decode cX8_goNight 91 = .ok (.iload_n 2, 1) := by decide +kernel
theorem dX8_goNight_92 : decode cX8_goNight 92 = .ok (.iaload, 1) := by decide +kernel
theorem dX8_goNight_93 : decode cX8_goNight 93 = .ok (.aload_n 0, 1) := by decide +kernel
theorem dX8_goNight_94 : decode cX8_goNight 94 = .ok (.getfield 34, 3) := by decide +kernel
theorem dX8_goNight_97 : decode cX8_goNight 97 = .ok (.iload_n 2, 1) := by decide +kernel
theorem dX8_goNight_98 : decode cX8_goNight 98 = .ok (.iaload, 1) := by decide +kernel
theorem dX8_goNight_99 : decode cX8_goNight 99 = .ok (.invokevirtual 200, 3) := by decide +kernel
theorem dX8_goNight_102 : decode cX8_goNight 102 = .ok (.iinc 2 1, 3) := by decide +kernel
theorem dX8_goNight_105 : decode cX8_goNight 105 = .ok (.goto (-37), 3) := by decide +kernel
theorem dX8_goNight_108 : decode cX8_goNight 108 = .ok (.aload_n 0, 1) := by decide +kernel
theorem dX8_goNight_109 : decode cX8_goNight 109 = .ok (.getfield 191, 3) := by decide +kernel
theorem dX8_goNight_112 : decode cX8_goNight 112 = .ok (.iload_n 1, 1) := by decide +kernel
theorem dX8_goNight_113 : decode cX8_goNight 113 = .ok (.if_icmp .ne 15, 3) := by decide +kernel
theorem dX8_goNight_116 : decode cX8_goNight 116 = .ok (.aload_n 0, 1) := by decide +kernel
theorem dX8_goNight_117 : decode cX8_goNight 117 = .ok (.aload_n 0, 1) := by decide +kernel
theorem dX8_goNight_118 : decode cX8_goNight 118 = .ok (.getfield 204, 3) := by decide +kernel
theorem dX8_goNight_121 : decode cX8_goNight 121 = .ok (.aload_n 0, 1) := by decide +kernel
theorem dX8_goNight_122 : decode cX8_goNight 122 = .ok (.getfield 207, 3) := by decide +kernel
theorem dX8_goNight_125 : decode cX8_goNight 125 = .ok (.invokevirtual 200, 3) := by decide +kernel
theorem dX8_goNight_128 : decode cX8_goNight 128 = .ok (.iconst 0, 1) := by decide +kernel
theorem dX8_goNight_129 : decode cX8_goNight 129 = .ok (.istore_n 2, 1) := by decide +kernel
theorem dX8_goNight_130 : decode cX8_goNight 130 = .ok (.iload_n 2, 1) := by decide +kernel
theorem dX8_goNight_131 : decode cX8_goNight 131 = .ok (.aload_n 0, 1) := by decide +kernel
theorem dX8_goNight_132 : decode cX8_goNight 132 = .ok (.getfield 156, 3) := by decide +kernel
theorem dX8_goNight_135 : decode cX8_goNight 135 = .ok (.if_icmp .ge 66, 3) := by decide +kernel
theorem dX8_goNight_138 : decode cX8_goNight 138 = .ok (.aload_n 0, 1) := by decide +kernel
theorem dX8_goNight_139 : decode cX8_goNight 139 = .ok (.getfield 28, 3) := by decide +kernel
theorem dX8_goNight_142 : decode cX8_goNight 142 = .ok (.iload_n 2, 1) := by decide +kernel
theorem dX8_goNight_143 : decode cX8_goNight 143 = .ok (.iaload, 1) := by decide +kernel
theorem dX8_goNight_144 : decode cX8_goNight 144 = .ok (.iload_n 1, 1) := by decide +kernel
theorem dX8_goNight_145 : decode cX8_goNight 145 = .ok (.if_icmp .ne 50, 3) := by decide +kernel
theorem dX8_goNight_148 : decode cX8_goNight 148 = .ok (.iload_n 2, 1) := by decide +kernel
theorem dX8_goNight_149 : decode cX8_goNight 149 = .ok (.aload_n 0, 1) := by decide +kernel
theorem dX8_goNight_150 : decode cX8_goNight 150 = .ok (.getfield 188, 3) := by decide +kernel
theorem dX8_goNight_153 : decode cX8_goNight 153 = .ok (.if_icmp .eq 42, 3) := by decide +kernel
theorem dX8_goNight_156 : decode cX8_goNight 156 = .ok (.aload_n 0, 1) := by decide +kernel
theorem dX8_goNight_157 : decode cX8_goNight 157 = .ok (.getfield 46, 3) := by decide +kernel
theorem dX8_goNight_160 : decode cX8_goNight 160 = .ok (.aload_n 0, 1) := by decide +kernel
theorem dX8_goNight_161 : decode cX8_goNight 161 = .ok (.getfield 25, 3) := by decide +kernel
theorem dX8_goNight_164 : decode cX8_goNight 164 = .ok (.iload_n 2, 1) := by decide +kernel
theorem dX8_goNight_165 : decode cX8_goNight 165 = .ok (.iaload, 1) := by decide +kernel
theorem dX8_goNight_166 : decode cX8_goNight 166 = .ok (.iaload, 1) := by decide +kernel
theorem dX8_goNight_167 : decode cX8_goNight 167 = .ok (.istore_n 3, 1) := by decide +kernel
theorem dX8_goNight_168 : decode cX8_goNight 168 = .ok (.aload_n 0, 1) := by decide +kernel
theorem dX8_goNight_169 : decode cX8_goNight 169 = .ok (.getfield 52, 3) := by decide +kernel
theorem dX8_goNight_172 : decode cX8_goNight 172 = .ok (.bipush 25, 2) := by decide +kernel
theorem dX8_goNight_174 : decode cX8_goNight 174 = .ok (.iload_n 3, 1) := by decide +kernel
theorem dX8_goNight_175 : decode cX8_goNight 175 = .ok (.imul, 1) := by decide +kernel
theorem dX8_goNight_176 : decode cX8_goNight 176 = .ok (.aload_n 0, 1) := by decide +kernel
theorem dX8_goNight_177 : decode cX8_goNight 177 = .ok (.getfield 49, 3) := by decide +kernel
theorem dX8_goNight_180 : decode cX8_goNight 180 = .ok (.iload_n 3, 1) := by decide +kernel
theorem dX8_goNight_181 : decode cX8_goNight 181 = .ok (.iaload, 1) := by decide +kernel
theorem dX8_goNight_182 : decode cX8_goNight 182 = .ok (.iadd, 1) := by decide +kernel
theorem dX8_goNight_183 : decode cX8_goNight 183 = .ok (.iload_n 2, 1) := by decide +kernel
theorem dX8_goNight_184 : decode cX8_goNight 184 = .ok (.iastore, 1) := by decide +kernel
theorem dX8_goNight_185 : decode cX8_goNight 185 = .ok (.aload_n 0, 1) := by decide +kernel
theorem dX8_goNight_186 : decode cX8_goNight 186 = .ok (.getfield 49, 3) := by decide +kernel
theorem dX8_goNight_189 : decode cX8_goNight 189 = .ok (.iload_n 3, 1) := by decide +kernel
theorem dX8_goNight_190 : decode cX8_goNight 190 = .ok (.dup2, 1) := by decide +kernel
theorem dX8_goNight_191 : decode cX8_goNight 191 = .ok (.iaload, 1) := by decide +kernel
theorem dX8_goNight_192 : decode cX8_goNight 192 = .ok (.iconst 1, 1) := by decide +kernel
theorem dX8_goNight_193 : decode cX8_goNight 193 = .ok (.iadd, 1) := by decide +kernel
theorem dX8_goNight_194 : decode cX8_goNight 194 = .ok (.iastore, 1) := by decide +kernel
theorem dX8_goNight_195 : decode cX8_goNight 195 = .ok (.iinc 2 1, 3) := by decide +kernel
theorem dX8_goNight_198 : decode cX8_goNight 198 = .ok (.goto (-68), 3) := by decide +kernel
theorem dX8_goNight_201 : decode cX8_goNight 201 = .ok (.return_, 1) := by decide +kernel
set_option maxRecDepth 20000 in
theorem ggX8_goTo_X8_goNight : GoodIn wsX8_goTo wsX8_goNight := goodIn_r _ [7, 8, 2, 1, 9, 10, 11, 12, 13, 14, 15, 16, 17, 18, 19, 20, 21, 22, 23, 24, 25, 26, 27, 6, 28, 29, 30, 31, 32, 33, 34, 35, 36, 37, 38, 39, 40, 41, 42, 43, 44, 45, 46, 47, 48, 49, 50, 51, 52, 53, 54, 55, 56, 57, 58, 59, 60, 61, 62, 63, 64, 65, 66, 67, 68, 69, 70] (by decide +kernel) (by decide +kernel)
set_option maxRecDepth 20000 in
theorem gX8_goTo_X8_goNight : GoodIn wsX8_goTo (wsV RX8 210 RX8 yX8_goNight wsX8_goNight) := goodIn_app (goodIn_of _ (by decide +kernel)) ggX8_goTo_X8_goNight
theorem dX8_goTo_0 : decode cX8_goTo 0 = .ok (.iconst 0, 1) := by decide +kernel
theorem dX8_goTo_1 : decode cX8_goTo 1 = .ok (.istore_n 2, 1) := by decide +kernel
theorem dX8_goTo_2 : decode cX8_goTo 2 = .ok (.iload_n 2, 1) := by decide +kernel
theorem dX8_goTo_3 : decode cX8_goTo 3 = .ok (.bipush 6, 2) := by decide +kernel
theorem dX8_goTo_5 : decode cX8_goTo 5 = .ok (.if_icmp .ge 23, 3) := by decide +kernel
theorem dX8_goTo_8 : decode cX8_goTo 8 = .ok (.aload_n 0, 1) := by decide +kernel
theorem dX8_goTo_9 : decode cX8_goTo 9 = .ok (.getfield 46, 3) := by decide +kernel
theorem dX8_goTo_12 : decode cX8_goTo 12 = .ok (.iload_n 2, 1) := by decide +kernel
theorem dX8_goTo_13 : decode cX8_goTo 13 = .ok (.iload_n 2, 1) := by decide +kernel
theorem dX8_goTo_14 : decode cX8_goTo 14 = .ok (.iastore, 1) := by decide +kernel
theorem dX8_goTo_15 : decode cX8_goTo 15 = .ok (.aload_n 0, 1) := by decide +kernel
theorem dX8_goTo_16 : decode cX8_goTo 16 = .ok (.getfield 49, 3) := by decide +kernel
theorem dX8_goTo_19 : decode cX8_goTo 19 = .ok (.iload_n 2, 1) := by decide +kernel
theorem dX8_goTo_20 : decode cX8_goTo 20 = .ok (.iconst 0, 1) := by decide +kernel
theorem dX8_goTo_21 : decode cX8_goTo 21 = .ok (.iastore, 1) := by decide +kernel
theorem dX8_goTo_22 : decode cX8_goTo 22 = .ok (.iinc 2 1, 3) := by decide +kernel
theorem dX8_goTo_25 : decode cX8_goTo 25 = .ok (.goto (-23), 3) := by decide +kernel
theorem dX8_goTo_28 : decode cX8_goTo 28 = .ok (.iconst 0, 1) := by decide +kernel
theorem dX8_goTo_29 : decode cX8_goTo 29 = .ok (.istore_n 2, 1) := by decide +kernel
theorem dX8_goTo_30 : decode cX8_goTo 30 = .ok (.iload_n 2, 1) := by decide +kernel
theorem dX8_goTo_31 : decode cX8_goTo 31 = .ok (.iload_n 1, 1) := by decide +kernel
theorem dX8_goTo_32 : decode cX8_goTo 32 = .ok (.if_icmp .gt 14, 3) := by decide +kernel
theorem dX8_goTo_35 : decode cX8_goTo 35 = .ok (.aload_n 0, 1) := by decide +kernel
theorem dX8_goTo_36 : decode cX8_goTo 36 = .ok (.iload_n 2, 1) := by decide +kernel
theorem dX8_goTo_37 : decode cX8_goTo 37 = .ok (.invokevirtual 210, 3) := by decide +kernel
theorem dX8_goTo_40 : decode cX8_goTo 40 = .ok (.iinc 2 1, 3) := by decide +kernel
theorem dX8_goTo_43 : decode cX8_goTo 43 = .ok (.goto (-13), 3) := by decide +kernel
theorem dX8_goTo_46 : decode cX8_goTo 46 = .ok (.return_, 1) := by decide +kernel
set_option maxRecDepth 20000 in
theorem ggX8_layers_X8_noPlace : GoodIn wsX8_layers wsX8_noPlace := goodIn_r _ [7, 8, 9, 10, 6, 11, 45, 46, 47, 48, 49, 50, 51, 52, 53, 54, 55, 56, 57, 58, 59, 60, 61, 62, 63, 64, 65, 66, 67, 68, 69, 70, 71, 72, 73, 74, 75, 76, 77, 78, 79, 80, 81, 82, 83, 84, 85, 86] (by decide +kernel) (by decide +kernel)
set_option maxRecDepth 20000 in
theorem gX8_layers_X8_noPlace : GoodIn wsX8_layers (wsV RX8 177 RX8 yX8_noPlace wsX8_noPlace) := goodIn_app (goodIn_of _ (by decide +kernel)) ggX8_layers_X8_noPlace
set_option maxRecDepth 20000 in
theorem ggX8_layers_X8_isNight : GoodIn wsX8_layers wsX8_isNight := goodIn_r _ [14, 15, 9, 10, 6, 11] (by decide +kernel) (by decide +kernel)
set_option maxRecDepth 20000 in
theorem gX8_layers_X8_isNight : GoodIn wsX8_layers (va_wsS RX8 171 yX8_isNight wsX8_isNight) := goodIn_app (goodIn_of _ (by decide +kernel)) ggX8_layers_X8_isNight
set_option maxRecDepth 20000 in
theorem ggX8_layers_X8_goTo : GoodIn wsX8_layers wsX8_goTo := goodIn_r _ [19, 2, 1, 20, 21, 22, 6, 23, 24, 25, 26, 27, 28, 29, 30, 31, 32, 33, 34, 35, 36, 37, 38, 39, 40, 41, 42, 43, 44, 45, 46, 47, 48, 49, 50, 51, 52, 53, 54, 55, 56, 57, 58, 59, 60, 61, 62, 63, 64, 65, 66, 67, 68, 69, 70, 71, 72, 73, 74, 75, 76, 77, 78, 79, 80, 81, 82, 83, 84, 85, 86] (by decide +kernel) (by decide +kernel)
set_option maxRecDepth 20000 in
theorem gX8_layers_X8_goTo : GoodIn wsX8_layers (wsV RX8 214 RX8 yX8_goTo wsX8_goTo) := goodIn_app (goodIn_of _ (by decide +kernel)) ggX8_layers_X8_goTo
theorem dX8_layers_0 : decode cX8_layers 0 = .ok (.aload_n 0, 1) := by decide +kernel
theorem dX8_layers_1 : decode cX8_layers 1 = .ok (.iload_n 1, 1) := by decide +kernel
theorem dX8_layers_2 : decode cX8_layers 2 = .ok (.invokevirtual 177, 3) := by decide +kernel
theorem dX8_layers_5 : decode cX8_layers 5 = .ok (.ifCond .eq 5, 3) := by decide +kernel
theorem dX8_layers_8 : decode cX8_layers 8 = .ok (.iconst (-1), 1) := by decide +kernel
theorem dX8_layers_9 : decode cX8_layers 9 = .ok (.ireturn, 1) := by decide +kernel
theorem dX8_layers_10 : decode cX8_layers 10 = .ok (.iload_n 2, 1) := by decide +kernel
theorem dX8_layers_11 : decode cX8_layers 11 = .ok (.invokestatic 171, 3) := by decide +kernel
theorem dX8_layers_14 : decode cX8_layers 14 = .ok (.ifCond .ne 6, 3) := by decide +kernel
theorem dX8_layers_17 : decode cX8_layers 17 = .ok (.bipush (-2), 2) := by decide +kernel
theorem dX8_layers_19 : decode cX8_layers 19 = .ok (.ireturn, 1) := by decide +kernel
theorem dX8_layers_20 : decode cX8_layers 20 = .ok (.aload_n 0, 1) := by decide +kernel
theorem dX8_layers_21 : decode cX8_layers 21 = .ok (.iload_n 2, 1) := by decide +kernel
theorem dX8_layers_22 : decode cX8_layers 22 = .ok (.invokevirtual 214, 3) := by decide +kernel
theorem dX8_layers_25 : decode cX8_layers 25 = .ok (.aload_n 0, 1) := by decide +kernel
theorem dX8_layers_26 : decode cX8_layers 26 = .ok (.getfield 49, 3) := by decide +kernel
theorem dX8_layers_29 : decode cX8_layers 29 = .ok (.aload_n 0, 1) := by decide +kernel
theorem dX8_layers_30 : decode cX8_layers 30 = .ok (.getfield 46, 3) := by decide +kernel
theorem dX8_layers_33 : decode cX8_layers 33 = .ok (.iload_n 1, 1) := by decide +kernel
theorem dX8_layers_34 : decode cX8_layers 34 = .ok (.iaload, 1) := by decide +kernel
theorem dX8_layers_35 : decode cX8_layers 35 = .ok (.iaload, 1) := by decide +kernel
theorem dX8_layers_36 : decode cX8_layers 36 = .ok (.ireturn, 1) := by decide +kernel
theorem dX8_layerAt_0 : decode cX8_layerAt 0 = .ok (.aload_n 0, 1) := by decide +kernel
theorem dX8_layerAt_1 : decode cX8_layerAt 1 = .ok (.getfield 46, 3) := by decide +kernel
theorem dX8_layerAt_4 : decode cX8_layerAt 4 = .ok (.iload_n 1, 1) := by decide +kernel
theorem dX8_layerAt_5 : decode cX8_layerAt 5 = .ok (.iaload, 1) := by decide +kernel
theorem dX8_layerAt_6 : decode cX8_layerAt 6 = .ok (.istore_n 3, 1) := by decide +kernel
theorem dX8_layerAt_7 : decode cX8_layerAt 7 = .ok (.iload_n 2, 1) := by decide +kernel
theorem dX8_layerAt_8 : decode cX8_layerAt 8 = .ok (.aload_n 0, 1) := by decide +kernel
theorem dX8_layerAt_9 : decode cX8_layerAt 9 = .ok (.getfield 49, 3) := by decide +kernel
theorem dX8_layerAt_12 : decode cX8_layerAt 12 = .ok (.iload_n 3, 1) := by decide +kernel
theorem dX8_layerAt_13 : decode cX8_layerAt 13 = .ok (.iaload, 1) := by decide +kernel
theorem dX8_layerAt_14 : decode cX8_layerAt 14 = .ok (.if_icmp .ge 17, 3) := by decide +kernel
theorem dX8_layerAt_17 : decode cX8_layerAt 17 = .ok (.aload_n 0, 1) := by decide +kernel
theorem dX8_layerAt_18 : decode cX8_layerAt 18 = .ok (.getfield 52, 3) := by decide +kernel
theorem dX8_layerAt_21 : decode cX8_layerAt 21 = .ok (.bipush 25, 2) := by decide +kernel
theorem dX8_layerAt_23 : decode cX8_layerAt 23 = .ok (.iload_n 3, 1) := by decide +kernel
theorem dX8_layerAt_24 : decode cX8_layerAt 24 = .ok (.imul, 1) := by decide +kernel
theorem dX8_layerAt_25 : decode cX8_layerAt 25 = .ok (.iload_n 2, 1) := by decide +kernel
theorem dX8_layerAt_26 : decode cX8_layerAt 26 = .ok (.iadd, 1) := by decide +kernel
theorem dX8_layerAt_27 : decode cX8_layerAt 27 = .ok (.iaload, 1) := by decide +kernel
theorem dX8_layerAt_28 : decode cX8_layerAt 28 = .ok (.goto 5, 3) := by decide +kernel
theorem dX8_layerAt_31 : decode cX8_layerAt 31 = .ok (.bipush (-9), 2) := by decide +kernel
theorem dX8_layerAt_33 : decode cX8_layerAt 33 = .ok (.ireturn, 1) := by decide +kernel
set_option maxRecDepth 20000 in
theorem ggX8_gumBy_X8_gumOf : GoodIn wsX8_gumBy wsX8_gumOf := goodIn_r _ [7, 8, 9, 10, 11, 12, 13, 14, 15, 16, 17, 18, 19, 20, 21, 22, 23, 24, 25, 26, 27, 28, 29, 30, 31, 32, 33, 34, 35, 36, 37, 38, 39, 40, 41, 42, 43, 44, 45, 46, 47, 48, 49, 50, 51] (by decide +kernel) (by decide +kernel)
set_option maxRecDepth 20000 in
theorem gX8_gumBy_X8_gumOf : GoodIn wsX8_gumBy (wsV RX8 174 RX8 yX8_gumOf wsX8_gumOf) := goodIn_app (goodIn_of _ (by decide +kernel)) ggX8_gumBy_X8_gumOf
theorem dX8_gumBy_0 : decode cX8_gumBy 0 = .ok (.aload_n 0, 1) := by decide +kernel
theorem dX8_gumBy_1 : decode cX8_gumBy 1 = .ok (.aload_n 0, 1) := by decide +kernel
theorem dX8_gumBy_2 : decode cX8_gumBy 2 = .ok (.getfield 22, 3) := by decide +kernel
theorem dX8_gumBy_5 : decode cX8_gumBy 5 = .ok (.iload_n 1, 1) := by decide +kernel
theorem dX8_gumBy_6 : decode cX8_gumBy 6 = .ok (.iaload, 1) := by decide +kernel
theorem dX8_gumBy_7 : decode cX8_gumBy 7 = .ok (.aload_n 0, 1) := by decide +kernel
theorem dX8_gumBy_8 : decode cX8_gumBy 8 = .ok (.getfield 28, 3) := by decide +kernel
theorem dX8_gumBy_11 : decode cX8_gumBy 11 = .ok (.iload_n 1, 1) := by decide +kernel
theorem dX8_gumBy_12 : decode cX8_gumBy 12 = .ok (.iaload, 1) := by decide +kernel
theorem dX8_gumBy_13 : decode cX8_gumBy 13 = .ok (.invokevirtual 174, 3) := by decide +kernel
theorem dX8_gumBy_16 : decode cX8_gumBy 16 = .ok (.ireturn, 1) := by decide +kernel
set_option maxRecDepth 20000 in
theorem ggX8_under_X8_noPlace : GoodIn wsX8_under wsX8_noPlace := goodIn_r _ [5, 6, 7, 8, 4, 9, 60, 61, 62, 63, 64, 65, 66, 67, 68, 69, 70, 71, 72, 73, 74, 75, 76, 77, 78, 79, 80, 81, 82, 83, 84, 85, 86, 87, 88, 89, 90, 91, 92, 93, 94, 95, 96, 97, 98, 99, 100, 101] (by decide +kernel) (by decide +kernel)
set_option maxRecDepth 20000 in
theorem gX8_under_X8_noPlace : GoodIn wsX8_under (wsV RX8 177 RX8 yX8_noPlace wsX8_noPlace) := goodIn_app (goodIn_of _ (by decide +kernel)) ggX8_under_X8_noPlace
set_option maxRecDepth 20000 in
theorem ggX8_under_X8_isNight : GoodIn wsX8_under wsX8_isNight := goodIn_r _ [12, 13, 7, 8, 4, 9] (by decide +kernel) (by decide +kernel)
set_option maxRecDepth 20000 in
theorem gX8_under_X8_isNight : GoodIn wsX8_under (va_wsS RX8 171 yX8_isNight wsX8_isNight) := goodIn_app (goodIn_of _ (by decide +kernel)) ggX8_under_X8_isNight
set_option maxRecDepth 20000 in
theorem ggX8_under_X8_in : GoodIn wsX8_under wsX8_in := goodIn_r _ [9] (by decide +kernel) (by decide +kernel)
set_option maxRecDepth 20000 in
theorem gX8_under_X8_in : GoodIn wsX8_under (va_wsS RX8 102 yX8_in wsX8_in) := goodIn_app (goodIn_of _ (by decide +kernel)) ggX8_under_X8_in
set_option maxRecDepth 20000 in
theorem ggX8_under_X8_goTo : GoodIn wsX8_under wsX8_goTo := goodIn_r _ [17, 18, 19, 20, 21, 22, 4, 23, 24, 25, 26, 27, 28, 29, 30, 31, 32, 33, 34, 35, 36, 37, 38, 39, 40, 41, 42, 43, 44, 60, 61, 62, 63, 64, 65, 66, 67, 68, 69, 70, 71, 72, 73, 74, 75, 76, 77, 78, 79, 80, 81, 82, 83, 84, 85, 86, 87, 88, 89, 90, 91, 92, 93, 94, 95, 96, 97, 98, 99, 100, 101] (by decide +kernel) (by decide +kernel)
set_option maxRecDepth 20000 in
theorem gX8_under_X8_goTo : GoodIn wsX8_under (wsV RX8 214 RX8 yX8_goTo wsX8_goTo) := goodIn_app (goodIn_of _ (by decide +kernel)) ggX8_under_X8_goTo
set_option maxRecDepth 20000 in
theorem ggX8_under_X8_layerAt : GoodIn wsX8_under wsX8_layerAt := goodIn_r _ [48, 18, 19, 40, 60, 61, 62, 63, 64, 65, 66, 67, 68, 69, 70, 71, 72, 73, 74, 75, 76, 77, 78, 79, 80, 81, 82, 83, 84, 85, 86, 87, 88, 89, 90, 91, 92, 93, 94, 95, 96, 97, 98, 99, 100, 101] (by decide +kernel) (by decide +kernel)
set_option maxRecDepth 20000 in
theorem gX8_under_X8_layerAt : GoodIn wsX8_under (wsV RX8 217 RX8 yX8_layerAt wsX8_layerAt) := goodIn_app (goodIn_of _ (by decide +kernel)) ggX8_under_X8_layerAt
set_option maxRecDepth 20000 in
theorem ggX8_under_X8_gumBy : GoodIn wsX8_under wsX8_gumBy := goodIn_r _ [52, 53, 37, 54, 55, 56, 4, 57, 58, 59, 60, 61, 62, 63, 64, 65, 66, 67, 68, 69, 70, 71, 72, 73, 74, 75, 76, 77, 78, 79, 80, 81, 82, 83, 84, 85, 86, 87, 88, 89, 90, 91, 92, 93, 94, 95, 96, 97, 98, 99, 100, 101] (by decide +kernel) (by decide +kernel)
set_option maxRecDepth 20000 in
theorem gX8_under_X8_gumBy : GoodIn wsX8_under (wsV RX8 220 RX8 yX8_gumBy wsX8_gumBy) := goodIn_app (goodIn_of _ (by decide +kernel)) ggX8_under_X8_gumBy
theorem dX8_under_0 : decode cX8_under 0 = .ok (.aload_n 0, 1) := by decide +kernel
theorem dX8_under_1 : decode cX8_under 1 = .ok (.iload_n 1, 1) := by decide +kernel
theorem dX8_under_2 : decode cX8_under 2 = .ok (.invokevirtual 177, 3) := by decide +kernel
theorem dX8_under_5 : decode cX8_under 5 = .ok (.ifCond .ne 7, 3) := by decide +kernel
theorem dX8_under_8 : decode cX8_under 8 = .ok (.iload_n 3, 1) := by decide +kernel
theorem dX8_under_9 : decode cX8_under 9 = .ok (.ifCond .ge 5, 3) := by decide +kernel
theorem dX8_under_12 : decode cX8_under 12 = .ok (.iconst (-1), 1) := by decide +kernel
theorem dX8_under_13 : decode cX8_under 13 = .ok (.ireturn, 1) := by decide +kernel
theorem dX8_under_14 : decode cX8_under 14 = .ok (.iload_n 2, 1) := by decide +kernel
theorem dX8_under_15 : decode cX8_under 15 = .ok (.invokestatic 171, 3) := by decide +kernel
theorem dX8_under_18 : decode cX8_under 18 = .ok (.ifCond .eq 14, 3) := by decide +kernel
theorem dX8_under_21 : decode cX8_under 21 = .ok (.iload 4, 2) := by decide +kernel
theorem dX8_under_23 : decode cX8_under 23 = .ok (.i2l, 1) := by decide +kernel
theorem dX8_under_24 : decode cX8_under 24 = .ok (.lconst 0, 1) := by decide +kernel
theorem dX8_under_25 : decode cX8_under 25 = .ok (.lconst 1, 1) := by decide +kernel
theorem dX8_under_26 : decode cX8_under 26 = .ok (.invokestatic 102, 3) := by decide +kernel
theorem dX8_under_29 : decode cX8_under 29 = .ok (.ifCond .ne 6, 3) := by decide +kernel
theorem dX8_under_32 : decode cX8_under 32 = .ok (.bipush (-2), 2) := by decide +kernel
theorem dX8_under_34 : decode cX8_under 34 = .ok (.ireturn, 1) := by decide +kernel
theorem dX8_under_35 : decode cX8_under 35 = .ok (.aload_n 0, 1) := by decide +kernel
theorem dX8_under_36 : decode cX8_under 36 = .ok (.iload_n 2, 1) := by decide +kernel
theorem dX8_under_37 : decode cX8_under 37 = .ok (.invokevirtual 214, 3) := by decide +kernel
theorem dX8_under_40 : decode cX8_under 40 = .ok (.aload_n 0, 1) := by decide +kernel
theorem dX8_under_41 : decode cX8_under 41 = .ok (.iload_n 1, 1) := by decide +kernel
theorem dX8_under_42 : decode cX8_under 42 = .ok (.iload_n 3, 1) := by decide +kernel
theorem dX8_under_43 : decode cX8_under 43 = .ok (.invokevirtual 217, 3) := by decide +kernel
theorem dX8_under_46 : decode cX8_under 46 = .ok (.istore 5, 2) := by decide +kernel
theorem dX8_under_48 : decode cX8_under 48 = .ok (.iload 5, 2) := by decide +kernel
theorem dX8_under_50 : decode cX8_under 50 = .ok (.ifCond .ge 8, 3) := by decide +kernel
theorem dX8_under_53 : decode cX8_under 53 = .ok (.bipush (-9), 2) := by decide +kernel
theorem dX8_under_55 : decode cX8_under 55 = .ok (.goto 20, 3) := by decide +kernel
theorem dX8_under_58 : decode cX8_under 58 = .ok (.iload 4, 2) := by decide +kernel
theorem dX8_under_60 : decode cX8_under 60 = .ok (.iconst 1, 1) := by decide +kernel
theorem dX8_under_61 : decode cX8_under 61 = .ok (.if_icmp .ne 8, 3) := by decide +kernel
theorem dX8_under_64 : decode cX8_under 64 = .ok (.iload 5, 2) := by decide +kernel
theorem dX8_under_66 : decode cX8_under 66 = .ok (.goto 9, 3) := by decide +kernel
theorem dX8_under_69 : decode cX8_under 69 = .ok (.aload_n 0, 1) := by decide +kernel
theorem dX8_under_70 : decode cX8_under 70 = .ok (.iload 5, 2) := by decide +kernel
theorem dX8_under_72 : decode cX8_under 72 = .ok (.invokevirtual 220, 3) := by decide +kernel
theorem dX8_under_75 : decode cX8_under 75 = .ok (.ireturn, 1) := by decide +kernel
set_option maxRecDepth 20000 in
theorem ggX8_chair_X8_noPlace : GoodIn wsX8_chair wsX8_noPlace := goodIn_r _ [6, 7, 8, 9, 5, 10, 45, 46, 47, 48, 49, 50, 51, 52, 53, 54, 55, 56, 57, 58, 59, 60, 61, 62, 63, 64, 65, 66, 67, 68, 69, 70, 71, 72, 73, 74, 75, 76, 77, 78, 79, 80, 81, 82, 83, 84, 85, 86] (by decide +kernel) (by decide +kernel)
set_option maxRecDepth 20000 in
theorem gX8_chair_X8_noPlace : GoodIn wsX8_chair (wsV RX8 177 RX8 yX8_noPlace wsX8_noPlace) := goodIn_app (goodIn_of _ (by decide +kernel)) ggX8_chair_X8_noPlace
set_option maxRecDepth 20000 in
theorem ggX8_chair_X8_isNight : GoodIn wsX8_chair wsX8_isNight := goodIn_r _ [13, 14, 8, 9, 5, 10] (by decide +kernel) (by decide +kernel)
set_option maxRecDepth 20000 in
theorem gX8_chair_X8_isNight : GoodIn wsX8_chair (va_wsS RX8 171 yX8_isNight wsX8_isNight) := goodIn_app (goodIn_of _ (by decide +kernel)) ggX8_chair_X8_isNight
set_option maxRecDepth 20000 in
theorem ggX8_chair_X8_goTo : GoodIn wsX8_chair wsX8_goTo := goodIn_r _ [18, 1, 19, 20, 21, 22, 5, 23, 24, 25, 26, 27, 28, 29, 30, 31, 32, 33, 34, 35, 36, 37, 38, 39, 40, 41, 42, 43, 44, 45, 46, 47, 48, 49, 50, 51, 52, 53, 54, 55, 56, 57, 58, 59, 60, 61, 62, 63, 64, 65, 66, 67, 68, 69, 70, 71, 72, 73, 74, 75, 76, 77, 78, 79, 80, 81, 82, 83, 84, 85, 86] (by decide +kernel) (by decide +kernel)
set_option maxRecDepth 20000 in
theorem gX8_chair_X8_goTo : GoodIn wsX8_chair (wsV RX8 214 RX8 yX8_goTo wsX8_goTo) := goodIn_app (goodIn_of _ (by decide +kernel)) ggX8_chair_X8_goTo
theorem dX8_chair_0 : decode cX8_chair 0 = .ok (.aload_n 0, 1) := by decide +kernel
theorem dX8_chair_1 : decode cX8_chair 1 = .ok (.iload_n 1, 1) := by decide +kernel
theorem dX8_chair_2 : decode cX8_chair 2 = .ok (.invokevirtual 177, 3) := by decide +kernel
theorem dX8_chair_5 : decode cX8_chair 5 = .ok (.ifCond .eq 5, 3) := by decide +kernel
theorem dX8_chair_8 : decode cX8_chair 8 = .ok (.iconst (-1), 1) := by decide +kernel
theorem dX8_chair_9 : decode cX8_chair 9 = .ok (.ireturn, 1) := by decide +kernel
theorem dX8_chair_10 : decode cX8_chair 10 = .ok (.iload_n 2, 1) := by decide +kernel
theorem dX8_chair_11 : decode cX8_chair 11 = .ok (.invokestatic 171, 3) := by decide +kernel
theorem dX8_chair_14 : decode cX8_chair 14 = .ok (.ifCond .ne 6, 3) := by decide +kernel
theorem dX8_chair_17 : decode cX8_chair 17 = .ok (.bipush (-2), 2) := by decide +kernel
theorem dX8_chair_19 : decode cX8_chair 19 = .ok (.ireturn, 1) := by decide +kernel
theorem dX8_chair_20 : decode cX8_chair 20 = .ok (.aload_n 0, 1) := by decide +kernel
theorem dX8_chair_21 : decode cX8_chair 21 = .ok (.iload_n 2, 1) := by decide +kernel
theorem dX8_chair_22 : decode cX8_chair 22 = .ok (.invokevirtual 214, 3) := by decide +kernel
theorem dX8_chair_25 : decode cX8_chair 25 = .ok (.aload_n 0, 1) := by decide +kernel
theorem dX8_chair_26 : decode cX8_chair 26 = .ok (.getfield 46, 3) := by decide +kernel
theorem dX8_chair_29 : decode cX8_chair 29 = .ok (.iload_n 1, 1) := by decide +kernel
theorem dX8_chair_30 : decode cX8_chair 30 = .ok (.iaload, 1) := by decide +kernel
theorem dX8_chair_31 : decode cX8_chair 31 = .ok (.ireturn, 1) := by decide +kernel
set_option maxRecDepth 20000 in
theorem ggX8_beside_X8_noPerson : GoodIn wsX8_beside wsX8_noPerson := goodIn_r _ [9, 10, 11, 12, 8, 13, 14, 15, 16, 17, 18, 19, 20, 21, 22, 23, 24, 25, 26, 27, 28, 29, 30, 31, 32, 33, 34, 35, 36, 37, 38, 39, 40, 41, 42, 43, 44, 45, 46, 47, 48, 49, 50, 51, 52, 53, 54, 55] (by decide +kernel) (by decide +kernel)
set_option maxRecDepth 20000 in
theorem gX8_beside_X8_noPerson : GoodIn wsX8_beside (wsV RX8 168 RX8 yX8_noPerson wsX8_noPerson) := goodIn_app (goodIn_of _ (by decide +kernel)) ggX8_beside_X8_noPerson
theorem dX8_beside_0 : decode cX8_beside 0 = .ok (.aload_n 0, 1) := by decide +kernel
theorem dX8_beside_1 : decode cX8_beside 1 = .ok (.iload_n 1, 1) := by decide +kernel
theorem dX8_beside_2 : decode cX8_beside 2 = .ok (.invokevirtual 168, 3) := by decide +kernel
theorem dX8_beside_5 : decode cX8_beside 5 = .ok (.ifCond .ne 16, 3) := by decide +kernel
theorem dX8_beside_8 : decode cX8_beside 8 = .ok (.aload_n 0, 1) := by decide +kernel
theorem dX8_beside_9 : decode cX8_beside 9 = .ok (.iload_n 2, 1) := by decide +kernel
theorem dX8_beside_10 : decode cX8_beside 10 = .ok (.invokevirtual 168, 3) := by decide +kernel
theorem dX8_beside_13 : decode cX8_beside 13 = .ok (.ifCond .ne 8, 3) := by decide +kernel
theorem dX8_beside_16 : decode cX8_beside 16 = .ok (.iload_n 1, 1) := by decide +kernel
theorem dX8_beside_17 : decode cX8_beside 17 = .ok (.iload_n 2, 1) := by decide +kernel
theorem dX8_beside_18 : decode cX8_beside 18 = .ok (.if_icmp .ne 5, 3) := by decide +kernel
theorem dX8_beside_21 : decode cX8_beside 21 = .ok (.iconst (-1), 1) := by decide +kernel
theorem dX8_beside_22 : decode cX8_beside 22 = .ok (.ireturn, 1) := by decide +kernel
theorem dX8_beside_23 : decode cX8_beside 23 = .ok (.iconst 0, 1) := by decide +kernel
theorem dX8_beside_24 : decode cX8_beside 24 = .ok (.istore_n 3, 1) := by decide +kernel
theorem dX8_beside_25 : decode cX8_beside 25 = .ok (.iconst 0, 1) := by decide +kernel
theorem dX8_beside_26 : decode cX8_beside 26 = .ok (.istore 4, 2) := by decide +kernel
theorem dX8_beside_28 : decode cX8_beside 28 = .ok (.iload 4, 2) := by decide +kernel
theorem dX8_beside_30 : decode cX8_beside 30 = .ok (.aload_n 0, 1) := by decide +kernel
theorem dX8_beside_31 : decode cX8_beside 31 = .ok (.getfield 156, 3) := by decide +kernel
theorem dX8_beside_34 : decode cX8_beside 34 = .ok (.if_icmp .ge 115, 3) := by decide +kernel
theorem dX8_beside_37 : decode cX8_beside 37 = .ok (.iconst 0, 1) := by decide +kernel
theorem dX8_beside_38 : decode cX8_beside 38 = .ok (.istore 5, 2) := by decide +kernel
theorem dX8_beside_40 : decode cX8_beside 40 = .ok (.iload 5, 2) := by decide +kernel
theorem dX8_beside_42 : decode cX8_beside 42 = .ok (.aload_n 0, 1) := by decide +kernel
theorem dX8_beside_43 : decode cX8_beside 43 = .ok (.getfield 156, 3) := by decide +kernel
theorem dX8_beside_46 : decode cX8_beside 46 = .ok (.if_icmp .ge 97, 3) := by decide +kernel
theorem dX8_beside_49 : decode cX8_beside 49 = .ok (.aload_n 0, 1) := by decide +kernel
theorem dX8_beside_50 : decode cX8_beside 50 = .ok (.getfield 22, 3) := by decide +kernel
theorem dX8_beside_53 : decode cX8_beside 53 = .ok (.iload 4, 2) := by decide +kernel
theorem dX8_beside_55 : decode cX8_beside 55 = .ok (.iaload, 1) := by decide +kernel
theorem dX8_beside_56 : decode cX8_beside 56 = .ok (.iload_n 1, 1) := by decide +kernel
theorem dX8_beside_57 : decode cX8_beside 57 = .ok (.if_icmp .ne 35, 3) := by decide +kernel
theorem dX8_beside_60 : decode cX8_beside 60 = .ok (.aload_n 0, 1) := by decide +kernel
theorem dX8_beside_61 : decode cX8_beside 61 = .ok (.getfield 22, 3) := by decide +kernel
theorem dX8_beside_64 : decode cX8_beside 64 = .ok (.iload 5, 2) := by decide +kernel
theorem dX8_beside_66 : decode cX8_beside 66 = .ok (.iaload, 1) := by decide +kernel
theorem dX8_beside_67 : decode cX8_beside 67 = .ok (.iload_n 2, 1) := by decide +kernel
theorem dX8_beside_68 : decode cX8_beside 68 = .ok (.if_icmp .ne 24, 3) := by decide +kernel
theorem dX8_beside_71 : decode cX8_beside 71 = .ok (.aload_n 0, 1) := by decide +kernel
theorem dX8_beside_72 : decode cX8_beside 72 = .ok (.getfield 28, 3) := by decide +kernel
theorem dX8_beside_75 : decode cX8_beside 75 = .ok (.iload 4, 2) := by decide +kernel
theorem dX8_beside_77 : decode cX8_beside 77 = .ok (.iaload, 1) := by decide +kernel
theorem dX8_beside_78 : decode cX8_beside 78 = .ok (.aload_n 0, 1) := by decide +kernel
theorem dX8_beside_79 : decode cX8_beside 79 = .ok (.getfield 28, 3) := by decide +kernel
theorem dX8_beside_82 : decode cX8_beside 82 = .ok (.iload 5, 2) := by decide +kernel
theorem dX8_beside_84 : decode cX8_beside 84 = .ok (.iaload, 1) := by decide +kernel
theorem dX8_beside_85 : decode cX8_beside 85 = .ok (.if_icmp .ne 7, 3) := by decide +kernel
theorem dX8_beside_88 : decode cX8_beside 88 = .ok (.iconst 1, 1) := by decide +kernel
theorem dX8_beside_89 : decode cX8_beside 89 = .ok (.goto 4, 3) := by decide +kernel
theorem dX8_beside_92 : decode cX8_beside 92 = .ok (.iconst 0, 1) := by decide +kernel
theorem dX8_beside_93 : decode cX8_beside 93 = .ok (.istore 6, 2) := by decide +kernel
theorem dX8_beside_95 : decode cX8_beside 95 = .ok (.aload_n 0, 1) := by decide +kernel
theorem dX8_beside_96 : decode cX8_beside 96 = .ok (.getfield 25, 3) := by decide +kernel
theorem dX8_beside_99 : decode cX8_beside 99 = .ok (.iload 4, 2) := by decide +kernel
theorem dX8_beside_101 : decode cX8_beside 101 = .ok (.iaload, 1) := by decide +kernel
theorem dX8_beside_102 : decode cX8_beside 102 = .ok (.aload_n 0, 1) := by decide +kernel
theorem dX8_beside_103 : decode cX8_beside 103 = .ok (.getfield 25, 3) := by decide +kernel
theorem dX8_beside_106 : decode cX8_beside 106 = .ok (.iload 5, 2) := by decide +kernel
theorem dX8_beside_108 : decode cX8_beside 108 = .ok (.iaload, 1) := by decide +kernel
theorem dX8_beside_109 : decode cX8_beside 109 = .ok (.isub, 1) := by decide +kernel
theorem dX8_beside_110 : decode cX8_beside 110 = .ok (.istore 7, 2) := by decide +kernel
theorem dX8_beside_112 : decode cX8_beside 112 = .ok (.iload_n 3, 1) := by decide +kernel
theorem dX8_beside_113 : decode cX8_beside 113 = .ok (.iload 6, 2) := by decide +kernel
theorem dX8_beside_115 : decode cX8_beside 115 = .ok (.ifCond .eq 19, 3) := by decide +kernel
theorem dX8_beside_118 : decode cX8_beside 118 = .ok (.iload 7, 2) := by decide +kernel
theorem dX8_beside_120 : decode cX8_beside 120 = .ok (.iconst 1, 1) := by decide +kernel
theorem dX8_beside_121 : decode cX8_beside 121 = .ok (.if_icmp .eq 9, 3) := by decide +kernel
theorem dX8_beside_124 : decode cX8_beside 124 = .ok (.iload 7, 2) := by decide +kernel
theorem dX8_beside_126 : decode cX8_beside 126 = .ok (.iconst (-1), 1) := by decide +kernel
theorem dX8_beside_127 : decode cX8_beside 127 = .ok (.if_icmp .ne 7, 3) := by decide +kernel
theorem dX8_beside_130 : decode cX8_beside 130 = .ok (.iconst 1, 1) := by decide +kernel
theorem dX8_beside_131 : decode cX8_beside 131 = .ok (.goto 4, 3) := by decide +kernel
theorem dX8_beside_134 : decode cX8_beside 134 = .ok (.iconst 0, 1) := by decide +kernel
theorem dX8_beside_135 : decode cX8_beside 135 = .ok (.iadd, 1) := by decide +kernel
theorem dX8_beside_136 : decode cX8_beside 136 = .ok (.istore_n 3, 1) := by decide +kernel
theorem dX8_beside_137 : decode cX8_beside 137 = .ok (.iinc 5 1, 3) := by decide +kernel
theorem dX8_beside_140 : decode cX8_beside 140 = .ok (.goto (-100), 3) := by decide +kernel
theorem dX8_beside_143 : decode cX8_beside 143 = .ok (.iinc 4 1, 3) := by decide +kernel
theorem dX8_beside_146 : decode cX8_beside 146 = .ok (.goto (-118), 3) := by decide +kernel
theorem dX8_beside_149 : decode cX8_beside 149 = .ok (.iload_n 3, 1) := by decide +kernel
theorem dX8_beside_150 : decode cX8_beside 150 = .ok (.ireturn, 1) := by decide +kernel
theorem dX8_oftenAt_0 : decode cX8_oftenAt 0 = .ok (.iconst 0, 1) := by decide +kernel
theorem dX8_oftenAt_1 : decode cX8_oftenAt 1 = .ok (.istore_n 3, 1) := by decide +kernel
theorem dX8_oftenAt_2 : decode cX8_oftenAt 2 = .ok (.iconst 0, 1) := by decide +kernel
theorem dX8_oftenAt_3 : decode cX8_oftenAt 3 = .ok (.istore 4, 2) := by decide +kernel
theorem dX8_oftenAt_5 : decode cX8_oftenAt 5 = .ok (.iload 4, 2) := by decide +kernel
theorem dX8_oftenAt_7 : decode cX8_oftenAt 7 = .ok (.aload_n 0, 1) := by decide +kernel
theorem dX8_oftenAt_8 : decode cX8_oftenAt 8 = .ok (.getfield 156, 3) := by decide +kernel
theorem dX8_oftenAt_11 : decode cX8_oftenAt 11 = .ok (.if_icmp .ge 39, 3) := by decide +kernel
theorem dX8_oftenAt_14 : decode cX8_oftenAt 14 = .ok (.iload_n 3, 1) := by decide +kernel
theorem dX8_oftenAt_15 : decode cX8_oftenAt 15 = .ok (.aload_n 0, 1) := by decide +kernel
theorem dX8_oftenAt_16 : decode cX8_oftenAt 16 = .ok (.getfield 22, 3) := by decide +kernel
theorem dX8_oftenAt_19 : decode cX8_oftenAt 19 = .ok (.iload 4, 2) := by decide +kernel
theorem dX8_oftenAt_21 : decode cX8_oftenAt 21 = .ok (.iaload, 1) := by decide +kernel
theorem dX8_oftenAt_22 : decode cX8_oftenAt 22 = .ok (.iload_n 1, 1) := by decide +kernel
theorem dX8_oftenAt_23 : decode cX8_oftenAt 23 = .ok (.if_icmp .ne 18, 3) := by decide +kernel
theorem dX8_oftenAt_26 : decode cX8_oftenAt 26 = .ok (.aload_n 0, 1) := by decide +kernel
theorem dX8_oftenAt_27 : decode cX8_oftenAt 27 = .ok (.getfield 25, 3) := by decide +kernel
theorem dX8_oftenAt_30 : decode cX8_oftenAt 30 = .ok (.iload 4, 2) := by decide +kernel
theorem dX8_oftenAt_32 : decode cX8_oftenAt 32 = .ok (.iaload, 1) := by decide +kernel
theorem dX8_oftenAt_33 : decode cX8_oftenAt 33 = .ok (.iload_n 2, 1) := by decide +kernel
theorem dX8_oftenAt_34 : decode cX8_oftenAt 34 = .ok (.if_icmp .ne 7, 3) := by decide +kernel
theorem dX8_oftenAt_37 : decode cX8_oftenAt 37 = .ok (.iconst 1, 1) := by decide +kernel
theorem dX8_oftenAt_38 : decode cX8_oftenAt 38 = .ok (.goto 4, 3) := by decide +kernel
theorem dX8_oftenAt_41 : decode cX8_oftenAt 41 = .ok (.iconst 0, 1) := by decide +kernel
theorem dX8_oftenAt_42 : decode cX8_oftenAt 42 = .ok (.iadd, 1) := by decide +kernel
theorem dX8_oftenAt_43 : decode cX8_oftenAt 43 = .ok (.istore_n 3, 1) := by decide +kernel
theorem dX8_oftenAt_44 : decode cX8_oftenAt 44 = .ok (.iinc 4 1, 3) := by decide +kernel
theorem dX8_oftenAt_47 : decode cX8_oftenAt 47 = .ok (.goto (-42), 3) := by decide +kernel
theorem dX8_oftenAt_50 : decode cX8_oftenAt 50 = .ok (.iload_n 3, 1) := by decide +kernel
theorem dX8_oftenAt_51 : decode cX8_oftenAt 51 = .ok (.ireturn, 1) := by decide +kernel
set_option maxRecDepth 20000 in
theorem ggX8_habit_X8_noPerson : GoodIn wsX8_habit wsX8_noPerson := goodIn_r _ [6, 7, 8, 9, 5, 10, 18, 19, 20, 21, 22, 23, 24, 25, 26, 27, 28, 29, 30, 31, 32, 33, 34, 35, 36, 37, 38, 39, 40, 41, 42, 43, 44, 45, 46, 47, 48, 49, 50, 51, 52, 53, 54, 55, 56, 57, 58, 59] (by decide +kernel) (by decide +kernel)
set_option maxRecDepth 20000 in
theorem gX8_habit_X8_noPerson : GoodIn wsX8_habit (wsV RX8 168 RX8 yX8_noPerson wsX8_noPerson) := goodIn_app (goodIn_of _ (by decide +kernel)) ggX8_habit_X8_noPerson
set_option maxRecDepth 20000 in
theorem ggX8_habit_X8_in : GoodIn wsX8_habit wsX8_in := goodIn_r _ [10] (by decide +kernel) (by decide +kernel)
set_option maxRecDepth 20000 in
theorem gX8_habit_X8_in : GoodIn wsX8_habit (va_wsS RX8 102 yX8_in wsX8_in) := goodIn_app (goodIn_of _ (by decide +kernel)) ggX8_habit_X8_in
set_option maxRecDepth 20000 in
theorem ggX8_habit_X8_oftenAt : GoodIn wsX8_habit wsX8_oftenAt := goodIn_r _ [14, 15, 16, 17, 18, 19, 20, 21, 22, 23, 24, 25, 26, 27, 28, 29, 30, 31, 32, 33, 34, 35, 36, 37, 38, 39, 40, 41, 42, 43, 44, 45, 46, 47, 48, 49, 50, 51, 52, 53, 54, 55, 56, 57, 58, 59] (by decide +kernel) (by decide +kernel)
set_option maxRecDepth 20000 in
theorem gX8_habit_X8_oftenAt : GoodIn wsX8_habit (wsV RX8 223 RX8 yX8_oftenAt wsX8_oftenAt) := goodIn_app (goodIn_of _ (by decide +kernel)) ggX8_habit_X8_oftenAt
theorem dX8_habit_0 : decode cX8_habit 0 = .ok (.aload_n 0, 1) := by decide +kernel
theorem dX8_habit_1 : decode cX8_habit 1 = .ok (.iload_n 1, 1) := by decide +kernel
theorem dX8_habit_2 : decode cX8_habit 2 = .ok (.invokevirtual 168, 3) := by decide +kernel
theorem dX8_habit_5 : decode cX8_habit 5 = .ok (.ifCond .eq 5, 3) := by decide +kernel
theorem dX8_habit_8 : decode cX8_habit 8 = .ok (.iconst (-1), 1) := by decide +kernel
theorem dX8_habit_9 : decode cX8_habit 9 = .ok (.ireturn, 1) := by decide +kernel
theorem dX8_habit_10 : decode cX8_habit 10 = .ok (.iload_n 2, 1) := by decide +kernel
theorem dX8_habit_11 : decode cX8_habit 11 = .ok (.i2l, 1) := by decide +kernel
theorem dX8_habit_12 : decode cX8_habit 12 = .ok (.lconst 0, 1) := by decide +kernel
theorem dX8_habit_13 : decode cX8_habit 13 = .ok (.lconst 1, 1) := by decide +kernel
theorem dX8_habit_14 : decode cX8_habit 14 = .ok (.invokestatic 102, 3) := by decide +kernel
theorem dX8_habit_17 : decode cX8_habit 17 = .ok (.ifCond .ne 6, 3) := by decide +kernel
theorem dX8_habit_20 : decode cX8_habit 20 = .ok (.bipush (-2), 2) := by decide +kernel
theorem dX8_habit_22 : decode cX8_habit 22 = .ok (.ireturn, 1) := by decide +kernel
theorem dX8_habit_23 : decode cX8_habit 23 = .ok (.bipush (-9), 2) := by decide +kernel
theorem dX8_habit_25 : decode cX8_habit 25 = .ok (.istore_n 3, 1) := by decide +kernel
theorem dX8_habit_26 : decode cX8_habit 26 = .ok (.iconst 0, 1) := by decide +kernel
theorem dX8_habit_27 : decode cX8_habit 27 = .ok (.istore 4, 2) := by decide +kernel
theorem dX8_habit_29 : decode cX8_habit 29 = .ok (.iconst 0, 1) := by decide +kernel
theorem dX8_habit_30 : decode cX8_habit 30 = .ok (.istore 5, 2) := by decide +kernel
theorem dX8_habit_32 : decode cX8_habit 32 = .ok (.iload 5, 2) := by decide +kernel
theorem dX8_habit_34 : decode cX8_habit 34 = .ok (.aload_n 0, 1) := by decide +kernel
theorem dX8_habit_35 : decode cX8_habit 35 = .ok (.getfield 106, 3) := by decide +kernel
theorem dX8_habit_38 : decode cX8_habit 38 = .ok (.if_icmp .ge 48, 3) := by decide +kernel
theorem dX8_habit_41 : decode cX8_habit 41 = .ok (.aload_n 0, 1) := by decide +kernel
theorem dX8_habit_42 : decode cX8_habit 42 = .ok (.iload_n 1, 1) := by decide +kernel
theorem dX8_habit_43 : decode cX8_habit 43 = .ok (.iload 5, 2) := by decide +kernel
theorem dX8_habit_45 : decode cX8_habit 45 = .ok (.invokevirtual 223, 3) := by decide +kernel
theorem dX8_habit_48 : decode cX8_habit 48 = .ok (.istore 6, 2) := by decide +kernel
theorem dX8_habit_50 : decode cX8_habit 50 = .ok (.iload 6, 2) := by decide +kernel
theorem dX8_habit_52 : decode cX8_habit 52 = .ok (.iload 4, 2) := by decide +kernel
theorem dX8_habit_54 : decode cX8_habit 54 = .ok (.if_icmp .le 8, 3) := by decide +kernel
theorem dX8_habit_57 : decode cX8_habit 57 = .ok (.iload 5, 2) := by decide +kernel
theorem dX8_habit_59 : decode cX8_habit 59 = .ok (.goto 4, 3) := by decide +kernel
theorem dX8_habit_62 : decode cX8_habit 62 = .ok (.iload_n 3, 1) := by decide +kernel
theorem dX8_habit_63 : decode cX8_habit 63 = .ok (.istore_n 3, 1) := by decide +kernel
theorem dX8_habit_64 : decode cX8_habit 64 = .ok (.iload 6, 2) := by decide +kernel
theorem dX8_habit_66 : decode cX8_habit 66 = .ok (.iload 4, 2) := by decide +kernel
theorem dX8_habit_68 : decode cX8_habit 68 = .ok (.if_icmp .le 8, 3) := by decide +kernel
theorem dX8_habit_71 : decode cX8_habit 71 = .ok (.iload 6, 2) := by decide +kernel
theorem dX8_habit_73 : decode cX8_habit 73 = .ok (.goto 5, 3) := by decide +kernel
theorem dX8_habit_76 : decode cX8_habit 76 = .ok (.iload 4, 2) := by decide +kernel
theorem dX8_habit_78 : decode cX8_habit 78 = .ok (.istore 4, 2) := by decide +kernel
theorem dX8_habit_80 : decode cX8_habit 80 = .ok (.iinc 5 1, 3) := by decide +kernel
theorem dX8_habit_83 : decode cX8_habit 83 = .ok (.goto (-51), 3) := by decide +kernel
theorem dX8_habit_86 : decode cX8_habit 86 = .ok (.iload_n 2, 1) := by decide +kernel
theorem dX8_habit_87 : decode cX8_habit 87 = .ok (.ifCond .ne 7, 3) := by decide +kernel
theorem dX8_habit_90 : decode cX8_habit 90 = .ok (.iload_n 3, 1) := by decide +kernel
theorem dX8_habit_91 : decode cX8_habit 91 = .ok (.goto 5, 3) := by decide +kernel
theorem dX8_habit_94 : decode cX8_habit 94 = .ok (.iload 4, 2) := by decide +kernel
theorem dX8_habit_96 : decode cX8_habit 96 = .ok (.ireturn, 1) := by decide +kernel
set_option maxRecDepth 20000 in
theorem ggX8_makers_X8_in : GoodIn wsX8_makers wsX8_in := goodIn_r _ [6] (by decide +kernel) (by decide +kernel)
set_option maxRecDepth 20000 in
theorem gX8_makers_X8_in : GoodIn wsX8_makers (va_wsS RX8 102 yX8_in wsX8_in) := goodIn_app (goodIn_of _ (by decide +kernel)) ggX8_makers_X8_in
set_option maxRecDepth 20000 in
theorem ggX8_makers_X8_isNight : GoodIn wsX8_makers wsX8_isNight := goodIn_r _ [9, 10, 3, 4, 5, 6] (by decide +kernel) (by decide +kernel)
set_option maxRecDepth 20000 in
theorem gX8_makers_X8_isNight : GoodIn wsX8_makers (va_wsS RX8 171 yX8_isNight wsX8_isNight) := goodIn_app (goodIn_of _ (by decide +kernel)) ggX8_makers_X8_isNight
set_option maxRecDepth 20000 in
theorem ggX8_makers_X8_gumOf : GoodIn wsX8_makers wsX8_gumOf := goodIn_r _ [14, 15, 16, 17, 18, 19, 20, 21, 22, 23, 24, 25, 26, 27, 28, 29, 30, 31, 32, 33, 34, 35, 36, 37, 38, 39, 40, 41, 42, 43, 44, 45, 46, 47, 48, 49, 50, 51, 52, 53, 54, 55, 56, 57, 58] (by decide +kernel) (by decide +kernel)
set_option maxRecDepth 20000 in
theorem gX8_makers_X8_gumOf : GoodIn wsX8_makers (wsV RX8 174 RX8 yX8_gumOf wsX8_gumOf) := goodIn_app (goodIn_of _ (by decide +kernel)) ggX8_makers_X8_gumOf
theorem dX8_makers_0 : decode cX8_makers 0 = .ok (.iload_n 1, 1) := by decide +kernel
theorem dX8_makers_1 : decode cX8_makers 1 = .ok (.i2l, 1) := by decide +kernel
theorem dX8_makers_2 : decode cX8_makers 2 = .ok (.lconst 0, 1) := by decide +kernel
theorem dX8_makers_3 : decode cX8_makers 3 = .ok (.ldc2_w 226, 3) := by decide +kernel
theorem dX8_makers_6 : decode cX8_makers 6 = .ok (.invokestatic 102, 3) := by decide +kernel
theorem dX8_makers_9 : decode cX8_makers 9 = .ok (.ifCond .eq 10, 3) := by decide +kernel
theorem dX8_makers_12 : decode cX8_makers 12 = .ok (.iload_n 2, 1) := by decide +kernel
theorem dX8_makers_13 : decode cX8_makers 13 = .ok (.invokestatic 171, 3) := by decide +kernel
theorem dX8_makers_16 : decode cX8_makers 16 = .ok (.ifCond .ne 6, 3) := by decide +kernel
theorem dX8_makers_19 : decode cX8_makers 19 = .ok (.bipush (-2), 2) := by decide +kernel
theorem dX8_makers_21 : decode cX8_makers 21 = .ok (.ireturn, 1) := by decide +kernel
theorem dX8_makers_22 : decode cX8_makers 22 = .ok (.aload_n 0, 1) := by decide +kernel
theorem dX8_makers_23 : decode cX8_makers 23 = .ok (.getfield 99, 3) := by decide +kernel
theorem dX8_makers_26 : decode cX8_makers 26 = .ok (.ifCond .ne 6, 3) := by decide +kernel
theorem dX8_makers_29 : decode cX8_makers 29 = .ok (.bipush (-3), 2) := by decide +kernel
theorem dX8_makers_31 : decode cX8_makers 31 = .ok (.ireturn, 1) := by decide +kernel
theorem dX8_makers_32 : decode cX8_makers 32 = .ok (.iconst 0, 1) := by decide +kernel
theorem dX8_makers_33 : decode cX8_makers 33 = .ok (.istore_n 3, 1) := by decide +kernel
theorem dX8_makers_34 : decode cX8_makers 34 = .ok (.iconst 0, 1) := by decide +kernel
theorem dX8_makers_35 : decode cX8_makers 35 = .ok (.istore 4, 2) := by decide +kernel
theorem dX8_makers_37 : decode cX8_makers 37 = .ok (.iload 4, 2) := by decide +kernel
theorem dX8_makers_39 : decode cX8_makers 39 = .ok (.aload_n 0, 1) := by decide +kernel
theorem dX8_makers_40 : decode cX8_makers 40 = .ok (.getfield 99, 3) := by decide +kernel
theorem dX8_makers_43 : decode cX8_makers 43 = .ok (.if_icmp .ge 31, 3) := by decide +kernel
theorem dX8_makers_46 : decode cX8_makers 46 = .ok (.iload_n 3, 1) := by decide +kernel
theorem dX8_makers_47 : decode cX8_makers 47 = .ok (.aload_n 0, 1) := by decide +kernel
theorem dX8_makers_48 : decode cX8_makers 48 = .ok (.iload 4, 2) := by decide +kernel
theorem dX8_makers_50 : decode cX8_makers 50 = .ok (.iload_n 2, 1) := by decide +kernel
theorem dX8_makers_51 : decode cX8_makers 51 = .ok (.invokevirtual 174, 3) := by decide +kernel
theorem dX8_makers_54 : decode cX8_makers 54 = .ok (.iload_n 1, 1) := by decide +kernel
theorem dX8_makers_55 : decode cX8_makers 55 = .ok (.if_icmp .ne 10, 3) := by decide +kernel
theorem dX8_makers_58 : decode cX8_makers 58 = .ok (.iconst 1, 1) := by decide +kernel
theorem dX8_makers_59 : decode cX8_makers 59 = .ok (.iload 4, 2) := by decide +kernel
theorem dX8_makers_61 : decode cX8_makers 61 = .ok (.ishl, 1) := by decide +kernel
theorem dX8_makers_62 : decode cX8_makers 62 = .ok (.goto 4, 3) := by decide +kernel
theorem dX8_makers_65 : decode cX8_makers 65 = .ok (.iconst 0, 1) := by decide +kernel
theorem dX8_makers_66 : decode cX8_makers 66 = .ok (.ior, 1) := by decide +kernel
theorem dX8_makers_67 : decode cX8_makers 67 = .ok (.istore_n 3, 1) := by decide +kernel
theorem dX8_makers_68 : decode cX8_makers 68 = .ok (.iinc 4 1, 3) := by decide +kernel
theorem dX8_makers_71 : decode cX8_makers 71 = .ok (.goto (-34), 3) := by decide +kernel
theorem dX8_makers_74 : decode cX8_makers 74 = .ok (.iload_n 3, 1) := by decide +kernel
theorem dX8_makers_75 : decode cX8_makers 75 = .ok (.ireturn, 1) := by decide +kernel
theorem dX8_canBoth_0 : decode cX8_canBoth 0 = .ok (.iload_n 2, 1) := by decide +kernel
theorem dX8_canBoth_1 : decode cX8_canBoth 1 = .ok (.iload 5, 2) := by decide +kernel
theorem dX8_canBoth_3 : decode cX8_canBoth 3 = .ok (.if_icmp .ne 27, 3) := by decide +kernel
theorem dX8_canBoth_6 : decode cX8_canBoth 6 = .ok (.iload_n 0, 1) := by decide +kernel
theorem dX8_canBoth_7 : decode cX8_canBoth 7 = .ok (.iload_n 3, 1) := by decide +kernel
theorem dX8_canBoth_8 : decode cX8_canBoth 8 = .ok (.if_icmp .ne 7, 3) := by decide +kernel
theorem dX8_canBoth_11 : decode cX8_canBoth 11 = .ok (.iconst 1, 1) := by decide +kernel
theorem dX8_canBoth_12 : decode cX8_canBoth 12 = .ok (.goto 4, 3) := by decide +kernel
theorem dX8_canBoth_15 : decode cX8_canBoth 15 = .ok (.iconst 0, 1) := by decide +kernel
theorem dX8_canBoth_16 : decode cX8_canBoth 16 = .ok (.iload_n 1, 1) := by decide +kernel
theorem dX8_canBoth_17 : decode cX8_canBoth 17 = .ok (.iload 4, 2) := by decide +kernel
theorem dX8_canBoth_19 : decode cX8_canBoth 19 = .ok (.if_icmp .ne 7, 3) := by decide +kernel
theorem dX8_canBoth_22 : decode cX8_canBoth 22 = .ok (.iconst 1, 1) := by decide +kernel
theorem dX8_canBoth_23 : decode cX8_canBoth 23 = .ok (.goto 4, 3) := by decide +kernel
theorem dX8_canBoth_26 : decode cX8_canBoth 26 = .ok (.iconst 0, 1) := by decide +kernel
theorem dX8_canBoth_27 : decode cX8_canBoth 27 = .ok (.if_icmp .ne 7, 3) := by decide +kernel
theorem dX8_canBoth_30 : decode cX8_canBoth 30 = .ok (.iconst 1, 1) := by decide +kernel
theorem dX8_canBoth_31 : decode cX8_canBoth 31 = .ok (.goto 4, 3) := by decide +kernel
theorem dX8_canBoth_34 : decode cX8_canBoth 34 = .ok (.iconst 0, 1) := by decide +kernel
theorem dX8_canBoth_35 : decode cX8_canBoth 35 = .ok (.ireturn, 1) := by decide +kernel
set_option maxRecDepth 20000 in
theorem ggX8_judgeClaims_X8_canBoth : GoodIn wsX8_judgeClaims wsX8_canBoth := goodIn_r _ [9] (by decide +kernel) (by decide +kernel)
set_option maxRecDepth 20000 in
theorem gX8_judgeClaims_X8_canBoth : GoodIn wsX8_judgeClaims (va_wsS RX8 228 yX8_canBoth wsX8_canBoth) := goodIn_app (goodIn_of _ (by decide +kernel)) ggX8_judgeClaims_X8_canBoth
theorem dX8_judgeClaims_0 : decode cX8_judgeClaims 0 = .ok (.iconst 0, 1) := by decide +kernel
theorem dX8_judgeClaims_1 : decode cX8_judgeClaims 1 = .ok (.istore_n 3, 1) := by decide +kernel
theorem dX8_judgeClaims_2 : decode cX8_judgeClaims 2 = .ok (.iload_n 3, 1) := by decide +kernel
theorem dX8_judgeClaims_3 : decode cX8_judgeClaims 3 = .ok (.iload_n 2, 1) := by decide +kernel
theorem dX8_judgeClaims_4 : decode cX8_judgeClaims 4 = .ok (.if_icmp .ge 198, 3) := by decide +kernel
theorem dX8_judgeClaims_7 : decode cX8_judgeClaims 7 = .ok (.aload_n 0, 1) := by decide +kernel
theorem dX8_judgeClaims_8 : decode cX8_judgeClaims 8 = .ok (.getfield 80, 3) := by decide +kernel
theorem dX8_judgeClaims_11 : decode cX8_judgeClaims 11 = .ok (.iload_n 1, 1) := by decide +kernel
theorem dX8_judgeClaims_12 : decode cX8_judgeClaims 12 = .ok (.iconst 3, 1) := by decide +kernel
theorem dX8_judgeClaims_13 : decode cX8_judgeClaims 13 = .ok (.iload_n 3, 1) := by decide +kernel
theorem dX8_judgeClaims_14 : decode cX8_judgeClaims 14 = .ok (.imul, 1) := by decide +kernel
theorem dX8_judgeClaims_15 : decode cX8_judgeClaims 15 = .ok (.iadd, 1) := by decide +kernel
theorem dX8_judgeClaims_16 : decode cX8_judgeClaims 16 = .ok (.iaload, 1) := by decide +kernel
theorem dX8_judgeClaims_17 : decode cX8_judgeClaims 17 = .ok (.istore 4, 2) := by decide +kernel
theorem dX8_judgeClaims_19 : decode cX8_judgeClaims 19 = .ok (.aload_n 0, 1) := by decide +kernel
theorem dX8_judgeClaims_20 : decode cX8_judgeClaims 20 = .ok (.getfield 80, 3) := by decide +kernel
theorem dX8_judgeClaims_23 : decode cX8_judgeClaims 23 = .ok (.iload_n 1, 1) := by decide +kernel
theorem dX8_judgeClaims_24 : decode cX8_judgeClaims 24 = .ok (.iconst 3, 1) := by decide +kernel
theorem dX8_judgeClaims_25 : decode cX8_judgeClaims 25 = .ok (.iload_n 3, 1) := by decide +kernel
theorem dX8_judgeClaims_26 : decode cX8_judgeClaims 26 = .ok (.imul, 1) := by decide +kernel
