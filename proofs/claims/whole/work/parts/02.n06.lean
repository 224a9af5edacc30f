set_option maxRecDepth 20000 in
theorem gX7_isSoWith_X5_add : GoodIn wsX7_isSoWith (wsV RX7 116 RX5 yX5_add wsX5_add) := goodIn_app (goodIn_of _ (by decide +kernel)) ggX7_isSoWith_X5_add
set_option maxRecDepth 20000 in
theorem ggX7_isSoWith_X5_isSoWithout : GoodIn wsX7_isSoWith wsX5_isSoWithout := goodIn_r _ [60, 43, 49, 61, 62, 63, 39, 64, 41, 44, 65, 66, 67, 68, 69, 70, 71, 54, 55, 56, 72, 73, 74, 75, 46, 47, 48, 76, 77, 78, 79, 80, 81, 82, 83, 84, 85, 86, 87, 88, 89, 90, 91, 92, 93, 94, 95, 96, 97, 98, 99, 100, 101, 102, 103, 104, 105, 106, 107, 108, 125, 126, 127, 128, 129, 130, 131, 132, 133, 134] (by decide +kernel) (by decide +kernel)
set_option maxRecDepth 20000 in
theorem gX7_isSoWith_X5_isSoWithout : GoodIn wsX7_isSoWith (wsV RX7 183 RX5 yX5_isSoWithout wsX5_isSoWithout) := goodIn_app (goodIn_of _ (by decide +kernel)) ggX7_isSoWith_X5_isSoWithout
set_option maxRecDepth 20000 in
theorem ggX7_isSoWith_X5_takeBack : GoodIn wsX7_isSoWith wsX5_takeBack := goodIn_r _ [112, 41, 43, 49, 44, 54, 55, 39, 56, 125, 126, 127, 128, 129, 130, 131] (by decide +kernel) (by decide +kernel)
set_option maxRecDepth 20000 in
theorem gX7_isSoWith_X5_takeBack : GoodIn wsX7_isSoWith (wsV RX7 120 RX5 yX5_takeBack wsX5_takeBack) := goodIn_app (goodIn_of _ (by decide +kernel)) ggX7_isSoWith_X5_takeBack
theorem dX7_isSoWith_0 : decode cX7_isSoWith 0 = .ok (.iload_n 1, 1) := by decide +kernel
theorem dX7_isSoWith_1 : decode cX7_isSoWith 1 = .ok (.iconst 2, 1) := by decide +kernel
theorem dX7_isSoWith_2 : decode cX7_isSoWith 2 = .ok (.if_icmp .ne 13, 3) := by decide +kernel
theorem dX7_isSoWith_5 : decode cX7_isSoWith 5 = .ok (.aload_n 0, 1) := by decide +kernel
theorem dX7_isSoWith_6 : decode cX7_isSoWith 6 = .ok (.iload 4, 2) := by decide +kernel
theorem dX7_isSoWith_8 : decode cX7_isSoWith 8 = .ok (.iload_n 2, 1) := by decide +kernel
theorem dX7_isSoWith_9 : decode cX7_isSoWith 9 = .ok (.invokevirtual 169, 3) := by decide +kernel
theorem dX7_isSoWith_12 : decode cX7_isSoWith 12 = .ok (.goto 4, 3) := by decide +kernel
theorem dX7_isSoWith_15 : decode cX7_isSoWith 15 = .ok (.iconst 0, 1) := by decide +kernel
theorem dX7_isSoWith_16 : decode cX7_isSoWith 16 = .ok (.istore 5, 2) := by decide +kernel
theorem dX7_isSoWith_18 : decode cX7_isSoWith 18 = .ok (.aload_n 0, 1) := by decide +kernel
theorem dX7_isSoWith_19 : decode cX7_isSoWith 19 = .ok (.getfield 30, 3) := by decide +kernel
theorem dX7_isSoWith_22 : decode cX7_isSoWith 22 = .ok (.iload_n 1, 1) := by decide +kernel
theorem dX7_isSoWith_23 : decode cX7_isSoWith 23 = .ok (.iload_n 2, 1) := by decide +kernel
theorem dX7_isSoWith_24 : decode cX7_isSoWith 24 = .ok (.iload_n 3, 1) := by decide +kernel
theorem dX7_isSoWith_25 : decode cX7_isSoWith 25 = .ok (.iload 4, 2) := by decide +kernel
theorem dX7_isSoWith_27 : decode cX7_isSoWith 27 = .ok (.iload 5, 2) := by decide +kernel
theorem dX7_isSoWith_29 : decode cX7_isSoWith 29 = .ok (.invokevirtual 116, 3) := by decide +kernel
theorem dX7_isSoWith_32 : decode cX7_isSoWith 32 = .ok (.pop, 1) := by decide +kernel
theorem dX7_isSoWith_33 : decode cX7_isSoWith 33 = .ok (.aload_n 0, 1) := by decide +kernel
theorem dX7_isSoWith_34 : decode cX7_isSoWith 34 = .ok (.getfield 30, 3) := by decide +kernel
theorem dX7_isSoWith_37 : decode cX7_isSoWith 37 = .ok (.bipush (-9), 2) := by decide +kernel
theorem dX7_isSoWith_39 : decode cX7_isSoWith 39 = .ok (.aload_n 0, 1) := by decide +kernel
theorem dX7_isSoWith_40 : decode cX7_isSoWith 40 = .ok (.getfield 37, 3) := by decide +kernel
theorem dX7_isSoWith_43 : decode cX7_isSoWith 43 = .ok (.invokevirtual 183, 3) := by decide +kernel
theorem dX7_isSoWith_46 : decode cX7_isSoWith 46 = .ok (.istore 6, 2) := by decide +kernel
theorem dX7_isSoWith_48 : decode cX7_isSoWith 48 = .ok (.aload_n 0, 1) := by decide +kernel
theorem dX7_isSoWith_49 : decode cX7_isSoWith 49 = .ok (.getfield 30, 3) := by decide +kernel
theorem dX7_isSoWith_52 : decode cX7_isSoWith 52 = .ok (.iload_n 1, 1) := by decide +kernel
theorem dX7_isSoWith_53 : decode cX7_isSoWith 53 = .ok (.iconst 1, 1) := by decide +kernel
theorem dX7_isSoWith_54 : decode cX7_isSoWith 54 = .ok (.invokevirtual 120, 3) := by decide +kernel
theorem dX7_isSoWith_57 : decode cX7_isSoWith 57 = .ok (.pop, 1) := by decide +kernel
theorem dX7_isSoWith_58 : decode cX7_isSoWith 58 = .ok (.iload 6, 2) := by decide +kernel
theorem dX7_isSoWith_60 : decode cX7_isSoWith 60 = .ok (.ireturn, 1) := by decide +kernel
set_option maxRecDepth 20000 in
theorem ggX7_telling_X7_isTaken : GoodIn wsX7_telling wsX7_isTaken := goodIn_r _ [7, 2, 8, 9, 10, 11, 12, 13, 14, 15, 16, 17, 18, 19, 20, 21, 22, 23, 24, 25, 26, 27, 28, 42, 43, 44, 45, 46, 47, 48, 49, 50, 51, 52, 53, 54, 55, 56, 57] (by decide +kernel) (by decide +kernel)
set_option maxRecDepth 20000 in
theorem gX7_telling_X7_isTaken : GoodIn wsX7_telling (wsV RX7 263 RX7 yX7_isTaken wsX7_isTaken) := goodIn_app (goodIn_of _ (by decide +kernel)) ggX7_telling_X7_isTaken
set_option maxRecDepth 20000 in
theorem ggX7_telling_X5_restOf : GoodIn wsX7_telling wsX5_restOf := goodIn_r _ [32, 33, 18, 34, 28, 35, 36, 37, 11, 38, 23, 39, 40, 41, 51, 52, 53, 54, 55, 56, 57] (by decide +kernel) (by decide +kernel)
set_option maxRecDepth 20000 in
theorem gX7_telling_X5_restOf : GoodIn wsX7_telling (wsV RX7 266 RX5 yX5_restOf wsX5_restOf) := goodIn_app (goodIn_of _ (by decide +kernel)) ggX7_telling_X5_restOf
theorem dX7_telling_0 : decode cX7_telling 0 = .ok (.iconst 0, 1) := by decide +kernel
theorem dX7_telling_1 : decode cX7_telling 1 = .ok (.istore_n 3, 1) := by decide +kernel
theorem dX7_telling_2 : decode cX7_telling 2 = .ok (.iconst 0, 1) := by decide +kernel
theorem dX7_telling_3 : decode cX7_telling 3 = .ok (.istore 4, 2) := by decide +kernel
theorem dX7_telling_5 : decode cX7_telling 5 = .ok (.iload 4, 2) := by decide +kernel
theorem dX7_telling_7 : decode cX7_telling 7 = .ok (.aload_n 0, 1) := by decide +kernel
theorem dX7_telling_8 : decode cX7_telling 8 = .ok (.getfield 52, 3) := by decide +kernel
theorem dX7_telling_11 : decode cX7_telling 11 = .ok (.if_icmp .ge 51, 3) := by decide +kernel
theorem dX7_telling_14 : decode cX7_telling 14 = .ok (.aload_n 0, 1) := by decide +kernel
theorem dX7_telling_15 : decode cX7_telling 15 = .ok (.iload 4, 2) := by decide +kernel
theorem dX7_telling_17 : decode cX7_telling 17 = .ok (.iload_n 1, 1) := by decide +kernel
theorem dX7_telling_18 : decode cX7_telling 18 = .ok (.invokevirtual 263, 3) := by decide +kernel
theorem dX7_telling_21 : decode cX7_telling 21 = .ok (.ifCond .eq 8, 3) := by decide +kernel
theorem dX7_telling_24 : decode cX7_telling 24 = .ok (.bipush (-9), 2) := by decide +kernel
theorem dX7_telling_26 : decode cX7_telling 26 = .ok (.goto 14, 3) := by decide +kernel
theorem dX7_telling_29 : decode cX7_telling 29 = .ok (.aload_n 0, 1) := by decide +kernel
theorem dX7_telling_30 : decode cX7_telling 30 = .ok (.getfield 30, 3) := by decide +kernel
theorem dX7_telling_33 : decode cX7_telling 33 = .ok (.iload 4, 2) := by decide +kernel
theorem dX7_telling_35 : decode cX7_telling 35 = .ok (.iload_n 1, 1) := by decide +kernel
theorem dX7_telling_36 : decode cX7_telling 36 = .ok (.iload_n 2, 1) := by decide +kernel
theorem dX7_telling_37 : decode cX7_telling 37 = .ok (.invokevirtual 266, 3) := by decide +kernel
theorem dX7_telling_40 : decode cX7_telling 40 = .ok (.istore 5, 2) := by decide +kernel
theorem dX7_telling_42 : decode cX7_telling 42 = .ok (.iload 5, 2) := by decide +kernel
theorem dX7_telling_44 : decode cX7_telling 44 = .ok (.bipush (-9), 2) := by decide +kernel
theorem dX7_telling_46 : decode cX7_telling 46 = .ok (.if_icmp .eq 10, 3) := by decide +kernel
theorem dX7_telling_49 : decode cX7_telling 49 = .ok (.iload_n 3, 1) := by decide +kernel
theorem dX7_telling_50 : decode cX7_telling 50 = .ok (.iconst 1, 1) := by decide +kernel
theorem dX7_telling_51 : decode cX7_telling 51 = .ok (.iload 5, 2) := by decide +kernel
theorem dX7_telling_53 : decode cX7_telling 53 = .ok (.ishl, 1) := by decide +kernel
theorem dX7_telling_54 : decode cX7_telling 54 = .ok (.ior, 1) := by decide +kernel
theorem dX7_telling_55 : decode cX7_telling 55 = .ok (.istore_n 3, 1) := by decide +kernel
theorem dX7_telling_56 : decode cX7_telling 56 = .ok (.iinc 4 1, 3) := by decide +kernel
theorem dX7_telling_59 : decode cX7_telling 59 = .ok (.goto (-54), 3) := by decide +kernel
theorem dX7_telling_62 : decode cX7_telling 62 = .ok (.iload_n 3, 1) := by decide +kernel
theorem dX7_telling_63 : decode cX7_telling 63 = .ok (.ireturn, 1) := by decide +kernel
set_option maxRecDepth 20000 in
theorem ggX7_mostAlike_J7_fill_53178 : GoodIn wsX7_mostAlike wsJ7_fill_53178 := goodIn_r _ [10] (by decide +kernel) (by decide +kernel)
set_option maxRecDepth 20000 in
theorem gX7_mostAlike_J7_fill_53178 : GoodIn wsX7_mostAlike (va_wsS RX7 270 yJ7_fill_53178 wsJ7_fill_53178) := goodIn_app (goodIn_of _ (by decide +kernel)) ggX7_mostAlike_J7_fill_53178
set_option maxRecDepth 20000 in
theorem ggX7_mostAlike_X7_gumLeft : GoodIn wsX7_mostAlike wsX7_gumLeft := goodIn_r _ [15, 16, 17, 18, 14, 19, 2, 20, 21, 22, 23, 24, 25, 26, 27, 28, 29, 30, 31, 32, 33, 34, 35, 36, 37, 38, 39, 40, 41, 42, 77, 78, 79, 80, 81, 82, 83, 84, 85, 86, 87, 88] (by decide +kernel) (by decide +kernel)
set_option maxRecDepth 20000 in
theorem gX7_mostAlike_X7_gumLeft : GoodIn wsX7_mostAlike (wsV RX7 169 RX7 yX7_gumLeft wsX7_gumLeft) := goodIn_app (goodIn_of _ (by decide +kernel)) ggX7_mostAlike_X7_gumLeft
set_option maxRecDepth 20000 in
theorem ggX7_mostAlike_X7_isGum : GoodIn wsX7_mostAlike wsX7_isGum := goodIn_r _ [45] (by decide +kernel) (by decide +kernel)
set_option maxRecDepth 20000 in
theorem gX7_mostAlike_X7_isGum : GoodIn wsX7_mostAlike (va_wsS RX7 162 yX7_isGum wsX7_isGum) := goodIn_app (goodIn_of _ (by decide +kernel)) ggX7_mostAlike_X7_isGum
set_option maxRecDepth 20000 in
theorem ggX7_mostAlike_X7_placeOn : GoodIn wsX7_mostAlike wsX7_placeOn := goodIn_r _ [49, 50, 51, 52, 53, 54, 55, 56, 57, 58, 59, 60, 61, 62, 63, 64, 65, 66, 67, 68, 69, 70, 71, 72, 73, 74, 75, 76, 77, 78, 79, 80, 81, 82, 83, 84, 85, 89, 90, 91, 92, 93, 94, 95] (by decide +kernel) (by decide +kernel)
set_option maxRecDepth 20000 in
theorem gX7_mostAlike_X7_placeOn : GoodIn wsX7_mostAlike (wsV RX7 149 RX7 yX7_placeOn wsX7_placeOn) := goodIn_app (goodIn_of _ (by decide +kernel)) ggX7_mostAlike_X7_placeOn
theorem dX7_mostAlike_0 : decode cX7_mostAlike 0 = .ok (.aload_n 0, 1) := by decide +kernel
theorem dX7_mostAlike_1 : decode cX7_mostAlike 1 = .ok (.getfield 23, 3) := by decide +kernel
theorem dX7_mostAlike_4 : decode cX7_mostAlike 4 = .ok (.iconst 0, 1) := by decide +kernel
theorem dX7_mostAlike_5 : decode cX7_mostAlike 5 = .ok (.invokestatic 270, 3) := by decide +kernel
theorem dX7_mostAlike_8 : decode cX7_mostAlike 8 = .ok (.iconst 0, 1) := by decide +kernel
theorem dX7_mostAlike_9 : decode cX7_mostAlike 9 = .ok (.istore_n 2, 1) := by decide +kernel
theorem dX7_mostAlike_10 : decode cX7_mostAlike 10 = .ok (.iconst 0, 1) := by decide +kernel
theorem dX7_mostAlike_11 : decode cX7_mostAlike 11 = .ok (.istore_n 3, 1) := by decide +kernel
theorem dX7_mostAlike_12 : decode cX7_mostAlike 12 = .ok (.iload_n 3, 1) := by decide +kernel
theorem dX7_mostAlike_13 : decode cX7_mostAlike 13 = .ok (.aload_n 0, 1) := by decide +kernel
theorem dX7_mostAlike_14 : decode cX7_mostAlike 14 = .ok (.getfield 48, 3) := by decide +kernel
theorem dX7_mostAlike_17 : decode cX7_mostAlike 17 = .ok (.if_icmp .ge 59, 3) := by decide +kernel
theorem dX7_mostAlike_20 : decode cX7_mostAlike 20 = .ok (.aload_n 0, 1) := by decide +kernel
theorem dX7_mostAlike_21 : decode cX7_mostAlike 21 = .ok (.iload_n 3, 1) := by decide +kernel
theorem dX7_mostAlike_22 : decode cX7_mostAlike 22 = .ok (.iload_n 1, 1) := by decide +kernel
theorem dX7_mostAlike_23 : decode cX7_mostAlike 23 = .ok (.invokevirtual 169, 3) := by decide +kernel
theorem dX7_mostAlike_26 : decode cX7_mostAlike 26 = .ok (.istore 4, 2) := by decide +kernel
theorem dX7_mostAlike_28 : decode cX7_mostAlike 28 = .ok (.iload 4, 2) := by decide +kernel
theorem dX7_mostAlike_30 : decode cX7_mostAlike 30 = .ok (.invokestatic 162, 3) := by decide +kernel
theorem dX7_mostAlike_33 : decode cX7_mostAlike 33 = .ok (.ifCond .eq 37, 3) := by decide +kernel
theorem dX7_mostAlike_36 : decode cX7_mostAlike 36 = .ok (.aload_n 0, 1) := by decide +kernel
theorem dX7_mostAlike_37 : decode cX7_mostAlike 37 = .ok (.iload_n 1, 1) := by decide +kernel
theorem dX7_mostAlike_38 : decode cX7_mostAlike 38 = .ok (.iload_n 3, 1) := by decide +kernel
theorem dX7_mostAlike_39 : decode cX7_mostAlike 39 = .ok (.invokevirtual 149, 3) := by decide +kernel
theorem dX7_mostAlike_42 : decode cX7_mostAlike 42 = .ok (.bipush (-9), 2) := by decide +kernel
theorem dX7_mostAlike_44 : decode cX7_mostAlike 44 = .ok (.if_icmp .ne 26, 3) := by decide +kernel
theorem dX7_mostAlike_47 : decode cX7_mostAlike 47 = .ok (.aload_n 0, 1) := by decide +kernel
theorem dX7_mostAlike_48 : decode cX7_mostAlike 48 = .ok (.getfield 23, 3) := by decide +kernel
theorem dX7_mostAlike_51 : decode cX7_mostAlike 51 = .ok (.iload 4, 2) := by decide +kernel
theorem dX7_mostAlike_53 : decode cX7_mostAlike 53 = .ok (.dup2, 1) := by decide +kernel
theorem dX7_mostAlike_54 : decode cX7_mostAlike 54 = .ok (.iaload, 1) := by decide +kernel
theorem dX7_mostAlike_55 : decode cX7_mostAlike 55 = .ok (.iconst 1, 1) := by decide +kernel
theorem dX7_mostAlike_56 : decode cX7_mostAlike 56 = .ok (.iadd, 1) := by decide +kernel
theorem dX7_mostAlike_57 : decode cX7_mostAlike 57 = .ok (.iastore, 1) := by decide +kernel
theorem dX7_mostAlike_58 : decode cX7_mostAlike 58 = .ok (.iload_n 2, 1) := by decide +kernel
theorem dX7_mostAlike_59 : decode cX7_mostAlike 59 = .ok (.aload_n 0, 1) := by decide +kernel
theorem dX7_mostAlike_60 : decode cX7_mostAlike 60 = .ok (.getfield 23, 3) := by decide +kernel
theorem dX7_mostAlike_63 : decode cX7_mostAlike 63 = .ok (.iload 4, 2) := by decide +kernel
theorem dX7_mostAlike_65 : decode cX7_mostAlike 65 = .ok (.iaload, 1) := by decide +kernel
theorem dX7_mostAlike_66 : decode cX7_mostAlike 66 = .ok (.invokestatic 193, 3) := by decide +kernel
theorem dX7_mostAlike_69 : decode cX7_mostAlike 69 = .ok (.istore_n 2, 1) := by decide +kernel
theorem dX7_mostAlike_70 : decode cX7_mostAlike 70 = .ok (.iinc 3 1, 3) := by decide +kernel
theorem dX7_mostAlike_73 : decode cX7_mostAlike 73 = .ok (.goto (-61), 3) := by decide +kernel
theorem dX7_mostAlike_76 : decode cX7_mostAlike 76 = .ok (.iload_n 2, 1) := by decide +kernel
theorem dX7_mostAlike_77 : decode cX7_mostAlike 77 = .ok (.ireturn, 1) := by decide +kernel
theorem dX7_waysToPick_0 : decode cX7_waysToPick 0 = .ok (.iload_n 1, 1) := by decide +kernel
theorem dX7_waysToPick_1 : decode cX7_waysToPick 1 = .ok (.iload_n 0, 1) := by decide +kernel
theorem dX7_waysToPick_2 : decode cX7_waysToPick 2 = .ok (.if_icmp .le 5, 3) := by decide +kernel
theorem dX7_waysToPick_5 : decode cX7_waysToPick 5 = .ok (.lconst 0, 1) := by decide +kernel
theorem dX7_waysToPick_6 : decode cX7_waysToPick 6 = .ok (.lreturn, 1) := by decide +kernel
theorem dX7_waysToPick_7 : decode cX7_waysToPick 7 = .ok (.lconst 1, 1) := by decide +kernel
theorem dX7_waysToPick_8 : decode cX7_waysToPick 8 = .ok (.lstore_n 2, 1) := by decide +kernel
theorem dX7_waysToPick_9 : decode cX7_waysToPick 9 = .ok (.iconst 1, 1) := by decide +kernel
theorem dX7_waysToPick_10 : decode cX7_waysToPick 10 = .ok (.istore 4, 2) := by decide +kernel
theorem dX7_waysToPick_12 : decode cX7_waysToPick 12 = .ok (.iload 4, 2) := by decide +kernel
theorem dX7_waysToPick_14 : decode cX7_waysToPick 14 = .ok (.iload_n 1, 1) := by decide +kernel
theorem dX7_waysToPick_15 : decode cX7_waysToPick 15 = .ok (.if_icmp .gt 23, 3) := by decide +kernel
theorem dX7_waysToPick_18 : decode cX7_waysToPick 18 = .ok (.lload_n 2, 1) := by decide +kernel
theorem dX7_waysToPick_19 : decode cX7_waysToPick 19 = .ok (.iload_n 0, 1) := by decide +kernel
theorem dX7_waysToPick_20 : decode cX7_waysToPick 20 = .ok (.iload_n 1, 1) := by decide +kernel
theorem dX7_waysToPick_21 : decode cX7_waysToPick 21 = .ok (.isub, 1) := by decide +kernel
theorem dX7_waysToPick_22 : decode cX7_waysToPick 22 = .ok (.iload 4, 2) := by decide +kernel
theorem dX7_waysToPick_24 : decode cX7_waysToPick 24 = .ok (.iadd, 1) := by decide +kernel
theorem dX7_waysToPick_25 : decode cX7_waysToPick 25 = .ok (.i2l, 1) := by decide +kernel
theorem dX7_waysToPick_26 : decode cX7_waysToPick 26 = .ok (.lmul, 1) := by decide +kernel
theorem dX7_waysToPick_27 : decode cX7_waysToPick 27 = .ok (.iload 4, 2) := by decide +kernel
theorem dX7_waysToPick_29 : decode cX7_waysToPick 29 = .ok (.i2l, 1) := by decide +kernel
theorem dX7_waysToPick_30 : decode cX7_waysToPick 30 = .ok (.ldiv, 1) := by decide +kernel
theorem dX7_waysToPick_31 : decode cX7_waysToPick 31 = .ok (.lstore_n 2, 1) := by decide +kernel
theorem dX7_waysToPick_32 : decode cX7_waysToPick 32 = .ok (.iinc 4 1, 3) := by decide +kernel
theorem dX7_waysToPick_35 : decode cX7_waysToPick 35 = .ok (.goto (-23), 3) := by decide +kernel
theorem dX7_waysToPick_38 : decode cX7_waysToPick 38 = .ok (.lload_n 2, 1) := by decide +kernel
theorem dX7_waysToPick_39 : decode cX7_waysToPick 39 = .ok (.lreturn, 1) := by decide +kernel
set_option maxRecDepth 20000 in
theorem ggX8_init_X8_meanNothing : GoodIn wsX8_init wsX8_meanNothing := goodIn_r _ [35, 36, 37, 38, 39, 40, 41, 42, 43, 44, 45, 46, 47, 48, 49, 50, 51, 52, 53, 54, 55, 56, 57, 58, 59, 60, 61, 62, 63, 64, 65, 66, 67, 68, 69, 70, 71, 72, 73, 74, 75, 76, 77, 78, 79, 80] (by decide +kernel) (by decide +kernel)
set_option maxRecDepth 20000 in
theorem gX8_init_X8_meanNothing : GoodIn wsX8_init (wsV RX8 86 RX8 yX8_meanNothing wsX8_meanNothing) := goodIn_app (goodIn_of _ (by decide +kernel)) ggX8_init_X8_meanNothing
theorem dX8_init_0 : decode cX8_init 0 = .ok (.aload_n 0, 1) := by decide +kernel
theorem dX8_init_1 : decode cX8_init 1 = .ok (.invokespecial 1, 3) := by decide +kernel
theorem dX8_init_4 : decode cX8_init 4 = .ok (.aload_n 0, 1) := by decide +kernel
theorem dX8_init_5 : decode cX8_init 5 = .ok (.iconst 5, 1) := by decide +kernel
theorem dX8_init_6 : decode cX8_init 6 = .ok (.newarray .int, 2) := by decide +kernel
theorem dX8_init_8 : decode cX8_init 8 = .ok (.putfield 7, 3) := by decide +kernel
theorem dX8_init_11 : decode cX8_init 11 = .ok (.aload_n 0, 1) := by decide +kernel
theorem dX8_init_12 : decode cX8_init 12 = .ok (.iconst 5, 1) := by decide +kernel
theorem dX8_init_13 : decode cX8_init 13 = .ok (.newarray .int, 2) := by decide +kernel
theorem dX8_init_15 : decode cX8_init 15 = .ok (.putfield 13, 3) := by decide +kernel
theorem dX8_init_18 : decode cX8_init 18 = .ok (.aload_n 0, 1) := by decide +kernel
theorem dX8_init_19 : decode cX8_init 19 = .ok (.iconst 5, 1) := by decide +kernel
theorem dX8_init_20 : decode cX8_init 20 = .ok (.newarray .int, 2) := by decide +kernel
theorem dX8_init_22 : decode cX8_init 22 = .ok (.putfield 16, 3) := by decide +kernel
theorem dX8_init_25 : decode cX8_init 25 = .ok (.aload_n 0, 1) := by decide +kernel
theorem dX8_init_26 : decode cX8_init 26 = .ok (.iconst 5, 1) := by decide +kernel
theorem dX8_init_27 : decode cX8_init 27 = .ok (.newarray .int, 2) := by decide +kernel
theorem dX8_init_29 : decode cX8_init 29 = .ok (.putfield 19, 3) := by decide +kernel
theorem dX8_init_32 : decode cX8_init 32 = .ok (.aload_n 0, 1) := by decide +kernel
theorem dX8_init_33 : decode cX8_init 33 = .ok (.bipush 25, 2) := by decide +kernel
theorem dX8_init_35 : decode cX8_init 35 = .ok (.newarray .int, 2) := by decide +kernel
theorem dX8_init_37 : decode cX8_init 37 = .ok (.putfield 22, 3) := by decide +kernel
theorem dX8_init_40 : decode cX8_init 40 = .ok (.aload_n 0, 1) := by decide +kernel
theorem dX8_init_41 : decode cX8_init 41 = .ok (.bipush 25, 2) := by decide +kernel
theorem dX8_init_43 : decode cX8_init 43 = .ok (.newarray .int, 2) := by decide +kernel
theorem dX8_init_45 : decode cX8_init 45 = .ok (.putfield 25, 3) := by decide +kernel
theorem dX8_init_48 : decode cX8_init 48 = .ok (.aload_n 0, 1) := by decide +kernel
theorem dX8_init_49 : decode cX8_init 49 = .ok (.bipush 25, 2) := by decide +kernel
theorem dX8_init_51 : decode cX8_init 51 = .ok (.newarray .int, 2) := by decide +kernel
theorem dX8_init_53 : decode cX8_init 53 = .ok (.putfield 28, 3) := by decide +kernel
theorem dX8_init_56 : decode cX8_init 56 = .ok (.aload_n 0, 1) := by decide +kernel
theorem dX8_init_57 : decode cX8_init 57 = .ok (.bipush 6, 2) := by decide +kernel
theorem dX8_init_59 : decode cX8_init 59 = .ok (.newarray .int, 2) := by decide +kernel
theorem dX8_init_61 : decode cX8_init 61 = .ok (.putfield 31, 3) := by decide +kernel
theorem dX8_init_64 : decode cX8_init 64 = .ok (.aload_n 0, 1) := by decide +kernel
theorem dX8_init_65 : decode cX8_init 65 = .ok (.bipush 6, 2) := by decide +kernel
theorem dX8_init_67 : decode cX8_init 67 = .ok (.newarray .int, 2) := by decide +kernel
theorem dX8_init_69 : decode cX8_init 69 = .ok (.putfield 34, 3) := by decide +kernel
theorem dX8_init_72 : decode cX8_init 72 = .ok (.aload_n 0, 1) := by decide +kernel
theorem dX8_init_73 : decode cX8_init 73 = .ok (.bipush 6, 2) := by decide +kernel
theorem dX8_init_75 : decode cX8_init 75 = .ok (.newarray .int, 2) := by decide +kernel
theorem dX8_init_77 : decode cX8_init 77 = .ok (.putfield 37, 3) := by decide +kernel
theorem dX8_init_80 : decode cX8_init 80 = .ok (.aload_n 0, 1) := by decide +kernel
theorem dX8_init_81 : decode cX8_init 81 = .ok (.bipush 6, 2) := by decide +kernel
theorem dX8_init_83 : decode cX8_init 83 = .ok (.newarray .int, 2) := by decide +kernel
theorem dX8_init_85 : decode cX8_init 85 = .ok (.putfield 40, 3) := by decide +kernel
theorem dX8_init_88 : decode cX8_init 88 = .ok (.aload_n 0, 1) := by decide +kernel
theorem dX8_init_89 : decode cX8_init 89 = .ok (.bipush 6, 2) := by decide +kernel
theorem dX8_init_91 : decode cX8_init 91 = .ok (.newarray .int, 2) := by decide +kernel
theorem dX8_init_93 : decode cX8_init 93 = .ok (.putfield 43, 3) := by decide +kernel
theorem dX8_init_96 : decode cX8_init 96 = .ok (.aload_n 0, 1) := by decide +kernel
theorem dX8_init_97 : decode cX8_init 97 = .ok (.bipush 6, 2) := by decide +kernel
theorem dX8_init_99 : decode cX8_init 99 = .ok (.newarray .int, 2) := by decide +kernel
theorem dX8_init_101 : decode cX8_init 101 = .ok (.putfield 46, 3) := by decide +kernel
theorem dX8_init_104 : decode cX8_init 104 = .ok (.aload_n 0, 1) := by decide +kernel
theorem dX8_init_105 : decode cX8_init 105 = .ok (.bipush 6, 2) := by decide +kernel
theorem dX8_init_107 : decode cX8_init 107 = .ok (.newarray .int, 2) := by decide +kernel
theorem dX8_init_109 : decode cX8_init 109 = .ok (.putfield 49, 3) := by decide +kernel
theorem dX8_init_112 : decode cX8_init 112 = .ok (.aload_n 0, 1) := by decide +kernel
theorem dX8_init_113 : decode cX8_init 113 = .ok (.sipush 150, 3) := by decide +kernel
theorem dX8_init_116 : decode cX8_init 116 = .ok (.newarray .int, 2) := by decide +kernel
theorem dX8_init_118 : decode cX8_init 118 = .ok (.putfield 52, 3) := by decide +kernel
theorem dX8_init_121 : decode cX8_init 121 = .ok (.aload_n 0, 1) := by decide +kernel
theorem dX8_init_122 : decode cX8_init 122 = .ok (.bipush 8, 2) := by decide +kernel
theorem dX8_init_124 : decode cX8_init 124 = .ok (.newarray .int, 2) := by decide +kernel
theorem dX8_init_126 : decode cX8_init 126 = .ok (.putfield 55, 3) := by decide +kernel
theorem dX8_init_129 : decode cX8_init 129 = .ok (.aload_n 0, 1) := by decide +kernel
theorem dX8_init_130 : decode cX8_init 130 = .ok (.bipush 8, 2) := by decide +kernel
theorem dX8_init_132 : decode cX8_init 132 = .ok (.newarray .int, 2) := by decide +kernel
theorem dX8_init_134 : decode cX8_init 134 = .ok (.putfield 58, 3) := by decide +kernel
theorem dX8_init_137 : decode cX8_init 137 = .ok (.aload_n 0, 1) := by decide +kernel
theorem dX8_init_138 : decode cX8_init 138 = .ok (.bipush 8, 2) := by decide +kernel
theorem dX8_init_140 : decode cX8_init 140 = .ok (.newarray .int, 2) := by decide +kernel
theorem dX8_init_142 : decode cX8_init 142 = .ok (.putfield 61, 3) := by decide +kernel
theorem dX8_init_145 : decode cX8_init 145 = .ok (.aload_n 0, 1) := by decide +kernel
theorem dX8_init_146 : decode cX8_init 146 = .ok (.bipush 8, 2) := by decide +kernel
theorem dX8_init_148 : decode cX8_init 148 = .ok (.newarray .int, 2) := by decide +kernel
theorem dX8_init_150 : decode cX8_init 150 = .ok (.putfield 64, 3) := by decide +kernel
theorem dX8_init_153 : decode cX8_init 153 = .ok (.aload_n 0, 1) := by decide +kernel
theorem dX8_init_154 : decode cX8_init 154 = .ok (.bipush 30, 2) := by decide +kernel
theorem dX8_init_156 : decode cX8_init 156 = .ok (.newarray .long, 2) := by decide +kernel
theorem dX8_init_158 : decode cX8_init 158 = .ok (.putfield 67, 3) := by decide +kernel
theorem dX8_init_161 : decode cX8_init 161 = .ok (.aload_n 0, 1) := by decide +kernel
theorem dX8_init_162 : decode cX8_init 162 = .ok (.bipush 30, 2) := by decide +kernel
theorem dX8_init_164 : decode cX8_init 164 = .ok (.newarray .long, 2) := by decide +kernel
theorem dX8_init_166 : decode cX8_init 166 = .ok (.putfield 71, 3) := by decide +kernel
theorem dX8_init_169 : decode cX8_init 169 = .ok (.aload_n 0, 1) := by decide +kernel
theorem dX8_init_170 : decode cX8_init 170 = .ok (.iconst 4, 1) := by decide +kernel
theorem dX8_init_171 : decode cX8_init 171 = .ok (.newarray .int, 2) := by decide +kernel
theorem dX8_init_173 : decode cX8_init 173 = .ok (.putfield 74, 3) := by decide +kernel
theorem dX8_init_176 : decode cX8_init 176 = .ok (.aload_n 0, 1) := by decide +kernel
theorem dX8_init_177 : decode cX8_init 177 = .ok (.iconst 4, 1) := by decide +kernel
theorem dX8_init_178 : decode cX8_init 178 = .ok (.newarray .int, 2) := by decide +kernel
theorem dX8_init_180 : decode cX8_init 180 = .ok (.putfield 77, 3) := by decide +kernel
theorem dX8_init_183 : decode cX8_init 183 = .ok (.aload_n 0, 1) := by decide +kernel
theorem dX8_init_184 : decode cX8_init 184 = .ok (.sipush 240, 3) := by decide +kernel
theorem dX8_init_187 : decode cX8_init 187 = .ok (.newarray .int, 2) := by decide +kernel
theorem dX8_init_189 : decode cX8_init 189 = .ok (.putfield 80, 3) := by decide +kernel
theorem dX8_init_192 : decode cX8_init 192 = .ok (.aload_n 0, 1) := by decide +kernel
theorem dX8_init_193 : decode cX8_init 193 = .ok (.bipush 60, 2) := by decide +kernel
theorem dX8_init_195 : decode cX8_init 195 = .ok (.newarray .int, 2) := by decide +kernel
theorem dX8_init_197 : decode cX8_init 197 = .ok (.putfield 83, 3) := by decide +kernel
theorem dX8_init_200 : decode cX8_init 200 = .ok (.iconst 0, 1) := by decide +kernel
theorem dX8_init_201 : decode cX8_init 201 = .ok (.istore_n 1, 1) := by decide +kernel
theorem dX8_init_202 : decode cX8_init 202 = .ok (.iload_n 1, 1) := by decide +kernel
theorem dX8_init_203 : decode cX8_init 203 = .ok (.iconst 4, 1) := by decide +kernel
theorem dX8_init_204 : decode cX8_init 204 = .ok (.if_icmp .ge 16, 3) := by decide +kernel
theorem dX8_init_207 : decode cX8_init 207 = .ok (.aload_n 0, 1) := by decide +kernel
theorem dX8_init_208 : decode cX8_init 208 = .ok (.getfield 74, 3) := by decide +kernel
theorem dX8_init_211 : decode cX8_init 211 = .ok (.iload_n 1, 1) := by decide +kernel
theorem dX8_init_212 : decode cX8_init 212 = .ok (.iconst (-1), 1) := by decide +kernel
theorem dX8_init_213 : decode cX8_init 213 = .ok (.iastore, 1) := by decide +kernel
theorem dX8_init_214 : decode cX8_init 214 = .ok (.iinc 1 1, 3) := by decide +kernel
theorem dX8_init_217 : decode cX8_init 217 = .ok (.goto (-15), 3) := by decide +kernel
theorem dX8_init_220 : decode cX8_init 220 = .ok (.aload_n 0, 1) := by decide +kernel
theorem dX8_init_221 : decode cX8_init 221 = .ok (.invokevirtual 86, 3) := by decide +kernel
theorem dX8_init_224 : decode cX8_init 224 = .ok (.return_, 1) := by decide +kernel
theorem dX8_in_0 : decode cX8_in 0 = .ok (.lload_n 0, 1) := by decide +kernel
theorem dX8_in_1 : decode cX8_in 1 = .ok (.lload_n 2, 1) := by decide +kernel
theorem dX8_in_2 : decode cX8_in 2 = .ok (.lcmp, 1) := by decide +kernel
theorem dX8_in_3 : decode cX8_in 3 = .ok (.ifCond .lt 14, 3) := by decide +kernel
theorem dX8_in_6 : decode cX8_in 6 = .ok (.lload_n 0, 1) := by decide +kernel
theorem dX8_in_7 : decode cX8_in 7 = .ok (.lload 4, 2) := by decide +kernel
theorem dX8_in_9 : decode cX8_in 9 = .ok (.lcmp, 1) := by decide +kernel
theorem dX8_in_10 : decode cX8_in 10 = .ok (.ifCond .gt 7, 3) := by decide +kernel
theorem dX8_in_13 : decode cX8_in 13 = .ok (.iconst 1, 1) := by decide +kernel
theorem dX8_in_14 : decode cX8_in 14 = .ok (.goto 4, 3) := by decide +kernel
theorem dX8_in_17 : decode cX8_in 17 = .ok (.iconst 0, 1) := by decide +kernel
theorem dX8_in_18 : decode cX8_in 18 = .ok (.ireturn, 1) := by decide +kernel
theorem dX8_lost_0 : decode cX8_lost 0 = .ok (.ldc2_w 89, 3) := by decide +kernel
theorem dX8_lost_3 : decode cX8_lost 3 = .ok (.lreturn, 1) := by decide +kernel
theorem dX8_shareOf_0 : decode cX8_shareOf 0 = .ok (.lload_n 0, 1) := by decide +kernel
theorem dX8_shareOf_1 : decode cX8_shareOf 1 = .ok (.lstore 5, 2) := by decide +kernel
theorem dX8_shareOf_3 : decode cX8_shareOf 3 = .ok (.lload_n 2, 1) := by decide +kernel
theorem dX8_shareOf_4 : decode cX8_shareOf 4 = .ok (.lstore 7, 2) := by decide +kernel
theorem dX8_shareOf_6 : decode cX8_shareOf 6 = .ok (.lload 7, 2) := by decide +kernel
theorem dX8_shareOf_8 : decode cX8_shareOf 8 = .ok (.lconst 0, 1) := by decide +kernel
theorem dX8_shareOf_9 : decode cX8_shareOf 9 = .ok (.lcmp, 1) := by decide +kernel
theorem dX8_shareOf_10 : decode cX8_shareOf 10 = .ok (.ifCond .eq 21, 3) := by decide +kernel
theorem dX8_shareOf_13 : decode cX8_shareOf 13 = .ok (.lload 5, 2) := by decide +kernel
theorem dX8_shareOf_15 : decode cX8_shareOf 15 = .ok (.lload 7, 2) := by decide +kernel
theorem dX8_shareOf_17 : decode cX8_shareOf 17 = .ok (.lrem, 1) := by decide +kernel
theorem dX8_shareOf_18 : decode cX8_shareOf 18 = .ok (.lstore 9, 2) := by decide +kernel
theorem dX8_shareOf_20 : decode cX8_shareOf 20 = .ok (.lload 7, 2) := by decide +kernel
theorem dX8_shareOf_22 : decode cX8_shareOf 22 = .ok (.lstore 5, 2) := by decide +kernel
theorem dX8_shareOf_24 : decode cX8_shareOf 24 = .ok (.lload 9, 2) := by decide +kernel
theorem dX8_shareOf_26 : decode cX8_shareOf 26 = .ok (.lstore 7, 2) := by decide +kernel
theorem dX8_shareOf_28 : decode cX8_shareOf 28 = .ok (.goto (-22), 3) := by decide +kernel
theorem dX8_shareOf_31 : decode cX8_shareOf 31 = .ok (.iload 4, 2) := by decide +kernel
theorem dX8_shareOf_33 : decode cX8_shareOf 33 = .ok (.ifCond .ne 7, 3) := by decide +kernel
theorem dX8_shareOf_36 : decode cX8_shareOf 36 = .ok (.lload_n 0, 1) := by decide +kernel
theorem dX8_shareOf_37 : decode cX8_shareOf 37 = .ok (.goto 4, 3) := by decide +kernel
theorem dX8_shareOf_40 : decode cX8_shareOf 40 = .ok (.lload_n 2, 1) := by decide +kernel
theorem dX8_shareOf_41 : decode cX8_shareOf 41 = .ok (.lload 5, 2) := by decide +kernel
theorem dX8_shareOf_43 : decode cX8_shareOf 43 = .ok (.ldiv, 1) := by decide +kernel
theorem dX8_shareOf_44 : decode cX8_shareOf 44 = .ok (.lreturn, 1) := by decide +kernel
theorem dX8_refused_0 : decode cX8_refused 0 = .ok (.aload_n 0, 1) := by decide +kernel
theorem dX8_refused_1 : decode cX8_refused 1 = .ok (.iconst 0, 1) := by decide +kernel
theorem dX8_refused_2 : decode cX8_refused 2 = .ok (.putfield 91, 3) := by decide +kernel
theorem dX8_refused_5 : decode cX8_refused 5 = .ok (.iload_n 1, 1) := by decide +kernel
theorem dX8_refused_6 : decode cX8_refused 6 = .ok (.ireturn, 1) := by decide +kernel
theorem dX8_failed_0 : decode cX8_failed 0 = .ok (.aload_n 0, 1) := by decide +kernel
theorem dX8_failed_1 : decode cX8_failed 1 = .ok (.iload_n 1, 1) := by decide +kernel
theorem dX8_failed_2 : decode cX8_failed 2 = .ok (.putfield 91, 3) := by decide +kernel
theorem dX8_failed_5 : decode cX8_failed 5 = .ok (.bipush (-10), 2) := by decide +kernel
theorem dX8_failed_7 : decode cX8_failed 7 = .ok (.iload_n 1, 1) := by decide +kernel
theorem dX8_failed_8 : decode cX8_failed 8 = .ok (.isub, 1) := by decide +kernel
theorem dX8_failed_9 : decode cX8_failed 9 = .ok (.ireturn, 1) := by decide +kernel
set_option maxRecDepth 20000 in
theorem ggX8_failedLong_X8_lost : GoodIn wsX8_failedLong wsX8_lost := goodIn_r _ [5, 6] (by decide +kernel) (by decide +kernel)
set_option maxRecDepth 20000 in
theorem gX8_failedLong_X8_lost : GoodIn wsX8_failedLong (va_wsS RX8 95 yX8_lost wsX8_lost) := goodIn_app (goodIn_of _ (by decide +kernel)) ggX8_failedLong_X8_lost
theorem dX8_failedLong_0 : decode cX8_failedLong 0 = .ok (.aload_n 0, 1) := by decide +kernel
theorem dX8_failedLong_1 : decode cX8_failedLong 1 = .ok (.iload_n 1, 1) := by decide +kernel
theorem dX8_failedLong_2 : decode cX8_failedLong 2 = .ok (.putfield 91, 3) := by decide +kernel
theorem dX8_failedLong_5 : decode cX8_failedLong 5 = .ok (.invokestatic 95, 3) := by decide +kernel
theorem dX8_failedLong_8 : decode cX8_failedLong 8 = .ok (.lreturn, 1) := by decide +kernel
set_option maxRecDepth 20000 in
theorem ggX8_noPerson_X8_in : GoodIn wsX8_noPerson wsX8_in := goodIn_r _ [5] (by decide +kernel) (by decide +kernel)
set_option maxRecDepth 20000 in
theorem gX8_noPerson_X8_in : GoodIn wsX8_noPerson (va_wsS RX8 102 yX8_in wsX8_in) := goodIn_app (goodIn_of _ (by decide +kernel)) ggX8_noPerson_X8_in
theorem dX8_noPerson_0 : decode cX8_noPerson 0 = .ok (.iload_n 1, 1) := by decide +kernel
theorem dX8_noPerson_1 : decode cX8_noPerson 1 = .ok (.i2l, 1) := by decide +kernel
theorem dX8_noPerson_2 : decode cX8_noPerson 2 = .ok (.lconst 0, 1) := by decide +kernel
theorem dX8_noPerson_3 : decode cX8_noPerson 3 = .ok (.aload_n 0, 1) := by decide +kernel
theorem dX8_noPerson_4 : decode cX8_noPerson 4 = .ok (.getfield 99, 3) := by decide +kernel
theorem dX8_noPerson_7 : decode cX8_noPerson 7 = .ok (.i2l, 1) := by decide +kernel
theorem dX8_noPerson_8 : decode cX8_noPerson 8 = .ok (.lconst 1, 1) := by decide +kernel
theorem dX8_noPerson_9 : decode cX8_noPerson 9 = .ok (.lsub, 1) := by decide +kernel
theorem dX8_noPerson_10 : decode cX8_noPerson 10 = .ok (.invokestatic 102, 3) := by decide +kernel
theorem dX8_noPerson_13 : decode cX8_noPerson 13 = .ok (.ifCond .ne 7, 3) := by decide +kernel
theorem dX8_noPerson_16 : decode cX8_noPerson 16 = .ok (.iconst 1, 1) := by decide +kernel
theorem dX8_noPerson_17 : decode cX8_noPerson 17 = .ok (.goto 4, 3) := by decide +kernel
theorem dX8_noPerson_20 : decode cX8_noPerson 20 = .ok (.iconst 0, 1) := by decide +kernel
theorem dX8_noPerson_21 : decode cX8_noPerson 21 = .ok (.ireturn, 1) := by decide +kernel
set_option maxRecDepth 20000 in
theorem ggX8_noPlace_X8_in : GoodIn wsX8_noPlace wsX8_in := goodIn_r _ [5] (by decide +kernel) (by decide +kernel)
set_option maxRecDepth 20000 in
theorem gX8_noPlace_X8_in : GoodIn wsX8_noPlace (va_wsS RX8 102 yX8_in wsX8_in) := goodIn_app (goodIn_of _ (by decide +kernel)) ggX8_noPlace_X8_in
theorem dX8_noPlace_0 : decode cX8_noPlace 0 = .ok (.iload_n 1, 1) := by decide +kernel
theorem dX8_noPlace_1 : decode cX8_noPlace 1 = .ok (.i2l, 1) := by decide +kernel
theorem dX8_noPlace_2 : decode cX8_noPlace 2 = .ok (.lconst 0, 1) := by decide +kernel
theorem dX8_noPlace_3 : decode cX8_noPlace 3 = .ok (.aload_n 0, 1) := by decide +kernel
theorem dX8_noPlace_4 : decode cX8_noPlace 4 = .ok (.getfield 106, 3) := by decide +kernel
theorem dX8_noPlace_7 : decode cX8_noPlace 7 = .ok (.i2l, 1) := by decide +kernel
theorem dX8_noPlace_8 : decode cX8_noPlace 8 = .ok (.lconst 1, 1) := by decide +kernel
theorem dX8_noPlace_9 : decode cX8_noPlace 9 = .ok (.lsub, 1) := by decide +kernel
theorem dX8_noPlace_10 : decode cX8_noPlace 10 = .ok (.invokestatic 102, 3) := by decide +kernel
theorem dX8_noPlace_13 : decode cX8_noPlace 13 = .ok (.ifCond .ne 7, 3) := by decide +kernel
theorem dX8_noPlace_16 : decode cX8_noPlace 16 = .ok (.iconst 1, 1) := by decide +kernel
theorem dX8_noPlace_17 : decode cX8_noPlace 17 = .ok (.goto 4, 3) := by decide +kernel
theorem dX8_noPlace_20 : decode cX8_noPlace 20 = .ok (.iconst 0, 1) := by decide +kernel
theorem dX8_noPlace_21 : decode cX8_noPlace 21 = .ok (.ireturn, 1) := by decide +kernel
set_option maxRecDepth 20000 in
theorem ggX8_isNight_X8_in : GoodIn wsX8_isNight wsX8_in := goodIn_r _ [5] (by decide +kernel) (by decide +kernel)
set_option maxRecDepth 20000 in
theorem gX8_isNight_X8_in : GoodIn wsX8_isNight (va_wsS RX8 102 yX8_in wsX8_in) := goodIn_app (goodIn_of _ (by decide +kernel)) ggX8_isNight_X8_in
theorem dX8_isNight_0 : decode cX8_isNight 0 = .ok (.iload_n 0, 1) := by decide +kernel
theorem dX8_isNight_1 : decode cX8_isNight 1 = .ok (.i2l, 1) := by decide +kernel
theorem dX8_isNight_2 : decode cX8_isNight 2 = .ok (.lconst 0, 1) := by decide +kernel
theorem dX8_isNight_3 : decode cX8_isNight 3 = .ok (.ldc2_w 109, 3) := by decide +kernel
theorem dX8_isNight_6 : decode cX8_isNight 6 = .ok (.invokestatic 102, 3) := by decide +kernel
theorem dX8_isNight_9 : decode cX8_isNight 9 = .ok (.ireturn, 1) := by decide +kernel
theorem dX8_codeAt_0 : decode cX8_codeAt 0 = .ok (.aload_n 0, 1) := by decide +kernel
theorem dX8_codeAt_1 : decode cX8_codeAt 1 = .ok (.getfield 111, 3) := by decide +kernel
theorem dX8_codeAt_4 : decode cX8_codeAt 4 = .ok (.iload_n 2, 1) := by decide +kernel
theorem dX8_codeAt_5 : decode cX8_codeAt 5 = .ok (.if_icmp .ge 17, 3) := by decide +kernel
theorem dX8_codeAt_8 : decode cX8_codeAt 8 = .ok (.aload_n 0, 1) := by decide +kernel
theorem dX8_codeAt_9 : decode cX8_codeAt 9 = .ok (.getfield 80, 3) := by decide +kernel
theorem dX8_codeAt_12 : decode cX8_codeAt 12 = .ok (.iload_n 1, 1) := by decide +kernel
theorem dX8_codeAt_13 : decode cX8_codeAt 13 = .ok (.aload_n 0, 1) := by decide +kernel
theorem dX8_codeAt_14 : decode cX8_codeAt 14 = .ok (.getfield 111, 3) := by decide +kernel
theorem dX8_codeAt_17 : decode cX8_codeAt 17 = .ok (.iadd, 1) := by decide +kernel
theorem dX8_codeAt_18 : decode cX8_codeAt 18 = .ok (.iaload, 1) := by decide +kernel
theorem dX8_codeAt_19 : decode cX8_codeAt 19 = .ok (.goto 5, 3) := by decide +kernel
theorem dX8_codeAt_22 : decode cX8_codeAt 22 = .ok (.bipush (-9), 2) := by decide +kernel
theorem dX8_codeAt_24 : decode cX8_codeAt 24 = .ok (.ireturn, 1) := by decide +kernel
set_option maxRecDepth 20000 in
theorem ggX8_figure_X8_codeAt : GoodIn wsX8_figure wsX8_codeAt := goodIn_r _ [6, 1, 7, 11, 12, 13, 14, 15, 16, 17, 18, 19, 20, 21, 22, 23, 24, 25, 26, 27, 28, 29, 30, 31, 32, 33, 34, 35, 36, 37, 38, 39, 40, 41, 42, 43, 44, 45, 46, 47, 48, 49, 50, 51, 52] (by decide +kernel) (by decide +kernel)
set_option maxRecDepth 20000 in
theorem gX8_figure_X8_codeAt : GoodIn wsX8_figure (wsV RX8 114 RX8 yX8_codeAt wsX8_codeAt) := goodIn_app (goodIn_of _ (by decide +kernel)) ggX8_figure_X8_codeAt
set_option maxRecDepth 20000 in
theorem ggX8_figure_X8_in : GoodIn wsX8_figure wsX8_in := goodIn_r _ [10] (by decide +kernel) (by decide +kernel)
set_option maxRecDepth 20000 in
theorem gX8_figure_X8_in : GoodIn wsX8_figure (va_wsS RX8 102 yX8_in wsX8_in) := goodIn_app (goodIn_of _ (by decide +kernel)) ggX8_figure_X8_in
theorem dX8_figure_0 : decode cX8_figure 0 = .ok (.aload_n 0, 1) := by decide +kernel
theorem dX8_figure_1 : decode cX8_figure 1 = .ok (.iload_n 1, 1) := by decide +kernel
theorem dX8_figure_2 : decode cX8_figure 2 = .ok (.iload_n 2, 1) := by decide +kernel
theorem dX8_figure_3 : decode cX8_figure 3 = .ok (.invokevirtual 114, 3) := by decide +kernel
theorem dX8_figure_6 : decode cX8_figure 6 = .ok (.bipush 48, 2) := by decide +kernel
theorem dX8_figure_8 : decode cX8_figure 8 = .ok (.isub, 1) := by decide +kernel
theorem dX8_figure_9 : decode cX8_figure 9 = .ok (.istore 5, 2) := by decide +kernel
theorem dX8_figure_11 : decode cX8_figure 11 = .ok (.iload 5, 2) := by decide +kernel
theorem dX8_figure_13 : decode cX8_figure 13 = .ok (.i2l, 1) := by decide +kernel
theorem dX8_figure_14 : decode cX8_figure 14 = .ok (.iload_n 3, 1) := by decide +kernel
theorem dX8_figure_15 : decode cX8_figure 15 = .ok (.i2l, 1) := by decide +kernel
theorem dX8_figure_16 : decode cX8_figure 16 = .ok (.iload 4, 2) := by decide +kernel
theorem dX8_figure_18 : decode cX8_figure 18 = .ok (.i2l, 1) := by decide +kernel
theorem dX8_figure_19 : decode cX8_figure 19 = .ok (.invokestatic 102, 3) := by decide +kernel
theorem dX8_figure_22 : decode cX8_figure 22 = .ok (.istore 6, 2) := by decide +kernel
theorem dX8_figure_24 : decode cX8_figure 24 = .ok (.aload_n 0, 1) := by decide +kernel
theorem dX8_figure_25 : decode cX8_figure 25 = .ok (.dup, 1) := by decide +kernel
theorem dX8_figure_26 : decode cX8_figure 26 = .ok (.getfield 111, 3) := by decide +kernel
theorem dX8_figure_29 : decode cX8_figure 29 = .ok (.iload 6, 2) := by decide +kernel
theorem dX8_figure_31 : decode cX8_figure 31 = .ok (.ifCond .eq 7, 3) := by decide +kernel
theorem dX8_figure_34 : decode cX8_figure 34 = .ok (.iconst 1, 1) := by decide +kernel
theorem dX8_figure_35 : decode cX8_figure 35 = .ok (.goto 4, 3) := by decide +kernel
theorem dX8_figure_38 : decode cX8_figure 38 = .ok (.iconst 0, 1) := by decide +kernel
theorem dX8_figure_39 : decode cX8_figure 39 = .ok (.iadd, 1) := by decide +kernel
theorem dX8_figure_40 : decode cX8_figure 40 = .ok (.putfield 111, 3) := by decide +kernel
theorem dX8_figure_43 : decode cX8_figure 43 = .ok (.iload 6, 2) := by decide +kernel
theorem dX8_figure_45 : decode cX8_figure 45 = .ok (.ifCond .eq 8, 3) := by decide +kernel
theorem dX8_figure_48 : decode cX8_figure 48 = .ok (.iload 5, 2) := by decide +kernel
theorem dX8_figure_50 : decode cX8_figure 50 = .ok (.goto 5, 3) := by decide +kernel
theorem dX8_figure_53 : decode cX8_figure 53 = .ok (.bipush (-9), 2) := by decide +kernel
theorem dX8_figure_55 : decode cX8_figure 55 = .ok (.ireturn, 1) := by decide +kernel
set_option maxRecDepth 20000 in
theorem ggX8_readsPerson_X8_codeAt : GoodIn wsX8_readsPerson wsX8_codeAt := goodIn_r _ [9, 2, 10, 18, 19, 20, 21, 22, 23, 24, 25, 26, 27, 28, 29, 30, 31, 32, 33, 34, 35, 36, 37, 38, 39, 40, 41, 42, 43, 44, 45, 46, 47, 48, 49, 50, 51, 52, 53, 54, 55, 56, 57, 58, 59] (by decide +kernel) (by decide +kernel)
set_option maxRecDepth 20000 in
theorem gX8_readsPerson_X8_codeAt : GoodIn wsX8_readsPerson (wsV RX8 114 RX8 yX8_codeAt wsX8_codeAt) := goodIn_app (goodIn_of _ (by decide +kernel)) ggX8_readsPerson_X8_codeAt
set_option maxRecDepth 20000 in
theorem ggX8_readsPerson_X8_figure : GoodIn wsX8_readsPerson wsX8_figure := goodIn_r _ [14, 2, 5, 6, 7, 8, 9, 10, 15, 16, 17, 18, 19, 20, 21, 22, 23, 24, 25, 26, 27, 28, 29, 30, 31, 32, 33, 34, 35, 36, 37, 38, 39, 40, 41, 42, 43, 44, 45, 46, 47, 48, 49, 50, 51, 52, 53, 54, 55, 56, 57, 58, 59] (by decide +kernel) (by decide +kernel)
set_option maxRecDepth 20000 in
theorem gX8_readsPerson_X8_figure : GoodIn wsX8_readsPerson (wsV RX8 121 RX8 yX8_figure wsX8_figure) := goodIn_app (goodIn_of _ (by decide +kernel)) ggX8_readsPerson_X8_figure
theorem dX8_readsPerson_0 : decode cX8_readsPerson 0 = .ok (.aload_n 0, 1) := by decide +kernel
theorem dX8_readsPerson_1 : decode cX8_readsPerson 1 = .ok (.getfield 118, 3) := by decide +kernel
theorem dX8_readsPerson_4 : decode cX8_readsPerson 4 = .ok (.iconst 5, 1) := by decide +kernel
theorem dX8_readsPerson_5 : decode cX8_readsPerson 5 = .ok (.if_icmp .eq 14, 3) := by decide +kernel
theorem dX8_readsPerson_8 : decode cX8_readsPerson 8 = .ok (.aload_n 0, 1) := by decide +kernel
theorem dX8_readsPerson_9 : decode cX8_readsPerson 9 = .ok (.iload_n 1, 1) := by decide +kernel
theorem dX8_readsPerson_10 : decode cX8_readsPerson 10 = .ok (.iload_n 2, 1) := by decide +kernel
theorem dX8_readsPerson_11 : decode cX8_readsPerson 11 = .ok (.invokevirtual 114, 3) := by decide +kernel
theorem dX8_readsPerson_14 : decode cX8_readsPerson 14 = .ok (.bipush 59, 2) := by decide +kernel
theorem dX8_readsPerson_16 : decode cX8_readsPerson 16 = .ok (.if_icmp .eq 5, 3) := by decide +kernel
theorem dX8_readsPerson_19 : decode cX8_readsPerson 19 = .ok (.iconst 0, 1) := by decide +kernel
theorem dX8_readsPerson_20 : decode cX8_readsPerson 20 = .ok (.ireturn, 1) := by decide +kernel
theorem dX8_readsPerson_21 : decode cX8_readsPerson 21 = .ok (.aload_n 0, 1) := by decide +kernel
theorem dX8_readsPerson_22 : decode cX8_readsPerson 22 = .ok (.dup, 1) := by decide +kernel
theorem dX8_readsPerson_23 : decode cX8_readsPerson 23 = .ok (.getfield 111, 3) := by decide +kernel
theorem dX8_readsPerson_26 : decode cX8_readsPerson 26 = .ok (.iconst 1, 1) := by decide +kernel
theorem dX8_readsPerson_27 : decode cX8_readsPerson 27 = .ok (.iadd, 1) := by decide +kernel
theorem dX8_readsPerson_28 : decode cX8_readsPerson 28 = .ok (.putfield 111, 3) := by decide +kernel
theorem dX8_readsPerson_31 : decode cX8_readsPerson 31 = .ok (.aload_n 0, 1) := by decide +kernel
theorem dX8_readsPerson_32 : decode cX8_readsPerson 32 = .ok (.iload_n 1, 1) := by decide +kernel
theorem dX8_readsPerson_33 : decode cX8_readsPerson 33 = .ok (.iload_n 2, 1) := by decide +kernel
theorem dX8_readsPerson_34 : decode cX8_readsPerson 34 = .ok (.invokevirtual 114, 3) := by decide +kernel
theorem dX8_readsPerson_37 : decode cX8_readsPerson 37 = .ok (.istore_n 3, 1) := by decide +kernel
theorem dX8_readsPerson_38 : decode cX8_readsPerson 38 = .ok (.iload_n 3, 1) := by decide +kernel
theorem dX8_readsPerson_39 : decode cX8_readsPerson 39 = .ok (.bipush 115, 2) := by decide +kernel
theorem dX8_readsPerson_41 : decode cX8_readsPerson 41 = .ok (.if_icmp .eq 17, 3) := by decide +kernel
theorem dX8_readsPerson_44 : decode cX8_readsPerson 44 = .ok (.iload_n 3, 1) := by decide +kernel
theorem dX8_readsPerson_45 : decode cX8_readsPerson 45 = .ok (.bipush 102, 2) := by decide +kernel
theorem dX8_readsPerson_47 : decode cX8_readsPerson 47 = .ok (.if_icmp .eq 11, 3) := by decide +kernel
theorem dX8_readsPerson_50 : decode cX8_readsPerson 50 = .ok (.iload_n 3, 1) := by decide +kernel
theorem dX8_readsPerson_51 : decode cX8_readsPerson 51 = .ok (.bipush 98, 2) := by decide +kernel
theorem dX8_readsPerson_53 : decode cX8_readsPerson 53 = .ok (.if_icmp .eq 5, 3) := by decide +kernel
theorem dX8_readsPerson_56 : decode cX8_readsPerson 56 = .ok (.iconst 0, 1) := by decide +kernel
theorem dX8_readsPerson_57 : decode cX8_readsPerson 57 = .ok (.ireturn, 1) := by decide +kernel
theorem dX8_readsPerson_58 : decode cX8_readsPerson 58 = .ok (.aload_n 0, 1) := by decide +kernel
theorem dX8_readsPerson_59 : decode cX8_readsPerson 59 = .ok (.dup, 1) := by decide +kernel
theorem dX8_readsPerson_60 : decode cX8_readsPerson 60 = .ok (.getfield 111, 3) := by decide +kernel
theorem dX8_readsPerson_63 : decode cX8_readsPerson 63 = .ok (.iconst 1, 1) := by decide +kernel
theorem dX8_readsPerson_64 : decode cX8_readsPerson 64 = .ok (.iadd, 1) := by decide +kernel
theorem dX8_readsPerson_65 : decode cX8_readsPerson 65 = .ok (.putfield 111, 3) := by decide +kernel
theorem dX8_readsPerson_68 : decode cX8_readsPerson 68 = .ok (.aload_n 0, 1) := by decide +kernel
theorem dX8_readsPerson_69 : decode cX8_readsPerson 69 = .ok (.iload_n 1, 1) := by decide +kernel
theorem dX8_readsPerson_70 : decode cX8_readsPerson 70 = .ok (.iload_n 2, 1) := by decide +kernel
theorem dX8_readsPerson_71 : decode cX8_readsPerson 71 = .ok (.iconst 0, 1) := by decide +kernel
theorem dX8_readsPerson_72 : decode cX8_readsPerson 72 = .ok (.iconst 3, 1) := by decide +kernel
theorem dX8_readsPerson_73 : decode cX8_readsPerson 73 = .ok (.invokevirtual 121, 3) := by decide +kernel
theorem dX8_readsPerson_76 : decode cX8_readsPerson 76 = .ok (.istore 4, 2) := by decide +kernel
theorem dX8_readsPerson_78 : decode cX8_readsPerson 78 = .ok (.iload 4, 2) := by decide +kernel
theorem dX8_readsPerson_80 : decode cX8_readsPerson 80 = .ok (.ifCond .ge 5, 3) := by decide +kernel
theorem dX8_readsPerson_83 : decode cX8_readsPerson 83 = .ok (.iconst 0, 1) := by decide +kernel
theorem dX8_readsPerson_84 : decode cX8_readsPerson 84 = .ok (.ireturn, 1) := by decide +kernel
theorem dX8_readsPerson_85 : decode cX8_readsPerson 85 = .ok (.aload_n 0, 1) := by decide +kernel
theorem dX8_readsPerson_86 : decode cX8_readsPerson 86 = .ok (.getfield 16, 3) := by decide +kernel
theorem dX8_readsPerson_89 : decode cX8_readsPerson 89 = .ok (.aload_n 0, 1) := by decide +kernel
theorem dX8_readsPerson_90 : decode cX8_readsPerson 90 = .ok (.getfield 118, 3) := by decide +kernel
theorem dX8_readsPerson_93 : decode cX8_readsPerson 93 = .ok (.iload_n 3, 1) := by decide +kernel
theorem dX8_readsPerson_94 : decode cX8_readsPerson 94 = .ok (.bipush 115, 2) := by decide +kernel
theorem dX8_readsPerson_96 : decode cX8_readsPerson 96 = .ok (.if_icmp .ne 7, 3) := by decide +kernel
theorem dX8_readsPerson_99 : decode cX8_readsPerson 99 = .ok (.iconst 0, 1) := by decide +kernel
theorem dX8_readsPerson_100 : decode cX8_readsPerson 100 = .ok (.goto 14, 3) := by decide +kernel
theorem dX8_readsPerson_103 : decode cX8_readsPerson 103 = .ok (.iload_n 3, 1) := by decide +kernel
theorem dX8_readsPerson_104 : decode cX8_readsPerson 104 = .ok (.bipush 102, 2) := by decide +kernel
theorem dX8_readsPerson_106 : decode cX8_readsPerson 106 = .ok (.if_icmp .ne 7, 3) := by decide +kernel
theorem dX8_readsPerson_109 : decode cX8_readsPerson 109 = .ok (.iconst 1, 1) := by decide +kernel
theorem dX8_readsPerson_110 : decode cX8_readsPerson 110 = .ok (.goto 4, 3) := by decide +kernel
theorem dX8_readsPerson_113 : decode cX8_readsPerson 113 = .ok (.iconst 2, 1) := by decide +kernel
theorem dX8_readsPerson_114 : decode cX8_readsPerson 114 = .ok (.iastore, 1) := by decide +kernel
theorem dX8_readsPerson_115 : decode cX8_readsPerson 115 = .ok (.aload_n 0, 1) := by decide +kernel
theorem dX8_readsPerson_116 : decode cX8_readsPerson 116 = .ok (.getfield 19, 3) := by decide +kernel
theorem dX8_readsPerson_119 : decode cX8_readsPerson 119 = .ok (.aload_n 0, 1) := by decide +kernel
theorem dX8_readsPerson_120 : decode cX8_readsPerson 120 = .ok (.getfield 118, 3) := by decide +kernel
theorem dX8_readsPerson_123 : decode cX8_readsPerson 123 = .ok (.iload 4, 2) := by decide +kernel
theorem dX8_readsPerson_125 : decode cX8_readsPerson 125 = .ok (.iastore, 1) := by decide +kernel
theorem dX8_readsPerson_126 : decode cX8_readsPerson 126 = .ok (.aload_n 0, 1) := by decide +kernel
theorem dX8_readsPerson_127 : decode cX8_readsPerson 127 = .ok (.dup, 1) := by decide +kernel
theorem dX8_readsPerson_128 : decode cX8_readsPerson 128 = .ok (.getfield 118, 3) := by decide +kernel
theorem dX8_readsPerson_131 : decode cX8_readsPerson 131 = .ok (.iconst 1, 1) := by decide +kernel
theorem dX8_readsPerson_132 : decode cX8_readsPerson 132 = .ok (.iadd, 1) := by decide +kernel
theorem dX8_readsPerson_133 : decode cX8_readsPerson 133 = .ok (.putfield 118, 3) := by decide +kernel
theorem dX8_readsPerson_136 : decode cX8_readsPerson 136 = .ok (.iconst 1, 1) := by decide +kernel
theorem dX8_readsPerson_137 : decode cX8_readsPerson 137 = .ok (.ireturn, 1) := by decide +kernel
set_option maxRecDepth 20000 in
theorem ggX8_readsHall_X8_codeAt : GoodIn wsX8_readsHall wsX8_codeAt := goodIn_r _ [8, 1, 9, 23, 24, 25, 26, 27, 28, 29, 30, 31, 32, 33, 34, 35, 36, 37, 38, 39, 40, 41, 42, 43, 44, 45, 46, 47, 48, 49, 50, 51, 52, 53, 54, 55, 56, 57, 58, 59, 60, 61, 62, 63, 64] (by decide +kernel) (by decide +kernel)
set_option maxRecDepth 20000 in
theorem gX8_readsHall_X8_codeAt : GoodIn wsX8_readsHall (wsV RX8 114 RX8 yX8_codeAt wsX8_codeAt) := goodIn_app (goodIn_of _ (by decide +kernel)) ggX8_readsHall_X8_codeAt
set_option maxRecDepth 20000 in
theorem ggX8_readsHall_X8_figure : GoodIn wsX8_readsHall wsX8_figure := goodIn_r _ [13, 1, 4, 5, 6, 7, 8, 9, 14, 15, 16, 23, 24, 25, 26, 27, 28, 29, 30, 31, 32, 33, 34, 35, 36, 37, 38, 39, 40, 41, 42, 43, 44, 45, 46, 47, 48, 49, 50, 51, 52, 53, 54, 55, 56, 57, 58, 59, 60, 61, 62, 63, 64] (by decide +kernel) (by decide +kernel)
set_option maxRecDepth 20000 in
theorem gX8_readsHall_X8_figure : GoodIn wsX8_readsHall (wsV RX8 121 RX8 yX8_figure wsX8_figure) := goodIn_app (goodIn_of _ (by decide +kernel)) ggX8_readsHall_X8_figure
set_option maxRecDepth 20000 in
theorem ggX8_readsHall_X8_readsPerson : GoodIn wsX8_readsHall wsX8_readsPerson := goodIn_r _ [20, 2, 1, 21, 22, 4, 5, 6, 7, 8, 9, 10, 11, 12, 13, 14, 15, 16, 23, 24, 25, 26, 27, 28, 29, 30, 31, 32, 33, 34, 35, 36, 37, 38, 39, 40, 41, 42, 43, 44, 45, 46, 47, 48, 49, 50, 51, 52, 53, 54, 55, 56, 57, 58, 59, 60, 61, 62, 63, 64] (by decide +kernel) (by decide +kernel)
set_option maxRecDepth 20000 in
theorem gX8_readsHall_X8_readsPerson : GoodIn wsX8_readsHall (wsV RX8 128 RX8 yX8_readsPerson wsX8_readsPerson) := goodIn_app (goodIn_of _ (by decide +kernel)) ggX8_readsHall_X8_readsPerson
theorem dX8_readsHall_0 : decode cX8_readsHall 0 = .ok (.aload_n 0, 1) := by decide +kernel
theorem dX8_readsHall_1 : decode cX8_readsHall 1 = .ok (.iconst 0, 1) := by decide +kernel
theorem dX8_readsHall_2 : decode cX8_readsHall 2 = .ok (.putfield 111, 3) := by decide +kernel
theorem dX8_readsHall_5 : decode cX8_readsHall 5 = .ok (.aload_n 0, 1) := by decide +kernel
theorem dX8_readsHall_6 : decode cX8_readsHall 6 = .ok (.iconst 0, 1) := by decide +kernel
theorem dX8_readsHall_7 : decode cX8_readsHall 7 = .ok (.putfield 118, 3) := by decide +kernel
theorem dX8_readsHall_10 : decode cX8_readsHall 10 = .ok (.aload_n 0, 1) := by decide +kernel
theorem dX8_readsHall_11 : decode cX8_readsHall 11 = .ok (.iload_n 1, 1) := by decide +kernel
theorem dX8_readsHall_12 : decode cX8_readsHall 12 = .ok (.iload_n 2, 1) := by decide +kernel
theorem dX8_readsHall_13 : decode cX8_readsHall 13 = .ok (.invokevirtual 114, 3) := by decide +kernel
theorem dX8_readsHall_16 : decode cX8_readsHall 16 = .ok (.bipush 104, 2) := by decide +kernel
theorem dX8_readsHall_18 : decode cX8_readsHall 18 = .ok (.if_icmp .ne 7, 3) := by decide +kernel
theorem dX8_readsHall_21 : decode cX8_readsHall 21 = .ok (.iconst 1, 1) := by decide +kernel
theorem dX8_readsHall_22 : decode cX8_readsHall 22 = .ok (.goto 4, 3) := by decide +kernel
theorem dX8_readsHall_25 : decode cX8_readsHall 25 = .ok (.iconst 0, 1) := by decide +kernel
theorem dX8_readsHall_26 : decode cX8_readsHall 26 = .ok (.istore_n 3, 1) := by decide +kernel
theorem dX8_readsHall_27 : decode cX8_readsHall 27 = .ok (.aload_n 0, 1) := by decide +kernel
theorem dX8_readsHall_28 : decode cX8_readsHall 28 = .ok (.dup, 1) := by decide +kernel
theorem dX8_readsHall_29 : decode cX8_readsHall 29 = .ok (.getfield 111, 3) := by decide +kernel
theorem dX8_readsHall_32 : decode cX8_readsHall 32 = .ok (.iload_n 3, 1) := by decide +kernel
theorem dX8_readsHall_33 : decode cX8_readsHall 33 = .ok (.ifCond .eq 7, 3) := by decide +kernel
theorem dX8_readsHall_36 : decode cX8_readsHall 36 = .ok (.iconst 1, 1) := by decide +kernel
theorem dX8_readsHall_37 : decode cX8_readsHall 37 = .ok (.goto 4, 3) := by decide +kernel
theorem dX8_readsHall_40 : decode cX8_readsHall 40 = .ok (.iconst 0, 1) := by decide +kernel
theorem dX8_readsHall_41 : decode cX8_readsHall 41 = .ok (.iadd, 1) := by decide +kernel
theorem dX8_readsHall_42 : decode cX8_readsHall 42 = .ok (.putfield 111, 3) := by decide +kernel
theorem dX8_readsHall_45 : decode cX8_readsHall 45 = .ok (.aload_n 0, 1) := by decide +kernel
theorem dX8_readsHall_46 : decode cX8_readsHall 46 = .ok (.iload_n 3, 1) := by decide +kernel
theorem dX8_readsHall_47 : decode cX8_readsHall 47 = .ok (.ifCond .eq 15, 3) := by decide +kernel
theorem dX8_readsHall_50 : decode cX8_readsHall 50 = .ok (.aload_n 0, 1) := by decide +kernel
theorem dX8_readsHall_51 : decode cX8_readsHall 51 = .ok (.iload_n 1, 1) := by decide +kernel
theorem dX8_readsHall_52 : decode cX8_readsHall 52 = .ok (.iload_n 2, 1) := by decide +kernel
theorem dX8_readsHall_53 : decode cX8_readsHall 53 = .ok (.iconst 2, 1) := by decide +kernel
theorem dX8_readsHall_54 : decode cX8_readsHall 54 = .ok (.bipush 6, 2) := by decide +kernel
theorem dX8_readsHall_56 : decode cX8_readsHall 56 = .ok (.invokevirtual 121, 3) := by decide +kernel
theorem dX8_readsHall_59 : decode cX8_readsHall 59 = .ok (.goto 5, 3) := by decide +kernel
theorem dX8_readsHall_62 : decode cX8_readsHall 62 = .ok (.bipush (-9), 2) := by decide +kernel
theorem dX8_readsHall_64 : decode cX8_readsHall 64 = .ok (.putfield 125, 3) := by decide +kernel
theorem dX8_readsHall_67 : decode cX8_readsHall 67 = .ok (.aload_n 0, 1) := by decide +kernel
theorem dX8_readsHall_68 : decode cX8_readsHall 68 = .ok (.getfield 125, 3) := by decide +kernel
theorem dX8_readsHall_71 : decode cX8_readsHall 71 = .ok (.ifCond .le 7, 3) := by decide +kernel
theorem dX8_readsHall_74 : decode cX8_readsHall 74 = .ok (.iconst 1, 1) := by decide +kernel
theorem dX8_readsHall_75 : decode cX8_readsHall 75 = .ok (.goto 4, 3) := by decide +kernel
theorem dX8_readsHall_78 : decode cX8_readsHall 78 = .ok (.iconst 0, 1) := by decide +kernel
theorem dX8_readsHall_79 : decode cX8_readsHall 79 = .ok (.istore_n 3, 1) := by decide +kernel
theorem dX8_readsHall_80 : decode cX8_readsHall 80 = .ok (.iload_n 3, 1) := by decide +kernel
theorem dX8_readsHall_81 : decode cX8_readsHall 81 = .ok (.ifCond .eq 28, 3) := by decide +kernel
theorem dX8_readsHall_84 : decode cX8_readsHall 84 = .ok (.aload_n 0, 1) := by decide +kernel
theorem dX8_readsHall_85 : decode cX8_readsHall 85 = .ok (.getfield 118, 3) := by decide +kernel
theorem dX8_readsHall_88 : decode cX8_readsHall 88 = .ok (.ifCond .eq 11, 3) := by decide +kernel
theorem dX8_readsHall_91 : decode cX8_readsHall 91 = .ok (.aload_n 0, 1) := by decide +kernel
theorem dX8_readsHall_92 : decode cX8_readsHall 92 = .ok (.getfield 111, 3) := by decide +kernel
theorem dX8_readsHall_95 : decode cX8_readsHall 95 = .ok (.iload_n 2, 1) := by decide +kernel
theorem dX8_readsHall_96 : decode cX8_readsHall 96 = .ok (.if_icmp .ge 13, 3) := by decide +kernel
theorem dX8_readsHall_99 : decode cX8_readsHall 99 = .ok (.aload_n 0, 1) := by decide +kernel
theorem dX8_readsHall_100 : decode cX8_readsHall 100 = .ok (.iload_n 1, 1) := by decide +kernel
theorem dX8_readsHall_101 : decode cX8_readsHall 101 = .ok (.iload_n 2, 1) := by decide +kernel
theorem dX8_readsHall_102 : decode cX8_readsHall 102 = .ok (.invokevirtual 128, 3) := by decide +kernel
theorem dX8_readsHall_105 : decode cX8_readsHall 105 = .ok (.istore_n 3, 1) := by decide +kernel
theorem dX8_readsHall_106 : decode cX8_readsHall 106 = .ok (.goto (-26), 3) := by decide +kernel
theorem dX8_readsHall_109 : decode cX8_readsHall 109 = .ok (.iload_n 3, 1) := by decide +kernel
theorem dX8_readsHall_110 : decode cX8_readsHall 110 = .ok (.ireturn, 1) := by decide +kernel
set_option maxRecDepth 20000 in
theorem ggX8_cellsBarred_X8_failed : GoodIn wsX8_cellsBarred wsX8_failed := goodIn_r _ [7, 8, 12, 13, 14, 15, 16, 17, 18, 19, 20, 21, 22, 23, 24, 25, 26, 27, 28, 29, 30, 31, 32, 33, 34, 35, 36, 37, 38, 39, 40, 41, 42, 43, 44, 45, 46, 47, 48, 49, 50, 51, 52, 53] (by decide +kernel) (by decide +kernel)
set_option maxRecDepth 20000 in
theorem gX8_cellsBarred_X8_failed : GoodIn wsX8_cellsBarred (wsV RX8 132 RX8 yX8_failed wsX8_failed) := goodIn_app (goodIn_of _ (by decide +kernel)) ggX8_cellsBarred_X8_failed
set_option maxRecDepth 20000 in
theorem ggX8_cellsBarred_X8_isBeyond : GoodIn wsX8_cellsBarred wsX8_isBeyond := goodIn_r _ [11] (by decide +kernel) (by decide +kernel)
set_option maxRecDepth 20000 in
theorem gX8_cellsBarred_X8_isBeyond : GoodIn wsX8_cellsBarred (va_wsS RX8 136 yX8_isBeyond wsX8_isBeyond) := goodIn_app (goodIn_of _ (by decide +kernel)) ggX8_cellsBarred_X8_isBeyond
theorem dX8_cellsBarred_0 : decode cX8_cellsBarred 0 = .ok (.aload_n 0, 1) := by decide +kernel
theorem dX8_cellsBarred_1 : decode cX8_cellsBarred 1 = .ok (.getfield 74, 3) := by decide +kernel
theorem dX8_cellsBarred_4 : decode cX8_cellsBarred 4 = .ok (.iload_n 1, 1) := by decide +kernel
theorem dX8_cellsBarred_5 : decode cX8_cellsBarred 5 = .ok (.iaload, 1) := by decide +kernel
theorem dX8_cellsBarred_6 : decode cX8_cellsBarred 6 = .ok (.ifCond .lt 19, 3) := by decide +kernel
theorem dX8_cellsBarred_9 : decode cX8_cellsBarred 9 = .ok (.aload_n 0, 1) := by decide +kernel
theorem dX8_cellsBarred_10 : decode cX8_cellsBarred 10 = .ok (.getfield 77, 3) := by decide +kernel
theorem dX8_cellsBarred_13 : decode cX8_cellsBarred 13 = .ok (.iload_n 1, 1) := by decide +kernel
theorem dX8_cellsBarred_14 : decode cX8_cellsBarred 14 = .ok (.iaload, 1) := by decide +kernel
theorem dX8_cellsBarred_15 : decode cX8_cellsBarred 15 = .ok (.iload_n 2, 1) := by decide +kernel
theorem dX8_cellsBarred_16 : decode cX8_cellsBarred 16 = .ok (.if_icmp .eq 9, 3) := by decide +kernel
theorem dX8_cellsBarred_19 : decode cX8_cellsBarred 19 = .ok (.aload_n 0, 1) := by decide +kernel
theorem dX8_cellsBarred_20 : decode cX8_cellsBarred 20 = .ok (.iconst 2, 1) := by decide +kernel
theorem dX8_cellsBarred_21 : decode cX8_cellsBarred 21 = .ok (.invokevirtual 132, 3) := by decide +kernel
theorem dX8_cellsBarred_24 : decode cX8_cellsBarred 24 = .ok (.ireturn, 1) := by decide +kernel
theorem dX8_cellsBarred_25 : decode cX8_cellsBarred 25 = .ok (.aload_n 0, 1) := by decide +kernel
theorem dX8_cellsBarred_26 : decode cX8_cellsBarred 26 = .ok (.getfield 74, 3) := by decide +kernel
theorem dX8_cellsBarred_29 : decode cX8_cellsBarred 29 = .ok (.iload_n 1, 1) := by decide +kernel
theorem dX8_cellsBarred_30 : decode cX8_cellsBarred 30 = .ok (.iaload, 1) := by decide +kernel
theorem dX8_cellsBarred_31 : decode cX8_cellsBarred 31 = .ok (.ifCond .ge 9, 3) := by decide +kernel
theorem dX8_cellsBarred_34 : decode cX8_cellsBarred 34 = .ok (.aload_n 0, 1) := by decide +kernel
theorem dX8_cellsBarred_35 : decode cX8_cellsBarred 35 = .ok (.iconst 1, 1) := by decide +kernel
theorem dX8_cellsBarred_36 : decode cX8_cellsBarred 36 = .ok (.invokevirtual 132, 3) := by decide +kernel
theorem dX8_cellsBarred_39 : decode cX8_cellsBarred 39 = .ok (.ireturn, 1) := by decide +kernel
theorem dX8_cellsBarred_40 : decode cX8_cellsBarred 40 = .ok (.lload 4, 2) := by decide +kernel
theorem dX8_cellsBarred_42 : decode cX8_cellsBarred 42 = .ok (.lconst 0, 1) := by decide +kernel
theorem dX8_cellsBarred_43 : decode cX8_cellsBarred 43 = .ok (.lcmp, 1) := by decide +kernel
theorem dX8_cellsBarred_44 : decode cX8_cellsBarred 44 = .ok (.ifCond .ge 9, 3) := by decide +kernel
theorem dX8_cellsBarred_47 : decode cX8_cellsBarred 47 = .ok (.aload_n 0, 1) := by decide +kernel
theorem dX8_cellsBarred_48 : decode cX8_cellsBarred 48 = .ok (.iconst 4, 1) := by decide +kernel
theorem dX8_cellsBarred_49 : decode cX8_cellsBarred 49 = .ok (.invokevirtual 132, 3) := by decide +kernel
theorem dX8_cellsBarred_52 : decode cX8_cellsBarred 52 = .ok (.ireturn, 1) := by decide +kernel
theorem dX8_cellsBarred_53 : decode cX8_cellsBarred 53 = .ok (.iload_n 3, 1) := by decide +kernel
theorem dX8_cellsBarred_54 : decode cX8_cellsBarred 54 = .ok (.lload 4, 2) := by decide +kernel
theorem dX8_cellsBarred_56 : decode cX8_cellsBarred 56 = .ok (.aload_n 0, 1) := by decide +kernel
theorem dX8_cellsBarred_57 : decode cX8_cellsBarred 57 = .ok (.getfield 74, 3) := by decide +kernel
theorem dX8_cellsBarred_60 : decode cX8_cellsBarred 60 = .ok (.iload_n 1, 1) := by decide +kernel
theorem dX8_cellsBarred_61 : decode cX8_cellsBarred 61 = .ok (.iaload, 1) := by decide +kernel
theorem dX8_cellsBarred_62 : decode cX8_cellsBarred 62 = .ok (.invokestatic 136, 3) := by decide +kernel
theorem dX8_cellsBarred_65 : decode cX8_cellsBarred 65 = .ok (.ifCond .eq 11, 3) := by decide +kernel
theorem dX8_cellsBarred_68 : decode cX8_cellsBarred 68 = .ok (.aload_n 0, 1) := by decide +kernel
theorem dX8_cellsBarred_69 : decode cX8_cellsBarred 69 = .ok (.iconst 3, 1) := by decide +kernel
theorem dX8_cellsBarred_70 : decode cX8_cellsBarred 70 = .ok (.invokevirtual 132, 3) := by decide +kernel
theorem dX8_cellsBarred_73 : decode cX8_cellsBarred 73 = .ok (.goto 4, 3) := by decide +kernel
theorem dX8_cellsBarred_76 : decode cX8_cellsBarred 76 = .ok (.iconst 0, 1) := by decide +kernel
theorem dX8_cellsBarred_77 : decode cX8_cellsBarred 77 = .ok (.ireturn, 1) := by decide +kernel
set_option maxRecDepth 20000 in
theorem ggX8_hall_X8_noSheet : GoodIn wsX8_hall wsX8_noSheet := goodIn_r _ [18, 19, 20, 21, 17, 22] (by decide +kernel) (by decide +kernel)
set_option maxRecDepth 20000 in
theorem gX8_hall_X8_noSheet : GoodIn wsX8_hall (va_wsS RX8 140 yX8_noSheet wsX8_noSheet) := goodIn_app (goodIn_of _ (by decide +kernel)) ggX8_hall_X8_noSheet
set_option maxRecDepth 20000 in
theorem ggX8_hall_X8_refused : GoodIn wsX8_hall wsX8_refused := goodIn_r _ [26, 27, 58, 59, 60, 61, 62, 63, 64, 65, 66, 67, 68, 69, 70, 71, 72, 73, 74, 75, 76, 77, 78, 79, 80, 81, 82, 83, 84, 85, 86, 87, 88, 89, 90, 91, 92, 93, 94, 95, 96, 97, 98, 99] (by decide +kernel) (by decide +kernel)
set_option maxRecDepth 20000 in
theorem gX8_hall_X8_refused : GoodIn wsX8_hall (wsV RX8 144 RX8 yX8_refused wsX8_refused) := goodIn_app (goodIn_of _ (by decide +kernel)) ggX8_hall_X8_refused
set_option maxRecDepth 20000 in
theorem ggX8_hall_X8_in : GoodIn wsX8_hall wsX8_in := goodIn_r _ [22] (by decide +kernel) (by decide +kernel)
set_option maxRecDepth 20000 in
theorem gX8_hall_X8_in : GoodIn wsX8_hall (va_wsS RX8 102 yX8_in wsX8_in) := goodIn_app (goodIn_of _ (by decide +kernel)) ggX8_hall_X8_in
set_option maxRecDepth 20000 in
theorem ggX8_hall_X8_cellsBarred : GoodIn wsX8_hall wsX8_cellsBarred := goodIn_r _ [31, 32, 33, 34, 35, 36, 17, 37, 27, 38, 39, 40, 58, 59, 60, 61, 62, 63, 64, 65, 66, 67, 68, 69, 70, 71, 72, 73, 74, 75, 76, 77, 78, 79, 80, 81, 82, 83, 84, 85, 86, 87, 88, 89, 90, 91, 92, 93, 94, 95, 96, 97, 98, 99] (by decide +kernel) (by decide +kernel)
set_option maxRecDepth 20000 in
theorem gX8_hall_X8_cellsBarred : GoodIn wsX8_hall (wsV RX8 149 RX8 yX8_cellsBarred wsX8_cellsBarred) := goodIn_app (goodIn_of _ (by decide +kernel)) ggX8_hall_X8_cellsBarred
set_option maxRecDepth 20000 in
theorem ggX8_hall_X8_readsHall : GoodIn wsX8_hall wsX8_readsHall := goodIn_r _ [44, 2, 5, 3, 45, 46, 47, 17, 48, 49, 50, 51, 52, 53, 20, 21, 22, 54, 55, 56, 57, 8, 10, 58, 59, 60, 61, 62, 63, 64, 65, 66, 67, 68, 69, 70, 71, 72, 73, 74, 75, 76, 77, 78, 79, 80, 81, 82, 83, 84, 85, 86, 87, 88, 89, 90, 91, 92, 93, 94, 95, 96, 97, 98, 99] (by decide +kernel) (by decide +kernel)
set_option maxRecDepth 20000 in
theorem gX8_hall_X8_readsHall : GoodIn wsX8_hall (wsV RX8 153 RX8 yX8_readsHall wsX8_readsHall) := goodIn_app (goodIn_of _ (by decide +kernel)) ggX8_hall_X8_readsHall
theorem dX8_hall_0 : decode cX8_hall 0 = .ok (.iload_n 1, 1) := by decide +kernel
theorem dX8_hall_1 : decode cX8_hall 1 = .ok (.invokestatic 140, 3) := by decide +kernel
theorem dX8_hall_4 : decode cX8_hall 4 = .ok (.ifCond .eq 9, 3) := by decide +kernel
theorem dX8_hall_7 : decode cX8_hall 7 = .ok (.aload_n 0, 1) := by decide +kernel
theorem dX8_hall_8 : decode cX8_hall 8 = .ok (.iconst (-1), 1) := by decide +kernel
theorem dX8_hall_9 : decode cX8_hall 9 = .ok (.invokevirtual 144, 3) := by decide +kernel
theorem dX8_hall_12 : decode cX8_hall 12 = .ok (.ireturn, 1) := by decide +kernel
theorem dX8_hall_13 : decode cX8_hall 13 = .ok (.iload_n 2, 1) := by decide +kernel
theorem dX8_hall_14 : decode cX8_hall 14 = .ok (.i2l, 1) := by decide +kernel
theorem dX8_hall_15 : decode cX8_hall 15 = .ok (.lconst 0, 1) := by decide +kernel
theorem dX8_hall_16 : decode cX8_hall 16 = .ok (.ldc2_w 147, 3) := by decide +kernel
theorem dX8_hall_19 : decode cX8_hall 19 = .ok (.invokestatic 102, 3) := by decide +kernel
theorem dX8_hall_22 : decode cX8_hall 22 = .ok (.ifCond .ne 10, 3) := by decide +kernel
theorem dX8_hall_25 : decode cX8_hall 25 = .ok (.aload_n 0, 1) := by decide +kernel
theorem dX8_hall_26 : decode cX8_hall 26 = .ok (.bipush (-2), 2) := by decide +kernel
theorem dX8_hall_28 : decode cX8_hall 28 = .ok (.invokevirtual 144, 3) := by decide +kernel
theorem dX8_hall_31 : decode cX8_hall 31 = .ok (.ireturn, 1) := by decide +kernel
theorem dX8_hall_32 : decode cX8_hall 32 = .ok (.aload_n 0, 1) := by decide +kernel
theorem dX8_hall_33 : decode cX8_hall 33 = .ok (.iload_n 1, 1) := by decide +kernel
theorem dX8_hall_34 : decode cX8_hall 34 = .ok (.iload_n 2, 1) := by decide +kernel
theorem dX8_hall_35 : decode cX8_hall 35 = .ok (.iload_n 3, 1) := by decide +kernel
theorem dX8_hall_36 : decode cX8_hall 36 = .ok (.iload 4, 2) := by decide +kernel
theorem dX8_hall_38 : decode cX8_hall 38 = .ok (.i2l, 1) := by decide +kernel
theorem dX8_hall_39 : decode cX8_hall 39 = .ok (.invokevirtual 149, 3) := by decide +kernel
theorem dX8_hall_42 : decode cX8_hall 42 = .ok (.istore 5, 2) := by decide +kernel
theorem dX8_hall_44 : decode cX8_hall 44 = .ok (.iload 5, 2) := by decide +kernel
theorem dX8_hall_46 : decode cX8_hall 46 = .ok (.ifCond .ge 6, 3) := by decide +kernel
theorem dX8_hall_49 : decode cX8_hall 49 = .ok (.iload 5, 2) := by decide +kernel
theorem dX8_hall_51 : decode cX8_hall 51 = .ok (.ireturn, 1) := by decide +kernel
theorem dX8_hall_52 : decode cX8_hall 52 = .ok (.aload_n 0, 1) := by decide +kernel
theorem dX8_hall_53 : decode cX8_hall 53 = .ok (.bipush 60, 2) := by decide +kernel
theorem dX8_hall_55 : decode cX8_hall 55 = .ok (.iload_n 1, 1) := by decide +kernel
theorem dX8_hall_56 : decode cX8_hall 56 = .ok (.imul, 1) := by decide +kernel
theorem dX8_hall_57 : decode cX8_hall 57 = .ok (.iload_n 3, 1) := by decide +kernel
theorem dX8_hall_58 : decode cX8_hall 58 = .ok (.iadd, 1) := by decide +kernel
theorem dX8_hall_59 : decode cX8_hall 59 = .ok (.iload 4, 2) := by decide +kernel
theorem dX8_hall_61 : decode cX8_hall 61 = .ok (.invokevirtual 153, 3) := by decide +kernel
theorem dX8_hall_64 : decode cX8_hall 64 = .ok (.ifCond .ne 15, 3) := by decide +kernel
theorem dX8_hall_67 : decode cX8_hall 67 = .ok (.aload_n 0, 1) := by decide +kernel
theorem dX8_hall_68 : decode cX8_hall 68 = .ok (.bipush (-100), 2) := by decide +kernel
theorem dX8_hall_70 : decode cX8_hall 70 = .ok (.aload_n 0, 1) := by decide +kernel
theorem dX8_hall_71 : decode cX8_hall 71 = .ok (.getfield 111, 3) := by decide +kernel
theorem dX8_hall_74 : decode cX8_hall 74 = .ok (.isub, 1) := by decide +kernel
theorem dX8_hall_75 : decode cX8_hall 75 = .ok (.invokevirtual 144, 3) := by decide +kernel
theorem dX8_hall_78 : decode cX8_hall 78 = .ok (.ireturn, 1) := by decide +kernel
theorem dX8_hall_79 : decode cX8_hall 79 = .ok (.aload_n 0, 1) := by decide +kernel
theorem dX8_hall_80 : decode cX8_hall 80 = .ok (.aload_n 0, 1) := by decide +kernel
theorem dX8_hall_81 : decode cX8_hall 81 = .ok (.getfield 125, 3) := by decide +kernel
theorem dX8_hall_84 : decode cX8_hall 84 = .ok (.putfield 106, 3) := by decide +kernel
theorem dX8_hall_87 : decode cX8_hall 87 = .ok (.aload_n 0, 1) := by decide +kernel
theorem dX8_hall_88 : decode cX8_hall 88 = .ok (.aload_n 0, 1) := by decide +kernel
theorem dX8_hall_89 : decode cX8_hall 89 = .ok (.getfield 118, 3) := by decide +kernel
theorem dX8_hall_92 : decode cX8_hall 92 = .ok (.putfield 99, 3) := by decide +kernel
theorem dX8_hall_95 : decode cX8_hall 95 = .ok (.iconst 0, 1) := by decide +kernel
theorem dX8_hall_96 : decode cX8_hall 96 = .ok (.istore 6, 2) := by decide +kernel
theorem dX8_hall_98 : decode cX8_hall 98 = .ok (.iload 6, 2) := by decide +kernel
theorem dX8_hall_100 : decode cX8_hall 100 = .ok (.aload_n 0, 1) := by decide +kernel
theorem dX8_hall_101 : decode cX8_hall 101 = .ok (.getfield 99, 3) := by decide +kernel
theorem dX8_hall_104 : decode cX8_hall 104 = .ok (.if_icmp .ge 37, 3) := by decide +kernel
theorem dX8_hall_107 : decode cX8_hall 107 = .ok (.aload_n 0, 1) := by decide +kernel
theorem dX8_hall_108 : decode cX8_hall 108 = .ok (.getfield 7, 3) := by decide +kernel
theorem dX8_hall_111 : decode cX8_hall 111 = .ok (.iload 6, 2) := by decide +kernel
theorem dX8_hall_113 : decode cX8_hall 113 = .ok (.aload_n 0, 1) := by decide +kernel
theorem dX8_hall_114 : decode cX8_hall 114 = .ok (.getfield 16, 3) := by decide +kernel
theorem dX8_hall_117 : decode cX8_hall 117 = .ok (.iload 6, 2) := by decide +kernel
theorem dX8_hall_119 : decode cX8_hall 119 = .ok (.iaload, 1) := by decide +kernel
theorem dX8_hall_120 : decode cX8_hall 120 = .ok (.iastore, 1) := by decide +kernel
theorem dX8_hall_121 : decode cX8_hall 121 = .ok (.aload_n 0, 1) := by decide +kernel
theorem dX8_hall_122 : decode cX8_hall 122 = .ok (.getfield 13, 3) := by decide +kernel
theorem dX8_hall_125 : decode cX8_hall 125 = .ok (.iload 6, 2) := by decide +kernel
theorem dX8_hall_127 : decode cX8_hall 127 = .ok (.aload_n 0, 1) := by decide +kernel
theorem dX8_hall_128 : decode cX8_hall 128 = .ok (.getfield 19, 3) := by decide +kernel
theorem dX8_hall_131 : decode cX8_hall 131 = .ok (.iload 6, 2) := by decide +kernel
theorem dX8_hall_133 : decode cX8_hall 133 = .ok (.iaload, 1) := by decide +kernel
theorem dX8_hall_134 : decode cX8_hall 134 = .ok (.iastore, 1) := by decide +kernel
theorem dX8_hall_135 : decode cX8_hall 135 = .ok (.iinc 6 1, 3) := by decide +kernel
theorem dX8_hall_138 : decode cX8_hall 138 = .ok (.goto (-40), 3) := by decide +kernel
theorem dX8_hall_141 : decode cX8_hall 141 = .ok (.aload_n 0, 1) := by decide +kernel
theorem dX8_hall_142 : decode cX8_hall 142 = .ok (.iconst 0, 1) := by decide +kernel
theorem dX8_hall_143 : decode cX8_hall 143 = .ok (.putfield 156, 3) := by decide +kernel
theorem dX8_hall_146 : decode cX8_hall 146 = .ok (.aload_n 0, 1) := by decide +kernel
theorem dX8_hall_147 : decode cX8_hall 147 = .ok (.iconst 0, 1) := by decide +kernel
theorem dX8_hall_148 : decode cX8_hall 148 = .ok (.putfield 159, 3) := by decide +kernel
theorem dX8_hall_151 : decode cX8_hall 151 = .ok (.aload_n 0, 1) := by decide +kernel
theorem dX8_hall_152 : decode cX8_hall 152 = .ok (.iconst 0, 1) := by decide +kernel
theorem dX8_hall_153 : decode cX8_hall 153 = .ok (.putfield 162, 3) := by decide +kernel
theorem dX8_hall_156 : decode cX8_hall 156 = .ok (.aload_n 0, 1) := by decide +kernel
theorem dX8_hall_157 : decode cX8_hall 157 = .ok (.iconst 0, 1) := by decide +kernel
theorem dX8_hall_158 : decode cX8_hall 158 = .ok (.putfield 165, 3) := by decide +kernel
theorem dX8_hall_161 : decode cX8_hall 161 = .ok (.aload_n 0, 1) := by decide +kernel
theorem dX8_hall_162 : decode cX8_hall 162 = .ok (.aload_n 0, 1) := by decide +kernel
theorem dX8_hall_163 : decode cX8_hall 163 = .ok (.getfield 99, 3) := by decide +kernel
theorem dX8_hall_166 : decode cX8_hall 166 = .ok (.invokevirtual 144, 3) := by decide +kernel
theorem dX8_hall_169 : decode cX8_hall 169 = .ok (.ireturn, 1) := by decide +kernel
set_option maxRecDepth 20000 in
theorem ggX8_ofPerson_X8_noPerson : GoodIn wsX8_ofPerson wsX8_noPerson := goodIn_r _ [7, 8, 9, 10, 6, 11, 12, 13, 14, 15, 16, 17, 18, 19, 20, 21, 22, 23, 24, 25, 26, 27, 28, 29, 30, 31, 32, 33, 34, 35, 36, 37, 38, 39, 40, 41, 42, 43, 44, 45, 46, 47, 48, 49, 50, 51, 52, 53] (by decide +kernel) (by decide +kernel)
set_option maxRecDepth 20000 in
theorem gX8_ofPerson_X8_noPerson : GoodIn wsX8_ofPerson (wsV RX8 168 RX8 yX8_noPerson wsX8_noPerson) := goodIn_app (goodIn_of _ (by decide +kernel)) ggX8_ofPerson_X8_noPerson
theorem dX8_ofPerson_0 : decode cX8_ofPerson 0 = .ok (.aload_n 0, 1) := by decide +kernel
theorem dX8_ofPerson_1 : decode cX8_ofPerson 1 = .ok (.iload_n 1, 1) := by decide +kernel
theorem dX8_ofPerson_2 : decode cX8_ofPerson 2 = .ok (.invokevirtual 168, 3) := by decide +kernel
theorem dX8_ofPerson_5 : decode cX8_ofPerson 5 = .ok (.ifCond .eq 5, 3) := by decide +kernel
theorem dX8_ofPerson_8 : decode cX8_ofPerson 8 = .ok (.iconst (-1), 1) := by decide +kernel
theorem dX8_ofPerson_9 : decode cX8_ofPerson 9 = .ok (.ireturn, 1) := by decide +kernel
theorem dX8_ofPerson_10 : decode cX8_ofPerson 10 = .ok (.iload_n 2, 1) := by decide +kernel
theorem dX8_ofPerson_11 : decode cX8_ofPerson 11 = .ok (.ifCond .ne 12, 3) := by decide +kernel
theorem dX8_ofPerson_14 : decode cX8_ofPerson 14 = .ok (.aload_n 0, 1) := by decide +kernel
theorem dX8_ofPerson_15 : decode cX8_ofPerson 15 = .ok (.getfield 7, 3) := by decide +kernel
theorem dX8_ofPerson_18 : decode cX8_ofPerson 18 = .ok (.iload_n 1, 1) := by decide +kernel
theorem dX8_ofPerson_19 : decode cX8_ofPerson 19 = .ok (.iaload, 1) := by decide +kernel
theorem dX8_ofPerson_20 : decode cX8_ofPerson 20 = .ok (.goto 19, 3) := by decide +kernel
theorem dX8_ofPerson_23 : decode cX8_ofPerson 23 = .ok (.iload_n 2, 1) := by decide +kernel
theorem dX8_ofPerson_24 : decode cX8_ofPerson 24 = .ok (.iconst 1, 1) := by decide +kernel
theorem dX8_ofPerson_25 : decode cX8_ofPerson 25 = .ok (.if_icmp .ne 12, 3) := by decide +kernel
theorem dX8_ofPerson_28 : decode cX8_ofPerson 28 = .ok (.aload_n 0, 1) := by decide +kernel
theorem dX8_ofPerson_29 : decode cX8_ofPerson 29 = .ok (.getfield 13, 3) := by decide +kernel
theorem dX8_ofPerson_32 : decode cX8_ofPerson 32 = .ok (.iload_n 1, 1) := by decide +kernel
theorem dX8_ofPerson_33 : decode cX8_ofPerson 33 = .ok (.iaload, 1) := by decide +kernel
theorem dX8_ofPerson_34 : decode cX8_ofPerson 34 = .ok (.goto 5, 3) := by decide +kernel
theorem dX8_ofPerson_37 : decode cX8_ofPerson 37 = .ok (.bipush (-2), 2) := by decide +kernel
theorem dX8_ofPerson_39 : decode cX8_ofPerson 39 = .ok (.ireturn, 1) := by decide +kernel
theorem dX8_gumOf_0 : decode cX8_gumOf 0 = .ok (.aload_n 0, 1) := by decide +kernel
theorem dX8_gumOf_1 : decode cX8_gumOf 1 = .ok (.getfield 7, 3) := by decide +kernel
theorem dX8_gumOf_4 : decode cX8_gumOf 4 = .ok (.iload_n 1, 1) := by decide +kernel
theorem dX8_gumOf_5 : decode cX8_gumOf 5 = .ok (.iaload, 1) := by decide +kernel
theorem dX8_gumOf_6 : decode cX8_gumOf 6 = .ok (.ifCond .ne 10, 3) := by decide +kernel
theorem dX8_gumOf_9 : decode cX8_gumOf 9 = .ok (.aload_n 0, 1) := by decide +kernel
theorem dX8_gumOf_10 : decode cX8_gumOf 10 = .ok (.getfield 13, 3) := by decide +kernel
theorem dX8_gumOf_13 : decode cX8_gumOf 13 = .ok (.iload_n 1, 1) := by decide +kernel
theorem dX8_gumOf_14 : decode cX8_gumOf 14 = .ok (.iaload, 1) := by decide +kernel
theorem dX8_gumOf_15 : decode cX8_gumOf 15 = .ok (.ireturn, 1) := by decide +kernel
theorem dX8_gumOf_16 : decode cX8_gumOf 16 = .ok (.aload_n 0, 1) := by decide +kernel
theorem dX8_gumOf_17 : decode cX8_gumOf 17 = .ok (.getfield 13, 3) := by decide +kernel
theorem dX8_gumOf_20 : decode cX8_gumOf 20 = .ok (.iload_n 1, 1) := by decide +kernel
theorem dX8_gumOf_21 : decode cX8_gumOf 21 = .ok (.iaload, 1) := by decide +kernel
theorem dX8_gumOf_22 : decode cX8_gumOf 22 = .ok (.iload_n 2, 1) := by decide +kernel
theorem dX8_gumOf_23 : decode cX8_gumOf 23 = .ok (.bipush 10, 2) := by decide +kernel
theorem dX8_gumOf_25 : decode cX8_gumOf 25 = .ok (.idiv, 1) := by decide +kernel
theorem dX8_gumOf_26 : decode cX8_gumOf 26 = .ok (.iadd, 1) := by decide +kernel
theorem dX8_gumOf_27 : decode cX8_gumOf 27 = .ok (.iconst 4, 1) := by decide +kernel
theorem dX8_gumOf_28 : decode cX8_gumOf 28 = .ok (.irem, 1) := by decide +kernel
theorem dX8_gumOf_29 : decode cX8_gumOf 29 = .ok (.istore_n 3, 1) := by decide +kernel
theorem dX8_gumOf_30 : decode cX8_gumOf 30 = .ok (.aload_n 0, 1) := by decide +kernel
theorem dX8_gumOf_31 : decode cX8_gumOf 31 = .ok (.getfield 7, 3) := by decide +kernel
theorem dX8_gumOf_34 : decode cX8_gumOf 34 = .ok (.iload_n 1, 1) := by decide +kernel
theorem dX8_gumOf_35 : decode cX8_gumOf 35 = .ok (.iaload, 1) := by decide +kernel
theorem dX8_gumOf_36 : decode cX8_gumOf 36 = .ok (.iconst 2, 1) := by decide +kernel
theorem dX8_gumOf_37 : decode cX8_gumOf 37 = .ok (.if_icmp .ne 9, 3) := by decide +kernel
theorem dX8_gumOf_40 : decode cX8_gumOf 40 = .ok (.iconst 4, 1) := by decide +kernel
theorem dX8_gumOf_41 : decode cX8_gumOf 41 = .ok (.iload_n 3, 1) := by decide +kernel
theorem dX8_gumOf_42 : decode cX8_gumOf 42 = .ok (.iadd, 1) := by decide +kernel
theorem dX8_gumOf_43 : decode cX8_gumOf 43 = .ok (.goto 4, 3) := by decide +kernel
theorem dX8_gumOf_46 : decode cX8_gumOf 46 = .ok (.iload_n 3, 1) := by decide +kernel
theorem dX8_gumOf_47 : decode cX8_gumOf 47 = .ok (.ireturn, 1) := by decide +kernel
set_option maxRecDepth 20000 in
theorem ggX8_gum_X8_noPerson : GoodIn wsX8_gum wsX8_noPerson := goodIn_r _ [5, 6, 7, 8, 4, 9, 20, 21, 22, 23, 24, 25, 26, 27, 28, 29, 30, 31, 32, 33, 34, 35, 36, 37, 38, 39, 40, 41, 42, 43, 44, 45, 46, 47, 48, 49, 50, 51, 52, 53, 54, 55, 56, 57, 58, 59, 60, 61] (by decide +kernel) (by decide +kernel)
set_option maxRecDepth 20000 in
theorem gX8_gum_X8_noPerson : GoodIn wsX8_gum (wsV RX8 168 RX8 yX8_noPerson wsX8_noPerson) := goodIn_app (goodIn_of _ (by decide +kernel)) ggX8_gum_X8_noPerson
set_option maxRecDepth 20000 in
theorem ggX8_gum_X8_isNight : GoodIn wsX8_gum wsX8_isNight := goodIn_r _ [12, 13, 7, 8, 4, 9] (by decide +kernel) (by decide +kernel)
set_option maxRecDepth 20000 in
theorem gX8_gum_X8_isNight : GoodIn wsX8_gum (va_wsS RX8 171 yX8_isNight wsX8_isNight) := goodIn_app (goodIn_of _ (by decide +kernel)) ggX8_gum_X8_isNight
set_option maxRecDepth 20000 in
theorem ggX8_gum_X8_gumOf : GoodIn wsX8_gum wsX8_gumOf := goodIn_r _ [17, 18, 19, 20, 21, 22, 23, 24, 25, 26, 27, 28, 29, 30, 31, 32, 33, 34, 35, 36, 37, 38, 39, 40, 41, 42, 43, 44, 45, 46, 47, 48, 49, 50, 51, 52, 53, 54, 55, 56, 57, 58, 59, 60, 61] (by decide +kernel) (by decide +kernel)
set_option maxRecDepth 20000 in
theorem gX8_gum_X8_gumOf : GoodIn wsX8_gum (wsV RX8 174 RX8 yX8_gumOf wsX8_gumOf) := goodIn_app (goodIn_of _ (by decide +kernel)) ggX8_gum_X8_gumOf
theorem dX8_gum_0 : decode cX8_gum 0 = .ok (.aload_n 0, 1) := by decide +kernel
theorem dX8_gum_1 : decode cX8_gum 1 = .ok (.iload_n 1, 1) := by decide +kernel
theorem dX8_gum_2 : decode cX8_gum 2 = .ok (.invokevirtual 168, 3) := by decide +kernel
theorem dX8_gum_5 : decode cX8_gum 5 = .ok (.ifCond .eq 5, 3) := by decide +kernel
theorem dX8_gum_8 : decode cX8_gum 8 = .ok (.iconst (-1), 1) := by decide +kernel
theorem dX8_gum_9 : decode cX8_gum 9 = .ok (.ireturn, 1) := by decide +kernel
theorem dX8_gum_10 : decode cX8_gum 10 = .ok (.iload_n 2, 1) := by decide +kernel
theorem dX8_gum_11 : decode cX8_gum 11 = .ok (.invokestatic 171, 3) := by decide +kernel
theorem dX8_gum_14 : decode cX8_gum 14 = .ok (.ifCond .eq 12, 3) := by decide +kernel
theorem dX8_gum_17 : decode cX8_gum 17 = .ok (.aload_n 0, 1) := by decide +kernel
theorem dX8_gum_18 : decode cX8_gum 18 = .ok (.iload_n 1, 1) := by decide +kernel
theorem dX8_gum_19 : decode cX8_gum 19 = .ok (.iload_n 2, 1) := by decide +kernel
theorem dX8_gum_20 : decode cX8_gum 20 = .ok (.invokevirtual 174, 3) := by decide +kernel
theorem dX8_gum_23 : decode cX8_gum 23 = .ok (.goto 5, 3) := by decide +kernel
theorem dX8_gum_26 : decode cX8_gum 26 = .ok (.bipush (-2), 2) := by decide +kernel
theorem dX8_gum_28 : decode cX8_gum 28 = .ok (.ireturn, 1) := by decide +kernel
theorem dX8_maySit_0 : decode cX8_maySit 0 = .ok (.iconst 1, 1) := by decide +kernel
theorem dX8_maySit_1 : decode cX8_maySit 1 = .ok (.istore 4, 2) := by decide +kernel
theorem dX8_maySit_3 : decode cX8_maySit 3 = .ok (.iconst 0, 1) := by decide +kernel
theorem dX8_maySit_4 : decode cX8_maySit 4 = .ok (.istore 5, 2) := by decide +kernel
theorem dX8_maySit_6 : decode cX8_maySit 6 = .ok (.iload 5, 2) := by decide +kernel
theorem dX8_maySit_8 : decode cX8_maySit 8 = .ok (.aload_n 0, 1) := by decide +kernel
theorem dX8_maySit_9 : decode cX8_maySit 9 = .ok (.getfield 156, 3) := by decide +kernel
theorem dX8_maySit_12 : decode cX8_maySit 12 = .ok (.if_icmp .ge 54, 3) := by decide +kernel
theorem dX8_maySit_15 : decode cX8_maySit 15 = .ok (.iload 4, 2) := by decide +kernel
theorem dX8_maySit_17 : decode cX8_maySit 17 = .ok (.ifCond .eq 40, 3) := by decide +kernel
theorem dX8_maySit_20 : decode cX8_maySit 20 = .ok (.aload_n 0, 1) := by decide +kernel
theorem dX8_maySit_21 : decode cX8_maySit 21 = .ok (.getfield 28, 3) := by decide +kernel
theorem dX8_maySit_24 : decode cX8_maySit 24 = .ok (.iload 5, 2) := by decide +kernel
theorem dX8_maySit_26 : decode cX8_maySit 26 = .ok (.iaload, 1) := by decide +kernel
theorem dX8_maySit_27 : decode cX8_maySit 27 = .ok (.iload_n 3, 1) := by decide +kernel
theorem dX8_maySit_28 : decode cX8_maySit 28 = .ok (.if_icmp .ne 25, 3) := by decide +kernel
theorem dX8_maySit_31 : decode cX8_maySit 31 = .ok (.aload_n 0, 1) := by decide +kernel
theorem dX8_maySit_32 : decode cX8_maySit 32 = .ok (.getfield 22, 3) := by decide +kernel
theorem dX8_maySit_35 : decode cX8_maySit 35 = .ok (.iload 5, 2) := by decide +kernel
theorem dX8_maySit_37 : decode cX8_maySit 37 = .ok (.iaload, 1) := by decide +kernel
theorem dX8_maySit_38 : decode cX8_maySit 38 = .ok (.iload_n 1, 1) := by decide +kernel
theorem dX8_maySit_39 : decode cX8_maySit 39 = .ok (.if_icmp .eq 18, 3) := by decide +kernel
theorem dX8_maySit_42 : decode cX8_maySit 42 = .ok (.aload_n 0, 1) := by decide +kernel
theorem dX8_maySit_43 : decode cX8_maySit 43 = .ok (.getfield 25, 3) := by decide +kernel
theorem dX8_maySit_46 : decode cX8_maySit 46 = .ok (.iload 5, 2) := by decide +kernel
