theorem dX5_playTo_40 : decode cX5_playTo 40 = .ok (.iinc 3 1, 3) := by decide +kernel
theorem dX5_playTo_43 : decode cX5_playTo 43 = .ok (.goto (-37), 3) := by decide +kernel
theorem dX5_playTo_46 : decode cX5_playTo 46 = .ok (.return_, 1) := by decide +kernel
set_option maxRecDepth 20000 in
theorem ggX5_isSoWithout_X5_slotOf : GoodIn wsX5_isSoWithout wsX5_slotOf := goodIn_r _ [7, 8, 9, 60, 61, 62, 63, 64, 65, 66] (by decide +kernel) (by decide +kernel)
set_option maxRecDepth 20000 in
theorem gX5_isSoWithout_X5_slotOf : GoodIn wsX5_isSoWithout (wsV RX5 54 RX5 yX5_slotOf wsX5_slotOf) := goodIn_app (goodIn_of _ (by decide +kernel)) ggX5_isSoWithout_X5_slotOf
set_option maxRecDepth 20000 in
theorem ggX5_isSoWithout_X1_reset : GoodIn wsX5_isSoWithout wsX1_reset := goodIn_r _ [14, 15, 16, 67, 68, 69] (by decide +kernel) (by decide +kernel)
set_option maxRecDepth 20000 in
theorem gX5_isSoWithout_X1_reset : GoodIn wsX5_isSoWithout (wsV RX5 57 RX1 yX1_reset wsX1_reset) := goodIn_app (goodIn_of _ (by decide +kernel)) ggX5_isSoWithout_X1_reset
set_option maxRecDepth 20000 in
theorem ggX5_isSoWithout_X5_kindIn : GoodIn wsX5_isSoWithout wsX5_kindIn := goodIn_r _ [19, 9] (by decide +kernel) (by decide +kernel)
set_option maxRecDepth 20000 in
theorem gX5_isSoWithout_X5_kindIn : GoodIn wsX5_isSoWithout (va_wsS RX5 50 yX5_kindIn wsX5_kindIn) := goodIn_app (goodIn_of _ (by decide +kernel)) ggX5_isSoWithout_X5_kindIn
set_option maxRecDepth 20000 in
theorem ggX5_isSoWithout_X5_isSo : GoodIn wsX5_isSoWithout wsX5_isSo := goodIn_r _ [23, 24, 25, 26, 27, 28, 29, 13, 30, 31, 32, 33, 34, 35, 16, 36, 37, 38, 39, 15, 40, 41, 42, 6, 43, 3, 4, 5, 7, 8, 9, 60, 61, 62, 63, 64, 65, 66, 67, 68, 69] (by decide +kernel) (by decide +kernel)
set_option maxRecDepth 20000 in
theorem gX5_isSoWithout_X5_isSo : GoodIn wsX5_isSoWithout (wsV RX5 66 RX5 yX5_isSo wsX5_isSo) := goodIn_app (goodIn_of _ (by decide +kernel)) ggX5_isSoWithout_X5_isSo
set_option maxRecDepth 20000 in
theorem ggX5_isSoWithout_X5_happen : GoodIn wsX5_isSoWithout wsX5_happen := goodIn_r _ [47, 24, 25, 9, 17, 18, 6, 19, 48, 49, 50, 13, 51, 16, 36, 37, 38, 39, 15, 52, 53, 54, 55, 56, 57, 58, 59, 31, 60, 61, 62, 63, 64, 65, 66, 67, 68, 69] (by decide +kernel) (by decide +kernel)
set_option maxRecDepth 20000 in
theorem gX5_isSoWithout_X5_happen : GoodIn wsX5_isSoWithout (wsV RX5 62 RX5 yX5_happen wsX5_happen) := goodIn_app (goodIn_of _ (by decide +kernel)) ggX5_isSoWithout_X5_happen
theorem dX5_isSoWithout_0 : decode cX5_isSoWithout 0 = .ok (.aload_n 0, 1) := by decide +kernel
theorem dX5_isSoWithout_1 : decode cX5_isSoWithout 1 = .ok (.iload_n 1, 1) := by decide +kernel
theorem dX5_isSoWithout_2 : decode cX5_isSoWithout 2 = .ok (.invokevirtual 54, 3) := by decide +kernel
theorem dX5_isSoWithout_5 : decode cX5_isSoWithout 5 = .ok (.istore_n 3, 1) := by decide +kernel
theorem dX5_isSoWithout_6 : decode cX5_isSoWithout 6 = .ok (.aload_n 2, 1) := by decide +kernel
theorem dX5_isSoWithout_7 : decode cX5_isSoWithout 7 = .ok (.invokevirtual 57, 3) := by decide +kernel
theorem dX5_isSoWithout_10 : decode cX5_isSoWithout 10 = .ok (.iconst 0, 1) := by decide +kernel
theorem dX5_isSoWithout_11 : decode cX5_isSoWithout 11 = .ok (.istore 4, 2) := by decide +kernel
theorem dX5_isSoWithout_13 : decode cX5_isSoWithout 13 = .ok (.iload 4, 2) := by decide +kernel
theorem dX5_isSoWithout_15 : decode cX5_isSoWithout 15 = .ok (.aload_n 0, 1) := by decide +kernel
theorem dX5_isSoWithout_16 : decode cX5_isSoWithout 16 = .ok (.getfield 30, 3) := by decide +kernel
theorem dX5_isSoWithout_19 : decode cX5_isSoWithout 19 = .ok (.if_icmp .ge 52, 3) := by decide +kernel
theorem dX5_isSoWithout_22 : decode cX5_isSoWithout 22 = .ok (.aload_n 0, 1) := by decide +kernel
theorem dX5_isSoWithout_23 : decode cX5_isSoWithout 23 = .ok (.getfield 27, 3) := by decide +kernel
theorem dX5_isSoWithout_26 : decode cX5_isSoWithout 26 = .ok (.iload 4, 2) := by decide +kernel
theorem dX5_isSoWithout_28 : decode cX5_isSoWithout 28 = .ok (.iaload, 1) := by decide +kernel
theorem dX5_isSoWithout_29 : decode cX5_isSoWithout 29 = .ok (.istore 5, 2) := by decide +kernel
theorem dX5_isSoWithout_31 : decode cX5_isSoWithout 31 = .ok (.iload 5, 2) := by decide +kernel
theorem dX5_isSoWithout_33 : decode cX5_isSoWithout 33 = .ok (.invokestatic 50, 3) := by decide +kernel
theorem dX5_isSoWithout_36 : decode cX5_isSoWithout 36 = .ok (.iconst 3, 1) := by decide +kernel
theorem dX5_isSoWithout_37 : decode cX5_isSoWithout 37 = .ok (.if_icmp .ne 15, 3) := by decide +kernel
theorem dX5_isSoWithout_40 : decode cX5_isSoWithout 40 = .ok (.aload_n 0, 1) := by decide +kernel
theorem dX5_isSoWithout_41 : decode cX5_isSoWithout 41 = .ok (.iload 5, 2) := by decide +kernel
theorem dX5_isSoWithout_43 : decode cX5_isSoWithout 43 = .ok (.aload_n 2, 1) := by decide +kernel
theorem dX5_isSoWithout_44 : decode cX5_isSoWithout 44 = .ok (.invokevirtual 66, 3) := by decide +kernel
theorem dX5_isSoWithout_47 : decode cX5_isSoWithout 47 = .ok (.ifCond .ne 5, 3) := by decide +kernel
theorem dX5_isSoWithout_50 : decode cX5_isSoWithout 50 = .ok (.iconst 0, 1) := by decide +kernel
theorem dX5_isSoWithout_51 : decode cX5_isSoWithout 51 = .ok (.ireturn, 1) := by decide +kernel
theorem dX5_isSoWithout_52 : decode cX5_isSoWithout 52 = .ok (.iload 5, 2) := by decide +kernel
theorem dX5_isSoWithout_54 : decode cX5_isSoWithout 54 = .ok (.iload_n 3, 1) := by decide +kernel
theorem dX5_isSoWithout_55 : decode cX5_isSoWithout 55 = .ok (.if_icmp .eq 10, 3) := by decide +kernel
theorem dX5_isSoWithout_58 : decode cX5_isSoWithout 58 = .ok (.aload_n 0, 1) := by decide +kernel
theorem dX5_isSoWithout_59 : decode cX5_isSoWithout 59 = .ok (.iload 5, 2) := by decide +kernel
theorem dX5_isSoWithout_61 : decode cX5_isSoWithout 61 = .ok (.aload_n 2, 1) := by decide +kernel
theorem dX5_isSoWithout_62 : decode cX5_isSoWithout 62 = .ok (.invokevirtual 62, 3) := by decide +kernel
theorem dX5_isSoWithout_65 : decode cX5_isSoWithout 65 = .ok (.iinc 4 1, 3) := by decide +kernel
theorem dX5_isSoWithout_68 : decode cX5_isSoWithout 68 = .ok (.goto (-55), 3) := by decide +kernel
theorem dX5_isSoWithout_71 : decode cX5_isSoWithout 71 = .ok (.iconst 1, 1) := by decide +kernel
theorem dX5_isSoWithout_72 : decode cX5_isSoWithout 72 = .ok (.ireturn, 1) := by decide +kernel
set_option maxRecDepth 20000 in
theorem ggX5_happen_X5_kindIn : GoodIn wsX5_happen wsX5_kindIn := goodIn_r _ [7, 3] (by decide +kernel) (by decide +kernel)
set_option maxRecDepth 20000 in
theorem gX5_happen_X5_kindIn : GoodIn wsX5_happen (va_wsS RX5 50 yX5_kindIn wsX5_kindIn) := goodIn_app (goodIn_of _ (by decide +kernel)) ggX5_happen_X5_kindIn
set_option maxRecDepth 20000 in
theorem ggX5_happen_X1_wipe : GoodIn wsX5_happen wsX1_wipe := goodIn_r _ [12, 13, 14, 15, 16, 11, 17, 18, 35, 36, 37] (by decide +kernel) (by decide +kernel)
set_option maxRecDepth 20000 in
theorem gX5_happen_X1_wipe : GoodIn wsX5_happen (wsV RX5 70 RX1 yX1_wipe wsX1_wipe) := goodIn_app (goodIn_of _ (by decide +kernel)) ggX5_happen_X1_wipe
set_option maxRecDepth 20000 in
theorem ggX5_happen_X1_swap : GoodIn wsX5_happen wsX1_swap := goodIn_r _ [22, 18, 14, 15, 16, 11, 17, 35, 36, 37] (by decide +kernel) (by decide +kernel)
set_option maxRecDepth 20000 in
theorem gX5_happen_X1_swap : GoodIn wsX5_happen (wsV RX5 74 RX1 yX1_swap wsX1_swap) := goodIn_app (goodIn_of _ (by decide +kernel)) ggX5_happen_X1_swap
set_option maxRecDepth 20000 in
theorem ggX5_happen_X1_press : GoodIn wsX5_happen wsX1_press := goodIn_r _ [26, 13, 27, 14, 15, 16, 11, 17, 18, 35, 36, 37] (by decide +kernel) (by decide +kernel)
set_option maxRecDepth 20000 in
theorem gX5_happen_X1_press : GoodIn wsX5_happen (wsV RX5 78 RX1 yX1_press wsX1_press) := goodIn_app (goodIn_of _ (by decide +kernel)) ggX5_happen_X1_press
theorem dX5_happen_0 : decode cX5_happen 0 = .ok (.iload_n 1, 1) := by decide +kernel
theorem dX5_happen_1 : decode cX5_happen 1 = .ok (.invokestatic 50, 3) := by decide +kernel
theorem dX5_happen_4 : decode cX5_happen 4 = .ok (.tableswitch 80 0 2 #[28, 41, 60], 28) := by decide +kernel
theorem dX5_happen_32 : decode cX5_happen 32 = .ok (.aload_n 2, 1) := by decide +kernel
theorem dX5_happen_33 : decode cX5_happen 33 = .ok (.aload_n 0, 1) := by decide +kernel
theorem dX5_happen_34 : decode cX5_happen 34 = .ok (.getfield 18, 3) := by decide +kernel
theorem dX5_happen_37 : decode cX5_happen 37 = .ok (.iload_n 1, 1) := by decide +kernel
theorem dX5_happen_38 : decode cX5_happen 38 = .ok (.iaload, 1) := by decide +kernel
theorem dX5_happen_39 : decode cX5_happen 39 = .ok (.invokevirtual 70, 3) := by decide +kernel
theorem dX5_happen_42 : decode cX5_happen 42 = .ok (.goto 42, 3) := by decide +kernel
theorem dX5_happen_45 : decode cX5_happen 45 = .ok (.aload_n 2, 1) := by decide +kernel
theorem dX5_happen_46 : decode cX5_happen 46 = .ok (.aload_n 0, 1) := by decide +kernel
theorem dX5_happen_47 : decode cX5_happen 47 = .ok (.getfield 18, 3) := by decide +kernel
theorem dX5_happen_50 : decode cX5_happen 50 = .ok (.iload_n 1, 1) := by decide +kernel
theorem dX5_happen_51 : decode cX5_happen 51 = .ok (.iaload, 1) := by decide +kernel
theorem dX5_happen_52 : decode cX5_happen 52 = .ok (.aload_n 0, 1) := by decide +kernel
theorem dX5_happen_53 : decode cX5_happen 53 = .ok (.getfield 21, 3) := by decide +kernel
theorem dX5_happen_56 : decode cX5_happen 56 = .ok (.iload_n 1, 1) := by decide +kernel
theorem dX5_happen_57 : decode cX5_happen 57 = .ok (.iaload, 1) := by decide +kernel
theorem dX5_happen_58 : decode cX5_happen 58 = .ok (.invokevirtual 74, 3) := by decide +kernel
theorem dX5_happen_61 : decode cX5_happen 61 = .ok (.goto 23, 3) := by decide +kernel
theorem dX5_happen_64 : decode cX5_happen 64 = .ok (.aload_n 2, 1) := by decide +kernel
theorem dX5_happen_65 : decode cX5_happen 65 = .ok (.aload_n 0, 1) := by decide +kernel
theorem dX5_happen_66 : decode cX5_happen 66 = .ok (.getfield 18, 3) := by decide +kernel
theorem dX5_happen_69 : decode cX5_happen 69 = .ok (.iload_n 1, 1) := by decide +kernel
theorem dX5_happen_70 : decode cX5_happen 70 = .ok (.iaload, 1) := by decide +kernel
theorem dX5_happen_71 : decode cX5_happen 71 = .ok (.iload_n 1, 1) := by decide +kernel
theorem dX5_happen_72 : decode cX5_happen 72 = .ok (.getstatic 43, 3) := by decide +kernel
theorem dX5_happen_75 : decode cX5_happen 75 = .ok (.iconst 2, 1) := by decide +kernel
theorem dX5_happen_76 : decode cX5_happen 76 = .ok (.iaload, 1) := by decide +kernel
theorem dX5_happen_77 : decode cX5_happen 77 = .ok (.isub, 1) := by decide +kernel
theorem dX5_happen_78 : decode cX5_happen 78 = .ok (.invokevirtual 78, 3) := by decide +kernel
theorem dX5_happen_81 : decode cX5_happen 81 = .ok (.goto 3, 3) := by decide +kernel
theorem dX5_happen_84 : decode cX5_happen 84 = .ok (.return_, 1) := by decide +kernel
set_option maxRecDepth 20000 in
theorem ggX5_isSo_X1_layerAt : GoodIn wsX5_isSo wsX1_layerAt := goodIn_r _ [8, 9, 10, 11, 12, 7, 13, 14, 15, 16, 17, 18, 19, 38, 39, 40] (by decide +kernel) (by decide +kernel)
set_option maxRecDepth 20000 in
theorem gX5_isSo_X1_layerAt : GoodIn wsX5_isSo (wsV RX5 81 RX1 yX1_layerAt wsX1_layerAt) := goodIn_app (goodIn_of _ (by decide +kernel)) ggX5_isSo_X1_layerAt
set_option maxRecDepth 20000 in
theorem ggX5_isSo_X5_gumOf : GoodIn wsX5_isSo wsX5_gumOf := goodIn_r _ [24, 3, 25, 26, 27, 23, 28, 29, 30, 31, 32, 33, 34, 35, 36, 37] (by decide +kernel) (by decide +kernel)
set_option maxRecDepth 20000 in
theorem gX5_isSo_X5_gumOf : GoodIn wsX5_isSo (wsV RX5 85 RX5 yX5_gumOf wsX5_gumOf) := goodIn_app (goodIn_of _ (by decide +kernel)) ggX5_isSo_X5_gumOf
theorem dX5_isSo_0 : decode cX5_isSo 0 = .ok (.aload_n 2, 1) := by decide +kernel
theorem dX5_isSo_1 : decode cX5_isSo 1 = .ok (.aload_n 0, 1) := by decide +kernel
theorem dX5_isSo_2 : decode cX5_isSo 2 = .ok (.getfield 18, 3) := by decide +kernel
theorem dX5_isSo_5 : decode cX5_isSo 5 = .ok (.iload_n 1, 1) := by decide +kernel
theorem dX5_isSo_6 : decode cX5_isSo 6 = .ok (.iaload, 1) := by decide +kernel
theorem dX5_isSo_7 : decode cX5_isSo 7 = .ok (.aload_n 0, 1) := by decide +kernel
theorem dX5_isSo_8 : decode cX5_isSo 8 = .ok (.getfield 21, 3) := by decide +kernel
theorem dX5_isSo_11 : decode cX5_isSo 11 = .ok (.iload_n 1, 1) := by decide +kernel
theorem dX5_isSo_12 : decode cX5_isSo 12 = .ok (.iaload, 1) := by decide +kernel
theorem dX5_isSo_13 : decode cX5_isSo 13 = .ok (.invokevirtual 81, 3) := by decide +kernel
theorem dX5_isSo_16 : decode cX5_isSo 16 = .ok (.istore_n 3, 1) := by decide +kernel
theorem dX5_isSo_17 : decode cX5_isSo 17 = .ok (.iload_n 3, 1) := by decide +kernel
theorem dX5_isSo_18 : decode cX5_isSo 18 = .ok (.bipush (-9), 2) := by decide +kernel
theorem dX5_isSo_20 : decode cX5_isSo 20 = .ok (.if_icmp .ne 8, 3) := by decide +kernel
theorem dX5_isSo_23 : decode cX5_isSo 23 = .ok (.bipush 9, 2) := by decide +kernel
theorem dX5_isSo_25 : decode cX5_isSo 25 = .ok (.goto 8, 3) := by decide +kernel
theorem dX5_isSo_28 : decode cX5_isSo 28 = .ok (.aload_n 0, 1) := by decide +kernel
theorem dX5_isSo_29 : decode cX5_isSo 29 = .ok (.iload_n 3, 1) := by decide +kernel
theorem dX5_isSo_30 : decode cX5_isSo 30 = .ok (.invokevirtual 85, 3) := by decide +kernel
theorem dX5_isSo_33 : decode cX5_isSo 33 = .ok (.istore 4, 2) := by decide +kernel
theorem dX5_isSo_35 : decode cX5_isSo 35 = .ok (.iload 4, 2) := by decide +kernel
theorem dX5_isSo_37 : decode cX5_isSo 37 = .ok (.aload_n 0, 1) := by decide +kernel
theorem dX5_isSo_38 : decode cX5_isSo 38 = .ok (.getfield 24, 3) := by decide +kernel
theorem dX5_isSo_41 : decode cX5_isSo 41 = .ok (.iload_n 1, 1) := by decide +kernel
theorem dX5_isSo_42 : decode cX5_isSo 42 = .ok (.iaload, 1) := by decide +kernel
theorem dX5_isSo_43 : decode cX5_isSo 43 = .ok (.if_icmp .ne 7, 3) := by decide +kernel
theorem dX5_isSo_46 : decode cX5_isSo 46 = .ok (.iconst 1, 1) := by decide +kernel
theorem dX5_isSo_47 : decode cX5_isSo 47 = .ok (.goto 4, 3) := by decide +kernel
theorem dX5_isSo_50 : decode cX5_isSo 50 = .ok (.iconst 0, 1) := by decide +kernel
theorem dX5_isSo_51 : decode cX5_isSo 51 = .ok (.ireturn, 1) := by decide +kernel
set_option maxRecDepth 20000 in
theorem ggX5_restOf_X5_kindIn : GoodIn wsX5_restOf wsX5_kindIn := goodIn_r _ [9, 10] (by decide +kernel) (by decide +kernel)
set_option maxRecDepth 20000 in
theorem gX5_restOf_X5_kindIn : GoodIn wsX5_restOf (va_wsS RX5 50 yX5_kindIn wsX5_kindIn) := goodIn_app (goodIn_of _ (by decide +kernel)) ggX5_restOf_X5_kindIn
set_option maxRecDepth 20000 in
theorem ggX5_restOf_X5_movedFrom : GoodIn wsX5_restOf wsX5_movedFrom := goodIn_r _ [13] (by decide +kernel) (by decide +kernel)
set_option maxRecDepth 20000 in
theorem gX5_restOf_X5_movedFrom : GoodIn wsX5_restOf (va_wsS RX5 88 yX5_movedFrom wsX5_movedFrom) := goodIn_app (goodIn_of _ (by decide +kernel)) ggX5_restOf_X5_movedFrom
theorem dX5_restOf_0 : decode cX5_restOf 0 = .ok (.iload_n 3, 1) := by decide +kernel
theorem dX5_restOf_1 : decode cX5_restOf 1 = .ok (.iload_n 2, 1) := by decide +kernel
theorem dX5_restOf_2 : decode cX5_restOf 2 = .ok (.if_icmp .ge 6, 3) := by decide +kernel
theorem dX5_restOf_5 : decode cX5_restOf 5 = .ok (.bipush (-9), 2) := by decide +kernel
theorem dX5_restOf_7 : decode cX5_restOf 7 = .ok (.ireturn, 1) := by decide +kernel
theorem dX5_restOf_8 : decode cX5_restOf 8 = .ok (.iload_n 1, 1) := by decide +kernel
theorem dX5_restOf_9 : decode cX5_restOf 9 = .ok (.istore 4, 2) := by decide +kernel
theorem dX5_restOf_11 : decode cX5_restOf 11 = .ok (.iconst 0, 1) := by decide +kernel
theorem dX5_restOf_12 : decode cX5_restOf 12 = .ok (.istore 5, 2) := by decide +kernel
theorem dX5_restOf_14 : decode cX5_restOf 14 = .ok (.iload 5, 2) := by decide +kernel
theorem dX5_restOf_16 : decode cX5_restOf 16 = .ok (.aload_n 0, 1) := by decide +kernel
theorem dX5_restOf_17 : decode cX5_restOf 17 = .ok (.getfield 30, 3) := by decide +kernel
theorem dX5_restOf_20 : decode cX5_restOf 20 = .ok (.if_icmp .ge 98, 3) := by decide +kernel
theorem dX5_restOf_23 : decode cX5_restOf 23 = .ok (.aload_n 0, 1) := by decide +kernel
theorem dX5_restOf_24 : decode cX5_restOf 24 = .ok (.getfield 15, 3) := by decide +kernel
theorem dX5_restOf_27 : decode cX5_restOf 27 = .ok (.aload_n 0, 1) := by decide +kernel
theorem dX5_restOf_28 : decode cX5_restOf 28 = .ok (.getfield 27, 3) := by decide +kernel
theorem dX5_restOf_31 : decode cX5_restOf 31 = .ok (.iload 5, 2) := by decide +kernel
theorem dX5_restOf_33 : decode cX5_restOf 33 = .ok (.iaload, 1) := by decide +kernel
theorem dX5_restOf_34 : decode cX5_restOf 34 = .ok (.iaload, 1) := by decide +kernel
theorem dX5_restOf_35 : decode cX5_restOf 35 = .ok (.iload_n 3, 1) := by decide +kernel
theorem dX5_restOf_36 : decode cX5_restOf 36 = .ok (.if_icmp .gt 82, 3) := by decide +kernel
theorem dX5_restOf_39 : decode cX5_restOf 39 = .ok (.aload_n 0, 1) := by decide +kernel
theorem dX5_restOf_40 : decode cX5_restOf 40 = .ok (.getfield 27, 3) := by decide +kernel
theorem dX5_restOf_43 : decode cX5_restOf 43 = .ok (.iload 5, 2) := by decide +kernel
theorem dX5_restOf_45 : decode cX5_restOf 45 = .ok (.iaload, 1) := by decide +kernel
theorem dX5_restOf_46 : decode cX5_restOf 46 = .ok (.istore 6, 2) := by decide +kernel
theorem dX5_restOf_48 : decode cX5_restOf 48 = .ok (.aload_n 0, 1) := by decide +kernel
theorem dX5_restOf_49 : decode cX5_restOf 49 = .ok (.getfield 15, 3) := by decide +kernel
theorem dX5_restOf_52 : decode cX5_restOf 52 = .ok (.iload 6, 2) := by decide +kernel
theorem dX5_restOf_54 : decode cX5_restOf 54 = .ok (.iaload, 1) := by decide +kernel
theorem dX5_restOf_55 : decode cX5_restOf 55 = .ok (.iload_n 2, 1) := by decide +kernel
theorem dX5_restOf_56 : decode cX5_restOf 56 = .ok (.if_icmp .le 56, 3) := by decide +kernel
theorem dX5_restOf_59 : decode cX5_restOf 59 = .ok (.iload 6, 2) := by decide +kernel
theorem dX5_restOf_61 : decode cX5_restOf 61 = .ok (.invokestatic 50, 3) := by decide +kernel
theorem dX5_restOf_64 : decode cX5_restOf 64 = .ok (.ifCond .ne 18, 3) := by decide +kernel
theorem dX5_restOf_67 : decode cX5_restOf 67 = .ok (.aload_n 0, 1) := by decide +kernel
theorem dX5_restOf_68 : decode cX5_restOf 68 = .ok (.getfield 18, 3) := by decide +kernel
theorem dX5_restOf_71 : decode cX5_restOf 71 = .ok (.iload 6, 2) := by decide +kernel
theorem dX5_restOf_73 : decode cX5_restOf 73 = .ok (.iaload, 1) := by decide +kernel
theorem dX5_restOf_74 : decode cX5_restOf 74 = .ok (.iload 4, 2) := by decide +kernel
theorem dX5_restOf_76 : decode cX5_restOf 76 = .ok (.if_icmp .ne 6, 3) := by decide +kernel
theorem dX5_restOf_79 : decode cX5_restOf 79 = .ok (.bipush (-9), 2) := by decide +kernel
theorem dX5_restOf_81 : decode cX5_restOf 81 = .ok (.ireturn, 1) := by decide +kernel
theorem dX5_restOf_82 : decode cX5_restOf 82 = .ok (.iload 6, 2) := by decide +kernel
theorem dX5_restOf_84 : decode cX5_restOf 84 = .ok (.invokestatic 50, 3) := by decide +kernel
theorem dX5_restOf_87 : decode cX5_restOf 87 = .ok (.iconst 1, 1) := by decide +kernel
theorem dX5_restOf_88 : decode cX5_restOf 88 = .ok (.if_icmp .ne 24, 3) := by decide +kernel
theorem dX5_restOf_91 : decode cX5_restOf 91 = .ok (.iload 4, 2) := by decide +kernel
theorem dX5_restOf_93 : decode cX5_restOf 93 = .ok (.aload_n 0, 1) := by decide +kernel
theorem dX5_restOf_94 : decode cX5_restOf 94 = .ok (.getfield 18, 3) := by decide +kernel
theorem dX5_restOf_97 : decode cX5_restOf 97 = .ok (.iload 6, 2) := by decide +kernel
theorem dX5_restOf_99 : decode cX5_restOf 99 = .ok (.iaload, 1) := by decide +kernel
theorem dX5_restOf_100 : decode cX5_restOf 100 = .ok (.aload_n 0, 1) := by decide +kernel
theorem dX5_restOf_101 : decode cX5_restOf 101 = .ok (.getfield 21, 3) := by decide +kernel
theorem dX5_restOf_104 : decode cX5_restOf 104 = .ok (.iload 6, 2) := by decide +kernel
theorem dX5_restOf_106 : decode cX5_restOf 106 = .ok (.iaload, 1) := by decide +kernel
theorem dX5_restOf_107 : decode cX5_restOf 107 = .ok (.invokestatic 88, 3) := by decide +kernel
theorem dX5_restOf_110 : decode cX5_restOf 110 = .ok (.istore 4, 2) := by decide +kernel
theorem dX5_restOf_112 : decode cX5_restOf 112 = .ok (.iinc 5 1, 3) := by decide +kernel
theorem dX5_restOf_115 : decode cX5_restOf 115 = .ok (.goto (-101), 3) := by decide +kernel
theorem dX5_restOf_118 : decode cX5_restOf 118 = .ok (.iload 4, 2) := by decide +kernel
theorem dX5_restOf_120 : decode cX5_restOf 120 = .ok (.ireturn, 1) := by decide +kernel
theorem dX5_movedFrom_0 : decode cX5_movedFrom 0 = .ok (.iload_n 0, 1) := by decide +kernel
theorem dX5_movedFrom_1 : decode cX5_movedFrom 1 = .ok (.iload_n 1, 1) := by decide +kernel
theorem dX5_movedFrom_2 : decode cX5_movedFrom 2 = .ok (.if_icmp .ne 5, 3) := by decide +kernel
theorem dX5_movedFrom_5 : decode cX5_movedFrom 5 = .ok (.iload_n 2, 1) := by decide +kernel
theorem dX5_movedFrom_6 : decode cX5_movedFrom 6 = .ok (.ireturn, 1) := by decide +kernel
theorem dX5_movedFrom_7 : decode cX5_movedFrom 7 = .ok (.iload_n 0, 1) := by decide +kernel
theorem dX5_movedFrom_8 : decode cX5_movedFrom 8 = .ok (.iload_n 2, 1) := by decide +kernel
theorem dX5_movedFrom_9 : decode cX5_movedFrom 9 = .ok (.if_icmp .ne 7, 3) := by decide +kernel
theorem dX5_movedFrom_12 : decode cX5_movedFrom 12 = .ok (.iload_n 1, 1) := by decide +kernel
theorem dX5_movedFrom_13 : decode cX5_movedFrom 13 = .ok (.goto 4, 3) := by decide +kernel
theorem dX5_movedFrom_16 : decode cX5_movedFrom 16 = .ok (.iload_n 0, 1) := by decide +kernel
theorem dX5_movedFrom_17 : decode cX5_movedFrom 17 = .ok (.ireturn, 1) := by decide +kernel
theorem dX6_init_0 : decode cX6_init 0 = .ok (.aload_n 0, 1) := by decide +kernel
theorem dX6_init_1 : decode cX6_init 1 = .ok (.invokespecial 1, 3) := by decide +kernel
theorem dX6_init_4 : decode cX6_init 4 = .ok (.aload_n 0, 1) := by decide +kernel
theorem dX6_init_5 : decode cX6_init 5 = .ok (.iconst 0, 1) := by decide +kernel
theorem dX6_init_6 : decode cX6_init 6 = .ok (.putfield 7, 3) := by decide +kernel
theorem dX6_init_9 : decode cX6_init 9 = .ok (.return_, 1) := by decide +kernel
theorem dX6_mark_0 : decode cX6_mark 0 = .ok (.aload_n 0, 1) := by decide +kernel
theorem dX6_mark_1 : decode cX6_mark 1 = .ok (.bipush 31, 2) := by decide +kernel
theorem dX6_mark_3 : decode cX6_mark 3 = .ok (.aload_n 0, 1) := by decide +kernel
theorem dX6_mark_4 : decode cX6_mark 4 = .ok (.getfield 7, 3) := by decide +kernel
theorem dX6_mark_7 : decode cX6_mark 7 = .ok (.imul, 1) := by decide +kernel
theorem dX6_mark_8 : decode cX6_mark 8 = .ok (.iload_n 1, 1) := by decide +kernel
theorem dX6_mark_9 : decode cX6_mark 9 = .ok (.iadd, 1) := by decide +kernel
theorem dX6_mark_10 : decode cX6_mark 10 = .ok (.putfield 7, 3) := by decide +kernel
theorem dX6_mark_13 : decode cX6_mark 13 = .ok (.return_, 1) := by decide +kernel
set_option maxRecDepth 20000 in
theorem ggX7_init_X5_init : GoodIn wsX7_init wsX5_init := goodIn_r _ [29, 30, 2, 3, 8, 31, 32, 33, 34, 35, 36, 37, 66, 67, 68, 69, 70, 71, 72] (by decide +kernel) (by decide +kernel)
set_option maxRecDepth 20000 in
theorem gX7_init_X5_init : GoodIn wsX7_init (wsX5_init) := ggX7_init_X5_init
set_option maxRecDepth 20000 in
theorem ggX7_init_X1_init : GoodIn wsX7_init wsX1_init := goodIn_r _ [40, 41, 2, 3, 8, 42, 43, 44, 73, 74, 75] (by decide +kernel) (by decide +kernel)
set_option maxRecDepth 20000 in
theorem gX7_init_X1_init : GoodIn wsX7_init (wsX1_init) := ggX7_init_X1_init
set_option maxRecDepth 20000 in
theorem ggX7_init_X6_init : GoodIn wsX7_init wsX6_init := goodIn_r _ [47, 48, 2, 3, 49, 76] (by decide +kernel) (by decide +kernel)
set_option maxRecDepth 20000 in
theorem gX7_init_X6_init : GoodIn wsX7_init (wsX6_init) := ggX7_init_X6_init
set_option maxRecDepth 20000 in
theorem ggX7_init_X3_init : GoodIn wsX7_init wsX3_init := goodIn_r _ [52, 53, 2, 3, 8, 54, 55, 56, 77, 78, 79] (by decide +kernel) (by decide +kernel)
set_option maxRecDepth 20000 in
theorem gX7_init_X3_init : GoodIn wsX7_init (wsX3_init) := ggX7_init_X3_init
theorem dX7_init_0 : decode cX7_init 0 = .ok (.aload_n 0, 1) := by decide +kernel
theorem dX7_init_1 : decode cX7_init 1 = .ok (.invokespecial 3, 3) := by decide +kernel
theorem dX7_init_4 : decode cX7_init 4 = .ok (.aload_n 0, 1) := by decide +kernel
theorem dX7_init_5 : decode cX7_init 5 = .ok (.iconst 4, 1) := by decide +kernel
theorem dX7_init_6 : decode cX7_init 6 = .ok (.anewarray 11, 3) := by decide +kernel
theorem dX7_init_9 : decode cX7_init 9 = .ok (.putfield 13, 3) := by decide +kernel
theorem dX7_init_12 : decode cX7_init 12 = .ok (.aload_n 0, 1) := by decide +kernel
theorem dX7_init_13 : decode cX7_init 13 = .ok (.iconst 5, 1) := by decide +kernel
theorem dX7_init_14 : decode cX7_init 14 = .ok (.anewarray 17, 3) := by decide +kernel
theorem dX7_init_17 : decode cX7_init 17 = .ok (.putfield 19, 3) := by decide +kernel
theorem dX7_init_20 : decode cX7_init 20 = .ok (.aload_n 0, 1) := by decide +kernel
theorem dX7_init_21 : decode cX7_init 21 = .ok (.bipush 8, 2) := by decide +kernel
theorem dX7_init_23 : decode cX7_init 23 = .ok (.newarray .int, 2) := by decide +kernel
theorem dX7_init_25 : decode cX7_init 25 = .ok (.putfield 23, 3) := by decide +kernel
theorem dX7_init_28 : decode cX7_init 28 = .ok (.aload_n 0, 1) := by decide +kernel
theorem dX7_init_29 : decode cX7_init 29 = .ok (.new 27, 3) := by decide +kernel
theorem dX7_init_32 : decode cX7_init 32 = .ok (.dup, 1) := by decide +kernel
theorem dX7_init_33 : decode cX7_init 33 = .ok (.invokespecial 29, 3) := by decide +kernel
theorem dX7_init_36 : decode cX7_init 36 = .ok (.putfield 30, 3) := by decide +kernel
theorem dX7_init_39 : decode cX7_init 39 = .ok (.aload_n 0, 1) := by decide +kernel
theorem dX7_init_40 : decode cX7_init 40 = .ok (.new 34, 3) := by decide +kernel
theorem dX7_init_43 : decode cX7_init 43 = .ok (.dup, 1) := by decide +kernel
theorem dX7_init_44 : decode cX7_init 44 = .ok (.invokespecial 36, 3) := by decide +kernel
theorem dX7_init_47 : decode cX7_init 47 = .ok (.putfield 37, 3) := by decide +kernel
theorem dX7_init_50 : decode cX7_init 50 = .ok (.aload_n 0, 1) := by decide +kernel
theorem dX7_init_51 : decode cX7_init 51 = .ok (.new 41, 3) := by decide +kernel
theorem dX7_init_54 : decode cX7_init 54 = .ok (.dup, 1) := by decide +kernel
theorem dX7_init_55 : decode cX7_init 55 = .ok (.invokespecial 43, 3) := by decide +kernel
theorem dX7_init_58 : decode cX7_init 58 = .ok (.putfield 44, 3) := by decide +kernel
theorem dX7_init_61 : decode cX7_init 61 = .ok (.aload_n 0, 1) := by decide +kernel
theorem dX7_init_62 : decode cX7_init 62 = .ok (.iconst 0, 1) := by decide +kernel
theorem dX7_init_63 : decode cX7_init 63 = .ok (.putfield 48, 3) := by decide +kernel
theorem dX7_init_66 : decode cX7_init 66 = .ok (.aload_n 0, 1) := by decide +kernel
theorem dX7_init_67 : decode cX7_init 67 = .ok (.iconst 0, 1) := by decide +kernel
theorem dX7_init_68 : decode cX7_init 68 = .ok (.putfield 52, 3) := by decide +kernel
theorem dX7_init_71 : decode cX7_init 71 = .ok (.aload_n 0, 1) := by decide +kernel
theorem dX7_init_72 : decode cX7_init 72 = .ok (.iconst 0, 1) := by decide +kernel
theorem dX7_init_73 : decode cX7_init 73 = .ok (.putfield 55, 3) := by decide +kernel
theorem dX7_init_76 : decode cX7_init 76 = .ok (.iconst 0, 1) := by decide +kernel
theorem dX7_init_77 : decode cX7_init 77 = .ok (.istore_n 1, 1) := by decide +kernel
theorem dX7_init_78 : decode cX7_init 78 = .ok (.iload_n 1, 1) := by decide +kernel
theorem dX7_init_79 : decode cX7_init 79 = .ok (.iconst 4, 1) := by decide +kernel
theorem dX7_init_80 : decode cX7_init 80 = .ok (.if_icmp .ge 22, 3) := by decide +kernel
theorem dX7_init_83 : decode cX7_init 83 = .ok (.aload_n 0, 1) := by decide +kernel
theorem dX7_init_84 : decode cX7_init 84 = .ok (.getfield 13, 3) := by decide +kernel
theorem dX7_init_87 : decode cX7_init 87 = .ok (.iload_n 1, 1) := by decide +kernel
theorem dX7_init_88 : decode cX7_init 88 = .ok (.new 11, 3) := by decide +kernel
theorem dX7_init_91 : decode cX7_init 91 = .ok (.dup, 1) := by decide +kernel
theorem dX7_init_92 : decode cX7_init 92 = .ok (.invokespecial 58, 3) := by decide +kernel
theorem dX7_init_95 : decode cX7_init 95 = .ok (.aastore, 1) := by decide +kernel
theorem dX7_init_96 : decode cX7_init 96 = .ok (.iinc 1 1, 3) := by decide +kernel
theorem dX7_init_99 : decode cX7_init 99 = .ok (.goto (-21), 3) := by decide +kernel
theorem dX7_init_102 : decode cX7_init 102 = .ok (.return_, 1) := by decide +kernel
set_option maxRecDepth 20000 in
theorem ggX7_hall_X7_sheetOf : GoodIn wsX7_hall wsX7_sheetOf := goodIn_r _ [7, 8, 92, 93, 94, 95, 96, 97, 98, 99, 100] (by decide +kernel) (by decide +kernel)
set_option maxRecDepth 20000 in
theorem gX7_hall_X7_sheetOf : GoodIn wsX7_hall (wsV RX7 59 RX7 yX7_sheetOf wsX7_sheetOf) := goodIn_app (goodIn_of _ (by decide +kernel)) ggX7_hall_X7_sheetOf
set_option maxRecDepth 20000 in
theorem ggX7_hall_X7_isLane : GoodIn wsX7_hall wsX7_isLane := goodIn_r _ [11] (by decide +kernel) (by decide +kernel)
set_option maxRecDepth 20000 in
theorem gX7_hall_X7_isLane : GoodIn wsX7_hall (va_wsS RX7 63 yX7_isLane wsX7_isLane) := goodIn_app (goodIn_of _ (by decide +kernel)) ggX7_hall_X7_isLane
set_option maxRecDepth 20000 in
theorem ggX7_hall_X3_faultAs : GoodIn wsX7_hall wsX3_faultAs := goodIn_r _ [16, 17, 18, 19, 20, 15, 21, 101, 102, 103] (by decide +kernel) (by decide +kernel)
set_option maxRecDepth 20000 in
theorem gX7_hall_X3_faultAs : GoodIn wsX7_hall (wsV RX7 67 RX3 yX3_faultAs wsX3_faultAs) := goodIn_app (goodIn_of _ (by decide +kernel)) ggX7_hall_X3_faultAs
set_option maxRecDepth 20000 in
theorem ggX7_hall_X7_fails : GoodIn wsX7_hall wsX7_fails := goodIn_r _ [25, 1, 92, 93, 94, 95, 96, 97, 98, 99, 100] (by decide +kernel) (by decide +kernel)
set_option maxRecDepth 20000 in
theorem gX7_hall_X7_fails : GoodIn wsX7_hall (wsV RX7 71 RX7 yX7_fails wsX7_fails) := goodIn_app (goodIn_of _ (by decide +kernel)) ggX7_hall_X7_fails
set_option maxRecDepth 20000 in
theorem ggX7_hall_X3_reaches : GoodIn wsX7_hall wsX3_reaches := goodIn_r _ [29, 30, 101, 102, 103] (by decide +kernel) (by decide +kernel)
set_option maxRecDepth 20000 in
theorem gX7_hall_X3_reaches : GoodIn wsX7_hall (wsV RX7 74 RX3 yX3_reaches wsX3_reaches) := goodIn_app (goodIn_of _ (by decide +kernel)) ggX7_hall_X3_reaches
set_option maxRecDepth 20000 in
theorem ggX7_hall_X7_firstFault : GoodIn wsX7_hall wsX7_firstFault := goodIn_r _ [33, 34, 35, 36, 15, 37, 38, 39, 27, 28, 29, 30, 40, 41, 6, 42, 101, 102, 103] (by decide +kernel) (by decide +kernel)
set_option maxRecDepth 20000 in
theorem gX7_hall_X7_firstFault : GoodIn wsX7_hall (va_wsS RX7 78 yX7_firstFault wsX7_firstFault) := goodIn_app (goodIn_of _ (by decide +kernel)) ggX7_hall_X7_firstFault
set_option maxRecDepth 20000 in
theorem ggX7_hall_X7_open : GoodIn wsX7_hall wsX7_open := goodIn_r _ [46, 47, 48, 49, 50, 51, 52, 2, 53, 54, 55, 56, 57, 58, 59, 60, 61, 62, 63, 64, 34, 35, 36, 15, 37, 38, 39, 27, 28, 29, 30, 65, 66, 6, 67, 68, 69, 70, 71, 72, 73, 74, 75, 76, 77, 78, 79, 80, 81, 82, 83, 84, 85, 86, 87, 88, 89, 90, 91, 92, 93, 94, 95, 96, 97, 98, 99, 100, 104, 105, 106, 107, 108, 109, 110, 101, 102, 103, 111, 112, 113] (by decide +kernel) (by decide +kernel)
set_option maxRecDepth 20000 in
theorem gX7_hall_X7_open : GoodIn wsX7_hall (wsV RX7 82 RX7 yX7_open wsX7_open) := goodIn_app (goodIn_of _ (by decide +kernel)) ggX7_hall_X7_open
theorem dX7_hall_0 : decode cX7_hall 0 = .ok (.aload_n 0, 1) := by decide +kernel
theorem dX7_hall_1 : decode cX7_hall 1 = .ok (.iconst 0, 1) := by decide +kernel
theorem dX7_hall_2 : decode cX7_hall 2 = .ok (.putfield 55, 3) := by decide +kernel
theorem dX7_hall_5 : decode cX7_hall 5 = .ok (.aload_n 0, 1) := by decide +kernel
theorem dX7_hall_6 : decode cX7_hall 6 = .ok (.iload_n 1, 1) := by decide +kernel
theorem dX7_hall_7 : decode cX7_hall 7 = .ok (.invokevirtual 59, 3) := by decide +kernel
theorem dX7_hall_10 : decode cX7_hall 10 = .ok (.astore 5, 2) := by decide +kernel
theorem dX7_hall_12 : decode cX7_hall 12 = .ok (.aload 5, 2) := by decide +kernel
theorem dX7_hall_14 : decode cX7_hall 14 = .ok (.ifnonnull 5, 3) := by decide +kernel
theorem dX7_hall_17 : decode cX7_hall 17 = .ok (.iconst (-1), 1) := by decide +kernel
theorem dX7_hall_18 : decode cX7_hall 18 = .ok (.ireturn, 1) := by decide +kernel
theorem dX7_hall_19 : decode cX7_hall 19 = .ok (.iload_n 2, 1) := by decide +kernel
theorem dX7_hall_20 : decode cX7_hall 20 = .ok (.invokestatic 63, 3) := by decide +kernel
theorem dX7_hall_23 : decode cX7_hall 23 = .ok (.ifCond .ne 6, 3) := by decide +kernel
theorem dX7_hall_26 : decode cX7_hall 26 = .ok (.bipush (-2), 2) := by decide +kernel
theorem dX7_hall_28 : decode cX7_hall 28 = .ok (.ireturn, 1) := by decide +kernel
theorem dX7_hall_29 : decode cX7_hall 29 = .ok (.aload 5, 2) := by decide +kernel
theorem dX7_hall_31 : decode cX7_hall 31 = .ok (.iload_n 2, 1) := by decide +kernel
theorem dX7_hall_32 : decode cX7_hall 32 = .ok (.invokevirtual 67, 3) := by decide +kernel
theorem dX7_hall_35 : decode cX7_hall 35 = .ok (.ifCond .eq 14, 3) := by decide +kernel
theorem dX7_hall_38 : decode cX7_hall 38 = .ok (.aload_n 0, 1) := by decide +kernel
theorem dX7_hall_39 : decode cX7_hall 39 = .ok (.aload 5, 2) := by decide +kernel
theorem dX7_hall_41 : decode cX7_hall 41 = .ok (.iload_n 2, 1) := by decide +kernel
theorem dX7_hall_42 : decode cX7_hall 42 = .ok (.invokevirtual 67, 3) := by decide +kernel
theorem dX7_hall_45 : decode cX7_hall 45 = .ok (.invokevirtual 71, 3) := by decide +kernel
theorem dX7_hall_48 : decode cX7_hall 48 = .ok (.ireturn, 1) := by decide +kernel
theorem dX7_hall_49 : decode cX7_hall 49 = .ok (.iload 4, 2) := by decide +kernel
theorem dX7_hall_51 : decode cX7_hall 51 = .ok (.ifCond .ge 9, 3) := by decide +kernel
theorem dX7_hall_54 : decode cX7_hall 54 = .ok (.aload_n 0, 1) := by decide +kernel
theorem dX7_hall_55 : decode cX7_hall 55 = .ok (.iconst 4, 1) := by decide +kernel
theorem dX7_hall_56 : decode cX7_hall 56 = .ok (.invokevirtual 71, 3) := by decide +kernel
theorem dX7_hall_59 : decode cX7_hall 59 = .ok (.ireturn, 1) := by decide +kernel
theorem dX7_hall_60 : decode cX7_hall 60 = .ok (.aload 5, 2) := by decide +kernel
theorem dX7_hall_62 : decode cX7_hall 62 = .ok (.iload_n 3, 1) := by decide +kernel
theorem dX7_hall_63 : decode cX7_hall 63 = .ok (.iload 4, 2) := by decide +kernel
theorem dX7_hall_65 : decode cX7_hall 65 = .ok (.invokevirtual 74, 3) := by decide +kernel
theorem dX7_hall_68 : decode cX7_hall 68 = .ok (.ifCond .ne 9, 3) := by decide +kernel
theorem dX7_hall_71 : decode cX7_hall 71 = .ok (.aload_n 0, 1) := by decide +kernel
theorem dX7_hall_72 : decode cX7_hall 72 = .ok (.iconst 3, 1) := by decide +kernel
theorem dX7_hall_73 : decode cX7_hall 73 = .ok (.invokevirtual 71, 3) := by decide +kernel
theorem dX7_hall_76 : decode cX7_hall 76 = .ok (.ireturn, 1) := by decide +kernel
theorem dX7_hall_77 : decode cX7_hall 77 = .ok (.aload 5, 2) := by decide +kernel
theorem dX7_hall_79 : decode cX7_hall 79 = .ok (.iload_n 3, 1) := by decide +kernel
theorem dX7_hall_80 : decode cX7_hall 80 = .ok (.iload 4, 2) := by decide +kernel
theorem dX7_hall_82 : decode cX7_hall 82 = .ok (.invokestatic 78, 3) := by decide +kernel
theorem dX7_hall_85 : decode cX7_hall 85 = .ok (.istore 6, 2) := by decide +kernel
theorem dX7_hall_87 : decode cX7_hall 87 = .ok (.iload 6, 2) := by decide +kernel
theorem dX7_hall_89 : decode cX7_hall 89 = .ok (.bipush (-9), 2) := by decide +kernel
theorem dX7_hall_91 : decode cX7_hall 91 = .ok (.if_icmp .eq 9, 3) := by decide +kernel
theorem dX7_hall_94 : decode cX7_hall 94 = .ok (.bipush (-100), 2) := by decide +kernel
theorem dX7_hall_96 : decode cX7_hall 96 = .ok (.iload 6, 2) := by decide +kernel
theorem dX7_hall_98 : decode cX7_hall 98 = .ok (.isub, 1) := by decide +kernel
theorem dX7_hall_99 : decode cX7_hall 99 = .ok (.ireturn, 1) := by decide +kernel
theorem dX7_hall_100 : decode cX7_hall 100 = .ok (.aload_n 0, 1) := by decide +kernel
theorem dX7_hall_101 : decode cX7_hall 101 = .ok (.aload 5, 2) := by decide +kernel
theorem dX7_hall_103 : decode cX7_hall 103 = .ok (.iload_n 3, 1) := by decide +kernel
theorem dX7_hall_104 : decode cX7_hall 104 = .ok (.iload 4, 2) := by decide +kernel
theorem dX7_hall_106 : decode cX7_hall 106 = .ok (.invokevirtual 82, 3) := by decide +kernel
theorem dX7_hall_109 : decode cX7_hall 109 = .ok (.aload_n 0, 1) := by decide +kernel
theorem dX7_hall_110 : decode cX7_hall 110 = .ok (.getfield 48, 3) := by decide +kernel
theorem dX7_hall_113 : decode cX7_hall 113 = .ok (.ireturn, 1) := by decide +kernel
set_option maxRecDepth 20000 in
theorem ggX7_ofPerson_X7_personOf : GoodIn wsX7_ofPerson wsX7_personOf := goodIn_r _ [6, 7, 8, 31, 32, 33, 34, 35, 36, 37, 38, 39] (by decide +kernel) (by decide +kernel)
set_option maxRecDepth 20000 in
theorem gX7_ofPerson_X7_personOf : GoodIn wsX7_ofPerson (wsV RX7 86 RX7 yX7_personOf wsX7_personOf) := goodIn_app (goodIn_of _ (by decide +kernel)) ggX7_ofPerson_X7_personOf
set_option maxRecDepth 20000 in
theorem ggX7_ofPerson_X7_isEither : GoodIn wsX7_ofPerson wsX7_isEither := goodIn_r _ [11] (by decide +kernel) (by decide +kernel)
set_option maxRecDepth 20000 in
theorem gX7_ofPerson_X7_isEither : GoodIn wsX7_ofPerson (va_wsS RX7 90 yX7_isEither wsX7_isEither) := goodIn_app (goodIn_of _ (by decide +kernel)) ggX7_ofPerson_X7_isEither
set_option maxRecDepth 20000 in
theorem ggX7_ofPerson_X0_kindNumber : GoodIn wsX7_ofPerson wsX0_kindNumber := goodIn_r _ [18] (by decide +kernel) (by decide +kernel)
set_option maxRecDepth 20000 in
theorem gX7_ofPerson_X0_kindNumber_u93X0 : GoodIn wsX7_ofPerson (va_wsO RX7 93 RX0 "GumHall$Sitter" ⟨"GumHall$Sitter", "kindNumber", "()I"⟩ yX0_kindNumber wsX0_kindNumber) := goodIn_app (goodIn_of _ (by decide +kernel)) ggX7_ofPerson_X0_kindNumber
set_option maxRecDepth 20000 in
theorem ggX7_ofPerson_X2_kindNumber : GoodIn wsX7_ofPerson wsX2_kindNumber := goodIn_r _ [23] (by decide +kernel) (by decide +kernel)
set_option maxRecDepth 20000 in
theorem gX7_ofPerson_X2_kindNumber_u93X2 : GoodIn wsX7_ofPerson (va_wsO RX7 93 RX2 "GumHall$Sitter" ⟨"GumHall$Sitter", "kindNumber", "()I"⟩ yX2_kindNumber wsX2_kindNumber) := goodIn_app (goodIn_of _ (by decide +kernel)) ggX7_ofPerson_X2_kindNumber
set_option maxRecDepth 20000 in
theorem ggX7_ofPerson_X4_kindNumber : GoodIn wsX7_ofPerson wsX4_kindNumber := goodIn_r _ [19] (by decide +kernel) (by decide +kernel)
set_option maxRecDepth 20000 in
theorem gX7_ofPerson_X4_kindNumber : GoodIn wsX7_ofPerson (wsV RX7 93 RX4 yX4_kindNumber wsX4_kindNumber) := goodIn_app (goodIn_of _ (by decide +kernel)) ggX7_ofPerson_X4_kindNumber
theorem dX7_ofPerson_0 : decode cX7_ofPerson 0 = .ok (.aload_n 0, 1) := by decide +kernel
theorem dX7_ofPerson_1 : decode cX7_ofPerson 1 = .ok (.iload_n 1, 1) := by decide +kernel
theorem dX7_ofPerson_2 : decode cX7_ofPerson 2 = .ok (.invokevirtual 86, 3) := by decide +kernel
theorem dX7_ofPerson_5 : decode cX7_ofPerson 5 = .ok (.astore_n 3, 1) := by decide +kernel
theorem dX7_ofPerson_6 : decode cX7_ofPerson 6 = .ok (.aload_n 3, 1) := by decide +kernel
theorem dX7_ofPerson_7 : decode cX7_ofPerson 7 = .ok (.ifnonnull 5, 3) := by decide +kernel
theorem dX7_ofPerson_10 : decode cX7_ofPerson 10 = .ok (.iconst (-1), 1) := by decide +kernel
theorem dX7_ofPerson_11 : decode cX7_ofPerson 11 = .ok (.ireturn, 1) := by decide +kernel
theorem dX7_ofPerson_12 : decode cX7_ofPerson 12 = .ok (.iload_n 2, 1) := by decide +kernel
theorem dX7_ofPerson_13 : decode cX7_ofPerson 13 = .ok (.invokestatic 90, 3) := by decide +kernel
theorem dX7_ofPerson_16 : decode cX7_ofPerson 16 = .ok (.ifCond .ne 6, 3) := by decide +kernel
theorem dX7_ofPerson_19 : decode cX7_ofPerson 19 = .ok (.bipush (-2), 2) := by decide +kernel
theorem dX7_ofPerson_21 : decode cX7_ofPerson 21 = .ok (.ireturn, 1) := by decide +kernel
theorem dX7_ofPerson_22 : decode cX7_ofPerson 22 = .ok (.iload_n 2, 1) := by decide +kernel
theorem dX7_ofPerson_23 : decode cX7_ofPerson 23 = .ok (.ifCond .ne 10, 3) := by decide +kernel
theorem dX7_ofPerson_26 : decode cX7_ofPerson 26 = .ok (.aload_n 3, 1) := by decide +kernel
theorem dX7_ofPerson_27 : decode cX7_ofPerson 27 = .ok (.invokevirtual 93, 3) := by decide +kernel
theorem dX7_ofPerson_30 : decode cX7_ofPerson 30 = .ok (.goto 7, 3) := by decide +kernel
theorem dX7_ofPerson_33 : decode cX7_ofPerson 33 = .ok (.aload_n 3, 1) := by decide +kernel
theorem dX7_ofPerson_34 : decode cX7_ofPerson 34 = .ok (.getfield 97, 3) := by decide +kernel
theorem dX7_ofPerson_37 : decode cX7_ofPerson 37 = .ok (.ireturn, 1) := by decide +kernel
set_option maxRecDepth 20000 in
theorem ggX7_gum_X7_personOf : GoodIn wsX7_gum wsX7_personOf := goodIn_r _ [5, 6, 7, 33, 34, 35, 36, 37, 38, 39, 40, 41] (by decide +kernel) (by decide +kernel)
set_option maxRecDepth 20000 in
theorem gX7_gum_X7_personOf : GoodIn wsX7_gum (wsV RX7 86 RX7 yX7_personOf wsX7_personOf) := goodIn_app (goodIn_of _ (by decide +kernel)) ggX7_gum_X7_personOf
set_option maxRecDepth 20000 in
theorem ggX7_gum_X7_isNight : GoodIn wsX7_gum wsX7_isNight := goodIn_r _ [10] (by decide +kernel) (by decide +kernel)
set_option maxRecDepth 20000 in
theorem gX7_gum_X7_isNight : GoodIn wsX7_gum (va_wsS RX7 100 yX7_isNight wsX7_isNight) := goodIn_app (goodIn_of _ (by decide +kernel)) ggX7_gum_X7_isNight
set_option maxRecDepth 20000 in
theorem ggX7_gum_X0_leaves : GoodIn wsX7_gum wsX0_leaves := goodIn_r _ [17, 18, 19, 20, 21, 22, 23, 24, 25, 42, 43, 44] (by decide +kernel) (by decide +kernel)
set_option maxRecDepth 20000 in
theorem gX7_gum_X0_leaves_u103X0 : GoodIn wsX7_gum (va_wsO RX7 103 RX0 "GumHall$Sitter" ⟨"GumHall$Sitter", "leaves", "(I)I"⟩ yX0_leaves wsX0_leaves) := goodIn_app (goodIn_of _ (by decide +kernel)) ggX7_gum_X0_leaves
set_option maxRecDepth 20000 in
theorem ggX7_gum_X2_leaves : GoodIn wsX7_gum wsX2_leaves := goodIn_r _ [23, 24, 25, 42, 43, 44] (by decide +kernel) (by decide +kernel)
set_option maxRecDepth 20000 in
theorem gX7_gum_X2_leaves_u103X2 : GoodIn wsX7_gum (va_wsO RX7 103 RX2 "GumHall$Sitter" ⟨"GumHall$Sitter", "leaves", "(I)I"⟩ yX2_leaves wsX2_leaves) := goodIn_app (goodIn_of _ (by decide +kernel)) ggX7_gum_X2_leaves
set_option maxRecDepth 20000 in
theorem ggX7_gum_X4_leaves : GoodIn wsX7_gum wsX4_leaves := goodIn_r _ [26, 32, 42, 43, 44] (by decide +kernel) (by decide +kernel)
set_option maxRecDepth 20000 in
theorem gX7_gum_X4_leaves : GoodIn wsX7_gum (wsV RX7 103 RX4 yX4_leaves wsX4_leaves) := goodIn_app (goodIn_of _ (by decide +kernel)) ggX7_gum_X4_leaves
theorem dX7_gum_0 : decode cX7_gum 0 = .ok (.aload_n 0, 1) := by decide +kernel
theorem dX7_gum_1 : decode cX7_gum 1 = .ok (.iload_n 1, 1) := by decide +kernel
theorem dX7_gum_2 : decode cX7_gum 2 = .ok (.invokevirtual 86, 3) := by decide +kernel
theorem dX7_gum_5 : decode cX7_gum 5 = .ok (.astore_n 3, 1) := by decide +kernel
theorem dX7_gum_6 : decode cX7_gum 6 = .ok (.aload_n 3, 1) := by decide +kernel
theorem dX7_gum_7 : decode cX7_gum 7 = .ok (.ifnonnull 5, 3) := by decide +kernel
theorem dX7_gum_10 : decode cX7_gum 10 = .ok (.iconst (-1), 1) := by decide +kernel
theorem dX7_gum_11 : decode cX7_gum 11 = .ok (.ireturn, 1) := by decide +kernel
theorem dX7_gum_12 : decode cX7_gum 12 = .ok (.iload_n 2, 1) := by decide +kernel
theorem dX7_gum_13 : decode cX7_gum 13 = .ok (.invokestatic 100, 3) := by decide +kernel
theorem dX7_gum_16 : decode cX7_gum 16 = .ok (.ifCond .ne 6, 3) := by decide +kernel
theorem dX7_gum_19 : decode cX7_gum 19 = .ok (.bipush (-2), 2) := by decide +kernel
theorem dX7_gum_21 : decode cX7_gum 21 = .ok (.ireturn, 1) := by decide +kernel
theorem dX7_gum_22 : decode cX7_gum 22 = .ok (.aload_n 3, 1) := by decide +kernel
theorem dX7_gum_23 : decode cX7_gum 23 = .ok (.iload_n 2, 1) := by decide +kernel
theorem dX7_gum_24 : decode cX7_gum 24 = .ok (.invokevirtual 103, 3) := by decide +kernel
theorem dX7_gum_27 : decode cX7_gum 27 = .ok (.ireturn, 1) := by decide +kernel
set_option maxRecDepth 20000 in
theorem ggX7_sit_X7_personOf : GoodIn wsX7_sit wsX7_personOf := goodIn_r _ [6, 7, 8, 96, 97, 98, 99, 100, 101, 102, 103, 104] (by decide +kernel) (by decide +kernel)
set_option maxRecDepth 20000 in
theorem gX7_sit_X7_personOf : GoodIn wsX7_sit (wsV RX7 86 RX7 yX7_personOf wsX7_personOf) := goodIn_app (goodIn_of _ (by decide +kernel)) ggX7_sit_X7_personOf
set_option maxRecDepth 20000 in
theorem ggX7_sit_X7_isPlace : GoodIn wsX7_sit wsX7_isPlace := goodIn_r _ [12, 13, 96, 97, 98, 99, 100, 101, 102, 103, 104] (by decide +kernel) (by decide +kernel)
set_option maxRecDepth 20000 in
theorem gX7_sit_X7_isPlace : GoodIn wsX7_sit (wsV RX7 106 RX7 yX7_isPlace wsX7_isPlace) := goodIn_app (goodIn_of _ (by decide +kernel)) ggX7_sit_X7_isPlace
set_option maxRecDepth 20000 in
theorem ggX7_sit_X7_isNight : GoodIn wsX7_sit wsX7_isNight := goodIn_r _ [16] (by decide +kernel) (by decide +kernel)
set_option maxRecDepth 20000 in
theorem gX7_sit_X7_isNight : GoodIn wsX7_sit (va_wsS RX7 100 yX7_isNight wsX7_isNight) := goodIn_app (goodIn_of _ (by decide +kernel)) ggX7_sit_X7_isNight
set_option maxRecDepth 20000 in
theorem ggX7_sit_X7_maySit : GoodIn wsX7_sit wsX7_maySit := goodIn_r _ [20, 21, 22, 23, 5, 24, 1, 25, 26, 27, 28, 29, 30, 31, 32, 33, 34, 35, 36, 37, 38, 39, 40, 41, 42, 43, 44, 45, 46, 47, 48, 49, 50, 51, 52, 53, 54, 96, 97, 98, 99, 100, 101, 102, 103, 104, 105, 106, 107, 108, 109, 110, 111] (by decide +kernel) (by decide +kernel)
set_option maxRecDepth 20000 in
theorem gX7_sit_X7_maySit : GoodIn wsX7_sit (wsV RX7 109 RX7 yX7_maySit wsX7_maySit) := goodIn_app (goodIn_of _ (by decide +kernel)) ggX7_sit_X7_maySit
set_option maxRecDepth 20000 in
theorem ggX7_sit_X5_isFull : GoodIn wsX7_sit wsX5_isFull := goodIn_r _ [58, 30, 59, 105, 106, 107, 108, 109, 110, 111] (by decide +kernel) (by decide +kernel)
set_option maxRecDepth 20000 in
theorem gX7_sit_X5_isFull : GoodIn wsX7_sit (wsV RX7 113 RX5 yX5_isFull wsX5_isFull) := goodIn_app (goodIn_of _ (by decide +kernel)) ggX7_sit_X5_isFull
set_option maxRecDepth 20000 in
theorem ggX7_sit_X0_leaves : GoodIn wsX7_sit wsX0_leaves := goodIn_r _ [66, 67, 68, 69, 70, 71, 72, 73, 74, 112, 113, 114] (by decide +kernel) (by decide +kernel)
set_option maxRecDepth 20000 in
theorem gX7_sit_X0_leaves_u103X0 : GoodIn wsX7_sit (va_wsO RX7 103 RX0 "GumHall$Sitter" ⟨"GumHall$Sitter", "leaves", "(I)I"⟩ yX0_leaves wsX0_leaves) := goodIn_app (goodIn_of _ (by decide +kernel)) ggX7_sit_X0_leaves
set_option maxRecDepth 20000 in
theorem ggX7_sit_X2_leaves : GoodIn wsX7_sit wsX2_leaves := goodIn_r _ [72, 73, 74, 112, 113, 114] (by decide +kernel) (by decide +kernel)
set_option maxRecDepth 20000 in
theorem gX7_sit_X2_leaves_u103X2 : GoodIn wsX7_sit (va_wsO RX7 103 RX2 "GumHall$Sitter" ⟨"GumHall$Sitter", "leaves", "(I)I"⟩ yX2_leaves wsX2_leaves) := goodIn_app (goodIn_of _ (by decide +kernel)) ggX7_sit_X2_leaves
set_option maxRecDepth 20000 in
theorem ggX7_sit_X4_leaves : GoodIn wsX7_sit wsX4_leaves := goodIn_r _ [75, 81, 112, 113, 114] (by decide +kernel) (by decide +kernel)
set_option maxRecDepth 20000 in
theorem gX7_sit_X4_leaves : GoodIn wsX7_sit (wsV RX7 103 RX4 yX4_leaves wsX4_leaves) := goodIn_app (goodIn_of _ (by decide +kernel)) ggX7_sit_X4_leaves
set_option maxRecDepth 20000 in
theorem ggX7_sit_X5_add : GoodIn wsX7_sit wsX5_add := goodIn_r _ [85, 30, 59, 86, 40, 35, 50, 45, 87, 88, 89, 90, 91, 28, 92, 93, 94, 95, 105, 106, 107, 108, 109, 110, 111] (by decide +kernel) (by decide +kernel)
set_option maxRecDepth 20000 in
theorem gX7_sit_X5_add : GoodIn wsX7_sit (wsV RX7 116 RX5 yX5_add wsX5_add) := goodIn_app (goodIn_of _ (by decide +kernel)) ggX7_sit_X5_add
theorem dX7_sit_0 : decode cX7_sit 0 = .ok (.aload_n 0, 1) := by decide +kernel
theorem dX7_sit_1 : decode cX7_sit 1 = .ok (.iload_n 1, 1) := by decide +kernel
theorem dX7_sit_2 : decode cX7_sit 2 = .ok (.invokevirtual 86, 3) := by decide +kernel
theorem dX7_sit_5 : decode cX7_sit 5 = .ok (.astore 4, 2) := by decide +kernel
theorem dX7_sit_7 : decode cX7_sit 7 = .ok (.aload 4, 2) := by decide +kernel
theorem dX7_sit_9 : decode cX7_sit 9 = .ok (.ifnull 11, 3) := by decide +kernel
theorem dX7_sit_12 : decode cX7_sit 12 = .ok (.aload_n 0, 1) := by decide +kernel
theorem dX7_sit_13 : decode cX7_sit 13 = .ok (.iload_n 2, 1) := by decide +kernel
theorem dX7_sit_14 : decode cX7_sit 14 = .ok (.invokevirtual 106, 3) := by decide +kernel
theorem dX7_sit_17 : decode cX7_sit 17 = .ok (.ifCond .ne 5, 3) := by decide +kernel
theorem dX7_sit_20 : decode cX7_sit 20 = .ok (.iconst (-1), 1) := by decide +kernel
theorem dX7_sit_21 : decode cX7_sit 21 = .ok (.ireturn, 1) := by decide +kernel
theorem dX7_sit_22 : decode cX7_sit 22 = .ok (.iload_n 3, 1) := by decide +kernel
theorem dX7_sit_23 : decode cX7_sit 23 = .ok (.invokestatic 100, 3) := by decide +kernel
theorem dX7_sit_26 : decode cX7_sit 26 = .ok (.ifCond .ne 6, 3) := by decide +kernel
theorem dX7_sit_29 : decode cX7_sit 29 = .ok (.bipush (-2), 2) := by decide +kernel
theorem dX7_sit_31 : decode cX7_sit 31 = .ok (.ireturn, 1) := by decide +kernel
theorem dX7_sit_32 : decode cX7_sit 32 = .ok (.aload_n 0, 1) := by decide +kernel
theorem dX7_sit_33 : decode cX7_sit 33 = .ok (.iload_n 1, 1) := by decide +kernel
theorem dX7_sit_34 : decode cX7_sit 34 = .ok (.iload_n 2, 1) := by decide +kernel
theorem dX7_sit_35 : decode cX7_sit 35 = .ok (.iload_n 3, 1) := by decide +kernel
theorem dX7_sit_36 : decode cX7_sit 36 = .ok (.invokevirtual 109, 3) := by decide +kernel
theorem dX7_sit_39 : decode cX7_sit 39 = .ok (.ifCond .ne 6, 3) := by decide +kernel
theorem dX7_sit_42 : decode cX7_sit 42 = .ok (.bipush (-3), 2) := by decide +kernel
theorem dX7_sit_44 : decode cX7_sit 44 = .ok (.ireturn, 1) := by decide +kernel
theorem dX7_sit_45 : decode cX7_sit 45 = .ok (.aload_n 0, 1) := by decide +kernel
theorem dX7_sit_46 : decode cX7_sit 46 = .ok (.getfield 30, 3) := by decide +kernel
theorem dX7_sit_49 : decode cX7_sit 49 = .ok (.iconst 2, 1) := by decide +kernel
theorem dX7_sit_50 : decode cX7_sit 50 = .ok (.invokevirtual 113, 3) := by decide +kernel
theorem dX7_sit_53 : decode cX7_sit 53 = .ok (.ifCond .eq 6, 3) := by decide +kernel
theorem dX7_sit_56 : decode cX7_sit 56 = .ok (.bipush (-4), 2) := by decide +kernel
theorem dX7_sit_58 : decode cX7_sit 58 = .ok (.ireturn, 1) := by decide +kernel
theorem dX7_sit_59 : decode cX7_sit 59 = .ok (.aload_n 0, 1) := by decide +kernel
theorem dX7_sit_60 : decode cX7_sit 60 = .ok (.getfield 30, 3) := by decide +kernel
theorem dX7_sit_63 : decode cX7_sit 63 = .ok (.iconst 2, 1) := by decide +kernel
theorem dX7_sit_64 : decode cX7_sit 64 = .ok (.iload_n 3, 1) := by decide +kernel
theorem dX7_sit_65 : decode cX7_sit 65 = .ok (.iload_n 2, 1) := by decide +kernel
theorem dX7_sit_66 : decode cX7_sit 66 = .ok (.iload_n 1, 1) := by decide +kernel
theorem dX7_sit_67 : decode cX7_sit 67 = .ok (.aload 4, 2) := by decide +kernel
theorem dX7_sit_69 : decode cX7_sit 69 = .ok (.iload_n 3, 1) := by decide +kernel
theorem dX7_sit_70 : decode cX7_sit 70 = .ok (.invokevirtual 103, 3) := by decide +kernel
theorem dX7_sit_73 : decode cX7_sit 73 = .ok (.invokevirtual 116, 3) := by decide +kernel
theorem dX7_sit_76 : decode cX7_sit 76 = .ok (.ireturn, 1) := by decide +kernel
set_option maxRecDepth 20000 in
theorem ggX7_rise_X5_takeBack : GoodIn wsX7_rise wsX5_takeBack := goodIn_r _ [6, 7, 8, 9, 10, 11, 12, 5, 13, 23, 24, 25, 26, 27, 28, 29] (by decide +kernel) (by decide +kernel)
set_option maxRecDepth 20000 in
theorem gX7_rise_X5_takeBack : GoodIn wsX7_rise (wsV RX7 120 RX5 yX5_takeBack wsX5_takeBack) := goodIn_app (goodIn_of _ (by decide +kernel)) ggX7_rise_X5_takeBack
theorem dX7_rise_0 : decode cX7_rise 0 = .ok (.aload_n 0, 1) := by decide +kernel
theorem dX7_rise_1 : decode cX7_rise 1 = .ok (.getfield 30, 3) := by decide +kernel
theorem dX7_rise_4 : decode cX7_rise 4 = .ok (.iconst 2, 1) := by decide +kernel
theorem dX7_rise_5 : decode cX7_rise 5 = .ok (.iload_n 1, 1) := by decide +kernel
theorem dX7_rise_6 : decode cX7_rise 6 = .ok (.invokevirtual 120, 3) := by decide +kernel
theorem dX7_rise_9 : decode cX7_rise 9 = .ok (.ireturn, 1) := by decide +kernel
set_option maxRecDepth 20000 in
theorem ggX7_move_X7_isPlace : GoodIn wsX7_move wsX7_isPlace := goodIn_r _ [6, 7, 36, 37, 38, 39, 40, 41, 42, 43, 44] (by decide +kernel) (by decide +kernel)
set_option maxRecDepth 20000 in
theorem gX7_move_X7_isPlace : GoodIn wsX7_move (wsV RX7 106 RX7 yX7_isPlace wsX7_isPlace) := goodIn_app (goodIn_of _ (by decide +kernel)) ggX7_move_X7_isPlace
set_option maxRecDepth 20000 in
theorem ggX7_move_X7_isNight : GoodIn wsX7_move wsX7_isNight := goodIn_r _ [10] (by decide +kernel) (by decide +kernel)
set_option maxRecDepth 20000 in
theorem gX7_move_X7_isNight : GoodIn wsX7_move (va_wsS RX7 100 yX7_isNight wsX7_isNight) := goodIn_app (goodIn_of _ (by decide +kernel)) ggX7_move_X7_isNight
set_option maxRecDepth 20000 in
theorem ggX7_move_X5_isFull : GoodIn wsX7_move wsX5_isFull := goodIn_r _ [15, 16, 17, 45, 46, 47, 48, 49, 50, 51] (by decide +kernel) (by decide +kernel)
set_option maxRecDepth 20000 in
theorem gX7_move_X5_isFull : GoodIn wsX7_move (wsV RX7 113 RX5 yX5_isFull wsX5_isFull) := goodIn_app (goodIn_of _ (by decide +kernel)) ggX7_move_X5_isFull
set_option maxRecDepth 20000 in
theorem ggX7_move_X5_add : GoodIn wsX7_move wsX5_add := goodIn_r _ [21, 16, 17, 22, 23, 24, 25, 26, 27, 28, 29, 30, 31, 14, 32, 33, 34, 35, 45, 46, 47, 48, 49, 50, 51] (by decide +kernel) (by decide +kernel)
set_option maxRecDepth 20000 in
theorem gX7_move_X5_add : GoodIn wsX7_move (wsV RX7 116 RX5 yX5_add wsX5_add) := goodIn_app (goodIn_of _ (by decide +kernel)) ggX7_move_X5_add
theorem dX7_move_0 : decode cX7_move 0 = .ok (.aload_n 0, 1) := by decide +kernel
theorem dX7_move_1 : decode cX7_move 1 = .ok (.iload_n 1, 1) := by decide +kernel
theorem dX7_move_2 : decode cX7_move 2 = .ok (.invokevirtual 106, 3) := by decide +kernel
theorem dX7_move_5 : decode cX7_move 5 = .ok (.ifCond .eq 16, 3) := by decide +kernel
theorem dX7_move_8 : decode cX7_move 8 = .ok (.aload_n 0, 1) := by decide +kernel
theorem dX7_move_9 : decode cX7_move 9 = .ok (.iload_n 2, 1) := by decide +kernel
theorem dX7_move_10 : decode cX7_move 10 = .ok (.invokevirtual 106, 3) := by decide +kernel
theorem dX7_move_13 : decode cX7_move 13 = .ok (.ifCond .eq 8, 3) := by decide +kernel
theorem dX7_move_16 : decode cX7_move 16 = .ok (.iload_n 1, 1) := by decide +kernel
theorem dX7_move_17 : decode cX7_move 17 = .ok (.iload_n 2, 1) := by decide +kernel
theorem dX7_move_18 : decode cX7_move 18 = .ok (.if_icmp .ne 5, 3) := by decide +kernel
theorem dX7_move_21 : decode cX7_move 21 = .ok (.iconst (-1), 1) := by decide +kernel
theorem dX7_move_22 : decode cX7_move 22 = .ok (.ireturn, 1) := by decide +kernel
theorem dX7_move_23 : decode cX7_move 23 = .ok (.iload_n 3, 1) := by decide +kernel
theorem dX7_move_24 : decode cX7_move 24 = .ok (.invokestatic 100, 3) := by decide +kernel
theorem dX7_move_27 : decode cX7_move 27 = .ok (.ifCond .ne 6, 3) := by decide +kernel
theorem dX7_move_30 : decode cX7_move 30 = .ok (.bipush (-2), 2) := by decide +kernel
theorem dX7_move_32 : decode cX7_move 32 = .ok (.ireturn, 1) := by decide +kernel
theorem dX7_move_33 : decode cX7_move 33 = .ok (.aload_n 0, 1) := by decide +kernel
theorem dX7_move_34 : decode cX7_move 34 = .ok (.getfield 30, 3) := by decide +kernel
theorem dX7_move_37 : decode cX7_move 37 = .ok (.iconst 1, 1) := by decide +kernel
theorem dX7_move_38 : decode cX7_move 38 = .ok (.invokevirtual 113, 3) := by decide +kernel
theorem dX7_move_41 : decode cX7_move 41 = .ok (.ifCond .eq 6, 3) := by decide +kernel
theorem dX7_move_44 : decode cX7_move 44 = .ok (.bipush (-4), 2) := by decide +kernel
theorem dX7_move_46 : decode cX7_move 46 = .ok (.ireturn, 1) := by decide +kernel
theorem dX7_move_47 : decode cX7_move 47 = .ok (.aload_n 0, 1) := by decide +kernel
theorem dX7_move_48 : decode cX7_move 48 = .ok (.getfield 30, 3) := by decide +kernel
theorem dX7_move_51 : decode cX7_move 51 = .ok (.iconst 1, 1) := by decide +kernel
theorem dX7_move_52 : decode cX7_move 52 = .ok (.iload_n 3, 1) := by decide +kernel
theorem dX7_move_53 : decode cX7_move 53 = .ok (.iload_n 1, 1) := by decide +kernel
theorem dX7_move_54 : decode cX7_move 54 = .ok (.iload_n 2, 1) := by decide +kernel
theorem dX7_move_55 : decode cX7_move 55 = .ok (.iconst 0, 1) := by decide +kernel
theorem dX7_move_56 : decode cX7_move 56 = .ok (.invokevirtual 116, 3) := by decide +kernel
theorem dX7_move_59 : decode cX7_move 59 = .ok (.ireturn, 1) := by decide +kernel
set_option maxRecDepth 20000 in
theorem ggX7_unmove_X5_takeBack : GoodIn wsX7_unmove wsX5_takeBack := goodIn_r _ [6, 7, 8, 9, 10, 11, 12, 5, 13, 23, 24, 25, 26, 27, 28, 29] (by decide +kernel) (by decide +kernel)
set_option maxRecDepth 20000 in
theorem gX7_unmove_X5_takeBack : GoodIn wsX7_unmove (wsV RX7 120 RX5 yX5_takeBack wsX5_takeBack) := goodIn_app (goodIn_of _ (by decide +kernel)) ggX7_unmove_X5_takeBack
theorem dX7_unmove_0 : decode cX7_unmove 0 = .ok (.aload_n 0, 1) := by decide +kernel
theorem dX7_unmove_1 : decode cX7_unmove 1 = .ok (.getfield 30, 3) := by decide +kernel
theorem dX7_unmove_4 : decode cX7_unmove 4 = .ok (.iconst 1, 1) := by decide +kernel
theorem dX7_unmove_5 : decode cX7_unmove 5 = .ok (.iload_n 1, 1) := by decide +kernel
theorem dX7_unmove_6 : decode cX7_unmove 6 = .ok (.invokevirtual 120, 3) := by decide +kernel
theorem dX7_unmove_9 : decode cX7_unmove 9 = .ok (.ireturn, 1) := by decide +kernel
set_option maxRecDepth 20000 in
theorem ggX7_scrape_X7_isPlace : GoodIn wsX7_scrape wsX7_isPlace := goodIn_r _ [6, 7, 36, 37, 38, 39, 40, 41, 42, 43, 44] (by decide +kernel) (by decide +kernel)
set_option maxRecDepth 20000 in
theorem gX7_scrape_X7_isPlace : GoodIn wsX7_scrape (wsV RX7 106 RX7 yX7_isPlace wsX7_isPlace) := goodIn_app (goodIn_of _ (by decide +kernel)) ggX7_scrape_X7_isPlace
set_option maxRecDepth 20000 in
theorem ggX7_scrape_X7_isNight : GoodIn wsX7_scrape wsX7_isNight := goodIn_r _ [10] (by decide +kernel) (by decide +kernel)
set_option maxRecDepth 20000 in
theorem gX7_scrape_X7_isNight : GoodIn wsX7_scrape (va_wsS RX7 100 yX7_isNight wsX7_isNight) := goodIn_app (goodIn_of _ (by decide +kernel)) ggX7_scrape_X7_isNight
set_option maxRecDepth 20000 in
theorem ggX7_scrape_X5_isFull : GoodIn wsX7_scrape wsX5_isFull := goodIn_r _ [15, 16, 17, 45, 46, 47, 48, 49, 50, 51] (by decide +kernel) (by decide +kernel)
set_option maxRecDepth 20000 in
theorem gX7_scrape_X5_isFull : GoodIn wsX7_scrape (wsV RX7 113 RX5 yX5_isFull wsX5_isFull) := goodIn_app (goodIn_of _ (by decide +kernel)) ggX7_scrape_X5_isFull
set_option maxRecDepth 20000 in
theorem ggX7_scrape_X5_add : GoodIn wsX7_scrape wsX5_add := goodIn_r _ [21, 16, 17, 22, 23, 24, 25, 26, 27, 28, 29, 30, 31, 14, 32, 33, 34, 35, 45, 46, 47, 48, 49, 50, 51] (by decide +kernel) (by decide +kernel)
set_option maxRecDepth 20000 in
theorem gX7_scrape_X5_add : GoodIn wsX7_scrape (wsV RX7 116 RX5 yX5_add wsX5_add) := goodIn_app (goodIn_of _ (by decide +kernel)) ggX7_scrape_X5_add
theorem dX7_scrape_0 : decode cX7_scrape 0 = .ok (.aload_n 0, 1) := by decide +kernel
theorem dX7_scrape_1 : decode cX7_scrape 1 = .ok (.iload_n 1, 1) := by decide +kernel
theorem dX7_scrape_2 : decode cX7_scrape 2 = .ok (.invokevirtual 106, 3) := by decide +kernel
theorem dX7_scrape_5 : decode cX7_scrape 5 = .ok (.ifCond .ne 5, 3) := by decide +kernel
theorem dX7_scrape_8 : decode cX7_scrape 8 = .ok (.iconst (-1), 1) := by decide +kernel
theorem dX7_scrape_9 : decode cX7_scrape 9 = .ok (.ireturn, 1) := by decide +kernel
theorem dX7_scrape_10 : decode cX7_scrape 10 = .ok (.iload_n 2, 1) := by decide +kernel
theorem dX7_scrape_11 : decode cX7_scrape 11 = .ok (.invokestatic 100, 3) := by decide +kernel
theorem dX7_scrape_14 : decode cX7_scrape 14 = .ok (.ifCond .ne 6, 3) := by decide +kernel
theorem dX7_scrape_17 : decode cX7_scrape 17 = .ok (.bipush (-2), 2) := by decide +kernel
theorem dX7_scrape_19 : decode cX7_scrape 19 = .ok (.ireturn, 1) := by decide +kernel
theorem dX7_scrape_20 : decode cX7_scrape 20 = .ok (.aload_n 0, 1) := by decide +kernel
theorem dX7_scrape_21 : decode cX7_scrape 21 = .ok (.getfield 30, 3) := by decide +kernel
theorem dX7_scrape_24 : decode cX7_scrape 24 = .ok (.iconst 0, 1) := by decide +kernel
theorem dX7_scrape_25 : decode cX7_scrape 25 = .ok (.invokevirtual 113, 3) := by decide +kernel
theorem dX7_scrape_28 : decode cX7_scrape 28 = .ok (.ifCond .eq 6, 3) := by decide +kernel
theorem dX7_scrape_31 : decode cX7_scrape 31 = .ok (.bipush (-4), 2) := by decide +kernel
theorem dX7_scrape_33 : decode cX7_scrape 33 = .ok (.ireturn, 1) := by decide +kernel
theorem dX7_scrape_34 : decode cX7_scrape 34 = .ok (.aload_n 0, 1) := by decide +kernel
theorem dX7_scrape_35 : decode cX7_scrape 35 = .ok (.getfield 30, 3) := by decide +kernel
theorem dX7_scrape_38 : decode cX7_scrape 38 = .ok (.iconst 0, 1) := by decide +kernel
theorem dX7_scrape_39 : decode cX7_scrape 39 = .ok (.iload_n 2, 1) := by decide +kernel
theorem dX7_scrape_40 : decode cX7_scrape 40 = .ok (.iload_n 1, 1) := by decide +kernel
theorem dX7_scrape_41 : decode cX7_scrape 41 = .ok (.iconst 0, 1) := by decide +kernel
theorem dX7_scrape_42 : decode cX7_scrape 42 = .ok (.iconst 0, 1) := by decide +kernel
theorem dX7_scrape_43 : decode cX7_scrape 43 = .ok (.invokevirtual 116, 3) := by decide +kernel
theorem dX7_scrape_46 : decode cX7_scrape 46 = .ok (.ireturn, 1) := by decide +kernel
set_option maxRecDepth 20000 in
theorem ggX7_unscrape_X5_takeBack : GoodIn wsX7_unscrape wsX5_takeBack := goodIn_r _ [6, 7, 8, 9, 10, 11, 12, 5, 13, 23, 24, 25, 26, 27, 28, 29] (by decide +kernel) (by decide +kernel)
set_option maxRecDepth 20000 in
theorem gX7_unscrape_X5_takeBack : GoodIn wsX7_unscrape (wsV RX7 120 RX5 yX5_takeBack wsX5_takeBack) := goodIn_app (goodIn_of _ (by decide +kernel)) ggX7_unscrape_X5_takeBack
theorem dX7_unscrape_0 : decode cX7_unscrape 0 = .ok (.aload_n 0, 1) := by decide +kernel
theorem dX7_unscrape_1 : decode cX7_unscrape 1 = .ok (.getfield 30, 3) := by decide +kernel
theorem dX7_unscrape_4 : decode cX7_unscrape 4 = .ok (.iconst 0, 1) := by decide +kernel
theorem dX7_unscrape_5 : decode cX7_unscrape 5 = .ok (.iload_n 1, 1) := by decide +kernel
theorem dX7_unscrape_6 : decode cX7_unscrape 6 = .ok (.invokevirtual 120, 3) := by decide +kernel
theorem dX7_unscrape_9 : decode cX7_unscrape 9 = .ok (.ireturn, 1) := by decide +kernel
set_option maxRecDepth 20000 in
theorem ggX7_layers_X7_isPlace : GoodIn wsX7_layers wsX7_isPlace := goodIn_r _ [7, 8, 58, 59, 60, 61, 62, 63, 64, 65, 66] (by decide +kernel) (by decide +kernel)
set_option maxRecDepth 20000 in
theorem gX7_layers_X7_isPlace : GoodIn wsX7_layers (wsV RX7 106 RX7 yX7_isPlace wsX7_isPlace) := goodIn_app (goodIn_of _ (by decide +kernel)) ggX7_layers_X7_isPlace
set_option maxRecDepth 20000 in
theorem ggX7_layers_X7_isNight : GoodIn wsX7_layers wsX7_isNight := goodIn_r _ [11] (by decide +kernel) (by decide +kernel)
set_option maxRecDepth 20000 in
theorem gX7_layers_X7_isNight : GoodIn wsX7_layers (va_wsS RX7 100 yX7_isNight wsX7_isNight) := goodIn_app (goodIn_of _ (by decide +kernel)) ggX7_layers_X7_isNight
set_option maxRecDepth 20000 in
theorem ggX7_layers_X5_playTo : GoodIn wsX7_layers wsX5_playTo := goodIn_r _ [16, 17, 18, 19, 20, 21, 22, 23, 24, 25, 26, 27, 28, 29, 15, 30, 31, 32, 33, 34, 35, 36, 37, 38, 39, 40, 41, 42, 43, 44, 45, 46, 47, 48, 49, 50, 51, 52, 53, 67, 68, 69, 70, 71, 72, 73, 74, 75, 76] (by decide +kernel) (by decide +kernel)
set_option maxRecDepth 20000 in
theorem gX7_layers_X5_playTo : GoodIn wsX7_layers (wsV RX7 124 RX5 yX5_playTo wsX5_playTo) := goodIn_app (goodIn_of _ (by decide +kernel)) ggX7_layers_X5_playTo
set_option maxRecDepth 20000 in
theorem ggX7_layers_X1_heightAt : GoodIn wsX7_layers wsX1_heightAt := goodIn_r _ [57, 26, 41, 42, 43, 23, 44, 25, 74, 75, 76] (by decide +kernel) (by decide +kernel)
set_option maxRecDepth 20000 in
theorem gX7_layers_X1_heightAt : GoodIn wsX7_layers (wsV RX7 128 RX1 yX1_heightAt wsX1_heightAt) := goodIn_app (goodIn_of _ (by decide +kernel)) ggX7_layers_X1_heightAt
theorem dX7_layers_0 : decode cX7_layers 0 = .ok (.aload_n 0, 1) := by decide +kernel
theorem dX7_layers_1 : decode cX7_layers 1 = .ok (.iload_n 1, 1) := by decide +kernel
theorem dX7_layers_2 : decode cX7_layers 2 = .ok (.invokevirtual 106, 3) := by decide +kernel
theorem dX7_layers_5 : decode cX7_layers 5 = .ok (.ifCond .ne 5, 3) := by decide +kernel
theorem dX7_layers_8 : decode cX7_layers 8 = .ok (.iconst (-1), 1) := by decide +kernel
theorem dX7_layers_9 : decode cX7_layers 9 = .ok (.ireturn, 1) := by decide +kernel
theorem dX7_layers_10 : decode cX7_layers 10 = .ok (.iload_n 2, 1) := by decide +kernel
theorem dX7_layers_11 : decode cX7_layers 11 = .ok (.invokestatic 100, 3) := by decide +kernel
theorem dX7_layers_14 : decode cX7_layers 14 = .ok (.ifCond .ne 6, 3) := by decide +kernel
theorem dX7_layers_17 : decode cX7_layers 17 = .ok (.bipush (-2), 2) := by decide +kernel
theorem dX7_layers_19 : decode cX7_layers 19 = .ok (.ireturn, 1) := by decide +kernel
theorem dX7_layers_20 : decode cX7_layers 20 = .ok (.aload_n 0, 1) := by decide +kernel
theorem dX7_layers_21 : decode cX7_layers 21 = .ok (.getfield 30, 3) := by decide +kernel
theorem dX7_layers_24 : decode cX7_layers 24 = .ok (.iload_n 2, 1) := by decide +kernel
theorem dX7_layers_25 : decode cX7_layers 25 = .ok (.aload_n 0, 1) := by decide +kernel
theorem dX7_layers_26 : decode cX7_layers 26 = .ok (.getfield 37, 3) := by decide +kernel
theorem dX7_layers_29 : decode cX7_layers 29 = .ok (.invokevirtual 124, 3) := by decide +kernel
theorem dX7_layers_32 : decode cX7_layers 32 = .ok (.aload_n 0, 1) := by decide +kernel
theorem dX7_layers_33 : decode cX7_layers 33 = .ok (.getfield 37, 3) := by decide +kernel
theorem dX7_layers_36 : decode cX7_layers 36 = .ok (.iload_n 1, 1) := by decide +kernel
theorem dX7_layers_37 : decode cX7_layers 37 = .ok (.invokevirtual 128, 3) := by decide +kernel
theorem dX7_layers_40 : decode cX7_layers 40 = .ok (.ireturn, 1) := by decide +kernel
set_option maxRecDepth 20000 in
theorem ggX7_under_X7_isPlace : GoodIn wsX7_under wsX7_isPlace := goodIn_r _ [7, 8, 75, 76, 77, 78, 79, 80, 81, 82, 83] (by decide +kernel) (by decide +kernel)
set_option maxRecDepth 20000 in
theorem gX7_under_X7_isPlace : GoodIn wsX7_under (wsV RX7 106 RX7 yX7_isPlace wsX7_isPlace) := goodIn_app (goodIn_of _ (by decide +kernel)) ggX7_under_X7_isPlace
set_option maxRecDepth 20000 in
theorem ggX7_under_X7_isNight : GoodIn wsX7_under wsX7_isNight := goodIn_r _ [11] (by decide +kernel) (by decide +kernel)
set_option maxRecDepth 20000 in
theorem gX7_under_X7_isNight : GoodIn wsX7_under (va_wsS RX7 100 yX7_isNight wsX7_isNight) := goodIn_app (goodIn_of _ (by decide +kernel)) ggX7_under_X7_isNight
set_option maxRecDepth 20000 in
theorem ggX7_under_X7_isEither : GoodIn wsX7_under wsX7_isEither := goodIn_r _ [14] (by decide +kernel) (by decide +kernel)
set_option maxRecDepth 20000 in
theorem gX7_under_X7_isEither : GoodIn wsX7_under (va_wsS RX7 90 yX7_isEither wsX7_isEither) := goodIn_app (goodIn_of _ (by decide +kernel)) ggX7_under_X7_isEither
set_option maxRecDepth 20000 in
theorem ggX7_under_X5_playTo : GoodIn wsX7_under wsX5_playTo := goodIn_r _ [19, 20, 21, 22, 23, 24, 25, 26, 27, 28, 29, 30, 31, 32, 18, 33, 34, 35, 36, 37, 38, 39, 40, 41, 42, 43, 44, 45, 46, 47, 48, 49, 50, 51, 52, 53, 54, 55, 56, 84, 85, 86, 87, 88, 89, 90, 91, 92, 93] (by decide +kernel) (by decide +kernel)
set_option maxRecDepth 20000 in
theorem gX7_under_X5_playTo : GoodIn wsX7_under (wsV RX7 124 RX5 yX5_playTo wsX5_playTo) := goodIn_app (goodIn_of _ (by decide +kernel)) ggX7_under_X5_playTo
set_option maxRecDepth 20000 in
theorem ggX7_under_X1_layerAt : GoodIn wsX7_under wsX1_layerAt := goodIn_r _ [60, 56, 61, 62, 63, 26, 64, 29, 44, 45, 46, 47, 28, 91, 92, 93] (by decide +kernel) (by decide +kernel)
set_option maxRecDepth 20000 in
theorem gX7_under_X1_layerAt : GoodIn wsX7_under (wsV RX7 131 RX1 yX1_layerAt wsX1_layerAt) := goodIn_app (goodIn_of _ (by decide +kernel)) ggX7_under_X1_layerAt
set_option maxRecDepth 20000 in
theorem ggX7_under_X5_gumOf : GoodIn wsX7_under wsX5_gumOf := goodIn_r _ [68, 69, 70, 71, 72, 18, 73, 74, 36, 84, 85, 86, 87, 88, 89, 90] (by decide +kernel) (by decide +kernel)
set_option maxRecDepth 20000 in
theorem gX7_under_X5_gumOf : GoodIn wsX7_under (wsV RX7 134 RX5 yX5_gumOf wsX5_gumOf) := goodIn_app (goodIn_of _ (by decide +kernel)) ggX7_under_X5_gumOf
theorem dX7_under_0 : decode cX7_under 0 = .ok (.aload_n 0, 1) := by decide +kernel
theorem dX7_under_1 : decode cX7_under 1 = .ok (.iload_n 1, 1) := by decide +kernel
theorem dX7_under_2 : decode cX7_under 2 = .ok (.invokevirtual 106, 3) := by decide +kernel
theorem dX7_under_5 : decode cX7_under 5 = .ok (.ifCond .eq 7, 3) := by decide +kernel
theorem dX7_under_8 : decode cX7_under 8 = .ok (.iload_n 3, 1) := by decide +kernel
theorem dX7_under_9 : decode cX7_under 9 = .ok (.ifCond .ge 5, 3) := by decide +kernel
theorem dX7_under_12 : decode cX7_under 12 = .ok (.iconst (-1), 1) := by decide +kernel
theorem dX7_under_13 : decode cX7_under 13 = .ok (.ireturn, 1) := by decide +kernel
theorem dX7_under_14 : decode cX7_under 14 = .ok (.iload_n 2, 1) := by decide +kernel
theorem dX7_under_15 : decode cX7_under 15 = .ok (.invokestatic 100, 3) := by decide +kernel
theorem dX7_under_18 : decode cX7_under 18 = .ok (.ifCond .eq 11, 3) := by decide +kernel
theorem dX7_under_21 : decode cX7_under 21 = .ok (.iload 4, 2) := by decide +kernel
theorem dX7_under_23 : decode cX7_under 23 = .ok (.invokestatic 90, 3) := by decide +kernel
theorem dX7_under_26 : decode cX7_under 26 = .ok (.ifCond .ne 6, 3) := by decide +kernel
theorem dX7_under_29 : decode cX7_under 29 = .ok (.bipush (-2), 2) := by decide +kernel
theorem dX7_under_31 : decode cX7_under 31 = .ok (.ireturn, 1) := by decide +kernel
theorem dX7_under_32 : decode cX7_under 32 = .ok (.aload_n 0, 1) := by decide +kernel
theorem dX7_under_33 : decode cX7_under 33 = .ok (.getfield 30, 3) := by decide +kernel
theorem dX7_under_36 : decode cX7_under 36 = .ok (.iload_n 2, 1) := by decide +kernel
theorem dX7_under_37 : decode cX7_under 37 = .ok (.aload_n 0, 1) := by decide +kernel
theorem dX7_under_38 : decode cX7_under 38 = .ok (.getfield 37, 3) := by decide +kernel
theorem dX7_under_41 : decode cX7_under 41 = .ok (.invokevirtual 124, 3) := by decide +kernel
theorem dX7_under_44 : decode cX7_under 44 = .ok (.aload_n 0, 1) := by decide +kernel
theorem dX7_under_45 : decode cX7_under 45 = .ok (.getfield 37, 3) := by decide +kernel
theorem dX7_under_48 : decode cX7_under 48 = .ok (.iload_n 1, 1) := by decide +kernel
theorem dX7_under_49 : decode cX7_under 49 = .ok (.iload_n 3, 1) := by decide +kernel
theorem dX7_under_50 : decode cX7_under 50 = .ok (.invokevirtual 131, 3) := by decide +kernel
theorem dX7_under_53 : decode cX7_under 53 = .ok (.istore 5, 2) := by decide +kernel
theorem dX7_under_55 : decode cX7_under 55 = .ok (.iload 5, 2) := by decide +kernel
theorem dX7_under_57 : decode cX7_under 57 = .ok (.bipush (-9), 2) := by decide +kernel
theorem dX7_under_59 : decode cX7_under 59 = .ok (.if_icmp .eq 9, 3) := by decide +kernel
theorem dX7_under_62 : decode cX7_under 62 = .ok (.iload 4, 2) := by decide +kernel
theorem dX7_under_64 : decode cX7_under 64 = .ok (.iconst 1, 1) := by decide +kernel
theorem dX7_under_65 : decode cX7_under 65 = .ok (.if_icmp .ne 6, 3) := by decide +kernel
theorem dX7_under_68 : decode cX7_under 68 = .ok (.iload 5, 2) := by decide +kernel
theorem dX7_under_70 : decode cX7_under 70 = .ok (.ireturn, 1) := by decide +kernel
theorem dX7_under_71 : decode cX7_under 71 = .ok (.aload_n 0, 1) := by decide +kernel
theorem dX7_under_72 : decode cX7_under 72 = .ok (.getfield 30, 3) := by decide +kernel
theorem dX7_under_75 : decode cX7_under 75 = .ok (.iload 5, 2) := by decide +kernel
theorem dX7_under_77 : decode cX7_under 77 = .ok (.invokevirtual 134, 3) := by decide +kernel
theorem dX7_under_80 : decode cX7_under 80 = .ok (.ireturn, 1) := by decide +kernel
set_option maxRecDepth 20000 in
theorem ggX7_chair_X7_isPlace : GoodIn wsX7_chair wsX7_isPlace := goodIn_r _ [7, 8, 55, 56, 57, 58, 59, 60, 61, 62, 63] (by decide +kernel) (by decide +kernel)
set_option maxRecDepth 20000 in
theorem gX7_chair_X7_isPlace : GoodIn wsX7_chair (wsV RX7 106 RX7 yX7_isPlace wsX7_isPlace) := goodIn_app (goodIn_of _ (by decide +kernel)) ggX7_chair_X7_isPlace
set_option maxRecDepth 20000 in
theorem ggX7_chair_X7_isNight : GoodIn wsX7_chair wsX7_isNight := goodIn_r _ [11] (by decide +kernel) (by decide +kernel)
set_option maxRecDepth 20000 in
theorem gX7_chair_X7_isNight : GoodIn wsX7_chair (va_wsS RX7 100 yX7_isNight wsX7_isNight) := goodIn_app (goodIn_of _ (by decide +kernel)) ggX7_chair_X7_isNight
set_option maxRecDepth 20000 in
theorem ggX7_chair_X5_playTo : GoodIn wsX7_chair wsX5_playTo := goodIn_r _ [16, 17, 18, 19, 20, 21, 22, 23, 24, 25, 26, 27, 28, 29, 15, 30, 31, 32, 33, 34, 35, 36, 37, 38, 39, 40, 41, 42, 43, 44, 45, 46, 47, 48, 49, 50, 51, 52, 53, 64, 65, 66, 67, 68, 69, 70, 71, 72, 73] (by decide +kernel) (by decide +kernel)
set_option maxRecDepth 20000 in
theorem gX7_chair_X5_playTo : GoodIn wsX7_chair (wsV RX7 124 RX5 yX5_playTo wsX5_playTo) := goodIn_app (goodIn_of _ (by decide +kernel)) ggX7_chair_X5_playTo
set_option maxRecDepth 20000 in
theorem ggX7_chair_X1_chairIn : GoodIn wsX7_chair wsX1_chairIn := goodIn_r _ [44, 25, 71, 72, 73] (by decide +kernel) (by decide +kernel)
set_option maxRecDepth 20000 in
theorem gX7_chair_X1_chairIn : GoodIn wsX7_chair (wsV RX7 137 RX1 yX1_chairIn wsX1_chairIn) := goodIn_app (goodIn_of _ (by decide +kernel)) ggX7_chair_X1_chairIn
theorem dX7_chair_0 : decode cX7_chair 0 = .ok (.aload_n 0, 1) := by decide +kernel
theorem dX7_chair_1 : decode cX7_chair 1 = .ok (.iload_n 1, 1) := by decide +kernel
theorem dX7_chair_2 : decode cX7_chair 2 = .ok (.invokevirtual 106, 3) := by decide +kernel
theorem dX7_chair_5 : decode cX7_chair 5 = .ok (.ifCond .ne 5, 3) := by decide +kernel
theorem dX7_chair_8 : decode cX7_chair 8 = .ok (.iconst (-1), 1) := by decide +kernel
theorem dX7_chair_9 : decode cX7_chair 9 = .ok (.ireturn, 1) := by decide +kernel
theorem dX7_chair_10 : decode cX7_chair 10 = .ok (.iload_n 2, 1) := by decide +kernel
theorem dX7_chair_11 : decode cX7_chair 11 = .ok (.invokestatic 100, 3) := by decide +kernel
theorem dX7_chair_14 : decode cX7_chair 14 = .ok (.ifCond .ne 6, 3) := by decide +kernel
theorem dX7_chair_17 : decode cX7_chair 17 = .ok (.bipush (-2), 2) := by decide +kernel
theorem dX7_chair_19 : decode cX7_chair 19 = .ok (.ireturn, 1) := by decide +kernel
theorem dX7_chair_20 : decode cX7_chair 20 = .ok (.aload_n 0, 1) := by decide +kernel
theorem dX7_chair_21 : decode cX7_chair 21 = .ok (.getfield 30, 3) := by decide +kernel
theorem dX7_chair_24 : decode cX7_chair 24 = .ok (.iload_n 2, 1) := by decide +kernel
theorem dX7_chair_25 : decode cX7_chair 25 = .ok (.aload_n 0, 1) := by decide +kernel
theorem dX7_chair_26 : decode cX7_chair 26 = .ok (.getfield 37, 3) := by decide +kernel
theorem dX7_chair_29 : decode cX7_chair 29 = .ok (.invokevirtual 124, 3) := by decide +kernel
theorem dX7_chair_32 : decode cX7_chair 32 = .ok (.aload_n 0, 1) := by decide +kernel
theorem dX7_chair_33 : decode cX7_chair 33 = .ok (.getfield 37, 3) := by decide +kernel
theorem dX7_chair_36 : decode cX7_chair 36 = .ok (.iload_n 1, 1) := by decide +kernel
theorem dX7_chair_37 : decode cX7_chair 37 = .ok (.invokevirtual 137, 3) := by decide +kernel
theorem dX7_chair_40 : decode cX7_chair 40 = .ok (.ireturn, 1) := by decide +kernel
set_option maxRecDepth 20000 in
theorem ggX7_beside_X7_personOf : GoodIn wsX7_beside wsX7_personOf := goodIn_r _ [10, 11, 12, 43, 44, 45, 46, 47, 48, 49, 50, 51] (by decide +kernel) (by decide +kernel)
set_option maxRecDepth 20000 in
theorem gX7_beside_X7_personOf : GoodIn wsX7_beside (wsV RX7 86 RX7 yX7_personOf wsX7_personOf) := goodIn_app (goodIn_of _ (by decide +kernel)) ggX7_beside_X7_personOf
set_option maxRecDepth 20000 in
theorem ggX7_beside_X5_count : GoodIn wsX7_beside wsX5_count := goodIn_r _ [17, 18, 52, 53, 54, 55, 56, 57, 58] (by decide +kernel) (by decide +kernel)
set_option maxRecDepth 20000 in
theorem gX7_beside_X5_count : GoodIn wsX7_beside (wsV RX7 140 RX5 yX5_count wsX5_count) := goodIn_app (goodIn_of _ (by decide +kernel)) ggX7_beside_X5_count
set_option maxRecDepth 20000 in
theorem ggX7_beside_X5_placeOf : GoodIn wsX7_beside wsX5_placeOf := goodIn_r _ [22, 23, 24, 25, 26, 16, 27, 18, 28, 52, 53, 54, 55, 56, 57, 58] (by decide +kernel) (by decide +kernel)
set_option maxRecDepth 20000 in
theorem gX7_beside_X5_placeOf : GoodIn wsX7_beside (wsV RX7 143 RX5 yX5_placeOf wsX5_placeOf) := goodIn_app (goodIn_of _ (by decide +kernel)) ggX7_beside_X5_placeOf
set_option maxRecDepth 20000 in
theorem ggX7_beside_X5_nightOf : GoodIn wsX7_beside wsX5_nightOf := goodIn_r _ [32, 33, 24, 25, 26, 16, 27, 18, 28, 52, 53, 54, 55, 56, 57, 58] (by decide +kernel) (by decide +kernel)
set_option maxRecDepth 20000 in
theorem gX7_beside_X5_nightOf : GoodIn wsX7_beside (wsV RX7 146 RX5 yX5_nightOf wsX5_nightOf) := goodIn_app (goodIn_of _ (by decide +kernel)) ggX7_beside_X5_nightOf
set_option maxRecDepth 20000 in
theorem ggX7_beside_X7_placeOn : GoodIn wsX7_beside wsX7_placeOn := goodIn_r _ [37, 1, 13, 14, 15, 16, 17, 18, 29, 30, 31, 32, 33, 24, 25, 26, 27, 28, 38, 39, 40, 41, 42, 19, 20, 21, 22, 23, 43, 44, 45, 46, 47, 48, 49, 50, 51, 52, 53, 54, 55, 56, 57, 58] (by decide +kernel) (by decide +kernel)
set_option maxRecDepth 20000 in
theorem gX7_beside_X7_placeOn : GoodIn wsX7_beside (wsV RX7 149 RX7 yX7_placeOn wsX7_placeOn) := goodIn_app (goodIn_of _ (by decide +kernel)) ggX7_beside_X7_placeOn
set_option maxRecDepth 20000 in
theorem ggX7_beside_X5_personOf : GoodIn wsX7_beside wsX5_personOf := goodIn_r _ [41, 42, 24, 25, 26, 16, 27, 18, 28, 52, 53, 54, 55, 56, 57, 58] (by decide +kernel) (by decide +kernel)
set_option maxRecDepth 20000 in
theorem gX7_beside_X5_personOf : GoodIn wsX7_beside (wsV RX7 152 RX5 yX5_personOf wsX5_personOf) := goodIn_app (goodIn_of _ (by decide +kernel)) ggX7_beside_X5_personOf
theorem dX7_beside_0 : decode cX7_beside 0 = .ok (.aload_n 0, 1) := by decide +kernel
theorem dX7_beside_1 : decode cX7_beside 1 = .ok (.iload_n 1, 1) := by decide +kernel
theorem dX7_beside_2 : decode cX7_beside 2 = .ok (.invokevirtual 86, 3) := by decide +kernel
theorem dX7_beside_5 : decode cX7_beside 5 = .ok (.ifnull 16, 3) := by decide +kernel
theorem dX7_beside_8 : decode cX7_beside 8 = .ok (.aload_n 0, 1) := by decide +kernel
theorem dX7_beside_9 : decode cX7_beside 9 = .ok (.iload_n 2, 1) := by decide +kernel
theorem dX7_beside_10 : decode cX7_beside 10 = .ok (.invokevirtual 86, 3) := by decide +kernel
theorem dX7_beside_13 : decode cX7_beside 13 = .ok (.ifnull 8, 3) := by decide +kernel
theorem dX7_beside_16 : decode cX7_beside 16 = .ok (.iload_n 1, 1) := by decide +kernel
theorem dX7_beside_17 : decode cX7_beside 17 = .ok (.iload_n 2, 1) := by decide +kernel
theorem dX7_beside_18 : decode cX7_beside 18 = .ok (.if_icmp .ne 5, 3) := by decide +kernel
theorem dX7_beside_21 : decode cX7_beside 21 = .ok (.iconst (-1), 1) := by decide +kernel
theorem dX7_beside_22 : decode cX7_beside 22 = .ok (.ireturn, 1) := by decide +kernel
theorem dX7_beside_23 : decode cX7_beside 23 = .ok (.iconst 0, 1) := by decide +kernel
theorem dX7_beside_24 : decode cX7_beside 24 = .ok (.istore_n 3, 1) := by decide +kernel
theorem dX7_beside_25 : decode cX7_beside 25 = .ok (.iconst 0, 1) := by decide +kernel
theorem dX7_beside_26 : decode cX7_beside 26 = .ok (.istore 4, 2) := by decide +kernel
theorem dX7_beside_28 : decode cX7_beside 28 = .ok (.iload 4, 2) := by decide +kernel
theorem dX7_beside_30 : decode cX7_beside 30 = .ok (.aload_n 0, 1) := by decide +kernel
theorem dX7_beside_31 : decode cX7_beside 31 = .ok (.getfield 30, 3) := by decide +kernel
theorem dX7_beside_34 : decode cX7_beside 34 = .ok (.iconst 2, 1) := by decide +kernel
theorem dX7_beside_35 : decode cX7_beside 35 = .ok (.invokevirtual 140, 3) := by decide +kernel
theorem dX7_beside_38 : decode cX7_beside 38 = .ok (.if_icmp .ge 71, 3) := by decide +kernel
theorem dX7_beside_41 : decode cX7_beside 41 = .ok (.aload_n 0, 1) := by decide +kernel
theorem dX7_beside_42 : decode cX7_beside 42 = .ok (.getfield 30, 3) := by decide +kernel
theorem dX7_beside_45 : decode cX7_beside 45 = .ok (.iload 4, 2) := by decide +kernel
theorem dX7_beside_47 : decode cX7_beside 47 = .ok (.invokevirtual 143, 3) := by decide +kernel
theorem dX7_beside_50 : decode cX7_beside 50 = .ok (.istore 5, 2) := by decide +kernel
theorem dX7_beside_52 : decode cX7_beside 52 = .ok (.aload_n 0, 1) := by decide +kernel
theorem dX7_beside_53 : decode cX7_beside 53 = .ok (.aload_n 0, 1) := by decide +kernel
theorem dX7_beside_54 : decode cX7_beside 54 = .ok (.getfield 30, 3) := by decide +kernel
theorem dX7_beside_57 : decode cX7_beside 57 = .ok (.iload 4, 2) := by decide +kernel
theorem dX7_beside_59 : decode cX7_beside 59 = .ok (.invokevirtual 146, 3) := by decide +kernel
theorem dX7_beside_62 : decode cX7_beside 62 = .ok (.iload_n 2, 1) := by decide +kernel
theorem dX7_beside_63 : decode cX7_beside 63 = .ok (.invokevirtual 149, 3) := by decide +kernel
theorem dX7_beside_66 : decode cX7_beside 66 = .ok (.istore 6, 2) := by decide +kernel
theorem dX7_beside_68 : decode cX7_beside 68 = .ok (.aload_n 0, 1) := by decide +kernel
theorem dX7_beside_69 : decode cX7_beside 69 = .ok (.getfield 30, 3) := by decide +kernel
theorem dX7_beside_72 : decode cX7_beside 72 = .ok (.iload 4, 2) := by decide +kernel
theorem dX7_beside_74 : decode cX7_beside 74 = .ok (.invokevirtual 152, 3) := by decide +kernel
theorem dX7_beside_77 : decode cX7_beside 77 = .ok (.iload_n 1, 1) := by decide +kernel
theorem dX7_beside_78 : decode cX7_beside 78 = .ok (.if_icmp .ne 25, 3) := by decide +kernel
theorem dX7_beside_81 : decode cX7_beside 81 = .ok (.iload 6, 2) := by decide +kernel
theorem dX7_beside_83 : decode cX7_beside 83 = .ok (.bipush (-9), 2) := by decide +kernel
theorem dX7_beside_85 : decode cX7_beside 85 = .ok (.if_icmp .eq 18, 3) := by decide +kernel
theorem dX7_beside_88 : decode cX7_beside 88 = .ok (.iload 5, 2) := by decide +kernel
theorem dX7_beside_90 : decode cX7_beside 90 = .ok (.iload 6, 2) := by decide +kernel
theorem dX7_beside_92 : decode cX7_beside 92 = .ok (.isub, 1) := by decide +kernel
theorem dX7_beside_93 : decode cX7_beside 93 = .ok (.invokestatic 154, 3) := by decide +kernel
