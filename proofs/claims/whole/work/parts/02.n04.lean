theorem dX7_beside_96 : decode cX7_beside 96 = .ok (.iconst 1, 1) := by decide +kernel
theorem dX7_beside_97 : decode cX7_beside 97 = .ok (.if_icmp .ne 6, 3) := by decide +kernel
theorem dX7_beside_100 : decode cX7_beside 100 = .ok (.iinc 3 1, 3) := by decide +kernel
theorem dX7_beside_103 : decode cX7_beside 103 = .ok (.iinc 4 1, 3) := by decide +kernel
theorem dX7_beside_106 : decode cX7_beside 106 = .ok (.goto (-78), 3) := by decide +kernel
theorem dX7_beside_109 : decode cX7_beside 109 = .ok (.iload_n 3, 1) := by decide +kernel
theorem dX7_beside_110 : decode cX7_beside 110 = .ok (.ireturn, 1) := by decide +kernel
set_option maxRecDepth 20000 in
theorem ggX7_habit_X7_personOf : GoodIn wsX7_habit wsX7_personOf := goodIn_r _ [6, 7, 8, 38, 39, 40, 41, 42, 43, 44, 45, 46] (by decide +kernel) (by decide +kernel)
set_option maxRecDepth 20000 in
theorem gX7_habit_X7_personOf : GoodIn wsX7_habit (wsV RX7 86 RX7 yX7_personOf wsX7_personOf) := goodIn_app (goodIn_of _ (by decide +kernel)) ggX7_habit_X7_personOf
set_option maxRecDepth 20000 in
theorem ggX7_habit_X7_isEither : GoodIn wsX7_habit wsX7_isEither := goodIn_r _ [11] (by decide +kernel) (by decide +kernel)
set_option maxRecDepth 20000 in
theorem gX7_habit_X7_isEither : GoodIn wsX7_habit (va_wsS RX7 90 yX7_isEither wsX7_isEither) := goodIn_app (goodIn_of _ (by decide +kernel)) ggX7_habit_X7_isEither
set_option maxRecDepth 20000 in
theorem ggX7_habit_X7_howOften : GoodIn wsX7_habit wsX7_howOften := goodIn_r _ [15, 16, 17, 18, 19, 20, 21, 22, 23, 24, 25, 26, 27, 28, 29, 30, 31, 32, 33, 34, 35, 36, 37, 38, 39, 40, 41, 42, 43, 44, 45, 46, 47, 48, 49, 50, 51, 52, 53] (by decide +kernel) (by decide +kernel)
set_option maxRecDepth 20000 in
theorem gX7_habit_X7_howOften : GoodIn wsX7_habit (wsV RX7 159 RX7 yX7_howOften wsX7_howOften) := goodIn_app (goodIn_of _ (by decide +kernel)) ggX7_habit_X7_howOften
theorem dX7_habit_0 : decode cX7_habit 0 = .ok (.aload_n 0, 1) := by decide +kernel
theorem dX7_habit_1 : decode cX7_habit 1 = .ok (.iload_n 1, 1) := by decide +kernel
theorem dX7_habit_2 : decode cX7_habit 2 = .ok (.invokevirtual 86, 3) := by decide +kernel
theorem dX7_habit_5 : decode cX7_habit 5 = .ok (.ifnonnull 5, 3) := by decide +kernel
theorem dX7_habit_8 : decode cX7_habit 8 = .ok (.iconst (-1), 1) := by decide +kernel
theorem dX7_habit_9 : decode cX7_habit 9 = .ok (.ireturn, 1) := by decide +kernel
theorem dX7_habit_10 : decode cX7_habit 10 = .ok (.iload_n 2, 1) := by decide +kernel
theorem dX7_habit_11 : decode cX7_habit 11 = .ok (.invokestatic 90, 3) := by decide +kernel
theorem dX7_habit_14 : decode cX7_habit 14 = .ok (.ifCond .ne 6, 3) := by decide +kernel
theorem dX7_habit_17 : decode cX7_habit 17 = .ok (.bipush (-2), 2) := by decide +kernel
theorem dX7_habit_19 : decode cX7_habit 19 = .ok (.ireturn, 1) := by decide +kernel
theorem dX7_habit_20 : decode cX7_habit 20 = .ok (.bipush (-9), 2) := by decide +kernel
theorem dX7_habit_22 : decode cX7_habit 22 = .ok (.istore_n 3, 1) := by decide +kernel
theorem dX7_habit_23 : decode cX7_habit 23 = .ok (.iconst 0, 1) := by decide +kernel
theorem dX7_habit_24 : decode cX7_habit 24 = .ok (.istore 4, 2) := by decide +kernel
theorem dX7_habit_26 : decode cX7_habit 26 = .ok (.iconst 0, 1) := by decide +kernel
theorem dX7_habit_27 : decode cX7_habit 27 = .ok (.istore 5, 2) := by decide +kernel
theorem dX7_habit_29 : decode cX7_habit 29 = .ok (.iload 5, 2) := by decide +kernel
theorem dX7_habit_31 : decode cX7_habit 31 = .ok (.aload_n 0, 1) := by decide +kernel
theorem dX7_habit_32 : decode cX7_habit 32 = .ok (.getfield 52, 3) := by decide +kernel
theorem dX7_habit_35 : decode cX7_habit 35 = .ok (.if_icmp .ge 32, 3) := by decide +kernel
theorem dX7_habit_38 : decode cX7_habit 38 = .ok (.aload_n 0, 1) := by decide +kernel
theorem dX7_habit_39 : decode cX7_habit 39 = .ok (.iload_n 1, 1) := by decide +kernel
theorem dX7_habit_40 : decode cX7_habit 40 = .ok (.iload 5, 2) := by decide +kernel
theorem dX7_habit_42 : decode cX7_habit 42 = .ok (.invokevirtual 159, 3) := by decide +kernel
theorem dX7_habit_45 : decode cX7_habit 45 = .ok (.istore 6, 2) := by decide +kernel
theorem dX7_habit_47 : decode cX7_habit 47 = .ok (.iload 6, 2) := by decide +kernel
theorem dX7_habit_49 : decode cX7_habit 49 = .ok (.iload 4, 2) := by decide +kernel
theorem dX7_habit_51 : decode cX7_habit 51 = .ok (.if_icmp .le 10, 3) := by decide +kernel
theorem dX7_habit_54 : decode cX7_habit 54 = .ok (.iload 5, 2) := by decide +kernel
theorem dX7_habit_56 : decode cX7_habit 56 = .ok (.istore_n 3, 1) := by decide +kernel
theorem dX7_habit_57 : decode cX7_habit 57 = .ok (.iload 6, 2) := by decide +kernel
theorem dX7_habit_59 : decode cX7_habit 59 = .ok (.istore 4, 2) := by decide +kernel
theorem dX7_habit_61 : decode cX7_habit 61 = .ok (.iinc 5 1, 3) := by decide +kernel
theorem dX7_habit_64 : decode cX7_habit 64 = .ok (.goto (-35), 3) := by decide +kernel
theorem dX7_habit_67 : decode cX7_habit 67 = .ok (.iload_n 2, 1) := by decide +kernel
theorem dX7_habit_68 : decode cX7_habit 68 = .ok (.ifCond .ne 7, 3) := by decide +kernel
theorem dX7_habit_71 : decode cX7_habit 71 = .ok (.iload_n 3, 1) := by decide +kernel
theorem dX7_habit_72 : decode cX7_habit 72 = .ok (.goto 5, 3) := by decide +kernel
theorem dX7_habit_75 : decode cX7_habit 75 = .ok (.iload 4, 2) := by decide +kernel
theorem dX7_habit_77 : decode cX7_habit 77 = .ok (.ireturn, 1) := by decide +kernel
set_option maxRecDepth 20000 in
theorem ggX7_makers_X7_isGum : GoodIn wsX7_makers wsX7_isGum := goodIn_r _ [5] (by decide +kernel) (by decide +kernel)
set_option maxRecDepth 20000 in
theorem gX7_makers_X7_isGum : GoodIn wsX7_makers (va_wsS RX7 162 yX7_isGum wsX7_isGum) := goodIn_app (goodIn_of _ (by decide +kernel)) ggX7_makers_X7_isGum
set_option maxRecDepth 20000 in
theorem ggX7_makers_X7_isNight : GoodIn wsX7_makers wsX7_isNight := goodIn_r _ [8] (by decide +kernel) (by decide +kernel)
set_option maxRecDepth 20000 in
theorem gX7_makers_X7_isNight : GoodIn wsX7_makers (va_wsS RX7 100 yX7_isNight wsX7_isNight) := goodIn_app (goodIn_of _ (by decide +kernel)) ggX7_makers_X7_isNight
set_option maxRecDepth 20000 in
theorem ggX7_makers_X7_hasHall : GoodIn wsX7_makers wsX7_hasHall := goodIn_r _ [12, 1, 44, 45, 46, 47, 48, 49, 50, 51, 52] (by decide +kernel) (by decide +kernel)
set_option maxRecDepth 20000 in
theorem gX7_makers_X7_hasHall : GoodIn wsX7_makers (wsV RX7 165 RX7 yX7_hasHall wsX7_hasHall) := goodIn_app (goodIn_of _ (by decide +kernel)) ggX7_makers_X7_hasHall
set_option maxRecDepth 20000 in
theorem ggX7_makers_X7_gumLeft : GoodIn wsX7_makers wsX7_gumLeft := goodIn_r _ [16, 17, 18, 19, 4, 20, 1, 21, 22, 23, 24, 25, 26, 27, 28, 29, 30, 31, 32, 33, 34, 35, 36, 37, 38, 39, 40, 41, 42, 43, 44, 45, 46, 47, 48, 49, 50, 51, 52, 53, 54, 55] (by decide +kernel) (by decide +kernel)
set_option maxRecDepth 20000 in
theorem gX7_makers_X7_gumLeft : GoodIn wsX7_makers (wsV RX7 169 RX7 yX7_gumLeft wsX7_gumLeft) := goodIn_app (goodIn_of _ (by decide +kernel)) ggX7_makers_X7_gumLeft
theorem dX7_makers_0 : decode cX7_makers 0 = .ok (.iload_n 1, 1) := by decide +kernel
theorem dX7_makers_1 : decode cX7_makers 1 = .ok (.invokestatic 162, 3) := by decide +kernel
theorem dX7_makers_4 : decode cX7_makers 4 = .ok (.ifCond .eq 10, 3) := by decide +kernel
theorem dX7_makers_7 : decode cX7_makers 7 = .ok (.iload_n 2, 1) := by decide +kernel
theorem dX7_makers_8 : decode cX7_makers 8 = .ok (.invokestatic 100, 3) := by decide +kernel
theorem dX7_makers_11 : decode cX7_makers 11 = .ok (.ifCond .ne 6, 3) := by decide +kernel
theorem dX7_makers_14 : decode cX7_makers 14 = .ok (.bipush (-2), 2) := by decide +kernel
theorem dX7_makers_16 : decode cX7_makers 16 = .ok (.ireturn, 1) := by decide +kernel
theorem dX7_makers_17 : decode cX7_makers 17 = .ok (.aload_n 0, 1) := by decide +kernel
theorem dX7_makers_18 : decode cX7_makers 18 = .ok (.invokevirtual 165, 3) := by decide +kernel
theorem dX7_makers_21 : decode cX7_makers 21 = .ok (.ifCond .ne 6, 3) := by decide +kernel
theorem dX7_makers_24 : decode cX7_makers 24 = .ok (.bipush (-3), 2) := by decide +kernel
theorem dX7_makers_26 : decode cX7_makers 26 = .ok (.ireturn, 1) := by decide +kernel
theorem dX7_makers_27 : decode cX7_makers 27 = .ok (.iconst 0, 1) := by decide +kernel
theorem dX7_makers_28 : decode cX7_makers 28 = .ok (.istore_n 3, 1) := by decide +kernel
theorem dX7_makers_29 : decode cX7_makers 29 = .ok (.iconst 0, 1) := by decide +kernel
theorem dX7_makers_30 : decode cX7_makers 30 = .ok (.istore 4, 2) := by decide +kernel
theorem dX7_makers_32 : decode cX7_makers 32 = .ok (.iload 4, 2) := by decide +kernel
theorem dX7_makers_34 : decode cX7_makers 34 = .ok (.aload_n 0, 1) := by decide +kernel
theorem dX7_makers_35 : decode cX7_makers 35 = .ok (.getfield 48, 3) := by decide +kernel
theorem dX7_makers_38 : decode cX7_makers 38 = .ok (.if_icmp .ge 27, 3) := by decide +kernel
theorem dX7_makers_41 : decode cX7_makers 41 = .ok (.aload_n 0, 1) := by decide +kernel
theorem dX7_makers_42 : decode cX7_makers 42 = .ok (.iload 4, 2) := by decide +kernel
theorem dX7_makers_44 : decode cX7_makers 44 = .ok (.iload_n 2, 1) := by decide +kernel
theorem dX7_makers_45 : decode cX7_makers 45 = .ok (.invokevirtual 169, 3) := by decide +kernel
theorem dX7_makers_48 : decode cX7_makers 48 = .ok (.iload_n 1, 1) := by decide +kernel
theorem dX7_makers_49 : decode cX7_makers 49 = .ok (.if_icmp .ne 10, 3) := by decide +kernel
theorem dX7_makers_52 : decode cX7_makers 52 = .ok (.iload_n 3, 1) := by decide +kernel
theorem dX7_makers_53 : decode cX7_makers 53 = .ok (.iconst 1, 1) := by decide +kernel
theorem dX7_makers_54 : decode cX7_makers 54 = .ok (.iload 4, 2) := by decide +kernel
theorem dX7_makers_56 : decode cX7_makers 56 = .ok (.ishl, 1) := by decide +kernel
theorem dX7_makers_57 : decode cX7_makers 57 = .ok (.ior, 1) := by decide +kernel
theorem dX7_makers_58 : decode cX7_makers 58 = .ok (.istore_n 3, 1) := by decide +kernel
theorem dX7_makers_59 : decode cX7_makers 59 = .ok (.iinc 4 1, 3) := by decide +kernel
theorem dX7_makers_62 : decode cX7_makers 62 = .ok (.goto (-30), 3) := by decide +kernel
theorem dX7_makers_65 : decode cX7_makers 65 = .ok (.iload_n 3, 1) := by decide +kernel
theorem dX7_makers_66 : decode cX7_makers 66 = .ok (.ireturn, 1) := by decide +kernel
set_option maxRecDepth 20000 in
theorem ggX7_judge_X7_sheetOf : GoodIn wsX7_judge wsX7_sheetOf := goodIn_r _ [6, 7, 89, 90, 91, 92, 93, 94, 95, 96, 97] (by decide +kernel) (by decide +kernel)
set_option maxRecDepth 20000 in
theorem gX7_judge_X7_sheetOf : GoodIn wsX7_judge (wsV RX7 59 RX7 yX7_sheetOf wsX7_sheetOf) := goodIn_app (goodIn_of _ (by decide +kernel)) ggX7_judge_X7_sheetOf
set_option maxRecDepth 20000 in
theorem ggX7_judge_X7_isLane : GoodIn wsX7_judge wsX7_isLane := goodIn_r _ [10] (by decide +kernel) (by decide +kernel)
set_option maxRecDepth 20000 in
theorem gX7_judge_X7_isLane : GoodIn wsX7_judge (va_wsS RX7 63 yX7_isLane wsX7_isLane) := goodIn_app (goodIn_of _ (by decide +kernel)) ggX7_judge_X7_isLane
set_option maxRecDepth 20000 in
theorem ggX7_judge_X7_hasHall : GoodIn wsX7_judge wsX7_hasHall := goodIn_r _ [14, 15, 89, 90, 91, 92, 93, 94, 95, 96, 97] (by decide +kernel) (by decide +kernel)
set_option maxRecDepth 20000 in
theorem gX7_judge_X7_hasHall : GoodIn wsX7_judge (wsV RX7 165 RX7 yX7_hasHall wsX7_hasHall) := goodIn_app (goodIn_of _ (by decide +kernel)) ggX7_judge_X7_hasHall
set_option maxRecDepth 20000 in
theorem ggX7_judge_X3_faultAs : GoodIn wsX7_judge wsX3_faultAs := goodIn_r _ [20, 21, 22, 23, 24, 19, 25, 98, 99, 100] (by decide +kernel) (by decide +kernel)
set_option maxRecDepth 20000 in
theorem gX7_judge_X3_faultAs : GoodIn wsX7_judge (wsV RX7 67 RX3 yX3_faultAs wsX3_faultAs) := goodIn_app (goodIn_of _ (by decide +kernel)) ggX7_judge_X3_faultAs
set_option maxRecDepth 20000 in
theorem ggX7_judge_X7_fails : GoodIn wsX7_judge wsX7_fails := goodIn_r _ [29, 1, 89, 90, 91, 92, 93, 94, 95, 96, 97] (by decide +kernel) (by decide +kernel)
set_option maxRecDepth 20000 in
theorem gX7_judge_X7_fails : GoodIn wsX7_judge (wsV RX7 71 RX7 yX7_fails wsX7_fails) := goodIn_app (goodIn_of _ (by decide +kernel)) ggX7_judge_X7_fails
set_option maxRecDepth 20000 in
theorem ggX7_judge_X3_reaches : GoodIn wsX7_judge wsX3_reaches := goodIn_r _ [33, 34, 98, 99, 100] (by decide +kernel) (by decide +kernel)
set_option maxRecDepth 20000 in
theorem gX7_judge_X3_reaches : GoodIn wsX7_judge (wsV RX7 74 RX3 yX3_reaches wsX3_reaches) := goodIn_app (goodIn_of _ (by decide +kernel)) ggX7_judge_X3_reaches
set_option maxRecDepth 20000 in
theorem ggX7_judge_X7_areClaims : GoodIn wsX7_judge wsX7_areClaims := goodIn_r _ [38, 39, 40, 41, 19, 42, 43, 44, 31, 32, 33, 34, 45, 46, 47, 5, 48, 15, 49, 50, 51, 52, 53, 54, 55, 56, 57, 98, 99, 100, 89, 90, 91, 92, 93, 94, 95, 96, 97] (by decide +kernel) (by decide +kernel)
set_option maxRecDepth 20000 in
theorem gX7_judge_X7_areClaims : GoodIn wsX7_judge (wsV RX7 172 RX7 yX7_areClaims wsX7_areClaims) := goodIn_app (goodIn_of _ (by decide +kernel)) ggX7_judge_X7_areClaims
set_option maxRecDepth 20000 in
theorem ggX7_judge_X7_claimMayBe : GoodIn wsX7_judge wsX7_claimMayBe := goodIn_r _ [61, 62, 39, 40, 41, 19, 42, 43, 44, 31, 32, 33, 34, 63, 64, 65, 66, 67, 68, 69, 70, 71, 72, 73, 74, 75, 76, 77, 78, 79, 80, 81, 82, 83, 84, 85, 86, 87, 88, 89, 90, 91, 92, 93, 94, 95, 96, 97, 98, 99, 100, 101, 102, 103, 104, 105, 106, 107] (by decide +kernel) (by decide +kernel)
set_option maxRecDepth 20000 in
theorem gX7_judge_X7_claimMayBe : GoodIn wsX7_judge (wsV RX7 176 RX7 yX7_claimMayBe wsX7_claimMayBe) := goodIn_app (goodIn_of _ (by decide +kernel)) ggX7_judge_X7_claimMayBe
theorem dX7_judge_0 : decode cX7_judge 0 = .ok (.aload_n 0, 1) := by decide +kernel
theorem dX7_judge_1 : decode cX7_judge 1 = .ok (.iconst 0, 1) := by decide +kernel
theorem dX7_judge_2 : decode cX7_judge 2 = .ok (.putfield 55, 3) := by decide +kernel
theorem dX7_judge_5 : decode cX7_judge 5 = .ok (.aload_n 0, 1) := by decide +kernel
theorem dX7_judge_6 : decode cX7_judge 6 = .ok (.iload_n 1, 1) := by decide +kernel
theorem dX7_judge_7 : decode cX7_judge 7 = .ok (.invokevirtual 59, 3) := by decide +kernel
theorem dX7_judge_10 : decode cX7_judge 10 = .ok (.astore 5, 2) := by decide +kernel
theorem dX7_judge_12 : decode cX7_judge 12 = .ok (.aload 5, 2) := by decide +kernel
theorem dX7_judge_14 : decode cX7_judge 14 = .ok (.ifnonnull 5, 3) := by decide +kernel
theorem dX7_judge_17 : decode cX7_judge 17 = .ok (.iconst (-1), 1) := by decide +kernel
theorem dX7_judge_18 : decode cX7_judge 18 = .ok (.ireturn, 1) := by decide +kernel
theorem dX7_judge_19 : decode cX7_judge 19 = .ok (.iload_n 2, 1) := by decide +kernel
theorem dX7_judge_20 : decode cX7_judge 20 = .ok (.invokestatic 63, 3) := by decide +kernel
theorem dX7_judge_23 : decode cX7_judge 23 = .ok (.ifCond .eq 15, 3) := by decide +kernel
theorem dX7_judge_26 : decode cX7_judge 26 = .ok (.iload 4, 2) := by decide +kernel
theorem dX7_judge_28 : decode cX7_judge 28 = .ok (.ifCond .lt 10, 3) := by decide +kernel
theorem dX7_judge_31 : decode cX7_judge 31 = .ok (.iload 4, 2) := by decide +kernel
theorem dX7_judge_33 : decode cX7_judge 33 = .ok (.bipush 20, 2) := by decide +kernel
theorem dX7_judge_35 : decode cX7_judge 35 = .ok (.if_icmp .le 6, 3) := by decide +kernel
theorem dX7_judge_38 : decode cX7_judge 38 = .ok (.bipush (-2), 2) := by decide +kernel
theorem dX7_judge_40 : decode cX7_judge 40 = .ok (.ireturn, 1) := by decide +kernel
theorem dX7_judge_41 : decode cX7_judge 41 = .ok (.aload_n 0, 1) := by decide +kernel
theorem dX7_judge_42 : decode cX7_judge 42 = .ok (.invokevirtual 165, 3) := by decide +kernel
theorem dX7_judge_45 : decode cX7_judge 45 = .ok (.ifCond .ne 6, 3) := by decide +kernel
theorem dX7_judge_48 : decode cX7_judge 48 = .ok (.bipush (-3), 2) := by decide +kernel
theorem dX7_judge_50 : decode cX7_judge 50 = .ok (.ireturn, 1) := by decide +kernel
theorem dX7_judge_51 : decode cX7_judge 51 = .ok (.aload 5, 2) := by decide +kernel
theorem dX7_judge_53 : decode cX7_judge 53 = .ok (.iload_n 2, 1) := by decide +kernel
theorem dX7_judge_54 : decode cX7_judge 54 = .ok (.invokevirtual 67, 3) := by decide +kernel
theorem dX7_judge_57 : decode cX7_judge 57 = .ok (.ifCond .eq 14, 3) := by decide +kernel
theorem dX7_judge_60 : decode cX7_judge 60 = .ok (.aload_n 0, 1) := by decide +kernel
theorem dX7_judge_61 : decode cX7_judge 61 = .ok (.aload 5, 2) := by decide +kernel
theorem dX7_judge_63 : decode cX7_judge 63 = .ok (.iload_n 2, 1) := by decide +kernel
theorem dX7_judge_64 : decode cX7_judge 64 = .ok (.invokevirtual 67, 3) := by decide +kernel
theorem dX7_judge_67 : decode cX7_judge 67 = .ok (.invokevirtual 71, 3) := by decide +kernel
theorem dX7_judge_70 : decode cX7_judge 70 = .ok (.ireturn, 1) := by decide +kernel
theorem dX7_judge_71 : decode cX7_judge 71 = .ok (.aload 5, 2) := by decide +kernel
theorem dX7_judge_73 : decode cX7_judge 73 = .ok (.iload_n 3, 1) := by decide +kernel
theorem dX7_judge_74 : decode cX7_judge 74 = .ok (.iconst 3, 1) := by decide +kernel
theorem dX7_judge_75 : decode cX7_judge 75 = .ok (.iload 4, 2) := by decide +kernel
theorem dX7_judge_77 : decode cX7_judge 77 = .ok (.imul, 1) := by decide +kernel
theorem dX7_judge_78 : decode cX7_judge 78 = .ok (.invokevirtual 74, 3) := by decide +kernel
theorem dX7_judge_81 : decode cX7_judge 81 = .ok (.ifCond .ne 9, 3) := by decide +kernel
theorem dX7_judge_84 : decode cX7_judge 84 = .ok (.aload_n 0, 1) := by decide +kernel
theorem dX7_judge_85 : decode cX7_judge 85 = .ok (.iconst 3, 1) := by decide +kernel
theorem dX7_judge_86 : decode cX7_judge 86 = .ok (.invokevirtual 71, 3) := by decide +kernel
theorem dX7_judge_89 : decode cX7_judge 89 = .ok (.ireturn, 1) := by decide +kernel
theorem dX7_judge_90 : decode cX7_judge 90 = .ok (.aload_n 0, 1) := by decide +kernel
theorem dX7_judge_91 : decode cX7_judge 91 = .ok (.aload 5, 2) := by decide +kernel
theorem dX7_judge_93 : decode cX7_judge 93 = .ok (.iload_n 3, 1) := by decide +kernel
theorem dX7_judge_94 : decode cX7_judge 94 = .ok (.iload 4, 2) := by decide +kernel
theorem dX7_judge_96 : decode cX7_judge 96 = .ok (.invokevirtual 172, 3) := by decide +kernel
theorem dX7_judge_99 : decode cX7_judge 99 = .ok (.ifCond .ne 6, 3) := by decide +kernel
theorem dX7_judge_102 : decode cX7_judge 102 = .ok (.bipush (-2), 2) := by decide +kernel
theorem dX7_judge_104 : decode cX7_judge 104 = .ok (.ireturn, 1) := by decide +kernel
theorem dX7_judge_105 : decode cX7_judge 105 = .ok (.iconst 0, 1) := by decide +kernel
theorem dX7_judge_106 : decode cX7_judge 106 = .ok (.istore 6, 2) := by decide +kernel
theorem dX7_judge_108 : decode cX7_judge 108 = .ok (.iload 6, 2) := by decide +kernel
theorem dX7_judge_110 : decode cX7_judge 110 = .ok (.iload 4, 2) := by decide +kernel
theorem dX7_judge_112 : decode cX7_judge 112 = .ok (.if_icmp .ge 24, 3) := by decide +kernel
theorem dX7_judge_115 : decode cX7_judge 115 = .ok (.aload_n 0, 1) := by decide +kernel
theorem dX7_judge_116 : decode cX7_judge 116 = .ok (.aload 5, 2) := by decide +kernel
theorem dX7_judge_118 : decode cX7_judge 118 = .ok (.iload_n 3, 1) := by decide +kernel
theorem dX7_judge_119 : decode cX7_judge 119 = .ok (.iload 6, 2) := by decide +kernel
theorem dX7_judge_121 : decode cX7_judge 121 = .ok (.invokevirtual 176, 3) := by decide +kernel
theorem dX7_judge_124 : decode cX7_judge 124 = .ok (.ifCond .ne 6, 3) := by decide +kernel
theorem dX7_judge_127 : decode cX7_judge 127 = .ok (.iload 6, 2) := by decide +kernel
theorem dX7_judge_129 : decode cX7_judge 129 = .ok (.ireturn, 1) := by decide +kernel
theorem dX7_judge_130 : decode cX7_judge 130 = .ok (.iinc 6 1, 3) := by decide +kernel
theorem dX7_judge_133 : decode cX7_judge 133 = .ok (.goto (-25), 3) := by decide +kernel
theorem dX7_judge_136 : decode cX7_judge 136 = .ok (.bipush (-9), 2) := by decide +kernel
theorem dX7_judge_138 : decode cX7_judge 138 = .ok (.ireturn, 1) := by decide +kernel
set_option maxRecDepth 20000 in
theorem ggX7_reading_X7_isPlace : GoodIn wsX7_reading wsX7_isPlace := goodIn_r _ [6, 7, 39, 40, 41, 42, 43, 44, 45, 46, 47] (by decide +kernel) (by decide +kernel)
set_option maxRecDepth 20000 in
theorem gX7_reading_X7_isPlace : GoodIn wsX7_reading (wsV RX7 106 RX7 yX7_isPlace wsX7_isPlace) := goodIn_app (goodIn_of _ (by decide +kernel)) ggX7_reading_X7_isPlace
set_option maxRecDepth 20000 in
theorem ggX7_reading_X7_isNight : GoodIn wsX7_reading wsX7_isNight := goodIn_r _ [10] (by decide +kernel) (by decide +kernel)
set_option maxRecDepth 20000 in
theorem gX7_reading_X7_isNight : GoodIn wsX7_reading (va_wsS RX7 100 yX7_isNight wsX7_isNight) := goodIn_app (goodIn_of _ (by decide +kernel)) ggX7_reading_X7_isNight
set_option maxRecDepth 20000 in
theorem ggX7_reading_X7_isGum : GoodIn wsX7_reading wsX7_isGum := goodIn_r _ [13] (by decide +kernel) (by decide +kernel)
set_option maxRecDepth 20000 in
theorem gX7_reading_X7_isGum : GoodIn wsX7_reading (va_wsS RX7 162 yX7_isGum wsX7_isGum) := goodIn_app (goodIn_of _ (by decide +kernel)) ggX7_reading_X7_isGum
set_option maxRecDepth 20000 in
theorem ggX7_reading_X5_isFull : GoodIn wsX7_reading wsX5_isFull := goodIn_r _ [18, 19, 20, 48, 49, 50, 51, 52, 53, 54] (by decide +kernel) (by decide +kernel)
set_option maxRecDepth 20000 in
theorem gX7_reading_X5_isFull : GoodIn wsX7_reading (wsV RX7 113 RX5 yX5_isFull wsX5_isFull) := goodIn_app (goodIn_of _ (by decide +kernel)) ggX7_reading_X5_isFull
set_option maxRecDepth 20000 in
theorem ggX7_reading_X5_add : GoodIn wsX7_reading wsX5_add := goodIn_r _ [24, 19, 20, 25, 26, 27, 28, 29, 30, 31, 32, 33, 34, 17, 35, 36, 37, 38, 48, 49, 50, 51, 52, 53, 54] (by decide +kernel) (by decide +kernel)
set_option maxRecDepth 20000 in
theorem gX7_reading_X5_add : GoodIn wsX7_reading (wsV RX7 116 RX5 yX5_add wsX5_add) := goodIn_app (goodIn_of _ (by decide +kernel)) ggX7_reading_X5_add
theorem dX7_reading_0 : decode cX7_reading 0 = .ok (.aload_n 0, 1) := by decide +kernel
theorem dX7_reading_1 : decode cX7_reading 1 = .ok (.iload_n 1, 1) := by decide +kernel
theorem dX7_reading_2 : decode cX7_reading 2 = .ok (.invokevirtual 106, 3) := by decide +kernel
theorem dX7_reading_5 : decode cX7_reading 5 = .ok (.ifCond .ne 5, 3) := by decide +kernel
theorem dX7_reading_8 : decode cX7_reading 8 = .ok (.iconst (-1), 1) := by decide +kernel
theorem dX7_reading_9 : decode cX7_reading 9 = .ok (.ireturn, 1) := by decide +kernel
theorem dX7_reading_10 : decode cX7_reading 10 = .ok (.iload_n 2, 1) := by decide +kernel
theorem dX7_reading_11 : decode cX7_reading 11 = .ok (.invokestatic 100, 3) := by decide +kernel
theorem dX7_reading_14 : decode cX7_reading 14 = .ok (.ifCond .eq 13, 3) := by decide +kernel
theorem dX7_reading_17 : decode cX7_reading 17 = .ok (.iload_n 3, 1) := by decide +kernel
theorem dX7_reading_18 : decode cX7_reading 18 = .ok (.ifCond .lt 9, 3) := by decide +kernel
theorem dX7_reading_21 : decode cX7_reading 21 = .ok (.iload_n 3, 1) := by decide +kernel
theorem dX7_reading_22 : decode cX7_reading 22 = .ok (.bipush 9, 2) := by decide +kernel
theorem dX7_reading_24 : decode cX7_reading 24 = .ok (.if_icmp .le 6, 3) := by decide +kernel
theorem dX7_reading_27 : decode cX7_reading 27 = .ok (.bipush (-2), 2) := by decide +kernel
theorem dX7_reading_29 : decode cX7_reading 29 = .ok (.ireturn, 1) := by decide +kernel
theorem dX7_reading_30 : decode cX7_reading 30 = .ok (.iload 4, 2) := by decide +kernel
theorem dX7_reading_32 : decode cX7_reading 32 = .ok (.invokestatic 162, 3) := by decide +kernel
theorem dX7_reading_35 : decode cX7_reading 35 = .ok (.ifCond .ne 13, 3) := by decide +kernel
theorem dX7_reading_38 : decode cX7_reading 38 = .ok (.iload 4, 2) := by decide +kernel
theorem dX7_reading_40 : decode cX7_reading 40 = .ok (.bipush 9, 2) := by decide +kernel
theorem dX7_reading_42 : decode cX7_reading 42 = .ok (.if_icmp .eq 6, 3) := by decide +kernel
theorem dX7_reading_45 : decode cX7_reading 45 = .ok (.bipush (-2), 2) := by decide +kernel
theorem dX7_reading_47 : decode cX7_reading 47 = .ok (.ireturn, 1) := by decide +kernel
theorem dX7_reading_48 : decode cX7_reading 48 = .ok (.aload_n 0, 1) := by decide +kernel
theorem dX7_reading_49 : decode cX7_reading 49 = .ok (.getfield 30, 3) := by decide +kernel
theorem dX7_reading_52 : decode cX7_reading 52 = .ok (.iconst 3, 1) := by decide +kernel
theorem dX7_reading_53 : decode cX7_reading 53 = .ok (.invokevirtual 113, 3) := by decide +kernel
theorem dX7_reading_56 : decode cX7_reading 56 = .ok (.ifCond .eq 6, 3) := by decide +kernel
theorem dX7_reading_59 : decode cX7_reading 59 = .ok (.bipush (-4), 2) := by decide +kernel
theorem dX7_reading_61 : decode cX7_reading 61 = .ok (.ireturn, 1) := by decide +kernel
theorem dX7_reading_62 : decode cX7_reading 62 = .ok (.aload_n 0, 1) := by decide +kernel
theorem dX7_reading_63 : decode cX7_reading 63 = .ok (.getfield 30, 3) := by decide +kernel
theorem dX7_reading_66 : decode cX7_reading 66 = .ok (.iconst 3, 1) := by decide +kernel
theorem dX7_reading_67 : decode cX7_reading 67 = .ok (.iload_n 2, 1) := by decide +kernel
theorem dX7_reading_68 : decode cX7_reading 68 = .ok (.iload_n 1, 1) := by decide +kernel
theorem dX7_reading_69 : decode cX7_reading 69 = .ok (.iload_n 3, 1) := by decide +kernel
theorem dX7_reading_70 : decode cX7_reading 70 = .ok (.iload 4, 2) := by decide +kernel
theorem dX7_reading_72 : decode cX7_reading 72 = .ok (.invokevirtual 116, 3) := by decide +kernel
theorem dX7_reading_75 : decode cX7_reading 75 = .ok (.ireturn, 1) := by decide +kernel
set_option maxRecDepth 20000 in
theorem ggX7_back_X5_takeBack : GoodIn wsX7_back wsX5_takeBack := goodIn_r _ [6, 7, 8, 9, 10, 11, 12, 5, 13, 23, 24, 25, 26, 27, 28, 29] (by decide +kernel) (by decide +kernel)
set_option maxRecDepth 20000 in
theorem gX7_back_X5_takeBack : GoodIn wsX7_back (wsV RX7 120 RX5 yX5_takeBack wsX5_takeBack) := goodIn_app (goodIn_of _ (by decide +kernel)) ggX7_back_X5_takeBack
theorem dX7_back_0 : decode cX7_back 0 = .ok (.aload_n 0, 1) := by decide +kernel
theorem dX7_back_1 : decode cX7_back 1 = .ok (.getfield 30, 3) := by decide +kernel
theorem dX7_back_4 : decode cX7_back 4 = .ok (.iconst 3, 1) := by decide +kernel
theorem dX7_back_5 : decode cX7_back 5 = .ok (.iload_n 1, 1) := by decide +kernel
theorem dX7_back_6 : decode cX7_back 6 = .ok (.invokevirtual 120, 3) := by decide +kernel
theorem dX7_back_9 : decode cX7_back 9 = .ok (.ireturn, 1) := by decide +kernel
set_option maxRecDepth 20000 in
theorem ggX7_sat_X7_isPlace : GoodIn wsX7_sat wsX7_isPlace := goodIn_r _ [6, 7, 153, 154, 155, 156, 157, 158, 159, 160, 161] (by decide +kernel) (by decide +kernel)
set_option maxRecDepth 20000 in
theorem gX7_sat_X7_isPlace : GoodIn wsX7_sat (wsV RX7 106 RX7 yX7_isPlace wsX7_isPlace) := goodIn_app (goodIn_of _ (by decide +kernel)) ggX7_sat_X7_isPlace
set_option maxRecDepth 20000 in
theorem ggX7_sat_X7_isNight : GoodIn wsX7_sat wsX7_isNight := goodIn_r _ [10] (by decide +kernel) (by decide +kernel)
set_option maxRecDepth 20000 in
theorem gX7_sat_X7_isNight : GoodIn wsX7_sat (va_wsS RX7 100 yX7_isNight wsX7_isNight) := goodIn_app (goodIn_of _ (by decide +kernel)) ggX7_sat_X7_isNight
set_option maxRecDepth 20000 in
theorem ggX7_sat_X7_maySit : GoodIn wsX7_sat wsX7_maySit := goodIn_r _ [14, 15, 16, 17, 5, 18, 19, 20, 21, 22, 23, 24, 25, 26, 27, 28, 29, 30, 31, 32, 33, 34, 35, 36, 37, 38, 39, 40, 41, 42, 43, 44, 45, 46, 47, 48, 49, 153, 154, 155, 156, 157, 158, 159, 160, 161, 162, 163, 164, 165, 166, 167, 168] (by decide +kernel) (by decide +kernel)
set_option maxRecDepth 20000 in
theorem gX7_sat_X7_maySit : GoodIn wsX7_sat (wsV RX7 109 RX7 yX7_maySit wsX7_maySit) := goodIn_app (goodIn_of _ (by decide +kernel)) ggX7_sat_X7_maySit
set_option maxRecDepth 20000 in
theorem ggX7_sat_X7_isSoWith : GoodIn wsX7_sat wsX7_isSoWith := goodIn_r _ [53, 19, 54, 55, 56, 57, 5, 58, 59, 60, 61, 62, 1, 63, 64, 65, 66, 67, 68, 69, 70, 71, 72, 73, 74, 75, 76, 77, 78, 79, 80, 81, 82, 83, 84, 85, 86, 87, 88, 23, 89, 25, 90, 91, 35, 30, 45, 40, 92, 93, 94, 95, 96, 97, 98, 99, 100, 101, 102, 103, 104, 31, 32, 33, 34, 105, 106, 107, 108, 109, 110, 111, 112, 113, 114, 115, 116, 117, 118, 119, 120, 121, 122, 123, 124, 125, 126, 127, 128, 129, 130, 131, 132, 133, 134, 135, 136, 137, 138, 139, 140, 141, 142, 143, 144, 145, 146, 147, 148, 149, 150, 151, 152, 153, 154, 155, 156, 157, 158, 159, 160, 161, 169, 170, 171, 162, 163, 164, 165, 166, 167, 168, 172, 173, 174] (by decide +kernel) (by decide +kernel)
set_option maxRecDepth 20000 in
theorem gX7_sat_X7_isSoWith : GoodIn wsX7_sat (wsV RX7 179 RX7 yX7_isSoWith wsX7_isSoWith) := goodIn_app (goodIn_of _ (by decide +kernel)) ggX7_sat_X7_isSoWith
theorem dX7_sat_0 : decode cX7_sat 0 = .ok (.aload_n 0, 1) := by decide +kernel
theorem dX7_sat_1 : decode cX7_sat 1 = .ok (.iload_n 1, 1) := by decide +kernel
theorem dX7_sat_2 : decode cX7_sat 2 = .ok (.invokevirtual 106, 3) := by decide +kernel
theorem dX7_sat_5 : decode cX7_sat 5 = .ok (.ifCond .ne 5, 3) := by decide +kernel
theorem dX7_sat_8 : decode cX7_sat 8 = .ok (.iconst (-1), 1) := by decide +kernel
theorem dX7_sat_9 : decode cX7_sat 9 = .ok (.ireturn, 1) := by decide +kernel
theorem dX7_sat_10 : decode cX7_sat 10 = .ok (.iload_n 2, 1) := by decide +kernel
theorem dX7_sat_11 : decode cX7_sat 11 = .ok (.invokestatic 100, 3) := by decide +kernel
theorem dX7_sat_14 : decode cX7_sat 14 = .ok (.ifCond .ne 6, 3) := by decide +kernel
theorem dX7_sat_17 : decode cX7_sat 17 = .ok (.bipush (-2), 2) := by decide +kernel
theorem dX7_sat_19 : decode cX7_sat 19 = .ok (.ireturn, 1) := by decide +kernel
theorem dX7_sat_20 : decode cX7_sat 20 = .ok (.iconst 0, 1) := by decide +kernel
theorem dX7_sat_21 : decode cX7_sat 21 = .ok (.istore_n 3, 1) := by decide +kernel
theorem dX7_sat_22 : decode cX7_sat 22 = .ok (.iconst 0, 1) := by decide +kernel
theorem dX7_sat_23 : decode cX7_sat 23 = .ok (.istore 4, 2) := by decide +kernel
theorem dX7_sat_25 : decode cX7_sat 25 = .ok (.iload 4, 2) := by decide +kernel
theorem dX7_sat_27 : decode cX7_sat 27 = .ok (.aload_n 0, 1) := by decide +kernel
theorem dX7_sat_28 : decode cX7_sat 28 = .ok (.getfield 48, 3) := by decide +kernel
theorem dX7_sat_31 : decode cX7_sat 31 = .ok (.if_icmp .ge 39, 3) := by decide +kernel
theorem dX7_sat_34 : decode cX7_sat 34 = .ok (.aload_n 0, 1) := by decide +kernel
theorem dX7_sat_35 : decode cX7_sat 35 = .ok (.iload 4, 2) := by decide +kernel
theorem dX7_sat_37 : decode cX7_sat 37 = .ok (.iload_n 1, 1) := by decide +kernel
theorem dX7_sat_38 : decode cX7_sat 38 = .ok (.iload_n 2, 1) := by decide +kernel
theorem dX7_sat_39 : decode cX7_sat 39 = .ok (.invokevirtual 109, 3) := by decide +kernel
theorem dX7_sat_42 : decode cX7_sat 42 = .ok (.ifCond .eq 22, 3) := by decide +kernel
theorem dX7_sat_45 : decode cX7_sat 45 = .ok (.aload_n 0, 1) := by decide +kernel
theorem dX7_sat_46 : decode cX7_sat 46 = .ok (.iconst 2, 1) := by decide +kernel
theorem dX7_sat_47 : decode cX7_sat 47 = .ok (.iload_n 2, 1) := by decide +kernel
theorem dX7_sat_48 : decode cX7_sat 48 = .ok (.iload_n 1, 1) := by decide +kernel
theorem dX7_sat_49 : decode cX7_sat 49 = .ok (.iload 4, 2) := by decide +kernel
theorem dX7_sat_51 : decode cX7_sat 51 = .ok (.invokevirtual 179, 3) := by decide +kernel
theorem dX7_sat_54 : decode cX7_sat 54 = .ok (.ifCond .eq 10, 3) := by decide +kernel
theorem dX7_sat_57 : decode cX7_sat 57 = .ok (.iload_n 3, 1) := by decide +kernel
theorem dX7_sat_58 : decode cX7_sat 58 = .ok (.iconst 1, 1) := by decide +kernel
theorem dX7_sat_59 : decode cX7_sat 59 = .ok (.iload 4, 2) := by decide +kernel
theorem dX7_sat_61 : decode cX7_sat 61 = .ok (.ishl, 1) := by decide +kernel
theorem dX7_sat_62 : decode cX7_sat 62 = .ok (.ior, 1) := by decide +kernel
theorem dX7_sat_63 : decode cX7_sat 63 = .ok (.istore_n 3, 1) := by decide +kernel
theorem dX7_sat_64 : decode cX7_sat 64 = .ok (.iinc 4 1, 3) := by decide +kernel
theorem dX7_sat_67 : decode cX7_sat 67 = .ok (.goto (-42), 3) := by decide +kernel
theorem dX7_sat_70 : decode cX7_sat 70 = .ok (.iload_n 3, 1) := by decide +kernel
theorem dX7_sat_71 : decode cX7_sat 71 = .ok (.ireturn, 1) := by decide +kernel
set_option maxRecDepth 20000 in
theorem ggX7_moved_X7_isNight : GoodIn wsX7_moved wsX7_isNight := goodIn_r _ [5] (by decide +kernel) (by decide +kernel)
set_option maxRecDepth 20000 in
theorem gX7_moved_X7_isNight : GoodIn wsX7_moved (va_wsS RX7 100 yX7_isNight wsX7_isNight) := goodIn_app (goodIn_of _ (by decide +kernel)) ggX7_moved_X7_isNight
set_option maxRecDepth 20000 in
theorem ggX7_moved_X7_hasHall : GoodIn wsX7_moved wsX7_hasHall := goodIn_r _ [9, 10, 125, 126, 127, 128, 129, 130, 131, 132, 133] (by decide +kernel) (by decide +kernel)
set_option maxRecDepth 20000 in
theorem gX7_moved_X7_hasHall : GoodIn wsX7_moved (wsV RX7 165 RX7 yX7_hasHall wsX7_hasHall) := goodIn_app (goodIn_of _ (by decide +kernel)) ggX7_moved_X7_hasHall
set_option maxRecDepth 20000 in
theorem ggX7_moved_X7_isSoWith : GoodIn wsX7_moved wsX7_isSoWith := goodIn_r _ [14, 15, 16, 17, 18, 19, 4, 20, 21, 22, 23, 24, 10, 25, 26, 27, 28, 29, 30, 31, 32, 33, 34, 35, 36, 37, 38, 39, 40, 41, 42, 43, 44, 45, 46, 47, 48, 49, 50, 51, 52, 53, 54, 55, 56, 57, 58, 59, 60, 61, 62, 63, 64, 65, 66, 67, 68, 69, 70, 71, 72, 73, 74, 75, 76, 77, 78, 79, 80, 81, 82, 83, 84, 85, 86, 87, 88, 89, 90, 91, 92, 93, 94, 95, 96, 97, 98, 99, 100, 101, 102, 103, 104, 105, 106, 107, 108, 109, 110, 111, 112, 113, 114, 115, 116, 117, 118, 119, 120, 121, 122, 123, 124, 125, 126, 127, 128, 129, 130, 131, 132, 133, 134, 135, 136, 137, 138, 139, 140, 141, 142, 143, 144, 145, 146] (by decide +kernel) (by decide +kernel)
set_option maxRecDepth 20000 in
theorem gX7_moved_X7_isSoWith : GoodIn wsX7_moved (wsV RX7 179 RX7 yX7_isSoWith wsX7_isSoWith) := goodIn_app (goodIn_of _ (by decide +kernel)) ggX7_moved_X7_isSoWith
theorem dX7_moved_0 : decode cX7_moved 0 = .ok (.iload_n 1, 1) := by decide +kernel
theorem dX7_moved_1 : decode cX7_moved 1 = .ok (.invokestatic 100, 3) := by decide +kernel
theorem dX7_moved_4 : decode cX7_moved 4 = .ok (.ifCond .ne 6, 3) := by decide +kernel
theorem dX7_moved_7 : decode cX7_moved 7 = .ok (.bipush (-2), 2) := by decide +kernel
theorem dX7_moved_9 : decode cX7_moved 9 = .ok (.ireturn, 1) := by decide +kernel
theorem dX7_moved_10 : decode cX7_moved 10 = .ok (.aload_n 0, 1) := by decide +kernel
theorem dX7_moved_11 : decode cX7_moved 11 = .ok (.invokevirtual 165, 3) := by decide +kernel
theorem dX7_moved_14 : decode cX7_moved 14 = .ok (.ifCond .ne 6, 3) := by decide +kernel
theorem dX7_moved_17 : decode cX7_moved 17 = .ok (.bipush (-3), 2) := by decide +kernel
theorem dX7_moved_19 : decode cX7_moved 19 = .ok (.ireturn, 1) := by decide +kernel
theorem dX7_moved_20 : decode cX7_moved 20 = .ok (.iconst 0, 1) := by decide +kernel
theorem dX7_moved_21 : decode cX7_moved 21 = .ok (.istore_n 2, 1) := by decide +kernel
theorem dX7_moved_22 : decode cX7_moved 22 = .ok (.iload_n 2, 1) := by decide +kernel
theorem dX7_moved_23 : decode cX7_moved 23 = .ok (.aload_n 0, 1) := by decide +kernel
theorem dX7_moved_24 : decode cX7_moved 24 = .ok (.getfield 52, 3) := by decide +kernel
theorem dX7_moved_27 : decode cX7_moved 27 = .ok (.if_icmp .ge 45, 3) := by decide +kernel
theorem dX7_moved_30 : decode cX7_moved 30 = .ok (.iload_n 2, 1) := by decide +kernel
theorem dX7_moved_31 : decode cX7_moved 31 = .ok (.iconst 1, 1) := by decide +kernel
theorem dX7_moved_32 : decode cX7_moved 32 = .ok (.iadd, 1) := by decide +kernel
theorem dX7_moved_33 : decode cX7_moved 33 = .ok (.istore_n 3, 1) := by decide +kernel
theorem dX7_moved_34 : decode cX7_moved 34 = .ok (.iload_n 3, 1) := by decide +kernel
theorem dX7_moved_35 : decode cX7_moved 35 = .ok (.aload_n 0, 1) := by decide +kernel
theorem dX7_moved_36 : decode cX7_moved 36 = .ok (.getfield 52, 3) := by decide +kernel
theorem dX7_moved_39 : decode cX7_moved 39 = .ok (.if_icmp .ge 27, 3) := by decide +kernel
theorem dX7_moved_42 : decode cX7_moved 42 = .ok (.aload_n 0, 1) := by decide +kernel
theorem dX7_moved_43 : decode cX7_moved 43 = .ok (.iconst 1, 1) := by decide +kernel
theorem dX7_moved_44 : decode cX7_moved 44 = .ok (.iload_n 1, 1) := by decide +kernel
theorem dX7_moved_45 : decode cX7_moved 45 = .ok (.iload_n 2, 1) := by decide +kernel
theorem dX7_moved_46 : decode cX7_moved 46 = .ok (.iload_n 3, 1) := by decide +kernel
theorem dX7_moved_47 : decode cX7_moved 47 = .ok (.invokevirtual 179, 3) := by decide +kernel
theorem dX7_moved_50 : decode cX7_moved 50 = .ok (.ifCond .eq 10, 3) := by decide +kernel
theorem dX7_moved_53 : decode cX7_moved 53 = .ok (.bipush 10, 2) := by decide +kernel
theorem dX7_moved_55 : decode cX7_moved 55 = .ok (.iload_n 2, 1) := by decide +kernel
theorem dX7_moved_56 : decode cX7_moved 56 = .ok (.imul, 1) := by decide +kernel
theorem dX7_moved_57 : decode cX7_moved 57 = .ok (.iload_n 3, 1) := by decide +kernel
theorem dX7_moved_58 : decode cX7_moved 58 = .ok (.iadd, 1) := by decide +kernel
theorem dX7_moved_59 : decode cX7_moved 59 = .ok (.ireturn, 1) := by decide +kernel
theorem dX7_moved_60 : decode cX7_moved 60 = .ok (.iinc 3 1, 3) := by decide +kernel
theorem dX7_moved_63 : decode cX7_moved 63 = .ok (.goto (-29), 3) := by decide +kernel
theorem dX7_moved_66 : decode cX7_moved 66 = .ok (.iinc 2 1, 3) := by decide +kernel
theorem dX7_moved_69 : decode cX7_moved 69 = .ok (.goto (-47), 3) := by decide +kernel
theorem dX7_moved_72 : decode cX7_moved 72 = .ok (.bipush (-9), 2) := by decide +kernel
theorem dX7_moved_74 : decode cX7_moved 74 = .ok (.ireturn, 1) := by decide +kernel
set_option maxRecDepth 20000 in
theorem ggX7_scraped_X7_isNight : GoodIn wsX7_scraped wsX7_isNight := goodIn_r _ [5] (by decide +kernel) (by decide +kernel)
set_option maxRecDepth 20000 in
theorem gX7_scraped_X7_isNight : GoodIn wsX7_scraped (va_wsS RX7 100 yX7_isNight wsX7_isNight) := goodIn_app (goodIn_of _ (by decide +kernel)) ggX7_scraped_X7_isNight
set_option maxRecDepth 20000 in
theorem ggX7_scraped_X7_hasHall : GoodIn wsX7_scraped wsX7_hasHall := goodIn_r _ [9, 10, 125, 126, 127, 128, 129, 130, 131, 132, 133] (by decide +kernel) (by decide +kernel)
set_option maxRecDepth 20000 in
theorem gX7_scraped_X7_hasHall : GoodIn wsX7_scraped (wsV RX7 165 RX7 yX7_hasHall wsX7_hasHall) := goodIn_app (goodIn_of _ (by decide +kernel)) ggX7_scraped_X7_hasHall
set_option maxRecDepth 20000 in
theorem ggX7_scraped_X7_isSoWith : GoodIn wsX7_scraped wsX7_isSoWith := goodIn_r _ [14, 15, 16, 17, 18, 19, 4, 20, 21, 22, 23, 24, 10, 25, 26, 27, 28, 29, 30, 31, 32, 33, 34, 35, 36, 37, 38, 39, 40, 41, 42, 43, 44, 45, 46, 47, 48, 49, 50, 51, 52, 53, 54, 55, 56, 57, 58, 59, 60, 61, 62, 63, 64, 65, 66, 67, 68, 69, 70, 71, 72, 73, 74, 75, 76, 77, 78, 79, 80, 81, 82, 83, 84, 85, 86, 87, 88, 89, 90, 91, 92, 93, 94, 95, 96, 97, 98, 99, 100, 101, 102, 103, 104, 105, 106, 107, 108, 109, 110, 111, 112, 113, 114, 115, 116, 117, 118, 119, 120, 121, 122, 123, 124, 125, 126, 127, 128, 129, 130, 131, 132, 133, 134, 135, 136, 137, 138, 139, 140, 141, 142, 143, 144, 145, 146] (by decide +kernel) (by decide +kernel)
set_option maxRecDepth 20000 in
theorem gX7_scraped_X7_isSoWith : GoodIn wsX7_scraped (wsV RX7 179 RX7 yX7_isSoWith wsX7_isSoWith) := goodIn_app (goodIn_of _ (by decide +kernel)) ggX7_scraped_X7_isSoWith
theorem dX7_scraped_0 : decode cX7_scraped 0 = .ok (.iload_n 1, 1) := by decide +kernel
theorem dX7_scraped_1 : decode cX7_scraped 1 = .ok (.invokestatic 100, 3) := by decide +kernel
theorem dX7_scraped_4 : decode cX7_scraped 4 = .ok (.ifCond .ne 6, 3) := by decide +kernel
theorem dX7_scraped_7 : decode cX7_scraped 7 = .ok (.bipush (-2), 2) := by decide +kernel
theorem dX7_scraped_9 : decode cX7_scraped 9 = .ok (.ireturn, 1) := by decide +kernel
theorem dX7_scraped_10 : decode cX7_scraped 10 = .ok (.aload_n 0, 1) := by decide +kernel
theorem dX7_scraped_11 : decode cX7_scraped 11 = .ok (.invokevirtual 165, 3) := by decide +kernel
theorem dX7_scraped_14 : decode cX7_scraped 14 = .ok (.ifCond .ne 6, 3) := by decide +kernel
theorem dX7_scraped_17 : decode cX7_scraped 17 = .ok (.bipush (-3), 2) := by decide +kernel
theorem dX7_scraped_19 : decode cX7_scraped 19 = .ok (.ireturn, 1) := by decide +kernel
theorem dX7_scraped_20 : decode cX7_scraped 20 = .ok (.iconst 0, 1) := by decide +kernel
theorem dX7_scraped_21 : decode cX7_scraped 21 = .ok (.istore_n 2, 1) := by decide +kernel
theorem dX7_scraped_22 : decode cX7_scraped 22 = .ok (.iconst 0, 1) := by decide +kernel
theorem dX7_scraped_23 : decode cX7_scraped 23 = .ok (.istore_n 3, 1) := by decide +kernel
theorem dX7_scraped_24 : decode cX7_scraped 24 = .ok (.iload_n 3, 1) := by decide +kernel
theorem dX7_scraped_25 : decode cX7_scraped 25 = .ok (.aload_n 0, 1) := by decide +kernel
theorem dX7_scraped_26 : decode cX7_scraped 26 = .ok (.getfield 52, 3) := by decide +kernel
theorem dX7_scraped_29 : decode cX7_scraped 29 = .ok (.if_icmp .ge 26, 3) := by decide +kernel
theorem dX7_scraped_32 : decode cX7_scraped 32 = .ok (.aload_n 0, 1) := by decide +kernel
theorem dX7_scraped_33 : decode cX7_scraped 33 = .ok (.iconst 0, 1) := by decide +kernel
theorem dX7_scraped_34 : decode cX7_scraped 34 = .ok (.iload_n 1, 1) := by decide +kernel
theorem dX7_scraped_35 : decode cX7_scraped 35 = .ok (.iload_n 3, 1) := by decide +kernel
theorem dX7_scraped_36 : decode cX7_scraped 36 = .ok (.iconst 0, 1) := by decide +kernel
theorem dX7_scraped_37 : decode cX7_scraped 37 = .ok (.invokevirtual 179, 3) := by decide +kernel
theorem dX7_scraped_40 : decode cX7_scraped 40 = .ok (.ifCond .eq 9, 3) := by decide +kernel
theorem dX7_scraped_43 : decode cX7_scraped 43 = .ok (.iload_n 2, 1) := by decide +kernel
theorem dX7_scraped_44 : decode cX7_scraped 44 = .ok (.iconst 1, 1) := by decide +kernel
theorem dX7_scraped_45 : decode cX7_scraped 45 = .ok (.iload_n 3, 1) := by decide +kernel
theorem dX7_scraped_46 : decode cX7_scraped 46 = .ok (.ishl, 1) := by decide +kernel
theorem dX7_scraped_47 : decode cX7_scraped 47 = .ok (.ior, 1) := by decide +kernel
theorem dX7_scraped_48 : decode cX7_scraped 48 = .ok (.istore_n 2, 1) := by decide +kernel
theorem dX7_scraped_49 : decode cX7_scraped 49 = .ok (.iinc 3 1, 3) := by decide +kernel
theorem dX7_scraped_52 : decode cX7_scraped 52 = .ok (.goto (-28), 3) := by decide +kernel
theorem dX7_scraped_55 : decode cX7_scraped 55 = .ok (.iload_n 2, 1) := by decide +kernel
theorem dX7_scraped_56 : decode cX7_scraped 56 = .ok (.ireturn, 1) := by decide +kernel
set_option maxRecDepth 20000 in
theorem ggX7_never_X7_hasHall : GoodIn wsX7_never wsX7_hasHall := goodIn_r _ [7, 8, 76, 77, 78, 79, 80, 81, 82, 83, 84] (by decide +kernel) (by decide +kernel)
set_option maxRecDepth 20000 in
theorem gX7_never_X7_hasHall : GoodIn wsX7_never (wsV RX7 165 RX7 yX7_hasHall wsX7_hasHall) := goodIn_app (goodIn_of _ (by decide +kernel)) ggX7_never_X7_hasHall
set_option maxRecDepth 20000 in
theorem ggX7_never_X5_count : GoodIn wsX7_never wsX5_count := goodIn_r _ [13, 14, 85, 86, 87, 88, 89, 90, 91] (by decide +kernel) (by decide +kernel)
set_option maxRecDepth 20000 in
theorem gX7_never_X5_count : GoodIn wsX7_never (wsV RX7 140 RX5 yX5_count wsX5_count) := goodIn_app (goodIn_of _ (by decide +kernel)) ggX7_never_X5_count
set_option maxRecDepth 20000 in
theorem ggX7_never_X5_isSoWithout : GoodIn wsX7_never wsX5_isSoWithout := goodIn_r _ [18, 19, 20, 21, 22, 23, 12, 24, 14, 25, 26, 27, 28, 29, 30, 31, 32, 33, 34, 35, 36, 37, 38, 39, 40, 41, 42, 43, 44, 45, 46, 47, 48, 49, 50, 51, 52, 53, 54, 55, 56, 57, 58, 59, 60, 61, 62, 63, 64, 65, 66, 67, 68, 69, 70, 71, 72, 73, 74, 75, 85, 86, 87, 88, 89, 90, 91, 92, 93, 94] (by decide +kernel) (by decide +kernel)
set_option maxRecDepth 20000 in
theorem gX7_never_X5_isSoWithout : GoodIn wsX7_never (wsV RX7 183 RX5 yX5_isSoWithout wsX5_isSoWithout) := goodIn_app (goodIn_of _ (by decide +kernel)) ggX7_never_X5_isSoWithout
theorem dX7_never_0 : decode cX7_never 0 = .ok (.aload_n 0, 1) := by decide +kernel
theorem dX7_never_1 : decode cX7_never 1 = .ok (.invokevirtual 165, 3) := by decide +kernel
theorem dX7_never_4 : decode cX7_never 4 = .ok (.ifCond .ne 6, 3) := by decide +kernel
theorem dX7_never_7 : decode cX7_never 7 = .ok (.bipush (-3), 2) := by decide +kernel
theorem dX7_never_9 : decode cX7_never 9 = .ok (.ireturn, 1) := by decide +kernel
theorem dX7_never_10 : decode cX7_never 10 = .ok (.iconst 0, 1) := by decide +kernel
theorem dX7_never_11 : decode cX7_never 11 = .ok (.istore_n 1, 1) := by decide +kernel
theorem dX7_never_12 : decode cX7_never 12 = .ok (.iconst 0, 1) := by decide +kernel
theorem dX7_never_13 : decode cX7_never 13 = .ok (.istore_n 2, 1) := by decide +kernel
theorem dX7_never_14 : decode cX7_never 14 = .ok (.iload_n 2, 1) := by decide +kernel
theorem dX7_never_15 : decode cX7_never 15 = .ok (.aload_n 0, 1) := by decide +kernel
theorem dX7_never_16 : decode cX7_never 16 = .ok (.getfield 30, 3) := by decide +kernel
theorem dX7_never_19 : decode cX7_never 19 = .ok (.iconst 2, 1) := by decide +kernel
theorem dX7_never_20 : decode cX7_never 20 = .ok (.invokevirtual 140, 3) := by decide +kernel
theorem dX7_never_23 : decode cX7_never 23 = .ok (.if_icmp .ge 30, 3) := by decide +kernel
theorem dX7_never_26 : decode cX7_never 26 = .ok (.aload_n 0, 1) := by decide +kernel
theorem dX7_never_27 : decode cX7_never 27 = .ok (.getfield 30, 3) := by decide +kernel
theorem dX7_never_30 : decode cX7_never 30 = .ok (.iload_n 2, 1) := by decide +kernel
theorem dX7_never_31 : decode cX7_never 31 = .ok (.aload_n 0, 1) := by decide +kernel
theorem dX7_never_32 : decode cX7_never 32 = .ok (.getfield 37, 3) := by decide +kernel
theorem dX7_never_35 : decode cX7_never 35 = .ok (.invokevirtual 183, 3) := by decide +kernel
theorem dX7_never_38 : decode cX7_never 38 = .ok (.ifCond .eq 9, 3) := by decide +kernel
theorem dX7_never_41 : decode cX7_never 41 = .ok (.iload_n 1, 1) := by decide +kernel
theorem dX7_never_42 : decode cX7_never 42 = .ok (.iconst 1, 1) := by decide +kernel
theorem dX7_never_43 : decode cX7_never 43 = .ok (.iload_n 2, 1) := by decide +kernel
theorem dX7_never_44 : decode cX7_never 44 = .ok (.ishl, 1) := by decide +kernel
theorem dX7_never_45 : decode cX7_never 45 = .ok (.ior, 1) := by decide +kernel
theorem dX7_never_46 : decode cX7_never 46 = .ok (.istore_n 1, 1) := by decide +kernel
theorem dX7_never_47 : decode cX7_never 47 = .ok (.iinc 2 1, 3) := by decide +kernel
theorem dX7_never_50 : decode cX7_never 50 = .ok (.goto (-36), 3) := by decide +kernel
theorem dX7_never_53 : decode cX7_never 53 = .ok (.iload_n 1, 1) := by decide +kernel
theorem dX7_never_54 : decode cX7_never 54 = .ok (.ireturn, 1) := by decide +kernel
set_option maxRecDepth 20000 in
theorem ggX7_look_X7_isNight : GoodIn wsX7_look wsX7_isNight := goodIn_r _ [10] (by decide +kernel) (by decide +kernel)
set_option maxRecDepth 20000 in
theorem gX7_look_X7_isNight : GoodIn wsX7_look (va_wsS RX7 100 yX7_isNight wsX7_isNight) := goodIn_app (goodIn_of _ (by decide +kernel)) ggX7_look_X7_isNight
set_option maxRecDepth 20000 in
theorem ggX7_look_X7_isEither : GoodIn wsX7_look wsX7_isEither := goodIn_r _ [13] (by decide +kernel) (by decide +kernel)
set_option maxRecDepth 20000 in
theorem gX7_look_X7_isEither : GoodIn wsX7_look (va_wsS RX7 90 yX7_isEither wsX7_isEither) := goodIn_app (goodIn_of _ (by decide +kernel)) ggX7_look_X7_isEither
set_option maxRecDepth 20000 in
theorem ggX7_look_X7_hasHall : GoodIn wsX7_look wsX7_hasHall := goodIn_r _ [17, 1, 116, 117, 118, 119, 120, 121, 122, 123, 124] (by decide +kernel) (by decide +kernel)
set_option maxRecDepth 20000 in
theorem gX7_look_X7_hasHall : GoodIn wsX7_look (wsV RX7 165 RX7 yX7_hasHall wsX7_hasHall) := goodIn_app (goodIn_of _ (by decide +kernel)) ggX7_look_X7_hasHall
set_option maxRecDepth 20000 in
theorem ggX7_look_X7_seatedOn : GoodIn wsX7_look wsX7_seatedOn := goodIn_r _ [21, 22, 23, 24, 25, 26, 27, 28, 29, 30, 31, 32, 33, 34, 35, 36, 37, 38, 116, 117, 118, 119, 120, 121, 122, 123, 124, 125, 126, 127, 128, 129, 130, 131] (by decide +kernel) (by decide +kernel)
set_option maxRecDepth 20000 in
theorem gX7_look_X7_seatedOn : GoodIn wsX7_look (wsV RX7 187 RX7 yX7_seatedOn wsX7_seatedOn) := goodIn_app (goodIn_of _ (by decide +kernel)) ggX7_look_X7_seatedOn
set_option maxRecDepth 20000 in
theorem ggX7_look_X7_mostAlike : GoodIn wsX7_look wsX7_mostAlike := goodIn_r _ [42, 43, 1, 3, 4, 5, 6, 44, 45, 46, 47, 48, 49, 50, 9, 51, 52, 53, 54, 55, 56, 57, 58, 59, 60, 61, 62, 63, 64, 65, 66, 67, 68, 69, 70, 71, 72, 73, 74, 75, 76, 77, 78, 79, 80, 81, 82, 83, 84, 85, 22, 23, 24, 25, 26, 27, 28, 29, 30, 31, 32, 33, 34, 35, 36, 37, 38, 86, 87, 88, 89, 90, 91, 92, 93, 94, 95, 116, 117, 118, 119, 120, 121, 122, 123, 124, 132, 133, 134, 125, 126, 127, 128, 129, 130, 131] (by decide +kernel) (by decide +kernel)
set_option maxRecDepth 20000 in
theorem gX7_look_X7_mostAlike : GoodIn wsX7_look (wsV RX7 190 RX7 yX7_mostAlike wsX7_mostAlike) := goodIn_app (goodIn_of _ (by decide +kernel)) ggX7_look_X7_mostAlike
set_option maxRecDepth 20000 in
theorem ggX7_look_X7_telling : GoodIn wsX7_look wsX7_telling := goodIn_r _ [99, 2, 22, 100, 101, 102, 9, 103, 23, 24, 25, 26, 27, 28, 29, 30, 31, 32, 33, 34, 35, 36, 37, 38, 91, 92, 93, 94, 95, 104, 105, 106, 107, 108, 109, 90, 110, 111, 112, 113, 114, 115, 116, 117, 118, 119, 120, 121, 122, 123, 124, 125, 126, 127, 128, 129, 130, 131] (by decide +kernel) (by decide +kernel)
set_option maxRecDepth 20000 in
theorem gX7_look_X7_telling : GoodIn wsX7_look (wsV RX7 196 RX7 yX7_telling wsX7_telling) := goodIn_app (goodIn_of _ (by decide +kernel)) ggX7_look_X7_telling
theorem dX7_look_0 : decode cX7_look 0 = .ok (.iload_n 1, 1) := by decide +kernel
theorem dX7_look_1 : decode cX7_look 1 = .ok (.invokestatic 100, 3) := by decide +kernel
theorem dX7_look_4 : decode cX7_look 4 = .ok (.ifCond .eq 17, 3) := by decide +kernel
theorem dX7_look_7 : decode cX7_look 7 = .ok (.iload_n 2, 1) := by decide +kernel
theorem dX7_look_8 : decode cX7_look 8 = .ok (.invokestatic 100, 3) := by decide +kernel
theorem dX7_look_11 : decode cX7_look 11 = .ok (.ifCond .eq 10, 3) := by decide +kernel
theorem dX7_look_14 : decode cX7_look 14 = .ok (.iload_n 3, 1) := by decide +kernel
theorem dX7_look_15 : decode cX7_look 15 = .ok (.invokestatic 90, 3) := by decide +kernel
theorem dX7_look_18 : decode cX7_look 18 = .ok (.ifCond .ne 6, 3) := by decide +kernel
theorem dX7_look_21 : decode cX7_look 21 = .ok (.bipush (-2), 2) := by decide +kernel
theorem dX7_look_23 : decode cX7_look 23 = .ok (.ireturn, 1) := by decide +kernel
theorem dX7_look_24 : decode cX7_look 24 = .ok (.aload_n 0, 1) := by decide +kernel
theorem dX7_look_25 : decode cX7_look 25 = .ok (.invokevirtual 165, 3) := by decide +kernel
theorem dX7_look_28 : decode cX7_look 28 = .ok (.ifCond .ne 6, 3) := by decide +kernel
theorem dX7_look_31 : decode cX7_look 31 = .ok (.bipush (-3), 2) := by decide +kernel
theorem dX7_look_33 : decode cX7_look 33 = .ok (.ireturn, 1) := by decide +kernel
theorem dX7_look_34 : decode cX7_look 34 = .ok (.aload_n 0, 1) := by decide +kernel
theorem dX7_look_35 : decode cX7_look 35 = .ok (.getfield 48, 3) := by decide +kernel
theorem dX7_look_38 : decode cX7_look 38 = .ok (.aload_n 0, 1) := by decide +kernel
theorem dX7_look_39 : decode cX7_look 39 = .ok (.iload_n 1, 1) := by decide +kernel
theorem dX7_look_40 : decode cX7_look 40 = .ok (.invokevirtual 187, 3) := by decide +kernel
theorem dX7_look_43 : decode cX7_look 43 = .ok (.isub, 1) := by decide +kernel
theorem dX7_look_44 : decode cX7_look 44 = .ok (.istore 4, 2) := by decide +kernel
theorem dX7_look_46 : decode cX7_look 46 = .ok (.iload 4, 2) := by decide +kernel
theorem dX7_look_48 : decode cX7_look 48 = .ok (.aload_n 0, 1) := by decide +kernel
theorem dX7_look_49 : decode cX7_look 49 = .ok (.getfield 52, 3) := by decide +kernel
theorem dX7_look_52 : decode cX7_look 52 = .ok (.aload_n 0, 1) := by decide +kernel
theorem dX7_look_53 : decode cX7_look 53 = .ok (.iload_n 1, 1) := by decide +kernel
theorem dX7_look_54 : decode cX7_look 54 = .ok (.invokevirtual 187, 3) := by decide +kernel
theorem dX7_look_57 : decode cX7_look 57 = .ok (.isub, 1) := by decide +kernel
theorem dX7_look_58 : decode cX7_look 58 = .ok (.imul, 1) := by decide +kernel
theorem dX7_look_59 : decode cX7_look 59 = .ok (.istore 5, 2) := by decide +kernel
theorem dX7_look_61 : decode cX7_look 61 = .ok (.iload 5, 2) := by decide +kernel
theorem dX7_look_63 : decode cX7_look 63 = .ok (.iload 4, 2) := by decide +kernel
theorem dX7_look_65 : decode cX7_look 65 = .ok (.isub, 1) := by decide +kernel
theorem dX7_look_66 : decode cX7_look 66 = .ok (.aload_n 0, 1) := by decide +kernel
theorem dX7_look_67 : decode cX7_look 67 = .ok (.iload_n 1, 1) := by decide +kernel
theorem dX7_look_68 : decode cX7_look 68 = .ok (.invokevirtual 190, 3) := by decide +kernel
theorem dX7_look_71 : decode cX7_look 71 = .ok (.invokestatic 193, 3) := by decide +kernel
theorem dX7_look_74 : decode cX7_look 74 = .ok (.istore 6, 2) := by decide +kernel
theorem dX7_look_76 : decode cX7_look 76 = .ok (.aload_n 0, 1) := by decide +kernel
theorem dX7_look_77 : decode cX7_look 77 = .ok (.iload_n 1, 1) := by decide +kernel
theorem dX7_look_78 : decode cX7_look 78 = .ok (.iload_n 2, 1) := by decide +kernel
theorem dX7_look_79 : decode cX7_look 79 = .ok (.invokevirtual 196, 3) := by decide +kernel
theorem dX7_look_82 : decode cX7_look 82 = .ok (.istore 7, 2) := by decide +kernel
theorem dX7_look_84 : decode cX7_look 84 = .ok (.iconst 0, 1) := by decide +kernel
theorem dX7_look_85 : decode cX7_look 85 = .ok (.istore 8, 2) := by decide +kernel
theorem dX7_look_87 : decode cX7_look 87 = .ok (.iload 7, 2) := by decide +kernel
theorem dX7_look_89 : decode cX7_look 89 = .ok (.iconst 1, 1) := by decide +kernel
theorem dX7_look_90 : decode cX7_look 90 = .ok (.iand, 1) := by decide +kernel
theorem dX7_look_91 : decode cX7_look 91 = .ok (.ifCond .eq 8, 3) := by decide +kernel
theorem dX7_look_94 : decode cX7_look 94 = .ok (.iload 6, 2) := by decide +kernel
theorem dX7_look_96 : decode cX7_look 96 = .ok (.goto 5, 3) := by decide +kernel
theorem dX7_look_99 : decode cX7_look 99 = .ok (.iload 5, 2) := by decide +kernel
theorem dX7_look_101 : decode cX7_look 101 = .ok (.istore 9, 2) := by decide +kernel
theorem dX7_look_103 : decode cX7_look 103 = .ok (.iconst 1, 1) := by decide +kernel
theorem dX7_look_104 : decode cX7_look 104 = .ok (.istore 10, 2) := by decide +kernel
theorem dX7_look_106 : decode cX7_look 106 = .ok (.iload 10, 2) := by decide +kernel
theorem dX7_look_108 : decode cX7_look 108 = .ok (.aload_n 0, 1) := by decide +kernel
theorem dX7_look_109 : decode cX7_look 109 = .ok (.getfield 52, 3) := by decide +kernel
theorem dX7_look_112 : decode cX7_look 112 = .ok (.if_icmp .ge 43, 3) := by decide +kernel
theorem dX7_look_115 : decode cX7_look 115 = .ok (.iload 7, 2) := by decide +kernel
theorem dX7_look_117 : decode cX7_look 117 = .ok (.iload 10, 2) := by decide +kernel
theorem dX7_look_119 : decode cX7_look 119 = .ok (.ishr, 1) := by decide +kernel
theorem dX7_look_120 : decode cX7_look 120 = .ok (.iconst 1, 1) := by decide +kernel
theorem dX7_look_121 : decode cX7_look 121 = .ok (.iand, 1) := by decide +kernel
theorem dX7_look_122 : decode cX7_look 122 = .ok (.ifCond .eq 8, 3) := by decide +kernel
theorem dX7_look_125 : decode cX7_look 125 = .ok (.iload 6, 2) := by decide +kernel
theorem dX7_look_127 : decode cX7_look 127 = .ok (.goto 5, 3) := by decide +kernel
theorem dX7_look_130 : decode cX7_look 130 = .ok (.iload 5, 2) := by decide +kernel
theorem dX7_look_132 : decode cX7_look 132 = .ok (.istore 11, 2) := by decide +kernel
theorem dX7_look_134 : decode cX7_look 134 = .ok (.iload 11, 2) := by decide +kernel
theorem dX7_look_136 : decode cX7_look 136 = .ok (.iload 9, 2) := by decide +kernel
theorem dX7_look_138 : decode cX7_look 138 = .ok (.if_icmp .ge 11, 3) := by decide +kernel
theorem dX7_look_141 : decode cX7_look 141 = .ok (.iload 10, 2) := by decide +kernel
theorem dX7_look_143 : decode cX7_look 143 = .ok (.istore 8, 2) := by decide +kernel
theorem dX7_look_145 : decode cX7_look 145 = .ok (.iload 11, 2) := by decide +kernel
theorem dX7_look_147 : decode cX7_look 147 = .ok (.istore 9, 2) := by decide +kernel
theorem dX7_look_149 : decode cX7_look 149 = .ok (.iinc 10 1, 3) := by decide +kernel
theorem dX7_look_152 : decode cX7_look 152 = .ok (.goto (-46), 3) := by decide +kernel
theorem dX7_look_155 : decode cX7_look 155 = .ok (.iload_n 3, 1) := by decide +kernel
theorem dX7_look_156 : decode cX7_look 156 = .ok (.ifCond .ne 8, 3) := by decide +kernel
theorem dX7_look_159 : decode cX7_look 159 = .ok (.iload 8, 2) := by decide +kernel
theorem dX7_look_161 : decode cX7_look 161 = .ok (.goto 5, 3) := by decide +kernel
theorem dX7_look_164 : decode cX7_look 164 = .ok (.iload 9, 2) := by decide +kernel
theorem dX7_look_166 : decode cX7_look 166 = .ok (.ireturn, 1) := by decide +kernel
set_option maxRecDepth 20000 in
theorem ggX7_odds_X7_isPlace : GoodIn wsX7_odds wsX7_isPlace := goodIn_r _ [9, 10, 66, 67, 68, 69, 70, 71, 72, 73, 74] (by decide +kernel) (by decide +kernel)
set_option maxRecDepth 20000 in
theorem gX7_odds_X7_isPlace : GoodIn wsX7_odds (wsV RX7 106 RX7 yX7_isPlace wsX7_isPlace) := goodIn_app (goodIn_of _ (by decide +kernel)) ggX7_odds_X7_isPlace
set_option maxRecDepth 20000 in
theorem ggX7_odds_X7_isNight : GoodIn wsX7_odds wsX7_isNight := goodIn_r _ [13] (by decide +kernel) (by decide +kernel)
set_option maxRecDepth 20000 in
theorem gX7_odds_X7_isNight : GoodIn wsX7_odds (va_wsS RX7 100 yX7_isNight wsX7_isNight) := goodIn_app (goodIn_of _ (by decide +kernel)) ggX7_odds_X7_isNight
set_option maxRecDepth 20000 in
theorem ggX7_odds_X7_isEither : GoodIn wsX7_odds wsX7_isEither := goodIn_r _ [16] (by decide +kernel) (by decide +kernel)
set_option maxRecDepth 20000 in
theorem gX7_odds_X7_isEither : GoodIn wsX7_odds (va_wsS RX7 90 yX7_isEither wsX7_isEither) := goodIn_app (goodIn_of _ (by decide +kernel)) ggX7_odds_X7_isEither
set_option maxRecDepth 20000 in
theorem ggX7_odds_X5_playTo : GoodIn wsX7_odds wsX5_playTo := goodIn_r _ [21, 22, 23, 24, 25, 26, 27, 28, 29, 30, 31, 32, 33, 34, 20, 35, 36, 37, 38, 39, 40, 41, 42, 43, 44, 45, 46, 47, 48, 49, 50, 51, 52, 53, 54, 55, 56, 57, 58, 75, 76, 77, 78, 79, 80, 81, 82, 83, 84] (by decide +kernel) (by decide +kernel)
set_option maxRecDepth 20000 in
theorem gX7_odds_X5_playTo : GoodIn wsX7_odds (wsV RX7 124 RX5 yX5_playTo wsX5_playTo) := goodIn_app (goodIn_of _ (by decide +kernel)) ggX7_odds_X5_playTo
set_option maxRecDepth 20000 in
theorem ggX7_odds_X1_heightAt : GoodIn wsX7_odds wsX1_heightAt := goodIn_r _ [62, 31, 46, 47, 48, 28, 49, 30, 82, 83, 84] (by decide +kernel) (by decide +kernel)
set_option maxRecDepth 20000 in
theorem gX7_odds_X1_heightAt : GoodIn wsX7_odds (wsV RX7 128 RX1 yX1_heightAt wsX1_heightAt) := goodIn_app (goodIn_of _ (by decide +kernel)) ggX7_odds_X1_heightAt
set_option maxRecDepth 20000 in
theorem ggX7_odds_X7_waysToPick : GoodIn wsX7_odds wsX7_waysToPick := goodIn_r _ [65] (by decide +kernel) (by decide +kernel)
set_option maxRecDepth 20000 in
theorem gX7_odds_X7_waysToPick : GoodIn wsX7_odds (va_wsS RX7 201 yX7_waysToPick wsX7_waysToPick) := goodIn_app (goodIn_of _ (by decide +kernel)) ggX7_odds_X7_waysToPick
theorem dX7_odds_0 : decode cX7_odds 0 = .ok (.aload_n 0, 1) := by decide +kernel
theorem dX7_odds_1 : decode cX7_odds 1 = .ok (.iload_n 1, 1) := by decide +kernel
theorem dX7_odds_2 : decode cX7_odds 2 = .ok (.invokevirtual 106, 3) := by decide +kernel
theorem dX7_odds_5 : decode cX7_odds 5 = .ok (.ifCond .ne 7, 3) := by decide +kernel
theorem dX7_odds_8 : decode cX7_odds 8 = .ok (.ldc2_w 199, 3) := by decide +kernel
theorem dX7_odds_11 : decode cX7_odds 11 = .ok (.lreturn, 1) := by decide +kernel
theorem dX7_odds_12 : decode cX7_odds 12 = .ok (.iload_n 2, 1) := by decide +kernel
theorem dX7_odds_13 : decode cX7_odds 13 = .ok (.invokestatic 100, 3) := by decide +kernel
theorem dX7_odds_16 : decode cX7_odds 16 = .ok (.ifCond .eq 21, 3) := by decide +kernel
theorem dX7_odds_19 : decode cX7_odds 19 = .ok (.iload_n 3, 1) := by decide +kernel
theorem dX7_odds_20 : decode cX7_odds 20 = .ok (.ifCond .lt 17, 3) := by decide +kernel
theorem dX7_odds_23 : decode cX7_odds 23 = .ok (.iload_n 3, 1) := by decide +kernel
theorem dX7_odds_24 : decode cX7_odds 24 = .ok (.bipush 24, 2) := by decide +kernel
theorem dX7_odds_26 : decode cX7_odds 26 = .ok (.if_icmp .gt 11, 3) := by decide +kernel
theorem dX7_odds_29 : decode cX7_odds 29 = .ok (.iload 4, 2) := by decide +kernel
theorem dX7_odds_31 : decode cX7_odds 31 = .ok (.invokestatic 90, 3) := by decide +kernel
theorem dX7_odds_34 : decode cX7_odds 34 = .ok (.ifCond .ne 7, 3) := by decide +kernel
theorem dX7_odds_37 : decode cX7_odds 37 = .ok (.ldc2_w 199, 3) := by decide +kernel
theorem dX7_odds_40 : decode cX7_odds 40 = .ok (.lreturn, 1) := by decide +kernel
theorem dX7_odds_41 : decode cX7_odds 41 = .ok (.aload_n 0, 1) := by decide +kernel
theorem dX7_odds_42 : decode cX7_odds 42 = .ok (.getfield 30, 3) := by decide +kernel
theorem dX7_odds_45 : decode cX7_odds 45 = .ok (.iload_n 2, 1) := by decide +kernel
theorem dX7_odds_46 : decode cX7_odds 46 = .ok (.aload_n 0, 1) := by decide +kernel
theorem dX7_odds_47 : decode cX7_odds 47 = .ok (.getfield 37, 3) := by decide +kernel
theorem dX7_odds_50 : decode cX7_odds 50 = .ok (.invokevirtual 124, 3) := by decide +kernel
theorem dX7_odds_53 : decode cX7_odds 53 = .ok (.aload_n 0, 1) := by decide +kernel
theorem dX7_odds_54 : decode cX7_odds 54 = .ok (.getfield 37, 3) := by decide +kernel
theorem dX7_odds_57 : decode cX7_odds 57 = .ok (.iload_n 1, 1) := by decide +kernel
theorem dX7_odds_58 : decode cX7_odds 58 = .ok (.invokevirtual 128, 3) := by decide +kernel
theorem dX7_odds_61 : decode cX7_odds 61 = .ok (.istore 5, 2) := by decide +kernel
theorem dX7_odds_63 : decode cX7_odds 63 = .ok (.iload 5, 2) := by decide +kernel
theorem dX7_odds_65 : decode cX7_odds 65 = .ok (.iload_n 3, 1) := by decide +kernel
theorem dX7_odds_66 : decode cX7_odds 66 = .ok (.invokestatic 201, 3) := by decide +kernel
theorem dX7_odds_69 : decode cX7_odds 69 = .ok (.lstore 6, 2) := by decide +kernel
theorem dX7_odds_71 : decode cX7_odds 71 = .ok (.lconst 1, 1) := by decide +kernel
theorem dX7_odds_72 : decode cX7_odds 72 = .ok (.iload 5, 2) := by decide +kernel
theorem dX7_odds_74 : decode cX7_odds 74 = .ok (.lshl, 1) := by decide +kernel
theorem dX7_odds_75 : decode cX7_odds 75 = .ok (.lstore 8, 2) := by decide +kernel
theorem dX7_odds_77 : decode cX7_odds 77 = .ok (.lload 6, 2) := by decide +kernel
theorem dX7_odds_79 : decode cX7_odds 79 = .ok (.lconst 0, 1) := by decide +kernel
theorem dX7_odds_80 : decode cX7_odds 80 = .ok (.lcmp, 1) := by decide +kernel
theorem dX7_odds_81 : decode cX7_odds 81 = .ok (.ifCond .ne 6, 3) := by decide +kernel
theorem dX7_odds_84 : decode cX7_odds 84 = .ok (.lconst 1, 1) := by decide +kernel
theorem dX7_odds_85 : decode cX7_odds 85 = .ok (.lstore 8, 2) := by decide +kernel
theorem dX7_odds_87 : decode cX7_odds 87 = .ok (.iconst 0, 1) := by decide +kernel
theorem dX7_odds_88 : decode cX7_odds 88 = .ok (.istore 10, 2) := by decide +kernel
theorem dX7_odds_90 : decode cX7_odds 90 = .ok (.iload 10, 2) := by decide +kernel
theorem dX7_odds_92 : decode cX7_odds 92 = .ok (.iload 5, 2) := by decide +kernel
theorem dX7_odds_94 : decode cX7_odds 94 = .ok (.if_icmp .ge 43, 3) := by decide +kernel
theorem dX7_odds_97 : decode cX7_odds 97 = .ok (.lload 8, 2) := by decide +kernel
theorem dX7_odds_99 : decode cX7_odds 99 = .ok (.lconst 1, 1) := by decide +kernel
theorem dX7_odds_100 : decode cX7_odds 100 = .ok (.lcmp, 1) := by decide +kernel
theorem dX7_odds_101 : decode cX7_odds 101 = .ok (.ifCond .le 36, 3) := by decide +kernel
theorem dX7_odds_104 : decode cX7_odds 104 = .ok (.lload 6, 2) := by decide +kernel
theorem dX7_odds_106 : decode cX7_odds 106 = .ok (.ldc2_w 205, 3) := by decide +kernel
theorem dX7_odds_109 : decode cX7_odds 109 = .ok (.lrem, 1) := by decide +kernel
theorem dX7_odds_110 : decode cX7_odds 110 = .ok (.lconst 0, 1) := by decide +kernel
theorem dX7_odds_111 : decode cX7_odds 111 = .ok (.lcmp, 1) := by decide +kernel
theorem dX7_odds_112 : decode cX7_odds 112 = .ok (.ifCond .ne 25, 3) := by decide +kernel
theorem dX7_odds_115 : decode cX7_odds 115 = .ok (.lload 6, 2) := by decide +kernel
theorem dX7_odds_117 : decode cX7_odds 117 = .ok (.ldc2_w 205, 3) := by decide +kernel
theorem dX7_odds_120 : decode cX7_odds 120 = .ok (.ldiv, 1) := by decide +kernel
theorem dX7_odds_121 : decode cX7_odds 121 = .ok (.lstore 6, 2) := by decide +kernel
theorem dX7_odds_123 : decode cX7_odds 123 = .ok (.lload 8, 2) := by decide +kernel
theorem dX7_odds_125 : decode cX7_odds 125 = .ok (.ldc2_w 205, 3) := by decide +kernel
theorem dX7_odds_128 : decode cX7_odds 128 = .ok (.ldiv, 1) := by decide +kernel
theorem dX7_odds_129 : decode cX7_odds 129 = .ok (.lstore 8, 2) := by decide +kernel
theorem dX7_odds_131 : decode cX7_odds 131 = .ok (.iinc 10 1, 3) := by decide +kernel
theorem dX7_odds_134 : decode cX7_odds 134 = .ok (.goto (-44), 3) := by decide +kernel
theorem dX7_odds_137 : decode cX7_odds 137 = .ok (.iload 4, 2) := by decide +kernel
theorem dX7_odds_139 : decode cX7_odds 139 = .ok (.ifCond .ne 8, 3) := by decide +kernel
theorem dX7_odds_142 : decode cX7_odds 142 = .ok (.lload 6, 2) := by decide +kernel
theorem dX7_odds_144 : decode cX7_odds 144 = .ok (.goto 5, 3) := by decide +kernel
theorem dX7_odds_147 : decode cX7_odds 147 = .ok (.lload 8, 2) := by decide +kernel
theorem dX7_odds_149 : decode cX7_odds 149 = .ok (.lreturn, 1) := by decide +kernel
set_option maxRecDepth 20000 in
theorem ggX7_sheet_X7_sheetOf : GoodIn wsX7_sheet wsX7_sheetOf := goodIn_r _ [6, 7, 34, 35, 36, 37, 38, 39, 40, 41, 42] (by decide +kernel) (by decide +kernel)
set_option maxRecDepth 20000 in
theorem gX7_sheet_X7_sheetOf : GoodIn wsX7_sheet (wsV RX7 59 RX7 yX7_sheetOf wsX7_sheetOf) := goodIn_app (goodIn_of _ (by decide +kernel)) ggX7_sheet_X7_sheetOf
set_option maxRecDepth 20000 in
theorem ggX7_sheet_X7_isLane : GoodIn wsX7_sheet wsX7_isLane := goodIn_r _ [10] (by decide +kernel) (by decide +kernel)
set_option maxRecDepth 20000 in
theorem gX7_sheet_X7_isLane : GoodIn wsX7_sheet (va_wsS RX7 63 yX7_isLane wsX7_isLane) := goodIn_app (goodIn_of _ (by decide +kernel)) ggX7_sheet_X7_isLane
set_option maxRecDepth 20000 in
theorem ggX7_sheet_X7_fails : GoodIn wsX7_sheet wsX7_fails := goodIn_r _ [14, 1, 34, 35, 36, 37, 38, 39, 40, 41, 42] (by decide +kernel) (by decide +kernel)
set_option maxRecDepth 20000 in
theorem gX7_sheet_X7_fails : GoodIn wsX7_sheet (wsV RX7 71 RX7 yX7_fails wsX7_fails) := goodIn_app (goodIn_of _ (by decide +kernel)) ggX7_sheet_X7_fails
set_option maxRecDepth 20000 in
theorem ggX7_sheet_X3_renew : GoodIn wsX7_sheet wsX3_renew := goodIn_r _ [19, 20, 21, 22, 23, 24, 25, 26, 27, 28, 29, 30, 31, 32, 33, 43, 44, 45] (by decide +kernel) (by decide +kernel)
set_option maxRecDepth 20000 in
theorem gX7_sheet_X3_renew : GoodIn wsX7_sheet (wsV RX7 207 RX3 yX3_renew wsX3_renew) := goodIn_app (goodIn_of _ (by decide +kernel)) ggX7_sheet_X3_renew
theorem dX7_sheet_0 : decode cX7_sheet 0 = .ok (.aload_n 0, 1) := by decide +kernel
theorem dX7_sheet_1 : decode cX7_sheet 1 = .ok (.iconst 0, 1) := by decide +kernel
theorem dX7_sheet_2 : decode cX7_sheet 2 = .ok (.putfield 55, 3) := by decide +kernel
theorem dX7_sheet_5 : decode cX7_sheet 5 = .ok (.aload_n 0, 1) := by decide +kernel
theorem dX7_sheet_6 : decode cX7_sheet 6 = .ok (.iload_n 1, 1) := by decide +kernel
theorem dX7_sheet_7 : decode cX7_sheet 7 = .ok (.invokevirtual 59, 3) := by decide +kernel
theorem dX7_sheet_10 : decode cX7_sheet 10 = .ok (.astore 4, 2) := by decide +kernel
theorem dX7_sheet_12 : decode cX7_sheet 12 = .ok (.aload 4, 2) := by decide +kernel
theorem dX7_sheet_14 : decode cX7_sheet 14 = .ok (.ifnonnull 5, 3) := by decide +kernel
theorem dX7_sheet_17 : decode cX7_sheet 17 = .ok (.iconst (-1), 1) := by decide +kernel
theorem dX7_sheet_18 : decode cX7_sheet 18 = .ok (.ireturn, 1) := by decide +kernel
theorem dX7_sheet_19 : decode cX7_sheet 19 = .ok (.iload_n 2, 1) := by decide +kernel
theorem dX7_sheet_20 : decode cX7_sheet 20 = .ok (.invokestatic 63, 3) := by decide +kernel
theorem dX7_sheet_23 : decode cX7_sheet 23 = .ok (.ifCond .eq 9, 3) := by decide +kernel
theorem dX7_sheet_26 : decode cX7_sheet 26 = .ok (.iload_n 3, 1) := by decide +kernel
theorem dX7_sheet_27 : decode cX7_sheet 27 = .ok (.bipush 60, 2) := by decide +kernel
theorem dX7_sheet_29 : decode cX7_sheet 29 = .ok (.if_icmp .le 6, 3) := by decide +kernel
theorem dX7_sheet_32 : decode cX7_sheet 32 = .ok (.bipush (-2), 2) := by decide +kernel
theorem dX7_sheet_34 : decode cX7_sheet 34 = .ok (.ireturn, 1) := by decide +kernel
theorem dX7_sheet_35 : decode cX7_sheet 35 = .ok (.iload_n 3, 1) := by decide +kernel
theorem dX7_sheet_36 : decode cX7_sheet 36 = .ok (.ifCond .ge 9, 3) := by decide +kernel
theorem dX7_sheet_39 : decode cX7_sheet 39 = .ok (.aload_n 0, 1) := by decide +kernel
theorem dX7_sheet_40 : decode cX7_sheet 40 = .ok (.iconst 4, 1) := by decide +kernel
theorem dX7_sheet_41 : decode cX7_sheet 41 = .ok (.invokevirtual 71, 3) := by decide +kernel
theorem dX7_sheet_44 : decode cX7_sheet 44 = .ok (.ireturn, 1) := by decide +kernel
theorem dX7_sheet_45 : decode cX7_sheet 45 = .ok (.aload 4, 2) := by decide +kernel
theorem dX7_sheet_47 : decode cX7_sheet 47 = .ok (.iload_n 2, 1) := by decide +kernel
theorem dX7_sheet_48 : decode cX7_sheet 48 = .ok (.iload_n 3, 1) := by decide +kernel
theorem dX7_sheet_49 : decode cX7_sheet 49 = .ok (.invokevirtual 207, 3) := by decide +kernel
theorem dX7_sheet_52 : decode cX7_sheet 52 = .ok (.iconst 1, 1) := by decide +kernel
theorem dX7_sheet_53 : decode cX7_sheet 53 = .ok (.ireturn, 1) := by decide +kernel
set_option maxRecDepth 20000 in
theorem ggX7_lose_X7_sheetOf : GoodIn wsX7_lose wsX7_sheetOf := goodIn_r _ [5, 6, 18, 19, 20, 21, 22, 23, 24, 25, 26] (by decide +kernel) (by decide +kernel)
set_option maxRecDepth 20000 in
theorem gX7_lose_X7_sheetOf : GoodIn wsX7_lose (wsV RX7 59 RX7 yX7_sheetOf wsX7_sheetOf) := goodIn_app (goodIn_of _ (by decide +kernel)) ggX7_lose_X7_sheetOf
set_option maxRecDepth 20000 in
theorem ggX7_lose_X3_isNothing : GoodIn wsX7_lose wsX3_isNothing := goodIn_r _ [11, 12, 27, 28, 29] (by decide +kernel) (by decide +kernel)
set_option maxRecDepth 20000 in
theorem gX7_lose_X3_isNothing : GoodIn wsX7_lose (wsV RX7 211 RX3 yX3_isNothing wsX3_isNothing) := goodIn_app (goodIn_of _ (by decide +kernel)) ggX7_lose_X3_isNothing
set_option maxRecDepth 20000 in
theorem ggX7_lose_X3_drop : GoodIn wsX7_lose wsX3_drop := goodIn_r _ [16, 17, 12, 27, 28, 29] (by decide +kernel) (by decide +kernel)
set_option maxRecDepth 20000 in
theorem gX7_lose_X3_drop : GoodIn wsX7_lose (wsV RX7 214 RX3 yX3_drop wsX3_drop) := goodIn_app (goodIn_of _ (by decide +kernel)) ggX7_lose_X3_drop
theorem dX7_lose_0 : decode cX7_lose 0 = .ok (.aload_n 0, 1) := by decide +kernel
theorem dX7_lose_1 : decode cX7_lose 1 = .ok (.iload_n 1, 1) := by decide +kernel
theorem dX7_lose_2 : decode cX7_lose 2 = .ok (.invokevirtual 59, 3) := by decide +kernel
theorem dX7_lose_5 : decode cX7_lose 5 = .ok (.astore_n 2, 1) := by decide +kernel
theorem dX7_lose_6 : decode cX7_lose 6 = .ok (.aload_n 2, 1) := by decide +kernel
theorem dX7_lose_7 : decode cX7_lose 7 = .ok (.ifnonnull 5, 3) := by decide +kernel
theorem dX7_lose_10 : decode cX7_lose 10 = .ok (.iconst (-1), 1) := by decide +kernel
theorem dX7_lose_11 : decode cX7_lose 11 = .ok (.ireturn, 1) := by decide +kernel
theorem dX7_lose_12 : decode cX7_lose 12 = .ok (.aload_n 2, 1) := by decide +kernel
theorem dX7_lose_13 : decode cX7_lose 13 = .ok (.invokevirtual 211, 3) := by decide +kernel
theorem dX7_lose_16 : decode cX7_lose 16 = .ok (.ifCond .eq 5, 3) := by decide +kernel
theorem dX7_lose_19 : decode cX7_lose 19 = .ok (.iconst 0, 1) := by decide +kernel
theorem dX7_lose_20 : decode cX7_lose 20 = .ok (.ireturn, 1) := by decide +kernel
theorem dX7_lose_21 : decode cX7_lose 21 = .ok (.aload_n 2, 1) := by decide +kernel
theorem dX7_lose_22 : decode cX7_lose 22 = .ok (.invokevirtual 214, 3) := by decide +kernel
theorem dX7_lose_25 : decode cX7_lose 25 = .ok (.iconst 1, 1) := by decide +kernel
theorem dX7_lose_26 : decode cX7_lose 26 = .ok (.ireturn, 1) := by decide +kernel
set_option maxRecDepth 20000 in
theorem ggX7_put_X7_sheetOf : GoodIn wsX7_put wsX7_sheetOf := goodIn_r _ [6, 7, 33, 34, 35, 36, 37, 38, 39, 40, 41] (by decide +kernel) (by decide +kernel)
set_option maxRecDepth 20000 in
theorem gX7_put_X7_sheetOf : GoodIn wsX7_put (wsV RX7 59 RX7 yX7_sheetOf wsX7_sheetOf) := goodIn_app (goodIn_of _ (by decide +kernel)) ggX7_put_X7_sheetOf
set_option maxRecDepth 20000 in
theorem ggX7_put_X3_isNothing : GoodIn wsX7_put wsX3_isNothing := goodIn_r _ [12, 13, 42, 43, 44] (by decide +kernel) (by decide +kernel)
set_option maxRecDepth 20000 in
theorem gX7_put_X3_isNothing : GoodIn wsX7_put (wsV RX7 211 RX3 yX3_isNothing wsX3_isNothing) := goodIn_app (goodIn_of _ (by decide +kernel)) ggX7_put_X3_isNothing
set_option maxRecDepth 20000 in
theorem ggX7_put_X7_fails : GoodIn wsX7_put wsX7_fails := goodIn_r _ [17, 1, 33, 34, 35, 36, 37, 38, 39, 40, 41] (by decide +kernel) (by decide +kernel)
set_option maxRecDepth 20000 in
theorem gX7_put_X7_fails : GoodIn wsX7_put (wsV RX7 71 RX7 yX7_fails wsX7_fails) := goodIn_app (goodIn_of _ (by decide +kernel)) ggX7_put_X7_fails
set_option maxRecDepth 20000 in
theorem ggX7_put_X3_reaches : GoodIn wsX7_put wsX3_reaches := goodIn_r _ [21, 22, 42, 43, 44] (by decide +kernel) (by decide +kernel)
set_option maxRecDepth 20000 in
theorem gX7_put_X3_reaches : GoodIn wsX7_put (wsV RX7 74 RX3 yX3_reaches wsX3_reaches) := goodIn_app (goodIn_of _ (by decide +kernel)) ggX7_put_X3_reaches
set_option maxRecDepth 20000 in
theorem ggX7_put_X3_write : GoodIn wsX7_put wsX3_write := goodIn_r _ [26, 27, 28, 19, 20, 11, 21, 22, 29, 30, 31, 32, 13, 42, 43, 44] (by decide +kernel) (by decide +kernel)
set_option maxRecDepth 20000 in
theorem gX7_put_X3_write : GoodIn wsX7_put (wsV RX7 217 RX3 yX3_write wsX3_write) := goodIn_app (goodIn_of _ (by decide +kernel)) ggX7_put_X3_write
theorem dX7_put_0 : decode cX7_put 0 = .ok (.aload_n 0, 1) := by decide +kernel
theorem dX7_put_1 : decode cX7_put 1 = .ok (.iconst 0, 1) := by decide +kernel
theorem dX7_put_2 : decode cX7_put 2 = .ok (.putfield 55, 3) := by decide +kernel
theorem dX7_put_5 : decode cX7_put 5 = .ok (.aload_n 0, 1) := by decide +kernel
theorem dX7_put_6 : decode cX7_put 6 = .ok (.iload_n 1, 1) := by decide +kernel
theorem dX7_put_7 : decode cX7_put 7 = .ok (.invokevirtual 59, 3) := by decide +kernel
theorem dX7_put_10 : decode cX7_put 10 = .ok (.astore 4, 2) := by decide +kernel
theorem dX7_put_12 : decode cX7_put 12 = .ok (.aload 4, 2) := by decide +kernel
theorem dX7_put_14 : decode cX7_put 14 = .ok (.ifnonnull 5, 3) := by decide +kernel
theorem dX7_put_17 : decode cX7_put 17 = .ok (.iconst (-1), 1) := by decide +kernel
theorem dX7_put_18 : decode cX7_put 18 = .ok (.ireturn, 1) := by decide +kernel
theorem dX7_put_19 : decode cX7_put 19 = .ok (.aload 4, 2) := by decide +kernel
theorem dX7_put_21 : decode cX7_put 21 = .ok (.invokevirtual 211, 3) := by decide +kernel
theorem dX7_put_24 : decode cX7_put 24 = .ok (.ifCond .eq 9, 3) := by decide +kernel
theorem dX7_put_27 : decode cX7_put 27 = .ok (.aload_n 0, 1) := by decide +kernel
theorem dX7_put_28 : decode cX7_put 28 = .ok (.iconst 1, 1) := by decide +kernel
theorem dX7_put_29 : decode cX7_put 29 = .ok (.invokevirtual 71, 3) := by decide +kernel
theorem dX7_put_32 : decode cX7_put 32 = .ok (.ireturn, 1) := by decide +kernel
theorem dX7_put_33 : decode cX7_put 33 = .ok (.aload 4, 2) := by decide +kernel
theorem dX7_put_35 : decode cX7_put 35 = .ok (.iload_n 2, 1) := by decide +kernel
theorem dX7_put_36 : decode cX7_put 36 = .ok (.iconst 1, 1) := by decide +kernel
theorem dX7_put_37 : decode cX7_put 37 = .ok (.invokevirtual 74, 3) := by decide +kernel
theorem dX7_put_40 : decode cX7_put 40 = .ok (.ifCond .ne 9, 3) := by decide +kernel
theorem dX7_put_43 : decode cX7_put 43 = .ok (.aload_n 0, 1) := by decide +kernel
theorem dX7_put_44 : decode cX7_put 44 = .ok (.iconst 3, 1) := by decide +kernel
theorem dX7_put_45 : decode cX7_put 45 = .ok (.invokevirtual 71, 3) := by decide +kernel
theorem dX7_put_48 : decode cX7_put 48 = .ok (.ireturn, 1) := by decide +kernel
theorem dX7_put_49 : decode cX7_put 49 = .ok (.aload 4, 2) := by decide +kernel
theorem dX7_put_51 : decode cX7_put 51 = .ok (.iload_n 2, 1) := by decide +kernel
theorem dX7_put_52 : decode cX7_put 52 = .ok (.iload_n 3, 1) := by decide +kernel
theorem dX7_put_53 : decode cX7_put 53 = .ok (.invokevirtual 217, 3) := by decide +kernel
theorem dX7_put_56 : decode cX7_put 56 = .ok (.iconst 1, 1) := by decide +kernel
theorem dX7_put_57 : decode cX7_put 57 = .ok (.ireturn, 1) := by decide +kernel
set_option maxRecDepth 20000 in
theorem ggX7_cell_X7_sheetOf : GoodIn wsX7_cell wsX7_sheetOf := goodIn_r _ [7, 8, 33, 34, 35, 36, 37, 38, 39, 40, 41] (by decide +kernel) (by decide +kernel)
set_option maxRecDepth 20000 in
theorem gX7_cell_X7_sheetOf : GoodIn wsX7_cell (wsV RX7 59 RX7 yX7_sheetOf wsX7_sheetOf) := goodIn_app (goodIn_of _ (by decide +kernel)) ggX7_cell_X7_sheetOf
set_option maxRecDepth 20000 in
theorem ggX7_cell_X7_isLane : GoodIn wsX7_cell wsX7_isLane := goodIn_r _ [11] (by decide +kernel) (by decide +kernel)
set_option maxRecDepth 20000 in
theorem gX7_cell_X7_isLane : GoodIn wsX7_cell (va_wsS RX7 63 yX7_isLane wsX7_isLane) := goodIn_app (goodIn_of _ (by decide +kernel)) ggX7_cell_X7_isLane
set_option maxRecDepth 20000 in
theorem ggX7_cell_X3_faultAs : GoodIn wsX7_cell wsX3_faultAs := goodIn_r _ [16, 17, 18, 19, 20, 15, 21, 42, 43, 44] (by decide +kernel) (by decide +kernel)
set_option maxRecDepth 20000 in
theorem gX7_cell_X3_faultAs : GoodIn wsX7_cell (wsV RX7 67 RX3 yX3_faultAs wsX3_faultAs) := goodIn_app (goodIn_of _ (by decide +kernel)) ggX7_cell_X3_faultAs
set_option maxRecDepth 20000 in
theorem ggX7_cell_X3_reaches : GoodIn wsX7_cell wsX3_reaches := goodIn_r _ [25, 26, 42, 43, 44] (by decide +kernel) (by decide +kernel)
set_option maxRecDepth 20000 in
theorem gX7_cell_X3_reaches : GoodIn wsX7_cell (wsV RX7 74 RX3 yX3_reaches wsX3_reaches) := goodIn_app (goodIn_of _ (by decide +kernel)) ggX7_cell_X3_reaches
set_option maxRecDepth 20000 in
theorem ggX7_cell_X3_read : GoodIn wsX7_cell wsX3_read := goodIn_r _ [30, 31, 32, 23, 24, 15, 25, 26, 42, 43, 44] (by decide +kernel) (by decide +kernel)
set_option maxRecDepth 20000 in
theorem gX7_cell_X3_read : GoodIn wsX7_cell (wsV RX7 220 RX3 yX3_read wsX3_read) := goodIn_app (goodIn_of _ (by decide +kernel)) ggX7_cell_X3_read
theorem dX7_cell_0 : decode cX7_cell 0 = .ok (.aload_n 0, 1) := by decide +kernel
theorem dX7_cell_1 : decode cX7_cell 1 = .ok (.iconst 0, 1) := by decide +kernel
theorem dX7_cell_2 : decode cX7_cell 2 = .ok (.putfield 55, 3) := by decide +kernel
theorem dX7_cell_5 : decode cX7_cell 5 = .ok (.aload_n 0, 1) := by decide +kernel
theorem dX7_cell_6 : decode cX7_cell 6 = .ok (.iload_n 1, 1) := by decide +kernel
theorem dX7_cell_7 : decode cX7_cell 7 = .ok (.invokevirtual 59, 3) := by decide +kernel
theorem dX7_cell_10 : decode cX7_cell 10 = .ok (.astore 4, 2) := by decide +kernel
theorem dX7_cell_12 : decode cX7_cell 12 = .ok (.aload 4, 2) := by decide +kernel
theorem dX7_cell_14 : decode cX7_cell 14 = .ok (.ifnull 10, 3) := by decide +kernel
theorem dX7_cell_17 : decode cX7_cell 17 = .ok (.iload_n 3, 1) := by decide +kernel
theorem dX7_cell_18 : decode cX7_cell 18 = .ok (.invokestatic 63, 3) := by decide +kernel
theorem dX7_cell_21 : decode cX7_cell 21 = .ok (.ifCond .ne 7, 3) := by decide +kernel
theorem dX7_cell_24 : decode cX7_cell 24 = .ok (.ldc2_w 199, 3) := by decide +kernel
theorem dX7_cell_27 : decode cX7_cell 27 = .ok (.lreturn, 1) := by decide +kernel
theorem dX7_cell_28 : decode cX7_cell 28 = .ok (.aload_n 0, 1) := by decide +kernel
theorem dX7_cell_29 : decode cX7_cell 29 = .ok (.aload 4, 2) := by decide +kernel
theorem dX7_cell_31 : decode cX7_cell 31 = .ok (.iload_n 3, 1) := by decide +kernel
theorem dX7_cell_32 : decode cX7_cell 32 = .ok (.invokevirtual 67, 3) := by decide +kernel
theorem dX7_cell_35 : decode cX7_cell 35 = .ok (.putfield 55, 3) := by decide +kernel
theorem dX7_cell_38 : decode cX7_cell 38 = .ok (.aload_n 0, 1) := by decide +kernel
theorem dX7_cell_39 : decode cX7_cell 39 = .ok (.getfield 55, 3) := by decide +kernel
theorem dX7_cell_42 : decode cX7_cell 42 = .ok (.ifCond .ne 18, 3) := by decide +kernel
theorem dX7_cell_45 : decode cX7_cell 45 = .ok (.aload 4, 2) := by decide +kernel
theorem dX7_cell_47 : decode cX7_cell 47 = .ok (.iload_n 2, 1) := by decide +kernel
theorem dX7_cell_48 : decode cX7_cell 48 = .ok (.iconst 1, 1) := by decide +kernel
theorem dX7_cell_49 : decode cX7_cell 49 = .ok (.invokevirtual 74, 3) := by decide +kernel
theorem dX7_cell_52 : decode cX7_cell 52 = .ok (.ifCond .ne 8, 3) := by decide +kernel
theorem dX7_cell_55 : decode cX7_cell 55 = .ok (.aload_n 0, 1) := by decide +kernel
theorem dX7_cell_56 : decode cX7_cell 56 = .ok (.iconst 3, 1) := by decide +kernel
theorem dX7_cell_57 : decode cX7_cell 57 = .ok (.putfield 55, 3) := by decide +kernel
theorem dX7_cell_60 : decode cX7_cell 60 = .ok (.aload_n 0, 1) := by decide +kernel
theorem dX7_cell_61 : decode cX7_cell 61 = .ok (.getfield 55, 3) := by decide +kernel
theorem dX7_cell_64 : decode cX7_cell 64 = .ok (.ifCond .eq 9, 3) := by decide +kernel
theorem dX7_cell_67 : decode cX7_cell 67 = .ok (.ldc2_w 199, 3) := by decide +kernel
theorem dX7_cell_70 : decode cX7_cell 70 = .ok (.goto 10, 3) := by decide +kernel
theorem dX7_cell_73 : decode cX7_cell 73 = .ok (.aload 4, 2) := by decide +kernel
theorem dX7_cell_75 : decode cX7_cell 75 = .ok (.iload_n 2, 1) := by decide +kernel
theorem dX7_cell_76 : decode cX7_cell 76 = .ok (.invokevirtual 220, 3) := by decide +kernel
theorem dX7_cell_79 : decode cX7_cell 79 = .ok (.i2l, 1) := by decide +kernel
theorem dX7_cell_80 : decode cX7_cell 80 = .ok (.lreturn, 1) := by decide +kernel
set_option maxRecDepth 20000 in
theorem ggX7_copy_X7_sheetOf : GoodIn wsX7_copy wsX7_sheetOf := goodIn_r _ [7, 8, 39, 40, 41, 42, 43, 44, 45, 46, 47] (by decide +kernel) (by decide +kernel)
set_option maxRecDepth 20000 in
theorem gX7_copy_X7_sheetOf : GoodIn wsX7_copy (wsV RX7 59 RX7 yX7_sheetOf wsX7_sheetOf) := goodIn_app (goodIn_of _ (by decide +kernel)) ggX7_copy_X7_sheetOf
set_option maxRecDepth 20000 in
theorem ggX7_copy_X3_isNothing : GoodIn wsX7_copy wsX3_isNothing := goodIn_r _ [13, 14, 48, 49, 50] (by decide +kernel) (by decide +kernel)
set_option maxRecDepth 20000 in
theorem gX7_copy_X3_isNothing : GoodIn wsX7_copy (wsV RX7 211 RX3 yX3_isNothing wsX3_isNothing) := goodIn_app (goodIn_of _ (by decide +kernel)) ggX7_copy_X3_isNothing
set_option maxRecDepth 20000 in
theorem ggX7_copy_X7_fails : GoodIn wsX7_copy wsX7_fails := goodIn_r _ [18, 1, 39, 40, 41, 42, 43, 44, 45, 46, 47] (by decide +kernel) (by decide +kernel)
set_option maxRecDepth 20000 in
theorem gX7_copy_X7_fails : GoodIn wsX7_copy (wsV RX7 71 RX7 yX7_fails wsX7_fails) := goodIn_app (goodIn_of _ (by decide +kernel)) ggX7_copy_X7_fails
