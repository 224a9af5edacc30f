set_option maxRecDepth 20000 in
theorem ggX7_copy_X3_faultAs : GoodIn wsX7_copy wsX3_faultAs := goodIn_r _ [22, 14, 23, 10, 11, 12, 13, 48, 49, 50] (by decide +kernel) (by decide +kernel)
set_option maxRecDepth 20000 in
theorem gX7_copy_X3_faultAs : GoodIn wsX7_copy (wsV RX7 67 RX3 yX3_faultAs wsX3_faultAs) := goodIn_app (goodIn_of _ (by decide +kernel)) ggX7_copy_X3_faultAs
set_option maxRecDepth 20000 in
theorem ggX7_copy_X3_reaches : GoodIn wsX7_copy wsX3_reaches := goodIn_r _ [27, 28, 48, 49, 50] (by decide +kernel) (by decide +kernel)
set_option maxRecDepth 20000 in
theorem gX7_copy_X3_reaches : GoodIn wsX7_copy (wsV RX7 74 RX3 yX3_reaches wsX3_reaches) := goodIn_app (goodIn_of _ (by decide +kernel)) ggX7_copy_X3_reaches
set_option maxRecDepth 20000 in
theorem ggX7_copy_X3_take : GoodIn wsX7_copy wsX3_take := goodIn_r _ [32, 33, 34, 35, 36, 37, 38, 25, 26, 12, 27, 28, 48, 49, 50] (by decide +kernel) (by decide +kernel)
set_option maxRecDepth 20000 in
theorem gX7_copy_X3_take : GoodIn wsX7_copy (wsV RX7 226 RX3 yX3_take wsX3_take) := goodIn_app (goodIn_of _ (by decide +kernel)) ggX7_copy_X3_take
theorem dX7_copy_0 : decode cX7_copy 0 = .ok (.aload_n 0, 1) := by decide +kernel
theorem dX7_copy_1 : decode cX7_copy 1 = .ok (.iconst 0, 1) := by decide +kernel
theorem dX7_copy_2 : decode cX7_copy 2 = .ok (.putfield 55, 3) := by decide +kernel
theorem dX7_copy_5 : decode cX7_copy 5 = .ok (.aload_n 0, 1) := by decide +kernel
theorem dX7_copy_6 : decode cX7_copy 6 = .ok (.iload_n 1, 1) := by decide +kernel
theorem dX7_copy_7 : decode cX7_copy 7 = .ok (.invokevirtual 59, 3) := by decide +kernel
theorem dX7_copy_10 : decode cX7_copy 10 = .ok (.astore 6, 2) := by decide +kernel
theorem dX7_copy_12 : decode cX7_copy 12 = .ok (.aload_n 0, 1) := by decide +kernel
theorem dX7_copy_13 : decode cX7_copy 13 = .ok (.iload_n 3, 1) := by decide +kernel
theorem dX7_copy_14 : decode cX7_copy 14 = .ok (.invokevirtual 59, 3) := by decide +kernel
theorem dX7_copy_17 : decode cX7_copy 17 = .ok (.astore 7, 2) := by decide +kernel
theorem dX7_copy_19 : decode cX7_copy 19 = .ok (.aload 6, 2) := by decide +kernel
theorem dX7_copy_21 : decode cX7_copy 21 = .ok (.ifnull 8, 3) := by decide +kernel
theorem dX7_copy_24 : decode cX7_copy 24 = .ok (.aload 7, 2) := by decide +kernel
theorem dX7_copy_26 : decode cX7_copy 26 = .ok (.ifnonnull 5, 3) := by decide +kernel
theorem dX7_copy_29 : decode cX7_copy 29 = .ok (.iconst (-1), 1) := by decide +kernel
theorem dX7_copy_30 : decode cX7_copy 30 = .ok (.ireturn, 1) := by decide +kernel
theorem dX7_copy_31 : decode cX7_copy 31 = .ok (.aload 6, 2) := by decide +kernel
theorem dX7_copy_33 : decode cX7_copy 33 = .ok (.invokevirtual 211, 3) := by decide +kernel
theorem dX7_copy_36 : decode cX7_copy 36 = .ok (.ifCond .ne 11, 3) := by decide +kernel
theorem dX7_copy_39 : decode cX7_copy 39 = .ok (.aload 7, 2) := by decide +kernel
theorem dX7_copy_41 : decode cX7_copy 41 = .ok (.invokevirtual 211, 3) := by decide +kernel
theorem dX7_copy_44 : decode cX7_copy 44 = .ok (.ifCond .eq 9, 3) := by decide +kernel
theorem dX7_copy_47 : decode cX7_copy 47 = .ok (.aload_n 0, 1) := by decide +kernel
theorem dX7_copy_48 : decode cX7_copy 48 = .ok (.iconst 1, 1) := by decide +kernel
theorem dX7_copy_49 : decode cX7_copy 49 = .ok (.invokevirtual 71, 3) := by decide +kernel
theorem dX7_copy_52 : decode cX7_copy 52 = .ok (.ireturn, 1) := by decide +kernel
theorem dX7_copy_53 : decode cX7_copy 53 = .ok (.aload 7, 2) := by decide +kernel
theorem dX7_copy_55 : decode cX7_copy 55 = .ok (.aload 6, 2) := by decide +kernel
theorem dX7_copy_57 : decode cX7_copy 57 = .ok (.getfield 223, 3) := by decide +kernel
theorem dX7_copy_60 : decode cX7_copy 60 = .ok (.invokevirtual 67, 3) := by decide +kernel
theorem dX7_copy_63 : decode cX7_copy 63 = .ok (.ifCond .eq 9, 3) := by decide +kernel
theorem dX7_copy_66 : decode cX7_copy 66 = .ok (.aload_n 0, 1) := by decide +kernel
theorem dX7_copy_67 : decode cX7_copy 67 = .ok (.iconst 2, 1) := by decide +kernel
theorem dX7_copy_68 : decode cX7_copy 68 = .ok (.invokevirtual 71, 3) := by decide +kernel
theorem dX7_copy_71 : decode cX7_copy 71 = .ok (.ireturn, 1) := by decide +kernel
theorem dX7_copy_72 : decode cX7_copy 72 = .ok (.aload 6, 2) := by decide +kernel
theorem dX7_copy_74 : decode cX7_copy 74 = .ok (.iload_n 2, 1) := by decide +kernel
theorem dX7_copy_75 : decode cX7_copy 75 = .ok (.iload 5, 2) := by decide +kernel
theorem dX7_copy_77 : decode cX7_copy 77 = .ok (.invokevirtual 74, 3) := by decide +kernel
theorem dX7_copy_80 : decode cX7_copy 80 = .ok (.ifCond .eq 15, 3) := by decide +kernel
theorem dX7_copy_83 : decode cX7_copy 83 = .ok (.aload 7, 2) := by decide +kernel
theorem dX7_copy_85 : decode cX7_copy 85 = .ok (.iload 4, 2) := by decide +kernel
theorem dX7_copy_87 : decode cX7_copy 87 = .ok (.iload 5, 2) := by decide +kernel
theorem dX7_copy_89 : decode cX7_copy 89 = .ok (.invokevirtual 74, 3) := by decide +kernel
theorem dX7_copy_92 : decode cX7_copy 92 = .ok (.ifCond .ne 9, 3) := by decide +kernel
theorem dX7_copy_95 : decode cX7_copy 95 = .ok (.aload_n 0, 1) := by decide +kernel
theorem dX7_copy_96 : decode cX7_copy 96 = .ok (.iconst 3, 1) := by decide +kernel
theorem dX7_copy_97 : decode cX7_copy 97 = .ok (.invokevirtual 71, 3) := by decide +kernel
theorem dX7_copy_100 : decode cX7_copy 100 = .ok (.ireturn, 1) := by decide +kernel
theorem dX7_copy_101 : decode cX7_copy 101 = .ok (.aload 7, 2) := by decide +kernel
theorem dX7_copy_103 : decode cX7_copy 103 = .ok (.iload 4, 2) := by decide +kernel
theorem dX7_copy_105 : decode cX7_copy 105 = .ok (.aload 6, 2) := by decide +kernel
theorem dX7_copy_107 : decode cX7_copy 107 = .ok (.iload_n 2, 1) := by decide +kernel
theorem dX7_copy_108 : decode cX7_copy 108 = .ok (.iload 5, 2) := by decide +kernel
theorem dX7_copy_110 : decode cX7_copy 110 = .ok (.invokevirtual 226, 3) := by decide +kernel
theorem dX7_copy_113 : decode cX7_copy 113 = .ok (.iload 5, 2) := by decide +kernel
theorem dX7_copy_115 : decode cX7_copy 115 = .ok (.ireturn, 1) := by decide +kernel
set_option maxRecDepth 20000 in
theorem ggX7_tell_X7_personOf : GoodIn wsX7_tell wsX7_personOf := goodIn_r _ [6, 7, 8, 50, 51, 52, 53, 54, 55, 56, 57, 58] (by decide +kernel) (by decide +kernel)
set_option maxRecDepth 20000 in
theorem gX7_tell_X7_personOf : GoodIn wsX7_tell (wsV RX7 86 RX7 yX7_personOf wsX7_personOf) := goodIn_app (goodIn_of _ (by decide +kernel)) ggX7_tell_X7_personOf
set_option maxRecDepth 20000 in
theorem ggX7_tell_X0_says : GoodIn wsX7_tell wsX0_says := goodIn_r _ [15, 16, 17, 18, 19, 20, 21, 22, 23, 24, 25, 26, 27, 28, 29, 10, 30, 31, 32, 33, 34, 35, 36, 37, 38, 39, 40, 41, 42, 43, 44, 45, 46, 59, 60, 61, 62] (by decide +kernel) (by decide +kernel)
set_option maxRecDepth 20000 in
theorem gX7_tell_X0_says_u230X0 : GoodIn wsX7_tell (va_wsO RX7 230 RX0 "GumHall$Sitter" ⟨"GumHall$Sitter", "says", "(LGumHall$Trail;)I"⟩ yX0_says wsX0_says) := goodIn_app (goodIn_of _ (by decide +kernel)) ggX7_tell_X0_says
set_option maxRecDepth 20000 in
theorem ggX7_tell_X2_says : GoodIn wsX7_tell wsX2_says := goodIn_r _ [27, 28, 17, 18, 19, 20, 21, 29, 10, 30, 31, 32, 33, 34, 35, 36, 37, 38, 39, 40, 41, 42, 43, 59, 60, 61, 62] (by decide +kernel) (by decide +kernel)
set_option maxRecDepth 20000 in
theorem gX7_tell_X2_says_u230X2 : GoodIn wsX7_tell (va_wsO RX7 230 RX2 "GumHall$Sitter" ⟨"GumHall$Sitter", "says", "(LGumHall$Trail;)I"⟩ yX2_says wsX2_says) := goodIn_app (goodIn_of _ (by decide +kernel)) ggX7_tell_X2_says
set_option maxRecDepth 20000 in
theorem ggX7_tell_X4_says : GoodIn wsX7_tell wsX4_says := goodIn_r _ [33, 34, 35, 36, 37, 32, 38, 39, 40, 17, 18, 19, 20, 21, 41, 42, 43, 60, 61, 62, 59] (by decide +kernel) (by decide +kernel)
set_option maxRecDepth 20000 in
theorem gX7_tell_X4_says : GoodIn wsX7_tell (wsV RX7 230 RX4 yX4_says wsX4_says) := goodIn_app (goodIn_of _ (by decide +kernel)) ggX7_tell_X4_says
theorem dX7_tell_0 : decode cX7_tell 0 = .ok (.aload_n 0, 1) := by decide +kernel
theorem dX7_tell_1 : decode cX7_tell 1 = .ok (.iload_n 1, 1) := by decide +kernel
theorem dX7_tell_2 : decode cX7_tell 2 = .ok (.invokevirtual 86, 3) := by decide +kernel
theorem dX7_tell_5 : decode cX7_tell 5 = .ok (.astore_n 2, 1) := by decide +kernel
theorem dX7_tell_6 : decode cX7_tell 6 = .ok (.aload_n 2, 1) := by decide +kernel
theorem dX7_tell_7 : decode cX7_tell 7 = .ok (.ifnonnull 5, 3) := by decide +kernel
theorem dX7_tell_10 : decode cX7_tell 10 = .ok (.iconst (-1), 1) := by decide +kernel
theorem dX7_tell_11 : decode cX7_tell 11 = .ok (.ireturn, 1) := by decide +kernel
theorem dX7_tell_12 : decode cX7_tell 12 = .ok (.aload_n 2, 1) := by decide +kernel
theorem dX7_tell_13 : decode cX7_tell 13 = .ok (.aload_n 0, 1) := by decide +kernel
theorem dX7_tell_14 : decode cX7_tell 14 = .ok (.getfield 44, 3) := by decide +kernel
theorem dX7_tell_17 : decode cX7_tell 17 = .ok (.invokevirtual 230, 3) := by decide +kernel
theorem dX7_tell_20 : decode cX7_tell 20 = .ok (.ireturn, 1) := by decide +kernel
set_option maxRecDepth 20000 in
theorem ggX7_greet_X7_personOf : GoodIn wsX7_greet wsX7_personOf := goodIn_r _ [6, 7, 8, 29, 30, 31, 32, 33, 34, 35, 36, 37] (by decide +kernel) (by decide +kernel)
set_option maxRecDepth 20000 in
theorem gX7_greet_X7_personOf : GoodIn wsX7_greet (wsV RX7 86 RX7 yX7_personOf wsX7_personOf) := goodIn_app (goodIn_of _ (by decide +kernel)) ggX7_greet_X7_personOf
set_option maxRecDepth 20000 in
theorem ggX7_greet_X0_isGreeted : GoodIn wsX7_greet wsX0_isGreeted := goodIn_r _ [15, 16, 17, 18, 19, 20, 21, 38] (by decide +kernel) (by decide +kernel)
set_option maxRecDepth 20000 in
theorem gX7_greet_X0_isGreeted_u234X0 : GoodIn wsX7_greet (va_wsO RX7 234 RX0 "GumHall$Sitter" ⟨"GumHall$Sitter", "isGreeted", "(ILGumHall$Trail;)I"⟩ yX0_isGreeted wsX0_isGreeted) := goodIn_app (goodIn_of _ (by decide +kernel)) ggX7_greet_X0_isGreeted
set_option maxRecDepth 20000 in
theorem ggX7_greet_X4_isGreeted : GoodIn wsX7_greet wsX4_isGreeted := goodIn_r _ [22, 26, 17, 18, 19, 20, 21, 38] (by decide +kernel) (by decide +kernel)
set_option maxRecDepth 20000 in
theorem gX7_greet_X4_isGreeted_u234X2 : GoodIn wsX7_greet (va_wsU RX7 234 RX2 "GumHall$Sitter" ⟨"GumHall$Sitter", "isGreeted", "(ILGumHall$Trail;)I"⟩ yX4_isGreeted wsX4_isGreeted) := goodIn_app (goodIn_of _ (by decide +kernel)) ggX7_greet_X4_isGreeted
set_option maxRecDepth 20000 in
theorem gX7_greet_X4_isGreeted : GoodIn wsX7_greet (wsV RX7 234 RX4 yX4_isGreeted wsX4_isGreeted) := goodIn_app (goodIn_of _ (by decide +kernel)) ggX7_greet_X4_isGreeted
theorem dX7_greet_0 : decode cX7_greet 0 = .ok (.aload_n 0, 1) := by decide +kernel
theorem dX7_greet_1 : decode cX7_greet 1 = .ok (.iload_n 1, 1) := by decide +kernel
theorem dX7_greet_2 : decode cX7_greet 2 = .ok (.invokevirtual 86, 3) := by decide +kernel
theorem dX7_greet_5 : decode cX7_greet 5 = .ok (.astore_n 2, 1) := by decide +kernel
theorem dX7_greet_6 : decode cX7_greet 6 = .ok (.aload_n 2, 1) := by decide +kernel
theorem dX7_greet_7 : decode cX7_greet 7 = .ok (.ifnonnull 5, 3) := by decide +kernel
theorem dX7_greet_10 : decode cX7_greet 10 = .ok (.iconst (-1), 1) := by decide +kernel
theorem dX7_greet_11 : decode cX7_greet 11 = .ok (.ireturn, 1) := by decide +kernel
theorem dX7_greet_12 : decode cX7_greet 12 = .ok (.aload_n 2, 1) := by decide +kernel
theorem dX7_greet_13 : decode cX7_greet 13 = .ok (.iload_n 1, 1) := by decide +kernel
theorem dX7_greet_14 : decode cX7_greet 14 = .ok (.aload_n 0, 1) := by decide +kernel
theorem dX7_greet_15 : decode cX7_greet 15 = .ok (.getfield 44, 3) := by decide +kernel
theorem dX7_greet_18 : decode cX7_greet 18 = .ok (.invokevirtual 234, 3) := by decide +kernel
theorem dX7_greet_21 : decode cX7_greet 21 = .ok (.ireturn, 1) := by decide +kernel
set_option maxRecDepth 20000 in
theorem ggX7_as_X7_personOf : GoodIn wsX7_as wsX7_personOf := goodIn_r _ [6, 7, 8, 29, 30, 31, 32, 33, 34, 35, 36, 37] (by decide +kernel) (by decide +kernel)
set_option maxRecDepth 20000 in
theorem gX7_as_X7_personOf : GoodIn wsX7_as (wsV RX7 86 RX7 yX7_personOf wsX7_personOf) := goodIn_app (goodIn_of _ (by decide +kernel)) ggX7_as_X7_personOf
set_option maxRecDepth 20000 in
theorem ggX7_as_X0_kindNumber : GoodIn wsX7_as wsX0_kindNumber := goodIn_r _ [15] (by decide +kernel) (by decide +kernel)
set_option maxRecDepth 20000 in
theorem gX7_as_X0_kindNumber_u93X0 : GoodIn wsX7_as (va_wsO RX7 93 RX0 "GumHall$Sitter" ⟨"GumHall$Sitter", "kindNumber", "()I"⟩ yX0_kindNumber wsX0_kindNumber) := goodIn_app (goodIn_of _ (by decide +kernel)) ggX7_as_X0_kindNumber
set_option maxRecDepth 20000 in
theorem ggX7_as_X2_kindNumber : GoodIn wsX7_as wsX2_kindNumber := goodIn_r _ [20] (by decide +kernel) (by decide +kernel)
set_option maxRecDepth 20000 in
theorem gX7_as_X2_kindNumber_u93X2 : GoodIn wsX7_as (va_wsO RX7 93 RX2 "GumHall$Sitter" ⟨"GumHall$Sitter", "kindNumber", "()I"⟩ yX2_kindNumber wsX2_kindNumber) := goodIn_app (goodIn_of _ (by decide +kernel)) ggX7_as_X2_kindNumber
set_option maxRecDepth 20000 in
theorem ggX7_as_X4_kindNumber : GoodIn wsX7_as wsX4_kindNumber := goodIn_r _ [16] (by decide +kernel) (by decide +kernel)
set_option maxRecDepth 20000 in
theorem gX7_as_X4_kindNumber : GoodIn wsX7_as (wsV RX7 93 RX4 yX4_kindNumber wsX4_kindNumber) := goodIn_app (goodIn_of _ (by decide +kernel)) ggX7_as_X4_kindNumber
set_option maxRecDepth 20000 in
theorem ggX7_as_X7_fails : GoodIn wsX7_as wsX7_fails := goodIn_r _ [28, 1, 29, 30, 31, 32, 33, 34, 35, 36, 37] (by decide +kernel) (by decide +kernel)
set_option maxRecDepth 20000 in
theorem gX7_as_X7_fails : GoodIn wsX7_as (wsV RX7 71 RX7 yX7_fails wsX7_fails) := goodIn_app (goodIn_of _ (by decide +kernel)) ggX7_as_X7_fails
theorem dX7_as_0 : decode cX7_as 0 = .ok (.aload_n 0, 1) := by decide +kernel
theorem dX7_as_1 : decode cX7_as 1 = .ok (.iconst 0, 1) := by decide +kernel
theorem dX7_as_2 : decode cX7_as 2 = .ok (.putfield 55, 3) := by decide +kernel
theorem dX7_as_5 : decode cX7_as 5 = .ok (.aload_n 0, 1) := by decide +kernel
theorem dX7_as_6 : decode cX7_as 6 = .ok (.iload_n 1, 1) := by decide +kernel
theorem dX7_as_7 : decode cX7_as 7 = .ok (.invokevirtual 86, 3) := by decide +kernel
theorem dX7_as_10 : decode cX7_as 10 = .ok (.astore_n 3, 1) := by decide +kernel
theorem dX7_as_11 : decode cX7_as 11 = .ok (.aload_n 3, 1) := by decide +kernel
theorem dX7_as_12 : decode cX7_as 12 = .ok (.ifnonnull 5, 3) := by decide +kernel
theorem dX7_as_15 : decode cX7_as 15 = .ok (.iconst (-1), 1) := by decide +kernel
theorem dX7_as_16 : decode cX7_as 16 = .ok (.ireturn, 1) := by decide +kernel
theorem dX7_as_17 : decode cX7_as 17 = .ok (.iload_n 2, 1) := by decide +kernel
theorem dX7_as_18 : decode cX7_as 18 = .ok (.ifCond .lt 8, 3) := by decide +kernel
theorem dX7_as_21 : decode cX7_as 21 = .ok (.iload_n 2, 1) := by decide +kernel
theorem dX7_as_22 : decode cX7_as 22 = .ok (.iconst 2, 1) := by decide +kernel
theorem dX7_as_23 : decode cX7_as 23 = .ok (.if_icmp .le 6, 3) := by decide +kernel
theorem dX7_as_26 : decode cX7_as 26 = .ok (.bipush (-2), 2) := by decide +kernel
theorem dX7_as_28 : decode cX7_as 28 = .ok (.ireturn, 1) := by decide +kernel
theorem dX7_as_29 : decode cX7_as 29 = .ok (.aload_n 3, 1) := by decide +kernel
theorem dX7_as_30 : decode cX7_as 30 = .ok (.invokevirtual 93, 3) := by decide +kernel
theorem dX7_as_33 : decode cX7_as 33 = .ok (.iload_n 2, 1) := by decide +kernel
theorem dX7_as_34 : decode cX7_as 34 = .ok (.if_icmp .ge 9, 3) := by decide +kernel
theorem dX7_as_37 : decode cX7_as 37 = .ok (.aload_n 0, 1) := by decide +kernel
theorem dX7_as_38 : decode cX7_as 38 = .ok (.iconst 2, 1) := by decide +kernel
theorem dX7_as_39 : decode cX7_as 39 = .ok (.invokevirtual 71, 3) := by decide +kernel
theorem dX7_as_42 : decode cX7_as 42 = .ok (.ireturn, 1) := by decide +kernel
theorem dX7_as_43 : decode cX7_as 43 = .ok (.iconst 1, 1) := by decide +kernel
theorem dX7_as_44 : decode cX7_as 44 = .ok (.ireturn, 1) := by decide +kernel
theorem dX7_trace_0 : decode cX7_trace 0 = .ok (.aload_n 0, 1) := by decide +kernel
theorem dX7_trace_1 : decode cX7_trace 1 = .ok (.getfield 44, 3) := by decide +kernel
theorem dX7_trace_4 : decode cX7_trace 4 = .ok (.getfield 238, 3) := by decide +kernel
theorem dX7_trace_7 : decode cX7_trace 7 = .ok (.ireturn, 1) := by decide +kernel
theorem dX7_fault_0 : decode cX7_fault 0 = .ok (.aload_n 0, 1) := by decide +kernel
theorem dX7_fault_1 : decode cX7_fault 1 = .ok (.getfield 55, 3) := by decide +kernel
theorem dX7_fault_4 : decode cX7_fault 4 = .ok (.ireturn, 1) := by decide +kernel
set_option maxRecDepth 20000 in
theorem ggX7_many_X5_count : GoodIn wsX7_many wsX5_count := goodIn_r _ [8, 9, 19, 20, 21, 22, 23, 24, 25] (by decide +kernel) (by decide +kernel)
set_option maxRecDepth 20000 in
theorem gX7_many_X5_count : GoodIn wsX7_many (wsV RX7 140 RX5 yX5_count wsX5_count) := goodIn_app (goodIn_of _ (by decide +kernel)) ggX7_many_X5_count
theorem dX7_many_0 : decode cX7_many 0 = .ok (.iload_n 1, 1) := by decide +kernel
theorem dX7_many_1 : decode cX7_many 1 = .ok (.tableswitch 85 0 5 #[39, 44, 49, 58, 67, 76], 39) := by decide +kernel
theorem dX7_many_40 : decode cX7_many 40 = .ok (.aload_n 0, 1) := by decide +kernel
theorem dX7_many_41 : decode cX7_many 41 = .ok (.getfield 48, 3) := by decide +kernel
theorem dX7_many_44 : decode cX7_many 44 = .ok (.ireturn, 1) := by decide +kernel
theorem dX7_many_45 : decode cX7_many 45 = .ok (.aload_n 0, 1) := by decide +kernel
theorem dX7_many_46 : decode cX7_many 46 = .ok (.getfield 52, 3) := by decide +kernel
theorem dX7_many_49 : decode cX7_many 49 = .ok (.ireturn, 1) := by decide +kernel
theorem dX7_many_50 : decode cX7_many 50 = .ok (.aload_n 0, 1) := by decide +kernel
theorem dX7_many_51 : decode cX7_many 51 = .ok (.getfield 30, 3) := by decide +kernel
theorem dX7_many_54 : decode cX7_many 54 = .ok (.iconst 2, 1) := by decide +kernel
theorem dX7_many_55 : decode cX7_many 55 = .ok (.invokevirtual 140, 3) := by decide +kernel
theorem dX7_many_58 : decode cX7_many 58 = .ok (.ireturn, 1) := by decide +kernel
theorem dX7_many_59 : decode cX7_many 59 = .ok (.aload_n 0, 1) := by decide +kernel
theorem dX7_many_60 : decode cX7_many 60 = .ok (.getfield 30, 3) := by decide +kernel
theorem dX7_many_63 : decode cX7_many 63 = .ok (.iconst 1, 1) := by decide +kernel
theorem dX7_many_64 : decode cX7_many 64 = .ok (.invokevirtual 140, 3) := by decide +kernel
theorem dX7_many_67 : decode cX7_many 67 = .ok (.ireturn, 1) := by decide +kernel
theorem dX7_many_68 : decode cX7_many 68 = .ok (.aload_n 0, 1) := by decide +kernel
theorem dX7_many_69 : decode cX7_many 69 = .ok (.getfield 30, 3) := by decide +kernel
theorem dX7_many_72 : decode cX7_many 72 = .ok (.iconst 0, 1) := by decide +kernel
theorem dX7_many_73 : decode cX7_many 73 = .ok (.invokevirtual 140, 3) := by decide +kernel
theorem dX7_many_76 : decode cX7_many 76 = .ok (.ireturn, 1) := by decide +kernel
theorem dX7_many_77 : decode cX7_many 77 = .ok (.aload_n 0, 1) := by decide +kernel
theorem dX7_many_78 : decode cX7_many 78 = .ok (.getfield 30, 3) := by decide +kernel
theorem dX7_many_81 : decode cX7_many 81 = .ok (.iconst 3, 1) := by decide +kernel
theorem dX7_many_82 : decode cX7_many 82 = .ok (.invokevirtual 140, 3) := by decide +kernel
theorem dX7_many_85 : decode cX7_many 85 = .ok (.ireturn, 1) := by decide +kernel
theorem dX7_many_86 : decode cX7_many 86 = .ok (.bipush (-2), 2) := by decide +kernel
theorem dX7_many_88 : decode cX7_many 88 = .ok (.ireturn, 1) := by decide +kernel
theorem dX7_sheetOf_0 : decode cX7_sheetOf 0 = .ok (.iload_n 1, 1) := by decide +kernel
theorem dX7_sheetOf_1 : decode cX7_sheetOf 1 = .ok (.ifCond .lt 17, 3) := by decide +kernel
theorem dX7_sheetOf_4 : decode cX7_sheetOf 4 = .ok (.iload_n 1, 1) := by decide +kernel
theorem dX7_sheetOf_5 : decode cX7_sheetOf 5 = .ok (.iconst 4, 1) := by decide +kernel
theorem dX7_sheetOf_6 : decode cX7_sheetOf 6 = .ok (.if_icmp .ge 12, 3) := by decide +kernel
theorem dX7_sheetOf_9 : decode cX7_sheetOf 9 = .ok (.aload_n 0, 1) := by decide +kernel
theorem dX7_sheetOf_10 : decode cX7_sheetOf 10 = .ok (.getfield 13, 3) := by decide +kernel
theorem dX7_sheetOf_13 : decode cX7_sheetOf 13 = .ok (.iload_n 1, 1) := by decide +kernel
theorem dX7_sheetOf_14 : decode cX7_sheetOf 14 = .ok (.aaload, 1) := by decide +kernel
theorem dX7_sheetOf_15 : decode cX7_sheetOf 15 = .ok (.goto 4, 3) := by decide +kernel
theorem dX7_sheetOf_18 : decode cX7_sheetOf 18 = .ok (.aconst_null, 1) := by decide +kernel
theorem dX7_sheetOf_19 : decode cX7_sheetOf 19 = .ok (.areturn, 1) := by decide +kernel
theorem dX7_personOf_0 : decode cX7_personOf 0 = .ok (.iload_n 1, 1) := by decide +kernel
theorem dX7_personOf_1 : decode cX7_personOf 1 = .ok (.ifCond .lt 25, 3) := by decide +kernel
theorem dX7_personOf_4 : decode cX7_personOf 4 = .ok (.iload_n 1, 1) := by decide +kernel
theorem dX7_personOf_5 : decode cX7_personOf 5 = .ok (.aload_n 0, 1) := by decide +kernel
theorem dX7_personOf_6 : decode cX7_personOf 6 = .ok (.getfield 48, 3) := by decide +kernel
theorem dX7_personOf_9 : decode cX7_personOf 9 = .ok (.if_icmp .ge 17, 3) := by decide +kernel
theorem dX7_personOf_12 : decode cX7_personOf 12 = .ok (.iload_n 1, 1) := by decide +kernel
theorem dX7_personOf_13 : decode cX7_personOf 13 = .ok (.iconst 5, 1) := by decide +kernel
theorem dX7_personOf_14 : decode cX7_personOf 14 = .ok (.if_icmp .ge 12, 3) := by decide +kernel
theorem dX7_personOf_17 : decode cX7_personOf 17 = .ok (.aload_n 0, 1) := by decide +kernel
theorem dX7_personOf_18 : decode cX7_personOf 18 = .ok (.getfield 19, 3) := by decide +kernel
theorem dX7_personOf_21 : decode cX7_personOf 21 = .ok (.iload_n 1, 1) := by decide +kernel
theorem dX7_personOf_22 : decode cX7_personOf 22 = .ok (.aaload, 1) := by decide +kernel
theorem dX7_personOf_23 : decode cX7_personOf 23 = .ok (.goto 4, 3) := by decide +kernel
theorem dX7_personOf_26 : decode cX7_personOf 26 = .ok (.aconst_null, 1) := by decide +kernel
theorem dX7_personOf_27 : decode cX7_personOf 27 = .ok (.areturn, 1) := by decide +kernel
theorem dX7_hasHall_0 : decode cX7_hasHall 0 = .ok (.aload_n 0, 1) := by decide +kernel
theorem dX7_hasHall_1 : decode cX7_hasHall 1 = .ok (.getfield 48, 3) := by decide +kernel
theorem dX7_hasHall_4 : decode cX7_hasHall 4 = .ok (.ifCond .le 7, 3) := by decide +kernel
theorem dX7_hasHall_7 : decode cX7_hasHall 7 = .ok (.iconst 1, 1) := by decide +kernel
theorem dX7_hasHall_8 : decode cX7_hasHall 8 = .ok (.goto 4, 3) := by decide +kernel
theorem dX7_hasHall_11 : decode cX7_hasHall 11 = .ok (.iconst 0, 1) := by decide +kernel
theorem dX7_hasHall_12 : decode cX7_hasHall 12 = .ok (.ireturn, 1) := by decide +kernel
theorem dX7_isPlace_0 : decode cX7_isPlace 0 = .ok (.iload_n 1, 1) := by decide +kernel
theorem dX7_isPlace_1 : decode cX7_isPlace 1 = .ok (.ifCond .lt 15, 3) := by decide +kernel
theorem dX7_isPlace_4 : decode cX7_isPlace 4 = .ok (.iload_n 1, 1) := by decide +kernel
theorem dX7_isPlace_5 : decode cX7_isPlace 5 = .ok (.aload_n 0, 1) := by decide +kernel
theorem dX7_isPlace_6 : decode cX7_isPlace 6 = .ok (.getfield 52, 3) := by decide +kernel
theorem dX7_isPlace_9 : decode cX7_isPlace 9 = .ok (.if_icmp .ge 7, 3) := by decide +kernel
theorem dX7_isPlace_12 : decode cX7_isPlace 12 = .ok (.iconst 1, 1) := by decide +kernel
theorem dX7_isPlace_13 : decode cX7_isPlace 13 = .ok (.goto 4, 3) := by decide +kernel
theorem dX7_isPlace_16 : decode cX7_isPlace 16 = .ok (.iconst 0, 1) := by decide +kernel
theorem dX7_isPlace_17 : decode cX7_isPlace 17 = .ok (.ireturn, 1) := by decide +kernel
theorem dX7_isNight_0 : decode cX7_isNight 0 = .ok (.iload_n 0, 1) := by decide +kernel
theorem dX7_isNight_1 : decode cX7_isNight 1 = .ok (.ifCond .lt 13, 3) := by decide +kernel
theorem dX7_isNight_4 : decode cX7_isNight 4 = .ok (.iload_n 0, 1) := by decide +kernel
theorem dX7_isNight_5 : decode cX7_isNight 5 = .ok (.bipush 40, 2) := by decide +kernel
theorem dX7_isNight_7 : decode cX7_isNight 7 = .ok (.if_icmp .ge 7, 3) := by decide +kernel
theorem dX7_isNight_10 : decode cX7_isNight 10 = .ok (.iconst 1, 1) := by decide +kernel
theorem dX7_isNight_11 : decode cX7_isNight 11 = .ok (.goto 4, 3) := by decide +kernel
theorem dX7_isNight_14 : decode cX7_isNight 14 = .ok (.iconst 0, 1) := by decide +kernel
theorem dX7_isNight_15 : decode cX7_isNight 15 = .ok (.ireturn, 1) := by decide +kernel
theorem dX7_isGum_0 : decode cX7_isGum 0 = .ok (.iload_n 0, 1) := by decide +kernel
theorem dX7_isGum_1 : decode cX7_isGum 1 = .ok (.ifCond .lt 13, 3) := by decide +kernel
theorem dX7_isGum_4 : decode cX7_isGum 4 = .ok (.iload_n 0, 1) := by decide +kernel
theorem dX7_isGum_5 : decode cX7_isGum 5 = .ok (.bipush 8, 2) := by decide +kernel
theorem dX7_isGum_7 : decode cX7_isGum 7 = .ok (.if_icmp .ge 7, 3) := by decide +kernel
theorem dX7_isGum_10 : decode cX7_isGum 10 = .ok (.iconst 1, 1) := by decide +kernel
theorem dX7_isGum_11 : decode cX7_isGum 11 = .ok (.goto 4, 3) := by decide +kernel
theorem dX7_isGum_14 : decode cX7_isGum 14 = .ok (.iconst 0, 1) := by decide +kernel
theorem dX7_isGum_15 : decode cX7_isGum 15 = .ok (.ireturn, 1) := by decide +kernel
theorem dX7_isLane_0 : decode cX7_isLane 0 = .ok (.iload_n 0, 1) := by decide +kernel
theorem dX7_isLane_1 : decode cX7_isLane 1 = .ok (.ifCond .lt 12, 3) := by decide +kernel
theorem dX7_isLane_4 : decode cX7_isLane 4 = .ok (.iload_n 0, 1) := by decide +kernel
theorem dX7_isLane_5 : decode cX7_isLane 5 = .ok (.iconst 3, 1) := by decide +kernel
theorem dX7_isLane_6 : decode cX7_isLane 6 = .ok (.if_icmp .ge 7, 3) := by decide +kernel
theorem dX7_isLane_9 : decode cX7_isLane 9 = .ok (.iconst 1, 1) := by decide +kernel
theorem dX7_isLane_10 : decode cX7_isLane 10 = .ok (.goto 4, 3) := by decide +kernel
theorem dX7_isLane_13 : decode cX7_isLane 13 = .ok (.iconst 0, 1) := by decide +kernel
theorem dX7_isLane_14 : decode cX7_isLane 14 = .ok (.ireturn, 1) := by decide +kernel
theorem dX7_isEither_0 : decode cX7_isEither 0 = .ok (.iload_n 0, 1) := by decide +kernel
theorem dX7_isEither_1 : decode cX7_isEither 1 = .ok (.ifCond .eq 8, 3) := by decide +kernel
theorem dX7_isEither_4 : decode cX7_isEither 4 = .ok (.iload_n 0, 1) := by decide +kernel
theorem dX7_isEither_5 : decode cX7_isEither 5 = .ok (.iconst 1, 1) := by decide +kernel
theorem dX7_isEither_6 : decode cX7_isEither 6 = .ok (.if_icmp .ne 7, 3) := by decide +kernel
theorem dX7_isEither_9 : decode cX7_isEither 9 = .ok (.iconst 1, 1) := by decide +kernel
theorem dX7_isEither_10 : decode cX7_isEither 10 = .ok (.goto 4, 3) := by decide +kernel
theorem dX7_isEither_13 : decode cX7_isEither 13 = .ok (.iconst 0, 1) := by decide +kernel
theorem dX7_isEither_14 : decode cX7_isEither 14 = .ok (.ireturn, 1) := by decide +kernel
theorem dX7_fails_0 : decode cX7_fails 0 = .ok (.aload_n 0, 1) := by decide +kernel
theorem dX7_fails_1 : decode cX7_fails 1 = .ok (.iload_n 1, 1) := by decide +kernel
theorem dX7_fails_2 : decode cX7_fails 2 = .ok (.putfield 55, 3) := by decide +kernel
theorem dX7_fails_5 : decode cX7_fails 5 = .ok (.bipush (-10), 2) := by decide +kernel
theorem dX7_fails_7 : decode cX7_fails 7 = .ok (.iload_n 1, 1) := by decide +kernel
theorem dX7_fails_8 : decode cX7_fails 8 = .ok (.isub, 1) := by decide +kernel
theorem dX7_fails_9 : decode cX7_fails 9 = .ok (.ireturn, 1) := by decide +kernel
set_option maxRecDepth 20000 in
theorem ggX7_firstFault_X3_read : GoodIn wsX7_firstFault wsX3_read := goodIn_r _ [5, 6, 7, 8, 9, 4, 10, 11, 16, 17, 18] (by decide +kernel) (by decide +kernel)
set_option maxRecDepth 20000 in
theorem gX7_firstFault_X3_read : GoodIn wsX7_firstFault (wsV RX7 220 RX3 yX3_read wsX3_read) := goodIn_app (goodIn_of _ (by decide +kernel)) ggX7_firstFault_X3_read
set_option maxRecDepth 20000 in
theorem ggX7_firstFault_X7_goesOn : GoodIn wsX7_firstFault wsX7_goesOn := goodIn_r _ [15] (by decide +kernel) (by decide +kernel)
set_option maxRecDepth 20000 in
theorem gX7_firstFault_X7_goesOn : GoodIn wsX7_firstFault (va_wsS RX7 241 yX7_goesOn wsX7_goesOn) := goodIn_app (goodIn_of _ (by decide +kernel)) ggX7_firstFault_X7_goesOn
theorem dX7_firstFault_0 : decode cX7_firstFault 0 = .ok (.iconst 0, 1) := by decide +kernel
theorem dX7_firstFault_1 : decode cX7_firstFault 1 = .ok (.istore_n 3, 1) := by decide +kernel
theorem dX7_firstFault_2 : decode cX7_firstFault 2 = .ok (.iload_n 3, 1) := by decide +kernel
theorem dX7_firstFault_3 : decode cX7_firstFault 3 = .ok (.iload_n 2, 1) := by decide +kernel
theorem dX7_firstFault_4 : decode cX7_firstFault 4 = .ok (.if_icmp .ge 25, 3) := by decide +kernel
theorem dX7_firstFault_7 : decode cX7_firstFault 7 = .ok (.iload_n 3, 1) := by decide +kernel
theorem dX7_firstFault_8 : decode cX7_firstFault 8 = .ok (.aload_n 0, 1) := by decide +kernel
theorem dX7_firstFault_9 : decode cX7_firstFault 9 = .ok (.iload_n 1, 1) := by decide +kernel
theorem dX7_firstFault_10 : decode cX7_firstFault 10 = .ok (.iload_n 3, 1) := by decide +kernel
theorem dX7_firstFault_11 : decode cX7_firstFault 11 = .ok (.iadd, 1) := by decide +kernel
theorem dX7_firstFault_12 : decode cX7_firstFault 12 = .ok (.invokevirtual 220, 3) := by decide +kernel
theorem dX7_firstFault_15 : decode cX7_firstFault 15 = .ok (.invokestatic 241, 3) := by decide +kernel
theorem dX7_firstFault_18 : decode cX7_firstFault 18 = .ok (.ifCond .ne 5, 3) := by decide +kernel
theorem dX7_firstFault_21 : decode cX7_firstFault 21 = .ok (.iload_n 3, 1) := by decide +kernel
theorem dX7_firstFault_22 : decode cX7_firstFault 22 = .ok (.ireturn, 1) := by decide +kernel
theorem dX7_firstFault_23 : decode cX7_firstFault 23 = .ok (.iinc 3 1, 3) := by decide +kernel
theorem dX7_firstFault_26 : decode cX7_firstFault 26 = .ok (.goto (-24), 3) := by decide +kernel
theorem dX7_firstFault_29 : decode cX7_firstFault 29 = .ok (.iload_n 2, 1) := by decide +kernel
theorem dX7_firstFault_30 : decode cX7_firstFault 30 = .ok (.iconst 2, 1) := by decide +kernel
theorem dX7_firstFault_31 : decode cX7_firstFault 31 = .ok (.if_icmp .le 15, 3) := by decide +kernel
theorem dX7_firstFault_34 : decode cX7_firstFault 34 = .ok (.iload_n 2, 1) := by decide +kernel
theorem dX7_firstFault_35 : decode cX7_firstFault 35 = .ok (.iconst 2, 1) := by decide +kernel
theorem dX7_firstFault_36 : decode cX7_firstFault 36 = .ok (.isub, 1) := by decide +kernel
theorem dX7_firstFault_37 : decode cX7_firstFault 37 = .ok (.iconst 3, 1) := by decide +kernel
theorem dX7_firstFault_38 : decode cX7_firstFault 38 = .ok (.irem, 1) := by decide +kernel
theorem dX7_firstFault_39 : decode cX7_firstFault 39 = .ok (.ifCond .ne 7, 3) := by decide +kernel
theorem dX7_firstFault_42 : decode cX7_firstFault 42 = .ok (.iconst 1, 1) := by decide +kernel
theorem dX7_firstFault_43 : decode cX7_firstFault 43 = .ok (.goto 4, 3) := by decide +kernel
theorem dX7_firstFault_46 : decode cX7_firstFault 46 = .ok (.iconst 0, 1) := by decide +kernel
theorem dX7_firstFault_47 : decode cX7_firstFault 47 = .ok (.istore_n 3, 1) := by decide +kernel
theorem dX7_firstFault_48 : decode cX7_firstFault 48 = .ok (.iload_n 3, 1) := by decide +kernel
theorem dX7_firstFault_49 : decode cX7_firstFault 49 = .ok (.ifCond .eq 8, 3) := by decide +kernel
theorem dX7_firstFault_52 : decode cX7_firstFault 52 = .ok (.bipush (-9), 2) := by decide +kernel
theorem dX7_firstFault_54 : decode cX7_firstFault 54 = .ok (.goto 4, 3) := by decide +kernel
theorem dX7_firstFault_57 : decode cX7_firstFault 57 = .ok (.iload_n 2, 1) := by decide +kernel
theorem dX7_firstFault_58 : decode cX7_firstFault 58 = .ok (.ireturn, 1) := by decide +kernel
theorem dX7_goesOn_0 : decode cX7_goesOn 0 = .ok (.iload_n 0, 1) := by decide +kernel
theorem dX7_goesOn_1 : decode cX7_goesOn 1 = .ok (.ifCond .ne 15, 3) := by decide +kernel
theorem dX7_goesOn_4 : decode cX7_goesOn 4 = .ok (.iload_n 1, 1) := by decide +kernel
theorem dX7_goesOn_5 : decode cX7_goesOn 5 = .ok (.bipush 104, 2) := by decide +kernel
theorem dX7_goesOn_7 : decode cX7_goesOn 7 = .ok (.if_icmp .ne 7, 3) := by decide +kernel
theorem dX7_goesOn_10 : decode cX7_goesOn 10 = .ok (.iconst 1, 1) := by decide +kernel
theorem dX7_goesOn_11 : decode cX7_goesOn 11 = .ok (.goto 4, 3) := by decide +kernel
theorem dX7_goesOn_14 : decode cX7_goesOn 14 = .ok (.iconst 0, 1) := by decide +kernel
theorem dX7_goesOn_15 : decode cX7_goesOn 15 = .ok (.ireturn, 1) := by decide +kernel
theorem dX7_goesOn_16 : decode cX7_goesOn 16 = .ok (.iload_n 0, 1) := by decide +kernel
theorem dX7_goesOn_17 : decode cX7_goesOn 17 = .ok (.iconst 1, 1) := by decide +kernel
theorem dX7_goesOn_18 : decode cX7_goesOn 18 = .ok (.if_icmp .ne 21, 3) := by decide +kernel
theorem dX7_goesOn_21 : decode cX7_goesOn 21 = .ok (.iload_n 1, 1) := by decide +kernel
theorem dX7_goesOn_22 : decode cX7_goesOn 22 = .ok (.bipush 50, 2) := by decide +kernel
theorem dX7_goesOn_24 : decode cX7_goesOn 24 = .ok (.if_icmp .lt 13, 3) := by decide +kernel
theorem dX7_goesOn_27 : decode cX7_goesOn 27 = .ok (.iload_n 1, 1) := by decide +kernel
theorem dX7_goesOn_28 : decode cX7_goesOn 28 = .ok (.bipush 54, 2) := by decide +kernel
theorem dX7_goesOn_30 : decode cX7_goesOn 30 = .ok (.if_icmp .gt 7, 3) := by decide +kernel
theorem dX7_goesOn_33 : decode cX7_goesOn 33 = .ok (.iconst 1, 1) := by decide +kernel
theorem dX7_goesOn_34 : decode cX7_goesOn 34 = .ok (.goto 4, 3) := by decide +kernel
theorem dX7_goesOn_37 : decode cX7_goesOn 37 = .ok (.iconst 0, 1) := by decide +kernel
theorem dX7_goesOn_38 : decode cX7_goesOn 38 = .ok (.ireturn, 1) := by decide +kernel
theorem dX7_goesOn_39 : decode cX7_goesOn 39 = .ok (.iload_n 0, 1) := by decide +kernel
theorem dX7_goesOn_40 : decode cX7_goesOn 40 = .ok (.bipush 17, 2) := by decide +kernel
theorem dX7_goesOn_42 : decode cX7_goesOn 42 = .ok (.if_icmp .lt 5, 3) := by decide +kernel
theorem dX7_goesOn_45 : decode cX7_goesOn 45 = .ok (.iconst 0, 1) := by decide +kernel
theorem dX7_goesOn_46 : decode cX7_goesOn 46 = .ok (.ireturn, 1) := by decide +kernel
theorem dX7_goesOn_47 : decode cX7_goesOn 47 = .ok (.iload_n 0, 1) := by decide +kernel
theorem dX7_goesOn_48 : decode cX7_goesOn 48 = .ok (.iconst 2, 1) := by decide +kernel
theorem dX7_goesOn_49 : decode cX7_goesOn 49 = .ok (.isub, 1) := by decide +kernel
theorem dX7_goesOn_50 : decode cX7_goesOn 50 = .ok (.iconst 3, 1) := by decide +kernel
theorem dX7_goesOn_51 : decode cX7_goesOn 51 = .ok (.irem, 1) := by decide +kernel
theorem dX7_goesOn_52 : decode cX7_goesOn 52 = .ok (.lookupswitch 64 #[(0, 28), (1, 40)], 28) := by decide +kernel
theorem dX7_goesOn_80 : decode cX7_goesOn 80 = .ok (.iload_n 1, 1) := by decide +kernel
theorem dX7_goesOn_81 : decode cX7_goesOn 81 = .ok (.bipush 59, 2) := by decide +kernel
theorem dX7_goesOn_83 : decode cX7_goesOn 83 = .ok (.if_icmp .ne 7, 3) := by decide +kernel
theorem dX7_goesOn_86 : decode cX7_goesOn 86 = .ok (.iconst 1, 1) := by decide +kernel
theorem dX7_goesOn_87 : decode cX7_goesOn 87 = .ok (.goto 4, 3) := by decide +kernel
theorem dX7_goesOn_90 : decode cX7_goesOn 90 = .ok (.iconst 0, 1) := by decide +kernel
theorem dX7_goesOn_91 : decode cX7_goesOn 91 = .ok (.ireturn, 1) := by decide +kernel
theorem dX7_goesOn_92 : decode cX7_goesOn 92 = .ok (.iload_n 1, 1) := by decide +kernel
theorem dX7_goesOn_93 : decode cX7_goesOn 93 = .ok (.bipush 115, 2) := by decide +kernel
theorem dX7_goesOn_95 : decode cX7_goesOn 95 = .ok (.if_icmp .eq 15, 3) := by decide +kernel
theorem dX7_goesOn_98 : decode cX7_goesOn 98 = .ok (.iload_n 1, 1) := by decide +kernel
theorem dX7_goesOn_99 : decode cX7_goesOn 99 = .ok (.bipush 102, 2) := by decide +kernel
theorem dX7_goesOn_101 : decode cX7_goesOn 101 = .ok (.if_icmp .eq 9, 3) := by decide +kernel
theorem dX7_goesOn_104 : decode cX7_goesOn 104 = .ok (.iload_n 1, 1) := by decide +kernel
theorem dX7_goesOn_105 : decode cX7_goesOn 105 = .ok (.bipush 98, 2) := by decide +kernel
theorem dX7_goesOn_107 : decode cX7_goesOn 107 = .ok (.if_icmp .ne 7, 3) := by decide +kernel
theorem dX7_goesOn_110 : decode cX7_goesOn 110 = .ok (.iconst 1, 1) := by decide +kernel
theorem dX7_goesOn_111 : decode cX7_goesOn 111 = .ok (.goto 4, 3) := by decide +kernel
theorem dX7_goesOn_114 : decode cX7_goesOn 114 = .ok (.iconst 0, 1) := by decide +kernel
theorem dX7_goesOn_115 : decode cX7_goesOn 115 = .ok (.ireturn, 1) := by decide +kernel
theorem dX7_goesOn_116 : decode cX7_goesOn 116 = .ok (.iload_n 1, 1) := by decide +kernel
theorem dX7_goesOn_117 : decode cX7_goesOn 117 = .ok (.bipush 48, 2) := by decide +kernel
theorem dX7_goesOn_119 : decode cX7_goesOn 119 = .ok (.if_icmp .lt 13, 3) := by decide +kernel
theorem dX7_goesOn_122 : decode cX7_goesOn 122 = .ok (.iload_n 1, 1) := by decide +kernel
theorem dX7_goesOn_123 : decode cX7_goesOn 123 = .ok (.bipush 51, 2) := by decide +kernel
theorem dX7_goesOn_125 : decode cX7_goesOn 125 = .ok (.if_icmp .gt 7, 3) := by decide +kernel
theorem dX7_goesOn_128 : decode cX7_goesOn 128 = .ok (.iconst 1, 1) := by decide +kernel
theorem dX7_goesOn_129 : decode cX7_goesOn 129 = .ok (.goto 4, 3) := by decide +kernel
theorem dX7_goesOn_132 : decode cX7_goesOn 132 = .ok (.iconst 0, 1) := by decide +kernel
theorem dX7_goesOn_133 : decode cX7_goesOn 133 = .ok (.ireturn, 1) := by decide +kernel
set_option maxRecDepth 20000 in
theorem ggX7_open_X5_clear : GoodIn wsX7_open wsX5_clear := goodIn_r _ [13, 14, 15, 16, 17, 18, 19, 68, 69, 70, 71, 72, 73, 74] (by decide +kernel) (by decide +kernel)
set_option maxRecDepth 20000 in
theorem gX7_open_X5_clear : GoodIn wsX7_open (wsV RX7 244 RX5 yX5_clear wsX5_clear) := goodIn_app (goodIn_of _ (by decide +kernel)) ggX7_open_X5_clear
set_option maxRecDepth 20000 in
theorem ggX7_open_X3_read : GoodIn wsX7_open wsX3_read := goodIn_r _ [24, 25, 26, 27, 28, 23, 29, 30, 75, 76, 77] (by decide +kernel) (by decide +kernel)
set_option maxRecDepth 20000 in
theorem gX7_open_X3_read : GoodIn wsX7_open (wsV RX7 220 RX3 yX3_read wsX3_read) := goodIn_app (goodIn_of _ (by decide +kernel)) ggX7_open_X3_read
set_option maxRecDepth 20000 in
theorem ggX7_open_X7_personBy : GoodIn wsX7_open wsX7_personBy := goodIn_r _ [34, 35, 36, 37, 38, 39, 40, 41, 42, 43, 44, 45, 46, 47, 48, 49, 50, 51, 52, 53, 54, 55, 56, 57, 58, 78, 79, 80] (by decide +kernel) (by decide +kernel)
set_option maxRecDepth 20000 in
theorem gX7_open_X7_personBy : GoodIn wsX7_open (va_wsS RX7 250 yX7_personBy wsX7_personBy) := goodIn_app (goodIn_of _ (by decide +kernel)) ggX7_open_X7_personBy
theorem dX7_open_0 : decode cX7_open 0 = .ok (.aload_n 0, 1) := by decide +kernel
theorem dX7_open_1 : decode cX7_open 1 = .ok (.getfield 30, 3) := by decide +kernel
theorem dX7_open_4 : decode cX7_open 4 = .ok (.invokevirtual 244, 3) := by decide +kernel
theorem dX7_open_7 : decode cX7_open 7 = .ok (.aload_n 0, 1) := by decide +kernel
theorem dX7_open_8 : decode cX7_open 8 = .ok (.aload_n 1, 1) := by decide +kernel
theorem dX7_open_9 : decode cX7_open 9 = .ok (.iload_n 2, 1) := by decide +kernel
theorem dX7_open_10 : decode cX7_open 10 = .ok (.iconst 1, 1) := by decide +kernel
theorem dX7_open_11 : decode cX7_open 11 = .ok (.iadd, 1) := by decide +kernel
theorem dX7_open_12 : decode cX7_open 12 = .ok (.invokevirtual 220, 3) := by decide +kernel
theorem dX7_open_15 : decode cX7_open 15 = .ok (.bipush 48, 2) := by decide +kernel
theorem dX7_open_17 : decode cX7_open 17 = .ok (.isub, 1) := by decide +kernel
theorem dX7_open_18 : decode cX7_open 18 = .ok (.bipush 6, 2) := by decide +kernel
theorem dX7_open_20 : decode cX7_open 20 = .ok (.invokestatic 247, 3) := by decide +kernel
theorem dX7_open_23 : decode cX7_open 23 = .ok (.putfield 52, 3) := by decide +kernel
theorem dX7_open_26 : decode cX7_open 26 = .ok (.aload_n 0, 1) := by decide +kernel
theorem dX7_open_27 : decode cX7_open 27 = .ok (.iconst 0, 1) := by decide +kernel
theorem dX7_open_28 : decode cX7_open 28 = .ok (.putfield 48, 3) := by decide +kernel
theorem dX7_open_31 : decode cX7_open 31 = .ok (.iconst 2, 1) := by decide +kernel
theorem dX7_open_32 : decode cX7_open 32 = .ok (.istore 4, 2) := by decide +kernel
theorem dX7_open_34 : decode cX7_open 34 = .ok (.iload 4, 2) := by decide +kernel
theorem dX7_open_36 : decode cX7_open 36 = .ok (.iload_n 3, 1) := by decide +kernel
theorem dX7_open_37 : decode cX7_open 37 = .ok (.if_icmp .ge 70, 3) := by decide +kernel
theorem dX7_open_40 : decode cX7_open 40 = .ok (.aload_n 0, 1) := by decide +kernel
theorem dX7_open_41 : decode cX7_open 41 = .ok (.getfield 48, 3) := by decide +kernel
theorem dX7_open_44 : decode cX7_open 44 = .ok (.iconst 5, 1) := by decide +kernel
theorem dX7_open_45 : decode cX7_open 45 = .ok (.if_icmp .ge 62, 3) := by decide +kernel
theorem dX7_open_48 : decode cX7_open 48 = .ok (.aload_n 1, 1) := by decide +kernel
theorem dX7_open_49 : decode cX7_open 49 = .ok (.iload_n 2, 1) := by decide +kernel
theorem dX7_open_50 : decode cX7_open 50 = .ok (.iload 4, 2) := by decide +kernel
theorem dX7_open_52 : decode cX7_open 52 = .ok (.iadd, 1) := by decide +kernel
theorem dX7_open_53 : decode cX7_open 53 = .ok (.iconst 1, 1) := by decide +kernel
theorem dX7_open_54 : decode cX7_open 54 = .ok (.iadd, 1) := by decide +kernel
theorem dX7_open_55 : decode cX7_open 55 = .ok (.invokevirtual 220, 3) := by decide +kernel
theorem dX7_open_58 : decode cX7_open 58 = .ok (.istore 5, 2) := by decide +kernel
theorem dX7_open_60 : decode cX7_open 60 = .ok (.aload_n 1, 1) := by decide +kernel
theorem dX7_open_61 : decode cX7_open 61 = .ok (.iload_n 2, 1) := by decide +kernel
theorem dX7_open_62 : decode cX7_open 62 = .ok (.iload 4, 2) := by decide +kernel
theorem dX7_open_64 : decode cX7_open 64 = .ok (.iadd, 1) := by decide +kernel
theorem dX7_open_65 : decode cX7_open 65 = .ok (.iconst 2, 1) := by decide +kernel
theorem dX7_open_66 : decode cX7_open 66 = .ok (.iadd, 1) := by decide +kernel
theorem dX7_open_67 : decode cX7_open 67 = .ok (.invokevirtual 220, 3) := by decide +kernel
theorem dX7_open_70 : decode cX7_open 70 = .ok (.bipush 48, 2) := by decide +kernel
theorem dX7_open_72 : decode cX7_open 72 = .ok (.isub, 1) := by decide +kernel
theorem dX7_open_73 : decode cX7_open 73 = .ok (.istore 6, 2) := by decide +kernel
theorem dX7_open_75 : decode cX7_open 75 = .ok (.aload_n 0, 1) := by decide +kernel
theorem dX7_open_76 : decode cX7_open 76 = .ok (.getfield 19, 3) := by decide +kernel
theorem dX7_open_79 : decode cX7_open 79 = .ok (.aload_n 0, 1) := by decide +kernel
theorem dX7_open_80 : decode cX7_open 80 = .ok (.getfield 48, 3) := by decide +kernel
theorem dX7_open_83 : decode cX7_open 83 = .ok (.iload 5, 2) := by decide +kernel
theorem dX7_open_85 : decode cX7_open 85 = .ok (.iload 6, 2) := by decide +kernel
theorem dX7_open_87 : decode cX7_open 87 = .ok (.invokestatic 250, 3) := by decide +kernel
theorem dX7_open_90 : decode cX7_open 90 = .ok (.aastore, 1) := by decide +kernel
theorem dX7_open_91 : decode cX7_open 91 = .ok (.aload_n 0, 1) := by decide +kernel
theorem dX7_open_92 : decode cX7_open 92 = .ok (.dup, 1) := by decide +kernel
theorem dX7_open_93 : decode cX7_open 93 = .ok (.getfield 48, 3) := by decide +kernel
theorem dX7_open_96 : decode cX7_open 96 = .ok (.iconst 1, 1) := by decide +kernel
theorem dX7_open_97 : decode cX7_open 97 = .ok (.iadd, 1) := by decide +kernel
theorem dX7_open_98 : decode cX7_open 98 = .ok (.putfield 48, 3) := by decide +kernel
theorem dX7_open_101 : decode cX7_open 101 = .ok (.iinc 4 3, 3) := by decide +kernel
theorem dX7_open_104 : decode cX7_open 104 = .ok (.goto (-70), 3) := by decide +kernel
theorem dX7_open_107 : decode cX7_open 107 = .ok (.return_, 1) := by decide +kernel
set_option maxRecDepth 20000 in
theorem ggX7_personBy_X0_init : GoodIn wsX7_personBy wsX0_init := goodIn_r _ [12, 13, 14, 6, 15, 16, 17, 9, 18, 19, 20, 21, 22, 25, 26, 27] (by decide +kernel) (by decide +kernel)
set_option maxRecDepth 20000 in
theorem gX7_personBy_X0_init : GoodIn wsX7_personBy (wsX0_init) := ggX7_personBy_X0_init
set_option maxRecDepth 20000 in
theorem ggX7_personBy_X2_init : GoodIn wsX7_personBy wsX2_init := goodIn_r _ [15, 16, 17, 9, 18, 19, 20, 21, 22, 25, 26, 27] (by decide +kernel) (by decide +kernel)
set_option maxRecDepth 20000 in
theorem gX7_personBy_X2_init : GoodIn wsX7_personBy (wsX2_init) := ggX7_personBy_X2_init
set_option maxRecDepth 20000 in
theorem ggX7_personBy_X4_init : GoodIn wsX7_personBy wsX4_init := goodIn_r _ [18, 19, 20, 21, 22, 25, 26, 27] (by decide +kernel) (by decide +kernel)
set_option maxRecDepth 20000 in
theorem gX7_personBy_X4_init : GoodIn wsX7_personBy (wsX4_init) := ggX7_personBy_X4_init
theorem dX7_personBy_0 : decode cX7_personBy 0 = .ok (.iload_n 0, 1) := by decide +kernel
theorem dX7_personBy_1 : decode cX7_personBy 1 = .ok (.lookupswitch 45 #[(98, 27), (102, 36)], 27) := by decide +kernel
theorem dX7_personBy_28 : decode cX7_personBy 28 = .ok (.new 254, 3) := by decide +kernel
theorem dX7_personBy_31 : decode cX7_personBy 31 = .ok (.dup, 1) := by decide +kernel
theorem dX7_personBy_32 : decode cX7_personBy 32 = .ok (.iload_n 1, 1) := by decide +kernel
theorem dX7_personBy_33 : decode cX7_personBy 33 = .ok (.invokespecial 256, 3) := by decide +kernel
theorem dX7_personBy_36 : decode cX7_personBy 36 = .ok (.areturn, 1) := by decide +kernel
theorem dX7_personBy_37 : decode cX7_personBy 37 = .ok (.new 259, 3) := by decide +kernel
theorem dX7_personBy_40 : decode cX7_personBy 40 = .ok (.dup, 1) := by decide +kernel
theorem dX7_personBy_41 : decode cX7_personBy 41 = .ok (.iload_n 1, 1) := by decide +kernel
theorem dX7_personBy_42 : decode cX7_personBy 42 = .ok (.invokespecial 261, 3) := by decide +kernel
theorem dX7_personBy_45 : decode cX7_personBy 45 = .ok (.areturn, 1) := by decide +kernel
theorem dX7_personBy_46 : decode cX7_personBy 46 = .ok (.new 17, 3) := by decide +kernel
theorem dX7_personBy_49 : decode cX7_personBy 49 = .ok (.dup, 1) := by decide +kernel
theorem dX7_personBy_50 : decode cX7_personBy 50 = .ok (.iload_n 1, 1) := by decide +kernel
theorem dX7_personBy_51 : decode cX7_personBy 51 = .ok (.invokespecial 262, 3) := by decide +kernel
theorem dX7_personBy_54 : decode cX7_personBy 54 = .ok (.areturn, 1) := by decide +kernel
set_option maxRecDepth 20000 in
theorem ggX7_gumLeft_X7_personOf : GoodIn wsX7_gumLeft wsX7_personOf := goodIn_r _ [5, 6, 7, 30, 31, 32, 33, 34, 35, 36, 37, 38] (by decide +kernel) (by decide +kernel)
set_option maxRecDepth 20000 in
theorem gX7_gumLeft_X7_personOf : GoodIn wsX7_gumLeft (wsV RX7 86 RX7 yX7_personOf wsX7_personOf) := goodIn_app (goodIn_of _ (by decide +kernel)) ggX7_gumLeft_X7_personOf
set_option maxRecDepth 20000 in
theorem ggX7_gumLeft_X0_leaves : GoodIn wsX7_gumLeft wsX0_leaves := goodIn_r _ [14, 15, 16, 17, 18, 19, 20, 21, 22, 39, 40, 41] (by decide +kernel) (by decide +kernel)
set_option maxRecDepth 20000 in
theorem gX7_gumLeft_X0_leaves_u103X0 : GoodIn wsX7_gumLeft (va_wsO RX7 103 RX0 "GumHall$Sitter" ⟨"GumHall$Sitter", "leaves", "(I)I"⟩ yX0_leaves wsX0_leaves) := goodIn_app (goodIn_of _ (by decide +kernel)) ggX7_gumLeft_X0_leaves
set_option maxRecDepth 20000 in
theorem ggX7_gumLeft_X2_leaves : GoodIn wsX7_gumLeft wsX2_leaves := goodIn_r _ [20, 21, 22, 39, 40, 41] (by decide +kernel) (by decide +kernel)
set_option maxRecDepth 20000 in
theorem gX7_gumLeft_X2_leaves_u103X2 : GoodIn wsX7_gumLeft (va_wsO RX7 103 RX2 "GumHall$Sitter" ⟨"GumHall$Sitter", "leaves", "(I)I"⟩ yX2_leaves wsX2_leaves) := goodIn_app (goodIn_of _ (by decide +kernel)) ggX7_gumLeft_X2_leaves
set_option maxRecDepth 20000 in
theorem ggX7_gumLeft_X4_leaves : GoodIn wsX7_gumLeft wsX4_leaves := goodIn_r _ [23, 29, 39, 40, 41] (by decide +kernel) (by decide +kernel)
set_option maxRecDepth 20000 in
theorem gX7_gumLeft_X4_leaves : GoodIn wsX7_gumLeft (wsV RX7 103 RX4 yX4_leaves wsX4_leaves) := goodIn_app (goodIn_of _ (by decide +kernel)) ggX7_gumLeft_X4_leaves
theorem dX7_gumLeft_0 : decode cX7_gumLeft 0 = .ok (.aload_n 0, 1) := by decide +kernel
theorem dX7_gumLeft_1 : decode cX7_gumLeft 1 = .ok (.iload_n 1, 1) := by decide +kernel
theorem dX7_gumLeft_2 : decode cX7_gumLeft 2 = .ok (.invokevirtual 86, 3) := by decide +kernel
theorem dX7_gumLeft_5 : decode cX7_gumLeft 5 = .ok (.astore_n 3, 1) := by decide +kernel
theorem dX7_gumLeft_6 : decode cX7_gumLeft 6 = .ok (.aload_n 3, 1) := by decide +kernel
theorem dX7_gumLeft_7 : decode cX7_gumLeft 7 = .ok (.ifnonnull 8, 3) := by decide +kernel
theorem dX7_gumLeft_10 : decode cX7_gumLeft 10 = .ok (.bipush (-9), 2) := by decide +kernel
theorem dX7_gumLeft_12 : decode cX7_gumLeft 12 = .ok (.goto 8, 3) := by decide +kernel
theorem dX7_gumLeft_15 : decode cX7_gumLeft 15 = .ok (.aload_n 3, 1) := by decide +kernel
theorem dX7_gumLeft_16 : decode cX7_gumLeft 16 = .ok (.iload_n 2, 1) := by decide +kernel
theorem dX7_gumLeft_17 : decode cX7_gumLeft 17 = .ok (.invokevirtual 103, 3) := by decide +kernel
theorem dX7_gumLeft_20 : decode cX7_gumLeft 20 = .ok (.ireturn, 1) := by decide +kernel
set_option maxRecDepth 20000 in
theorem ggX7_maySit_X7_placeOn : GoodIn wsX7_maySit wsX7_placeOn := goodIn_r _ [5, 6, 7, 8, 9, 10, 11, 12, 13, 14, 15, 16, 17, 18, 19, 20, 21, 22, 23, 24, 25, 26, 27, 28, 29, 30, 31, 32, 37, 38, 39, 40, 41, 42, 43, 44, 45, 46, 47, 48, 49, 50, 51, 52] (by decide +kernel) (by decide +kernel)
set_option maxRecDepth 20000 in
theorem gX7_maySit_X7_placeOn : GoodIn wsX7_maySit (wsV RX7 149 RX7 yX7_placeOn wsX7_placeOn) := goodIn_app (goodIn_of _ (by decide +kernel)) ggX7_maySit_X7_placeOn
set_option maxRecDepth 20000 in
theorem ggX7_maySit_X7_isTaken : GoodIn wsX7_maySit wsX7_isTaken := goodIn_r _ [36, 6, 7, 8, 9, 10, 11, 12, 13, 14, 15, 16, 17, 18, 19, 20, 21, 22, 28, 29, 30, 31, 32, 37, 38, 39, 40, 41, 42, 43, 44, 45, 46, 47, 48, 49, 50, 51, 52] (by decide +kernel) (by decide +kernel)
set_option maxRecDepth 20000 in
theorem gX7_maySit_X7_isTaken : GoodIn wsX7_maySit (wsV RX7 263 RX7 yX7_isTaken wsX7_isTaken) := goodIn_app (goodIn_of _ (by decide +kernel)) ggX7_maySit_X7_isTaken
theorem dX7_maySit_0 : decode cX7_maySit 0 = .ok (.aload_n 0, 1) := by decide +kernel
theorem dX7_maySit_1 : decode cX7_maySit 1 = .ok (.iload_n 3, 1) := by decide +kernel
theorem dX7_maySit_2 : decode cX7_maySit 2 = .ok (.iload_n 1, 1) := by decide +kernel
theorem dX7_maySit_3 : decode cX7_maySit 3 = .ok (.invokevirtual 149, 3) := by decide +kernel
theorem dX7_maySit_6 : decode cX7_maySit 6 = .ok (.bipush (-9), 2) := by decide +kernel
theorem dX7_maySit_8 : decode cX7_maySit 8 = .ok (.if_icmp .ne 16, 3) := by decide +kernel
theorem dX7_maySit_11 : decode cX7_maySit 11 = .ok (.aload_n 0, 1) := by decide +kernel
theorem dX7_maySit_12 : decode cX7_maySit 12 = .ok (.iload_n 2, 1) := by decide +kernel
theorem dX7_maySit_13 : decode cX7_maySit 13 = .ok (.iload_n 3, 1) := by decide +kernel
theorem dX7_maySit_14 : decode cX7_maySit 14 = .ok (.invokevirtual 263, 3) := by decide +kernel
theorem dX7_maySit_17 : decode cX7_maySit 17 = .ok (.ifCond .ne 7, 3) := by decide +kernel
theorem dX7_maySit_20 : decode cX7_maySit 20 = .ok (.iconst 1, 1) := by decide +kernel
theorem dX7_maySit_21 : decode cX7_maySit 21 = .ok (.goto 4, 3) := by decide +kernel
theorem dX7_maySit_24 : decode cX7_maySit 24 = .ok (.iconst 0, 1) := by decide +kernel
theorem dX7_maySit_25 : decode cX7_maySit 25 = .ok (.ireturn, 1) := by decide +kernel
set_option maxRecDepth 20000 in
theorem ggX7_placeOn_X5_count : GoodIn wsX7_placeOn wsX5_count := goodIn_r _ [6, 7, 37, 38, 39, 40, 41, 42, 43] (by decide +kernel) (by decide +kernel)
set_option maxRecDepth 20000 in
theorem gX7_placeOn_X5_count : GoodIn wsX7_placeOn (wsV RX7 140 RX5 yX5_count wsX5_count) := goodIn_app (goodIn_of _ (by decide +kernel)) ggX7_placeOn_X5_count
set_option maxRecDepth 20000 in
theorem ggX7_placeOn_X5_nightOf : GoodIn wsX7_placeOn wsX5_nightOf := goodIn_r _ [11, 12, 13, 14, 15, 5, 16, 7, 17, 37, 38, 39, 40, 41, 42, 43] (by decide +kernel) (by decide +kernel)
set_option maxRecDepth 20000 in
theorem gX7_placeOn_X5_nightOf : GoodIn wsX7_placeOn (wsV RX7 146 RX5 yX5_nightOf wsX5_nightOf) := goodIn_app (goodIn_of _ (by decide +kernel)) ggX7_placeOn_X5_nightOf
set_option maxRecDepth 20000 in
theorem ggX7_placeOn_X5_personOf : GoodIn wsX7_placeOn wsX5_personOf := goodIn_r _ [21, 22, 13, 14, 15, 5, 16, 7, 17, 37, 38, 39, 40, 41, 42, 43] (by decide +kernel) (by decide +kernel)
set_option maxRecDepth 20000 in
theorem gX7_placeOn_X5_personOf : GoodIn wsX7_placeOn (wsV RX7 152 RX5 yX5_personOf wsX5_personOf) := goodIn_app (goodIn_of _ (by decide +kernel)) ggX7_placeOn_X5_personOf
set_option maxRecDepth 20000 in
theorem ggX7_placeOn_X5_placeOf : GoodIn wsX7_placeOn wsX5_placeOf := goodIn_r _ [26, 27, 13, 14, 15, 5, 16, 7, 17, 37, 38, 39, 40, 41, 42, 43] (by decide +kernel) (by decide +kernel)
set_option maxRecDepth 20000 in
theorem gX7_placeOn_X5_placeOf : GoodIn wsX7_placeOn (wsV RX7 143 RX5 yX5_placeOf wsX5_placeOf) := goodIn_app (goodIn_of _ (by decide +kernel)) ggX7_placeOn_X5_placeOf
theorem dX7_placeOn_0 : decode cX7_placeOn 0 = .ok (.iconst 0, 1) := by decide +kernel
theorem dX7_placeOn_1 : decode cX7_placeOn 1 = .ok (.istore_n 3, 1) := by decide +kernel
theorem dX7_placeOn_2 : decode cX7_placeOn 2 = .ok (.iload_n 3, 1) := by decide +kernel
theorem dX7_placeOn_3 : decode cX7_placeOn 3 = .ok (.aload_n 0, 1) := by decide +kernel
theorem dX7_placeOn_4 : decode cX7_placeOn 4 = .ok (.getfield 30, 3) := by decide +kernel
theorem dX7_placeOn_7 : decode cX7_placeOn 7 = .ok (.iconst 2, 1) := by decide +kernel
theorem dX7_placeOn_8 : decode cX7_placeOn 8 = .ok (.invokevirtual 140, 3) := by decide +kernel
theorem dX7_placeOn_11 : decode cX7_placeOn 11 = .ok (.if_icmp .ge 42, 3) := by decide +kernel
theorem dX7_placeOn_14 : decode cX7_placeOn 14 = .ok (.aload_n 0, 1) := by decide +kernel
theorem dX7_placeOn_15 : decode cX7_placeOn 15 = .ok (.getfield 30, 3) := by decide +kernel
theorem dX7_placeOn_18 : decode cX7_placeOn 18 = .ok (.iload_n 3, 1) := by decide +kernel
theorem dX7_placeOn_19 : decode cX7_placeOn 19 = .ok (.invokevirtual 146, 3) := by decide +kernel
theorem dX7_placeOn_22 : decode cX7_placeOn 22 = .ok (.iload_n 1, 1) := by decide +kernel
theorem dX7_placeOn_23 : decode cX7_placeOn 23 = .ok (.if_icmp .ne 24, 3) := by decide +kernel
theorem dX7_placeOn_26 : decode cX7_placeOn 26 = .ok (.aload_n 0, 1) := by decide +kernel
theorem dX7_placeOn_27 : decode cX7_placeOn 27 = .ok (.getfield 30, 3) := by decide +kernel
theorem dX7_placeOn_30 : decode cX7_placeOn 30 = .ok (.iload_n 3, 1) := by decide +kernel
theorem dX7_placeOn_31 : decode cX7_placeOn 31 = .ok (.invokevirtual 152, 3) := by decide +kernel
theorem dX7_placeOn_34 : decode cX7_placeOn 34 = .ok (.iload_n 2, 1) := by decide +kernel
theorem dX7_placeOn_35 : decode cX7_placeOn 35 = .ok (.if_icmp .ne 12, 3) := by decide +kernel
theorem dX7_placeOn_38 : decode cX7_placeOn 38 = .ok (.aload_n 0, 1) := by decide +kernel
theorem dX7_placeOn_39 : decode cX7_placeOn 39 = .ok (.getfield 30, 3) := by decide +kernel
theorem dX7_placeOn_42 : decode cX7_placeOn 42 = .ok (.iload_n 3, 1) := by decide +kernel
theorem dX7_placeOn_43 : decode cX7_placeOn 43 = .ok (.invokevirtual 143, 3) := by decide +kernel
theorem dX7_placeOn_46 : decode cX7_placeOn 46 = .ok (.ireturn, 1) := by decide +kernel
theorem dX7_placeOn_47 : decode cX7_placeOn 47 = .ok (.iinc 3 1, 3) := by decide +kernel
theorem dX7_placeOn_50 : decode cX7_placeOn 50 = .ok (.goto (-48), 3) := by decide +kernel
theorem dX7_placeOn_53 : decode cX7_placeOn 53 = .ok (.bipush (-9), 2) := by decide +kernel
theorem dX7_placeOn_55 : decode cX7_placeOn 55 = .ok (.ireturn, 1) := by decide +kernel
set_option maxRecDepth 20000 in
theorem ggX7_isTaken_X5_count : GoodIn wsX7_isTaken wsX5_count := goodIn_r _ [6, 7, 32, 33, 34, 35, 36, 37, 38] (by decide +kernel) (by decide +kernel)
set_option maxRecDepth 20000 in
theorem gX7_isTaken_X5_count : GoodIn wsX7_isTaken (wsV RX7 140 RX5 yX5_count wsX5_count) := goodIn_app (goodIn_of _ (by decide +kernel)) ggX7_isTaken_X5_count
set_option maxRecDepth 20000 in
theorem ggX7_isTaken_X5_nightOf : GoodIn wsX7_isTaken wsX5_nightOf := goodIn_r _ [11, 12, 13, 14, 15, 5, 16, 7, 17, 32, 33, 34, 35, 36, 37, 38] (by decide +kernel) (by decide +kernel)
set_option maxRecDepth 20000 in
theorem gX7_isTaken_X5_nightOf : GoodIn wsX7_isTaken (wsV RX7 146 RX5 yX5_nightOf wsX5_nightOf) := goodIn_app (goodIn_of _ (by decide +kernel)) ggX7_isTaken_X5_nightOf
set_option maxRecDepth 20000 in
theorem ggX7_isTaken_X5_placeOf : GoodIn wsX7_isTaken wsX5_placeOf := goodIn_r _ [21, 22, 13, 14, 15, 5, 16, 7, 17, 32, 33, 34, 35, 36, 37, 38] (by decide +kernel) (by decide +kernel)
set_option maxRecDepth 20000 in
theorem gX7_isTaken_X5_placeOf : GoodIn wsX7_isTaken (wsV RX7 143 RX5 yX5_placeOf wsX5_placeOf) := goodIn_app (goodIn_of _ (by decide +kernel)) ggX7_isTaken_X5_placeOf
theorem dX7_isTaken_0 : decode cX7_isTaken 0 = .ok (.iconst 0, 1) := by decide +kernel
theorem dX7_isTaken_1 : decode cX7_isTaken 1 = .ok (.istore_n 3, 1) := by decide +kernel
theorem dX7_isTaken_2 : decode cX7_isTaken 2 = .ok (.iload_n 3, 1) := by decide +kernel
theorem dX7_isTaken_3 : decode cX7_isTaken 3 = .ok (.aload_n 0, 1) := by decide +kernel
theorem dX7_isTaken_4 : decode cX7_isTaken 4 = .ok (.getfield 30, 3) := by decide +kernel
theorem dX7_isTaken_7 : decode cX7_isTaken 7 = .ok (.iconst 2, 1) := by decide +kernel
theorem dX7_isTaken_8 : decode cX7_isTaken 8 = .ok (.invokevirtual 140, 3) := by decide +kernel
theorem dX7_isTaken_11 : decode cX7_isTaken 11 = .ok (.if_icmp .ge 35, 3) := by decide +kernel
theorem dX7_isTaken_14 : decode cX7_isTaken 14 = .ok (.aload_n 0, 1) := by decide +kernel
theorem dX7_isTaken_15 : decode cX7_isTaken 15 = .ok (.getfield 30, 3) := by decide +kernel
theorem dX7_isTaken_18 : decode cX7_isTaken 18 = .ok (.iload_n 3, 1) := by decide +kernel
theorem dX7_isTaken_19 : decode cX7_isTaken 19 = .ok (.invokevirtual 146, 3) := by decide +kernel
theorem dX7_isTaken_22 : decode cX7_isTaken 22 = .ok (.iload_n 2, 1) := by decide +kernel
theorem dX7_isTaken_23 : decode cX7_isTaken 23 = .ok (.if_icmp .ne 17, 3) := by decide +kernel
theorem dX7_isTaken_26 : decode cX7_isTaken 26 = .ok (.aload_n 0, 1) := by decide +kernel
theorem dX7_isTaken_27 : decode cX7_isTaken 27 = .ok (.getfield 30, 3) := by decide +kernel
theorem dX7_isTaken_30 : decode cX7_isTaken 30 = .ok (.iload_n 3, 1) := by decide +kernel
theorem dX7_isTaken_31 : decode cX7_isTaken 31 = .ok (.invokevirtual 143, 3) := by decide +kernel
theorem dX7_isTaken_34 : decode cX7_isTaken 34 = .ok (.iload_n 1, 1) := by decide +kernel
theorem dX7_isTaken_35 : decode cX7_isTaken 35 = .ok (.if_icmp .ne 5, 3) := by decide +kernel
theorem dX7_isTaken_38 : decode cX7_isTaken 38 = .ok (.iconst 1, 1) := by decide +kernel
theorem dX7_isTaken_39 : decode cX7_isTaken 39 = .ok (.ireturn, 1) := by decide +kernel
theorem dX7_isTaken_40 : decode cX7_isTaken 40 = .ok (.iinc 3 1, 3) := by decide +kernel
theorem dX7_isTaken_43 : decode cX7_isTaken 43 = .ok (.goto (-41), 3) := by decide +kernel
theorem dX7_isTaken_46 : decode cX7_isTaken 46 = .ok (.iconst 0, 1) := by decide +kernel
theorem dX7_isTaken_47 : decode cX7_isTaken 47 = .ok (.ireturn, 1) := by decide +kernel
set_option maxRecDepth 20000 in
theorem ggX7_howOften_X5_count : GoodIn wsX7_howOften wsX5_count := goodIn_r _ [6, 7, 32, 33, 34, 35, 36, 37, 38] (by decide +kernel) (by decide +kernel)
set_option maxRecDepth 20000 in
theorem gX7_howOften_X5_count : GoodIn wsX7_howOften (wsV RX7 140 RX5 yX5_count wsX5_count) := goodIn_app (goodIn_of _ (by decide +kernel)) ggX7_howOften_X5_count
set_option maxRecDepth 20000 in
theorem ggX7_howOften_X5_personOf : GoodIn wsX7_howOften wsX5_personOf := goodIn_r _ [11, 12, 13, 14, 15, 5, 16, 7, 17, 32, 33, 34, 35, 36, 37, 38] (by decide +kernel) (by decide +kernel)
set_option maxRecDepth 20000 in
theorem gX7_howOften_X5_personOf : GoodIn wsX7_howOften (wsV RX7 152 RX5 yX5_personOf wsX5_personOf) := goodIn_app (goodIn_of _ (by decide +kernel)) ggX7_howOften_X5_personOf
set_option maxRecDepth 20000 in
theorem ggX7_howOften_X5_placeOf : GoodIn wsX7_howOften wsX5_placeOf := goodIn_r _ [21, 22, 13, 14, 15, 5, 16, 7, 17, 32, 33, 34, 35, 36, 37, 38] (by decide +kernel) (by decide +kernel)
set_option maxRecDepth 20000 in
theorem gX7_howOften_X5_placeOf : GoodIn wsX7_howOften (wsV RX7 143 RX5 yX5_placeOf wsX5_placeOf) := goodIn_app (goodIn_of _ (by decide +kernel)) ggX7_howOften_X5_placeOf
theorem dX7_howOften_0 : decode cX7_howOften 0 = .ok (.iconst 0, 1) := by decide +kernel
theorem dX7_howOften_1 : decode cX7_howOften 1 = .ok (.istore_n 3, 1) := by decide +kernel
theorem dX7_howOften_2 : decode cX7_howOften 2 = .ok (.iconst 0, 1) := by decide +kernel
theorem dX7_howOften_3 : decode cX7_howOften 3 = .ok (.istore 4, 2) := by decide +kernel
theorem dX7_howOften_5 : decode cX7_howOften 5 = .ok (.iload 4, 2) := by decide +kernel
theorem dX7_howOften_7 : decode cX7_howOften 7 = .ok (.aload_n 0, 1) := by decide +kernel
theorem dX7_howOften_8 : decode cX7_howOften 8 = .ok (.getfield 30, 3) := by decide +kernel
theorem dX7_howOften_11 : decode cX7_howOften 11 = .ok (.iconst 2, 1) := by decide +kernel
theorem dX7_howOften_12 : decode cX7_howOften 12 = .ok (.invokevirtual 140, 3) := by decide +kernel
theorem dX7_howOften_15 : decode cX7_howOften 15 = .ok (.if_icmp .ge 38, 3) := by decide +kernel
theorem dX7_howOften_18 : decode cX7_howOften 18 = .ok (.aload_n 0, 1) := by decide +kernel
theorem dX7_howOften_19 : decode cX7_howOften 19 = .ok (.getfield 30, 3) := by decide +kernel
theorem dX7_howOften_22 : decode cX7_howOften 22 = .ok (.iload 4, 2) := by decide +kernel
theorem dX7_howOften_24 : decode cX7_howOften 24 = .ok (.invokevirtual 152, 3) := by decide +kernel
theorem dX7_howOften_27 : decode cX7_howOften 27 = .ok (.iload_n 1, 1) := by decide +kernel
theorem dX7_howOften_28 : decode cX7_howOften 28 = .ok (.if_icmp .ne 19, 3) := by decide +kernel
theorem dX7_howOften_31 : decode cX7_howOften 31 = .ok (.aload_n 0, 1) := by decide +kernel
theorem dX7_howOften_32 : decode cX7_howOften 32 = .ok (.getfield 30, 3) := by decide +kernel
theorem dX7_howOften_35 : decode cX7_howOften 35 = .ok (.iload 4, 2) := by decide +kernel
theorem dX7_howOften_37 : decode cX7_howOften 37 = .ok (.invokevirtual 143, 3) := by decide +kernel
theorem dX7_howOften_40 : decode cX7_howOften 40 = .ok (.iload_n 2, 1) := by decide +kernel
theorem dX7_howOften_41 : decode cX7_howOften 41 = .ok (.if_icmp .ne 6, 3) := by decide +kernel
theorem dX7_howOften_44 : decode cX7_howOften 44 = .ok (.iinc 3 1, 3) := by decide +kernel
theorem dX7_howOften_47 : decode cX7_howOften 47 = .ok (.iinc 4 1, 3) := by decide +kernel
theorem dX7_howOften_50 : decode cX7_howOften 50 = .ok (.goto (-45), 3) := by decide +kernel
theorem dX7_howOften_53 : decode cX7_howOften 53 = .ok (.iload_n 3, 1) := by decide +kernel
theorem dX7_howOften_54 : decode cX7_howOften 54 = .ok (.ireturn, 1) := by decide +kernel
set_option maxRecDepth 20000 in
theorem ggX7_seatedOn_X5_count : GoodIn wsX7_seatedOn wsX5_count := goodIn_r _ [6, 7, 27, 28, 29, 30, 31, 32, 33] (by decide +kernel) (by decide +kernel)
set_option maxRecDepth 20000 in
theorem gX7_seatedOn_X5_count : GoodIn wsX7_seatedOn (wsV RX7 140 RX5 yX5_count wsX5_count) := goodIn_app (goodIn_of _ (by decide +kernel)) ggX7_seatedOn_X5_count
set_option maxRecDepth 20000 in
theorem ggX7_seatedOn_X5_nightOf : GoodIn wsX7_seatedOn wsX5_nightOf := goodIn_r _ [11, 12, 13, 14, 15, 5, 16, 7, 17, 27, 28, 29, 30, 31, 32, 33] (by decide +kernel) (by decide +kernel)
set_option maxRecDepth 20000 in
theorem gX7_seatedOn_X5_nightOf : GoodIn wsX7_seatedOn (wsV RX7 146 RX5 yX5_nightOf wsX5_nightOf) := goodIn_app (goodIn_of _ (by decide +kernel)) ggX7_seatedOn_X5_nightOf
theorem dX7_seatedOn_0 : decode cX7_seatedOn 0 = .ok (.iconst 0, 1) := by decide +kernel
theorem dX7_seatedOn_1 : decode cX7_seatedOn 1 = .ok (.istore_n 2, 1) := by decide +kernel
theorem dX7_seatedOn_2 : decode cX7_seatedOn 2 = .ok (.iconst 0, 1) := by decide +kernel
theorem dX7_seatedOn_3 : decode cX7_seatedOn 3 = .ok (.istore_n 3, 1) := by decide +kernel
theorem dX7_seatedOn_4 : decode cX7_seatedOn 4 = .ok (.iload_n 3, 1) := by decide +kernel
theorem dX7_seatedOn_5 : decode cX7_seatedOn 5 = .ok (.aload_n 0, 1) := by decide +kernel
theorem dX7_seatedOn_6 : decode cX7_seatedOn 6 = .ok (.getfield 30, 3) := by decide +kernel
theorem dX7_seatedOn_9 : decode cX7_seatedOn 9 = .ok (.iconst 2, 1) := by decide +kernel
theorem dX7_seatedOn_10 : decode cX7_seatedOn 10 = .ok (.invokevirtual 140, 3) := by decide +kernel
theorem dX7_seatedOn_13 : decode cX7_seatedOn 13 = .ok (.if_icmp .ge 24, 3) := by decide +kernel
theorem dX7_seatedOn_16 : decode cX7_seatedOn 16 = .ok (.aload_n 0, 1) := by decide +kernel
theorem dX7_seatedOn_17 : decode cX7_seatedOn 17 = .ok (.getfield 30, 3) := by decide +kernel
theorem dX7_seatedOn_20 : decode cX7_seatedOn 20 = .ok (.iload_n 3, 1) := by decide +kernel
theorem dX7_seatedOn_21 : decode cX7_seatedOn 21 = .ok (.invokevirtual 146, 3) := by decide +kernel
theorem dX7_seatedOn_24 : decode cX7_seatedOn 24 = .ok (.iload_n 1, 1) := by decide +kernel
theorem dX7_seatedOn_25 : decode cX7_seatedOn 25 = .ok (.if_icmp .ne 6, 3) := by decide +kernel
theorem dX7_seatedOn_28 : decode cX7_seatedOn 28 = .ok (.iinc 2 1, 3) := by decide +kernel
theorem dX7_seatedOn_31 : decode cX7_seatedOn 31 = .ok (.iinc 3 1, 3) := by decide +kernel
theorem dX7_seatedOn_34 : decode cX7_seatedOn 34 = .ok (.goto (-30), 3) := by decide +kernel
theorem dX7_seatedOn_37 : decode cX7_seatedOn 37 = .ok (.iload_n 2, 1) := by decide +kernel
theorem dX7_seatedOn_38 : decode cX7_seatedOn 38 = .ok (.ireturn, 1) := by decide +kernel
set_option maxRecDepth 20000 in
theorem ggX7_areClaims_X3_read : GoodIn wsX7_areClaims wsX3_read := goodIn_r _ [5, 6, 7, 8, 9, 4, 10, 11, 27, 28, 29] (by decide +kernel) (by decide +kernel)
set_option maxRecDepth 20000 in
theorem gX7_areClaims_X3_read : GoodIn wsX7_areClaims (wsV RX7 220 RX3 yX3_read wsX3_read) := goodIn_app (goodIn_of _ (by decide +kernel)) ggX7_areClaims_X3_read
set_option maxRecDepth 20000 in
theorem ggX7_areClaims_X7_personOf : GoodIn wsX7_areClaims wsX7_personOf := goodIn_r _ [16, 17, 18, 30, 31, 32, 33, 34, 35, 36, 37, 38] (by decide +kernel) (by decide +kernel)
set_option maxRecDepth 20000 in
theorem gX7_areClaims_X7_personOf : GoodIn wsX7_areClaims (wsV RX7 86 RX7 yX7_personOf wsX7_personOf) := goodIn_app (goodIn_of _ (by decide +kernel)) ggX7_areClaims_X7_personOf
set_option maxRecDepth 20000 in
theorem ggX7_areClaims_X7_isPlace : GoodIn wsX7_areClaims wsX7_isPlace := goodIn_r _ [22, 23, 30, 31, 32, 33, 34, 35, 36, 37, 38] (by decide +kernel) (by decide +kernel)
set_option maxRecDepth 20000 in
theorem gX7_areClaims_X7_isPlace : GoodIn wsX7_areClaims (wsV RX7 106 RX7 yX7_isPlace wsX7_isPlace) := goodIn_app (goodIn_of _ (by decide +kernel)) ggX7_areClaims_X7_isPlace
set_option maxRecDepth 20000 in
theorem ggX7_areClaims_X7_isNight : GoodIn wsX7_areClaims wsX7_isNight := goodIn_r _ [26] (by decide +kernel) (by decide +kernel)
set_option maxRecDepth 20000 in
theorem gX7_areClaims_X7_isNight : GoodIn wsX7_areClaims (va_wsS RX7 100 yX7_isNight wsX7_isNight) := goodIn_app (goodIn_of _ (by decide +kernel)) ggX7_areClaims_X7_isNight
theorem dX7_areClaims_0 : decode cX7_areClaims 0 = .ok (.iconst 0, 1) := by decide +kernel
theorem dX7_areClaims_1 : decode cX7_areClaims 1 = .ok (.istore 4, 2) := by decide +kernel
theorem dX7_areClaims_3 : decode cX7_areClaims 3 = .ok (.iload 4, 2) := by decide +kernel
theorem dX7_areClaims_5 : decode cX7_areClaims 5 = .ok (.iload_n 3, 1) := by decide +kernel
theorem dX7_areClaims_6 : decode cX7_areClaims 6 = .ok (.if_icmp .ge 63, 3) := by decide +kernel
theorem dX7_areClaims_9 : decode cX7_areClaims 9 = .ok (.iload_n 2, 1) := by decide +kernel
theorem dX7_areClaims_10 : decode cX7_areClaims 10 = .ok (.iconst 3, 1) := by decide +kernel
theorem dX7_areClaims_11 : decode cX7_areClaims 11 = .ok (.iload 4, 2) := by decide +kernel
theorem dX7_areClaims_13 : decode cX7_areClaims 13 = .ok (.imul, 1) := by decide +kernel
theorem dX7_areClaims_14 : decode cX7_areClaims 14 = .ok (.iadd, 1) := by decide +kernel
theorem dX7_areClaims_15 : decode cX7_areClaims 15 = .ok (.istore 5, 2) := by decide +kernel
theorem dX7_areClaims_17 : decode cX7_areClaims 17 = .ok (.aload_n 0, 1) := by decide +kernel
theorem dX7_areClaims_18 : decode cX7_areClaims 18 = .ok (.aload_n 1, 1) := by decide +kernel
theorem dX7_areClaims_19 : decode cX7_areClaims 19 = .ok (.iload 5, 2) := by decide +kernel
theorem dX7_areClaims_21 : decode cX7_areClaims 21 = .ok (.invokevirtual 220, 3) := by decide +kernel
theorem dX7_areClaims_24 : decode cX7_areClaims 24 = .ok (.invokevirtual 86, 3) := by decide +kernel
theorem dX7_areClaims_27 : decode cX7_areClaims 27 = .ok (.ifnonnull 5, 3) := by decide +kernel
theorem dX7_areClaims_30 : decode cX7_areClaims 30 = .ok (.iconst 0, 1) := by decide +kernel
theorem dX7_areClaims_31 : decode cX7_areClaims 31 = .ok (.ireturn, 1) := by decide +kernel
theorem dX7_areClaims_32 : decode cX7_areClaims 32 = .ok (.aload_n 0, 1) := by decide +kernel
theorem dX7_areClaims_33 : decode cX7_areClaims 33 = .ok (.aload_n 1, 1) := by decide +kernel
theorem dX7_areClaims_34 : decode cX7_areClaims 34 = .ok (.iload 5, 2) := by decide +kernel
theorem dX7_areClaims_36 : decode cX7_areClaims 36 = .ok (.iconst 1, 1) := by decide +kernel
theorem dX7_areClaims_37 : decode cX7_areClaims 37 = .ok (.iadd, 1) := by decide +kernel
theorem dX7_areClaims_38 : decode cX7_areClaims 38 = .ok (.invokevirtual 220, 3) := by decide +kernel
theorem dX7_areClaims_41 : decode cX7_areClaims 41 = .ok (.invokevirtual 106, 3) := by decide +kernel
theorem dX7_areClaims_44 : decode cX7_areClaims 44 = .ok (.ifCond .eq 17, 3) := by decide +kernel
theorem dX7_areClaims_47 : decode cX7_areClaims 47 = .ok (.aload_n 1, 1) := by decide +kernel
theorem dX7_areClaims_48 : decode cX7_areClaims 48 = .ok (.iload 5, 2) := by decide +kernel
theorem dX7_areClaims_50 : decode cX7_areClaims 50 = .ok (.iconst 2, 1) := by decide +kernel
theorem dX7_areClaims_51 : decode cX7_areClaims 51 = .ok (.iadd, 1) := by decide +kernel
theorem dX7_areClaims_52 : decode cX7_areClaims 52 = .ok (.invokevirtual 220, 3) := by decide +kernel
theorem dX7_areClaims_55 : decode cX7_areClaims 55 = .ok (.invokestatic 100, 3) := by decide +kernel
theorem dX7_areClaims_58 : decode cX7_areClaims 58 = .ok (.ifCond .ne 5, 3) := by decide +kernel
theorem dX7_areClaims_61 : decode cX7_areClaims 61 = .ok (.iconst 0, 1) := by decide +kernel
theorem dX7_areClaims_62 : decode cX7_areClaims 62 = .ok (.ireturn, 1) := by decide +kernel
theorem dX7_areClaims_63 : decode cX7_areClaims 63 = .ok (.iinc 4 1, 3) := by decide +kernel
theorem dX7_areClaims_66 : decode cX7_areClaims 66 = .ok (.goto (-63), 3) := by decide +kernel
theorem dX7_areClaims_69 : decode cX7_areClaims 69 = .ok (.iconst 1, 1) := by decide +kernel
theorem dX7_areClaims_70 : decode cX7_areClaims 70 = .ok (.ireturn, 1) := by decide +kernel
set_option maxRecDepth 20000 in
theorem ggX7_claimMayBe_X3_read : GoodIn wsX7_claimMayBe wsX3_read := goodIn_r _ [6, 7, 8, 9, 10, 5, 11, 12, 48, 49, 50] (by decide +kernel) (by decide +kernel)
set_option maxRecDepth 20000 in
theorem gX7_claimMayBe_X3_read : GoodIn wsX7_claimMayBe (wsV RX7 220 RX3 yX3_read wsX3_read) := goodIn_app (goodIn_of _ (by decide +kernel)) ggX7_claimMayBe_X3_read
set_option maxRecDepth 20000 in
theorem ggX7_claimMayBe_X5_count : GoodIn wsX7_claimMayBe wsX5_count := goodIn_r _ [17, 18, 51, 52, 53, 54, 55, 56, 57] (by decide +kernel) (by decide +kernel)
set_option maxRecDepth 20000 in
theorem gX7_claimMayBe_X5_count : GoodIn wsX7_claimMayBe (wsV RX7 140 RX5 yX5_count wsX5_count) := goodIn_app (goodIn_of _ (by decide +kernel)) ggX7_claimMayBe_X5_count
set_option maxRecDepth 20000 in
theorem ggX7_claimMayBe_X5_personOf : GoodIn wsX7_claimMayBe wsX5_personOf := goodIn_r _ [22, 23, 24, 25, 26, 16, 27, 18, 28, 51, 52, 53, 54, 55, 56, 57] (by decide +kernel) (by decide +kernel)
set_option maxRecDepth 20000 in
theorem gX7_claimMayBe_X5_personOf : GoodIn wsX7_claimMayBe (wsV RX7 152 RX5 yX5_personOf wsX5_personOf) := goodIn_app (goodIn_of _ (by decide +kernel)) ggX7_claimMayBe_X5_personOf
set_option maxRecDepth 20000 in
theorem ggX7_claimMayBe_X5_placeOf : GoodIn wsX7_claimMayBe wsX5_placeOf := goodIn_r _ [32, 33, 24, 25, 26, 16, 27, 18, 28, 51, 52, 53, 54, 55, 56, 57] (by decide +kernel) (by decide +kernel)
set_option maxRecDepth 20000 in
theorem gX7_claimMayBe_X5_placeOf : GoodIn wsX7_claimMayBe (wsV RX7 143 RX5 yX5_placeOf wsX5_placeOf) := goodIn_app (goodIn_of _ (by decide +kernel)) ggX7_claimMayBe_X5_placeOf
set_option maxRecDepth 20000 in
theorem ggX7_claimMayBe_X5_nightOf : GoodIn wsX7_claimMayBe wsX5_nightOf := goodIn_r _ [37, 38, 24, 25, 26, 16, 27, 18, 28, 51, 52, 53, 54, 55, 56, 57] (by decide +kernel) (by decide +kernel)
set_option maxRecDepth 20000 in
theorem gX7_claimMayBe_X5_nightOf : GoodIn wsX7_claimMayBe (wsV RX7 146 RX5 yX5_nightOf wsX5_nightOf) := goodIn_app (goodIn_of _ (by decide +kernel)) ggX7_claimMayBe_X5_nightOf
theorem dX7_claimMayBe_0 : decode cX7_claimMayBe 0 = .ok (.iload_n 2, 1) := by decide +kernel
theorem dX7_claimMayBe_1 : decode cX7_claimMayBe 1 = .ok (.iconst 3, 1) := by decide +kernel
theorem dX7_claimMayBe_2 : decode cX7_claimMayBe 2 = .ok (.iload_n 3, 1) := by decide +kernel
theorem dX7_claimMayBe_3 : decode cX7_claimMayBe 3 = .ok (.imul, 1) := by decide +kernel
theorem dX7_claimMayBe_4 : decode cX7_claimMayBe 4 = .ok (.iadd, 1) := by decide +kernel
theorem dX7_claimMayBe_5 : decode cX7_claimMayBe 5 = .ok (.istore 4, 2) := by decide +kernel
theorem dX7_claimMayBe_7 : decode cX7_claimMayBe 7 = .ok (.aload_n 1, 1) := by decide +kernel
theorem dX7_claimMayBe_8 : decode cX7_claimMayBe 8 = .ok (.iload 4, 2) := by decide +kernel
theorem dX7_claimMayBe_10 : decode cX7_claimMayBe 10 = .ok (.invokevirtual 220, 3) := by decide +kernel
theorem dX7_claimMayBe_13 : decode cX7_claimMayBe 13 = .ok (.istore 5, 2) := by decide +kernel
theorem dX7_claimMayBe_15 : decode cX7_claimMayBe 15 = .ok (.aload_n 1, 1) := by decide +kernel
theorem dX7_claimMayBe_16 : decode cX7_claimMayBe 16 = .ok (.iload 4, 2) := by decide +kernel
theorem dX7_claimMayBe_18 : decode cX7_claimMayBe 18 = .ok (.iconst 1, 1) := by decide +kernel
theorem dX7_claimMayBe_19 : decode cX7_claimMayBe 19 = .ok (.iadd, 1) := by decide +kernel
theorem dX7_claimMayBe_20 : decode cX7_claimMayBe 20 = .ok (.invokevirtual 220, 3) := by decide +kernel
theorem dX7_claimMayBe_23 : decode cX7_claimMayBe 23 = .ok (.istore 6, 2) := by decide +kernel
theorem dX7_claimMayBe_25 : decode cX7_claimMayBe 25 = .ok (.aload_n 1, 1) := by decide +kernel
theorem dX7_claimMayBe_26 : decode cX7_claimMayBe 26 = .ok (.iload 4, 2) := by decide +kernel
theorem dX7_claimMayBe_28 : decode cX7_claimMayBe 28 = .ok (.iconst 2, 1) := by decide +kernel
theorem dX7_claimMayBe_29 : decode cX7_claimMayBe 29 = .ok (.iadd, 1) := by decide +kernel
theorem dX7_claimMayBe_30 : decode cX7_claimMayBe 30 = .ok (.invokevirtual 220, 3) := by decide +kernel
theorem dX7_claimMayBe_33 : decode cX7_claimMayBe 33 = .ok (.istore 7, 2) := by decide +kernel
theorem dX7_claimMayBe_35 : decode cX7_claimMayBe 35 = .ok (.iconst 0, 1) := by decide +kernel
theorem dX7_claimMayBe_36 : decode cX7_claimMayBe 36 = .ok (.istore 8, 2) := by decide +kernel
theorem dX7_claimMayBe_38 : decode cX7_claimMayBe 38 = .ok (.iload 8, 2) := by decide +kernel
theorem dX7_claimMayBe_40 : decode cX7_claimMayBe 40 = .ok (.aload_n 0, 1) := by decide +kernel
theorem dX7_claimMayBe_41 : decode cX7_claimMayBe 41 = .ok (.getfield 30, 3) := by decide +kernel
theorem dX7_claimMayBe_44 : decode cX7_claimMayBe 44 = .ok (.iconst 2, 1) := by decide +kernel
theorem dX7_claimMayBe_45 : decode cX7_claimMayBe 45 = .ok (.invokevirtual 140, 3) := by decide +kernel
theorem dX7_claimMayBe_48 : decode cX7_claimMayBe 48 = .ok (.if_icmp .ge 74, 3) := by decide +kernel
theorem dX7_claimMayBe_51 : decode cX7_claimMayBe 51 = .ok (.aload_n 0, 1) := by decide +kernel
theorem dX7_claimMayBe_52 : decode cX7_claimMayBe 52 = .ok (.getfield 30, 3) := by decide +kernel
theorem dX7_claimMayBe_55 : decode cX7_claimMayBe 55 = .ok (.iload 8, 2) := by decide +kernel
theorem dX7_claimMayBe_57 : decode cX7_claimMayBe 57 = .ok (.invokevirtual 152, 3) := by decide +kernel
theorem dX7_claimMayBe_60 : decode cX7_claimMayBe 60 = .ok (.iload 5, 2) := by decide +kernel
theorem dX7_claimMayBe_62 : decode cX7_claimMayBe 62 = .ok (.if_icmp .ne 7, 3) := by decide +kernel
theorem dX7_claimMayBe_65 : decode cX7_claimMayBe 65 = .ok (.iconst 1, 1) := by decide +kernel
theorem dX7_claimMayBe_66 : decode cX7_claimMayBe 66 = .ok (.goto 4, 3) := by decide +kernel
theorem dX7_claimMayBe_69 : decode cX7_claimMayBe 69 = .ok (.iconst 0, 1) := by decide +kernel
theorem dX7_claimMayBe_70 : decode cX7_claimMayBe 70 = .ok (.istore 9, 2) := by decide +kernel
theorem dX7_claimMayBe_72 : decode cX7_claimMayBe 72 = .ok (.aload_n 0, 1) := by decide +kernel
theorem dX7_claimMayBe_73 : decode cX7_claimMayBe 73 = .ok (.getfield 30, 3) := by decide +kernel
theorem dX7_claimMayBe_76 : decode cX7_claimMayBe 76 = .ok (.iload 8, 2) := by decide +kernel
theorem dX7_claimMayBe_78 : decode cX7_claimMayBe 78 = .ok (.invokevirtual 143, 3) := by decide +kernel
theorem dX7_claimMayBe_81 : decode cX7_claimMayBe 81 = .ok (.iload 6, 2) := by decide +kernel
theorem dX7_claimMayBe_83 : decode cX7_claimMayBe 83 = .ok (.if_icmp .ne 7, 3) := by decide +kernel
theorem dX7_claimMayBe_86 : decode cX7_claimMayBe 86 = .ok (.iconst 1, 1) := by decide +kernel
theorem dX7_claimMayBe_87 : decode cX7_claimMayBe 87 = .ok (.goto 4, 3) := by decide +kernel
theorem dX7_claimMayBe_90 : decode cX7_claimMayBe 90 = .ok (.iconst 0, 1) := by decide +kernel
theorem dX7_claimMayBe_91 : decode cX7_claimMayBe 91 = .ok (.istore 10, 2) := by decide +kernel
theorem dX7_claimMayBe_93 : decode cX7_claimMayBe 93 = .ok (.aload_n 0, 1) := by decide +kernel
theorem dX7_claimMayBe_94 : decode cX7_claimMayBe 94 = .ok (.getfield 30, 3) := by decide +kernel
theorem dX7_claimMayBe_97 : decode cX7_claimMayBe 97 = .ok (.iload 8, 2) := by decide +kernel
theorem dX7_claimMayBe_99 : decode cX7_claimMayBe 99 = .ok (.invokevirtual 146, 3) := by decide +kernel
theorem dX7_claimMayBe_102 : decode cX7_claimMayBe 102 = .ok (.iload 7, 2) := by decide +kernel
theorem dX7_claimMayBe_104 : decode cX7_claimMayBe 104 = .ok (.if_icmp .ne 12, 3) := by decide +kernel
theorem dX7_claimMayBe_107 : decode cX7_claimMayBe 107 = .ok (.iload 9, 2) := by decide +kernel
theorem dX7_claimMayBe_109 : decode cX7_claimMayBe 109 = .ok (.iload 10, 2) := by decide +kernel
theorem dX7_claimMayBe_111 : decode cX7_claimMayBe 111 = .ok (.if_icmp .eq 5, 3) := by decide +kernel
theorem dX7_claimMayBe_114 : decode cX7_claimMayBe 114 = .ok (.iconst 0, 1) := by decide +kernel
theorem dX7_claimMayBe_115 : decode cX7_claimMayBe 115 = .ok (.ireturn, 1) := by decide +kernel
theorem dX7_claimMayBe_116 : decode cX7_claimMayBe 116 = .ok (.iinc 8 1, 3) := by decide +kernel
theorem dX7_claimMayBe_119 : decode cX7_claimMayBe 119 = .ok (.goto (-81), 3) := by decide +kernel
theorem dX7_claimMayBe_122 : decode cX7_claimMayBe 122 = .ok (.iload_n 2, 1) := by decide +kernel
theorem dX7_claimMayBe_123 : decode cX7_claimMayBe 123 = .ok (.istore 8, 2) := by decide +kernel
theorem dX7_claimMayBe_125 : decode cX7_claimMayBe 125 = .ok (.iload 8, 2) := by decide +kernel
theorem dX7_claimMayBe_127 : decode cX7_claimMayBe 127 = .ok (.iload 4, 2) := by decide +kernel
theorem dX7_claimMayBe_129 : decode cX7_claimMayBe 129 = .ok (.if_icmp .ge 69, 3) := by decide +kernel
theorem dX7_claimMayBe_132 : decode cX7_claimMayBe 132 = .ok (.aload_n 1, 1) := by decide +kernel
theorem dX7_claimMayBe_133 : decode cX7_claimMayBe 133 = .ok (.iload 8, 2) := by decide +kernel
theorem dX7_claimMayBe_135 : decode cX7_claimMayBe 135 = .ok (.invokevirtual 220, 3) := by decide +kernel
theorem dX7_claimMayBe_138 : decode cX7_claimMayBe 138 = .ok (.iload 5, 2) := by decide +kernel
theorem dX7_claimMayBe_140 : decode cX7_claimMayBe 140 = .ok (.if_icmp .ne 7, 3) := by decide +kernel
theorem dX7_claimMayBe_143 : decode cX7_claimMayBe 143 = .ok (.iconst 1, 1) := by decide +kernel
theorem dX7_claimMayBe_144 : decode cX7_claimMayBe 144 = .ok (.goto 4, 3) := by decide +kernel
theorem dX7_claimMayBe_147 : decode cX7_claimMayBe 147 = .ok (.iconst 0, 1) := by decide +kernel
theorem dX7_claimMayBe_148 : decode cX7_claimMayBe 148 = .ok (.istore 9, 2) := by decide +kernel
theorem dX7_claimMayBe_150 : decode cX7_claimMayBe 150 = .ok (.aload_n 1, 1) := by decide +kernel
theorem dX7_claimMayBe_151 : decode cX7_claimMayBe 151 = .ok (.iload 8, 2) := by decide +kernel
theorem dX7_claimMayBe_153 : decode cX7_claimMayBe 153 = .ok (.iconst 1, 1) := by decide +kernel
theorem dX7_claimMayBe_154 : decode cX7_claimMayBe 154 = .ok (.iadd, 1) := by decide +kernel
theorem dX7_claimMayBe_155 : decode cX7_claimMayBe 155 = .ok (.invokevirtual 220, 3) := by decide +kernel
theorem dX7_claimMayBe_158 : decode cX7_claimMayBe 158 = .ok (.iload 6, 2) := by decide +kernel
theorem dX7_claimMayBe_160 : decode cX7_claimMayBe 160 = .ok (.if_icmp .ne 7, 3) := by decide +kernel
theorem dX7_claimMayBe_163 : decode cX7_claimMayBe 163 = .ok (.iconst 1, 1) := by decide +kernel
theorem dX7_claimMayBe_164 : decode cX7_claimMayBe 164 = .ok (.goto 4, 3) := by decide +kernel
theorem dX7_claimMayBe_167 : decode cX7_claimMayBe 167 = .ok (.iconst 0, 1) := by decide +kernel
theorem dX7_claimMayBe_168 : decode cX7_claimMayBe 168 = .ok (.istore 10, 2) := by decide +kernel
theorem dX7_claimMayBe_170 : decode cX7_claimMayBe 170 = .ok (.aload_n 1, 1) := by decide +kernel
theorem dX7_claimMayBe_171 : decode cX7_claimMayBe 171 = .ok (.iload 8, 2) := by decide +kernel
theorem dX7_claimMayBe_173 : decode cX7_claimMayBe 173 = .ok (.iconst 2, 1) := by decide +kernel
theorem dX7_claimMayBe_174 : decode cX7_claimMayBe 174 = .ok (.iadd, 1) := by decide +kernel
theorem dX7_claimMayBe_175 : decode cX7_claimMayBe 175 = .ok (.invokevirtual 220, 3) := by decide +kernel
theorem dX7_claimMayBe_178 : decode cX7_claimMayBe 178 = .ok (.iload 7, 2) := by decide +kernel
theorem dX7_claimMayBe_180 : decode cX7_claimMayBe 180 = .ok (.if_icmp .ne 12, 3) := by decide +kernel
theorem dX7_claimMayBe_183 : decode cX7_claimMayBe 183 = .ok (.iload 9, 2) := by decide +kernel
theorem dX7_claimMayBe_185 : decode cX7_claimMayBe 185 = .ok (.iload 10, 2) := by decide +kernel
theorem dX7_claimMayBe_187 : decode cX7_claimMayBe 187 = .ok (.if_icmp .eq 5, 3) := by decide +kernel
theorem dX7_claimMayBe_190 : decode cX7_claimMayBe 190 = .ok (.iconst 0, 1) := by decide +kernel
theorem dX7_claimMayBe_191 : decode cX7_claimMayBe 191 = .ok (.ireturn, 1) := by decide +kernel
theorem dX7_claimMayBe_192 : decode cX7_claimMayBe 192 = .ok (.iinc 8 3, 3) := by decide +kernel
theorem dX7_claimMayBe_195 : decode cX7_claimMayBe 195 = .ok (.goto (-70), 3) := by decide +kernel
theorem dX7_claimMayBe_198 : decode cX7_claimMayBe 198 = .ok (.iconst 1, 1) := by decide +kernel
theorem dX7_claimMayBe_199 : decode cX7_claimMayBe 199 = .ok (.ireturn, 1) := by decide +kernel
set_option maxRecDepth 20000 in
theorem ggX7_isSoWith_X7_gumLeft : GoodIn wsX7_isSoWith wsX7_gumLeft := goodIn_r _ [7, 8, 9, 10, 6, 11, 12, 13, 14, 15, 16, 17, 18, 19, 20, 21, 22, 23, 24, 25, 26, 27, 28, 29, 30, 31, 32, 33, 34, 35, 113, 114, 115, 116, 117, 118, 119, 120, 121, 122, 123, 124] (by decide +kernel) (by decide +kernel)
set_option maxRecDepth 20000 in
theorem gX7_isSoWith_X7_gumLeft : GoodIn wsX7_isSoWith (wsV RX7 169 RX7 yX7_gumLeft wsX7_gumLeft) := goodIn_app (goodIn_of _ (by decide +kernel)) ggX7_isSoWith_X7_gumLeft
set_option maxRecDepth 20000 in
theorem ggX7_isSoWith_X5_add : GoodIn wsX7_isSoWith wsX5_add := goodIn_r _ [40, 41, 42, 43, 44, 45, 46, 47, 48, 49, 50, 51, 52, 39, 53, 54, 55, 56, 125, 126, 127, 128, 129, 130, 131] (by decide +kernel) (by decide +kernel)
