theorem dX8_judgeClaims_27 : decode cX8_judgeClaims 27 = .ok (.iadd, 1) := by decide +kernel
theorem dX8_judgeClaims_28 : decode cX8_judgeClaims 28 = .ok (.iconst 1, 1) := by decide +kernel
theorem dX8_judgeClaims_29 : decode cX8_judgeClaims 29 = .ok (.iadd, 1) := by decide +kernel
theorem dX8_judgeClaims_30 : decode cX8_judgeClaims 30 = .ok (.iaload, 1) := by decide +kernel
theorem dX8_judgeClaims_31 : decode cX8_judgeClaims 31 = .ok (.istore 5, 2) := by decide +kernel
theorem dX8_judgeClaims_33 : decode cX8_judgeClaims 33 = .ok (.aload_n 0, 1) := by decide +kernel
theorem dX8_judgeClaims_34 : decode cX8_judgeClaims 34 = .ok (.getfield 80, 3) := by decide +kernel
theorem dX8_judgeClaims_37 : decode cX8_judgeClaims 37 = .ok (.iload_n 1, 1) := by decide +kernel
theorem dX8_judgeClaims_38 : decode cX8_judgeClaims 38 = .ok (.iconst 3, 1) := by decide +kernel
theorem dX8_judgeClaims_39 : decode cX8_judgeClaims 39 = .ok (.iload_n 3, 1) := by decide +kernel
theorem dX8_judgeClaims_40 : decode cX8_judgeClaims 40 = .ok (.imul, 1) := by decide +kernel
theorem dX8_judgeClaims_41 : decode cX8_judgeClaims 41 = .ok (.iadd, 1) := by decide +kernel
theorem dX8_judgeClaims_42 : decode cX8_judgeClaims 42 = .ok (.iconst 2, 1) := by decide +kernel
theorem dX8_judgeClaims_43 : decode cX8_judgeClaims 43 = .ok (.iadd, 1) := by decide +kernel
theorem dX8_judgeClaims_44 : decode cX8_judgeClaims 44 = .ok (.iaload, 1) := by decide +kernel
theorem dX8_judgeClaims_45 : decode cX8_judgeClaims 45 = .ok (.istore 6, 2) := by decide +kernel
theorem dX8_judgeClaims_47 : decode cX8_judgeClaims 47 = .ok (.iconst 1, 1) := by decide +kernel
theorem dX8_judgeClaims_48 : decode cX8_judgeClaims 48 = .ok (.istore 7, 2) := by decide +kernel
theorem dX8_judgeClaims_50 : decode cX8_judgeClaims 50 = .ok (.iconst 0, 1) := by decide +kernel
theorem dX8_judgeClaims_51 : decode cX8_judgeClaims 51 = .ok (.istore 8, 2) := by decide +kernel
theorem dX8_judgeClaims_53 : decode cX8_judgeClaims 53 = .ok (.iload 8, 2) := by decide +kernel
theorem dX8_judgeClaims_55 : decode cX8_judgeClaims 55 = .ok (.aload_n 0, 1) := by decide +kernel
theorem dX8_judgeClaims_56 : decode cX8_judgeClaims 56 = .ok (.getfield 156, 3) := by decide +kernel
theorem dX8_judgeClaims_59 : decode cX8_judgeClaims 59 = .ok (.if_icmp .ge 54, 3) := by decide +kernel
theorem dX8_judgeClaims_62 : decode cX8_judgeClaims 62 = .ok (.iload 7, 2) := by decide +kernel
theorem dX8_judgeClaims_64 : decode cX8_judgeClaims 64 = .ok (.ifCond .eq 40, 3) := by decide +kernel
theorem dX8_judgeClaims_67 : decode cX8_judgeClaims 67 = .ok (.iload 4, 2) := by decide +kernel
theorem dX8_judgeClaims_69 : decode cX8_judgeClaims 69 = .ok (.iload 5, 2) := by decide +kernel
theorem dX8_judgeClaims_71 : decode cX8_judgeClaims 71 = .ok (.iload 6, 2) := by decide +kernel
theorem dX8_judgeClaims_73 : decode cX8_judgeClaims 73 = .ok (.aload_n 0, 1) := by decide +kernel
theorem dX8_judgeClaims_74 : decode cX8_judgeClaims 74 = .ok (.getfield 22, 3) := by decide +kernel
theorem dX8_judgeClaims_77 : decode cX8_judgeClaims 77 = .ok (.iload 8, 2) := by decide +kernel
theorem dX8_judgeClaims_79 : decode cX8_judgeClaims 79 = .ok (.iaload, 1) := by decide +kernel
theorem dX8_judgeClaims_80 : decode cX8_judgeClaims 80 = .ok (.aload_n 0, 1) := by decide +kernel
theorem dX8_judgeClaims_81 : decode cX8_judgeClaims 81 = .ok (.getfield 25, 3) := by decide +kernel
theorem dX8_judgeClaims_84 : decode cX8_judgeClaims 84 = .ok (.iload 8, 2) := by decide +kernel
theorem dX8_judgeClaims_86 : decode cX8_judgeClaims 86 = .ok (.iaload, 1) := by decide +kernel
theorem dX8_judgeClaims_87 : decode cX8_judgeClaims 87 = .ok (.aload_n 0, 1) := by decide +kernel
theorem dX8_judgeClaims_88 : decode cX8_judgeClaims 88 = .ok (.getfield 28, 3) := by decide +kernel
theorem dX8_judgeClaims_91 : decode cX8_judgeClaims 91 = .ok (.iload 8, 2) := by decide +kernel
theorem dX8_judgeClaims_93 : decode cX8_judgeClaims 93 = .ok (.iaload, 1) := by decide +kernel
theorem dX8_judgeClaims_94 : decode cX8_judgeClaims 94 = .ok (.invokestatic 228, 3) := by decide +kernel
theorem dX8_judgeClaims_97 : decode cX8_judgeClaims 97 = .ok (.ifCond .eq 7, 3) := by decide +kernel
theorem dX8_judgeClaims_100 : decode cX8_judgeClaims 100 = .ok (.iconst 1, 1) := by decide +kernel
theorem dX8_judgeClaims_101 : decode cX8_judgeClaims 101 = .ok (.goto 4, 3) := by decide +kernel
theorem dX8_judgeClaims_104 : decode cX8_judgeClaims 104 = .ok (.iconst 0, 1) := by decide +kernel
theorem dX8_judgeClaims_105 : decode cX8_judgeClaims 105 = .ok (.istore 7, 2) := by decide +kernel
theorem dX8_judgeClaims_107 : decode cX8_judgeClaims 107 = .ok (.iinc 8 1, 3) := by decide +kernel
theorem dX8_judgeClaims_110 : decode cX8_judgeClaims 110 = .ok (.goto (-57), 3) := by decide +kernel
theorem dX8_judgeClaims_113 : decode cX8_judgeClaims 113 = .ok (.iconst 0, 1) := by decide +kernel
theorem dX8_judgeClaims_114 : decode cX8_judgeClaims 114 = .ok (.istore 8, 2) := by decide +kernel
theorem dX8_judgeClaims_116 : decode cX8_judgeClaims 116 = .ok (.iload 8, 2) := by decide +kernel
theorem dX8_judgeClaims_118 : decode cX8_judgeClaims 118 = .ok (.iload_n 3, 1) := by decide +kernel
theorem dX8_judgeClaims_119 : decode cX8_judgeClaims 119 = .ok (.if_icmp .ge 70, 3) := by decide +kernel
theorem dX8_judgeClaims_122 : decode cX8_judgeClaims 122 = .ok (.iload 7, 2) := by decide +kernel
theorem dX8_judgeClaims_124 : decode cX8_judgeClaims 124 = .ok (.ifCond .eq 56, 3) := by decide +kernel
theorem dX8_judgeClaims_127 : decode cX8_judgeClaims 127 = .ok (.iload 4, 2) := by decide +kernel
theorem dX8_judgeClaims_129 : decode cX8_judgeClaims 129 = .ok (.iload 5, 2) := by decide +kernel
theorem dX8_judgeClaims_131 : decode cX8_judgeClaims 131 = .ok (.iload 6, 2) := by decide +kernel
theorem dX8_judgeClaims_133 : decode cX8_judgeClaims 133 = .ok (.aload_n 0, 1) := by decide +kernel
theorem dX8_judgeClaims_134 : decode cX8_judgeClaims 134 = .ok (.getfield 80, 3) := by decide +kernel
theorem dX8_judgeClaims_137 : decode cX8_judgeClaims 137 = .ok (.iload_n 1, 1) := by decide +kernel
theorem dX8_judgeClaims_138 : decode cX8_judgeClaims 138 = .ok (.iconst 3, 1) := by decide +kernel
theorem dX8_judgeClaims_139 : decode cX8_judgeClaims 139 = .ok (.iload 8, 2) := by decide +kernel
theorem dX8_judgeClaims_141 : decode cX8_judgeClaims 141 = .ok (.imul, 1) := by decide +kernel
theorem dX8_judgeClaims_142 : decode cX8_judgeClaims 142 = .ok (.iadd, 1) := by decide +kernel
theorem dX8_judgeClaims_143 : decode cX8_judgeClaims 143 = .ok (.iaload, 1) := by decide +kernel
theorem dX8_judgeClaims_144 : decode cX8_judgeClaims 144 = .ok (.aload_n 0, 1) := by decide +kernel
theorem dX8_judgeClaims_145 : decode cX8_judgeClaims 145 = .ok (.getfield 80, 3) := by decide +kernel
theorem dX8_judgeClaims_148 : decode cX8_judgeClaims 148 = .ok (.iload_n 1, 1) := by decide +kernel
theorem dX8_judgeClaims_149 : decode cX8_judgeClaims 149 = .ok (.iconst 3, 1) := by decide +kernel
theorem dX8_judgeClaims_150 : decode cX8_judgeClaims 150 = .ok (.iload 8, 2) := by decide +kernel
theorem dX8_judgeClaims_152 : decode cX8_judgeClaims 152 = .ok (.imul, 1) := by decide +kernel
theorem dX8_judgeClaims_153 : decode cX8_judgeClaims 153 = .ok (.iadd, 1) := by decide +kernel
theorem dX8_judgeClaims_154 : decode cX8_judgeClaims 154 = .ok (.iconst 1, 1) := by decide +kernel
theorem dX8_judgeClaims_155 : decode cX8_judgeClaims 155 = .ok (.iadd, 1) := by decide +kernel
theorem dX8_judgeClaims_156 : decode cX8_judgeClaims 156 = .ok (.iaload, 1) := by decide +kernel
theorem dX8_judgeClaims_157 : decode cX8_judgeClaims 157 = .ok (.aload_n 0, 1) := by decide +kernel
theorem dX8_judgeClaims_158 : decode cX8_judgeClaims 158 = .ok (.getfield 80, 3) := by decide +kernel
theorem dX8_judgeClaims_161 : decode cX8_judgeClaims 161 = .ok (.iload_n 1, 1) := by decide +kernel
theorem dX8_judgeClaims_162 : decode cX8_judgeClaims 162 = .ok (.iconst 3, 1) := by decide +kernel
theorem dX8_judgeClaims_163 : decode cX8_judgeClaims 163 = .ok (.iload 8, 2) := by decide +kernel
theorem dX8_judgeClaims_165 : decode cX8_judgeClaims 165 = .ok (.imul, 1) := by decide +kernel
theorem dX8_judgeClaims_166 : decode cX8_judgeClaims 166 = .ok (.iadd, 1) := by decide +kernel
theorem dX8_judgeClaims_167 : decode cX8_judgeClaims 167 = .ok (.iconst 2, 1) := by decide +kernel
theorem dX8_judgeClaims_168 : decode cX8_judgeClaims 168 = .ok (.iadd, 1) := by decide +kernel
theorem dX8_judgeClaims_169 : decode cX8_judgeClaims 169 = .ok (.iaload, 1) := by decide +kernel
theorem dX8_judgeClaims_170 : decode cX8_judgeClaims 170 = .ok (.invokestatic 228, 3) := by decide +kernel
theorem dX8_judgeClaims_173 : decode cX8_judgeClaims 173 = .ok (.ifCond .eq 7, 3) := by decide +kernel
theorem dX8_judgeClaims_176 : decode cX8_judgeClaims 176 = .ok (.iconst 1, 1) := by decide +kernel
theorem dX8_judgeClaims_177 : decode cX8_judgeClaims 177 = .ok (.goto 4, 3) := by decide +kernel
theorem dX8_judgeClaims_180 : decode cX8_judgeClaims 180 = .ok (.iconst 0, 1) := by decide +kernel
theorem dX8_judgeClaims_181 : decode cX8_judgeClaims 181 = .ok (.istore 7, 2) := by decide +kernel
theorem dX8_judgeClaims_183 : decode cX8_judgeClaims 183 = .ok (.iinc 8 1, 3) := by decide +kernel
theorem dX8_judgeClaims_186 : decode cX8_judgeClaims 186 = .ok (.goto (-70), 3) := by decide +kernel
theorem dX8_judgeClaims_189 : decode cX8_judgeClaims 189 = .ok (.iload 7, 2) := by decide +kernel
theorem dX8_judgeClaims_191 : decode cX8_judgeClaims 191 = .ok (.ifCond .ne 5, 3) := by decide +kernel
theorem dX8_judgeClaims_194 : decode cX8_judgeClaims 194 = .ok (.iload_n 3, 1) := by decide +kernel
theorem dX8_judgeClaims_195 : decode cX8_judgeClaims 195 = .ok (.ireturn, 1) := by decide +kernel
theorem dX8_judgeClaims_196 : decode cX8_judgeClaims 196 = .ok (.iinc 3 1, 3) := by decide +kernel
theorem dX8_judgeClaims_199 : decode cX8_judgeClaims 199 = .ok (.goto (-197), 3) := by decide +kernel
theorem dX8_judgeClaims_202 : decode cX8_judgeClaims 202 = .ok (.bipush (-9), 2) := by decide +kernel
theorem dX8_judgeClaims_204 : decode cX8_judgeClaims 204 = .ok (.ireturn, 1) := by decide +kernel
set_option maxRecDepth 20000 in
theorem ggX8_judge_X8_noSheet : GoodIn wsX8_judge wsX8_noSheet := goodIn_r _ [9, 4, 10, 11, 8, 12] (by decide +kernel) (by decide +kernel)
set_option maxRecDepth 20000 in
theorem gX8_judge_X8_noSheet : GoodIn wsX8_judge (va_wsS RX8 140 yX8_noSheet wsX8_noSheet) := goodIn_app (goodIn_of _ (by decide +kernel)) ggX8_judge_X8_noSheet
set_option maxRecDepth 20000 in
theorem ggX8_judge_X8_refused : GoodIn wsX8_judge wsX8_refused := goodIn_r _ [16, 17, 55, 56, 57, 58, 59, 60, 61, 62, 63, 64, 65, 66, 67, 68, 69, 70, 71, 72, 73, 74, 75, 76, 77, 78, 79, 80, 81, 82, 83, 84, 85, 86, 87, 88, 89, 90, 91, 92, 93, 94, 95, 96] (by decide +kernel) (by decide +kernel)
set_option maxRecDepth 20000 in
theorem gX8_judge_X8_refused : GoodIn wsX8_judge (wsV RX8 144 RX8 yX8_refused wsX8_refused) := goodIn_app (goodIn_of _ (by decide +kernel)) ggX8_judge_X8_refused
set_option maxRecDepth 20000 in
theorem ggX8_judge_X8_in : GoodIn wsX8_judge wsX8_in := goodIn_r _ [12] (by decide +kernel) (by decide +kernel)
set_option maxRecDepth 20000 in
theorem gX8_judge_X8_in : GoodIn wsX8_judge (va_wsS RX8 102 yX8_in wsX8_in) := goodIn_app (goodIn_of _ (by decide +kernel)) ggX8_judge_X8_in
set_option maxRecDepth 20000 in
theorem ggX8_judge_X8_cellsBarred : GoodIn wsX8_judge wsX8_cellsBarred := goodIn_r _ [21, 22, 23, 24, 25, 26, 8, 27, 17, 28, 29, 30, 55, 56, 57, 58, 59, 60, 61, 62, 63, 64, 65, 66, 67, 68, 69, 70, 71, 72, 73, 74, 75, 76, 77, 78, 79, 80, 81, 82, 83, 84, 85, 86, 87, 88, 89, 90, 91, 92, 93, 94, 95, 96] (by decide +kernel) (by decide +kernel)
set_option maxRecDepth 20000 in
theorem gX8_judge_X8_cellsBarred : GoodIn wsX8_judge (wsV RX8 149 RX8 yX8_cellsBarred wsX8_cellsBarred) := goodIn_app (goodIn_of _ (by decide +kernel)) ggX8_judge_X8_cellsBarred
set_option maxRecDepth 20000 in
theorem ggX8_judge_X8_noPerson : GoodIn wsX8_judge wsX8_noPerson := goodIn_r _ [34, 3, 10, 11, 8, 12, 55, 56, 57, 58, 59, 60, 61, 62, 63, 64, 65, 66, 67, 68, 69, 70, 71, 72, 73, 74, 75, 76, 77, 78, 79, 80, 81, 82, 83, 84, 85, 86, 87, 88, 89, 90, 91, 92, 93, 94, 95, 96] (by decide +kernel) (by decide +kernel)
set_option maxRecDepth 20000 in
theorem gX8_judge_X8_noPerson : GoodIn wsX8_judge (wsV RX8 168 RX8 yX8_noPerson wsX8_noPerson) := goodIn_app (goodIn_of _ (by decide +kernel)) ggX8_judge_X8_noPerson
set_option maxRecDepth 20000 in
theorem ggX8_judge_X8_noPlace : GoodIn wsX8_judge wsX8_noPlace := goodIn_r _ [38, 39, 10, 11, 8, 12, 55, 56, 57, 58, 59, 60, 61, 62, 63, 64, 65, 66, 67, 68, 69, 70, 71, 72, 73, 74, 75, 76, 77, 78, 79, 80, 81, 82, 83, 84, 85, 86, 87, 88, 89, 90, 91, 92, 93, 94, 95, 96] (by decide +kernel) (by decide +kernel)
set_option maxRecDepth 20000 in
theorem gX8_judge_X8_noPlace : GoodIn wsX8_judge (wsV RX8 177 RX8 yX8_noPlace wsX8_noPlace) := goodIn_app (goodIn_of _ (by decide +kernel)) ggX8_judge_X8_noPlace
set_option maxRecDepth 20000 in
theorem ggX8_judge_X8_isNight : GoodIn wsX8_judge wsX8_isNight := goodIn_r _ [42, 43, 10, 11, 8, 12] (by decide +kernel) (by decide +kernel)
set_option maxRecDepth 20000 in
theorem gX8_judge_X8_isNight : GoodIn wsX8_judge (va_wsS RX8 171 yX8_isNight wsX8_isNight) := goodIn_app (goodIn_of _ (by decide +kernel)) ggX8_judge_X8_isNight
set_option maxRecDepth 20000 in
theorem ggX8_judge_X8_judgeClaims : GoodIn wsX8_judge wsX8_judgeClaims := goodIn_r _ [47, 5, 48, 49, 50, 51, 52, 53, 8, 54, 55, 56, 57, 58, 59, 60, 61, 62, 63, 64, 65, 66, 67, 68, 69, 70, 71, 72, 73, 74, 75, 76, 77, 78, 79, 80, 81, 82, 83, 84, 85, 86, 87, 88, 89, 90, 91, 92, 93, 94, 95, 96] (by decide +kernel) (by decide +kernel)
set_option maxRecDepth 20000 in
theorem gX8_judge_X8_judgeClaims : GoodIn wsX8_judge (wsV RX8 236 RX8 yX8_judgeClaims wsX8_judgeClaims) := goodIn_app (goodIn_of _ (by decide +kernel)) ggX8_judge_X8_judgeClaims
theorem dX8_judge_0 : decode cX8_judge 0 = .ok (.iload_n 1, 1) := by decide +kernel
theorem dX8_judge_1 : decode cX8_judge 1 = .ok (.invokestatic 140, 3) := by decide +kernel
theorem dX8_judge_4 : decode cX8_judge 4 = .ok (.ifCond .eq 9, 3) := by decide +kernel
theorem dX8_judge_7 : decode cX8_judge 7 = .ok (.aload_n 0, 1) := by decide +kernel
theorem dX8_judge_8 : decode cX8_judge 8 = .ok (.iconst (-1), 1) := by decide +kernel
theorem dX8_judge_9 : decode cX8_judge 9 = .ok (.invokevirtual 144, 3) := by decide +kernel
theorem dX8_judge_12 : decode cX8_judge 12 = .ok (.ireturn, 1) := by decide +kernel
theorem dX8_judge_13 : decode cX8_judge 13 = .ok (.iload_n 2, 1) := by decide +kernel
theorem dX8_judge_14 : decode cX8_judge 14 = .ok (.i2l, 1) := by decide +kernel
theorem dX8_judge_15 : decode cX8_judge 15 = .ok (.lconst 0, 1) := by decide +kernel
theorem dX8_judge_16 : decode cX8_judge 16 = .ok (.ldc2_w 147, 3) := by decide +kernel
theorem dX8_judge_19 : decode cX8_judge 19 = .ok (.invokestatic 102, 3) := by decide +kernel
theorem dX8_judge_22 : decode cX8_judge 22 = .ok (.ifCond .eq 16, 3) := by decide +kernel
theorem dX8_judge_25 : decode cX8_judge 25 = .ok (.iload 4, 2) := by decide +kernel
theorem dX8_judge_27 : decode cX8_judge 27 = .ok (.i2l, 1) := by decide +kernel
theorem dX8_judge_28 : decode cX8_judge 28 = .ok (.lconst 0, 1) := by decide +kernel
theorem dX8_judge_29 : decode cX8_judge 29 = .ok (.ldc2_w 232, 3) := by decide +kernel
theorem dX8_judge_32 : decode cX8_judge 32 = .ok (.invokestatic 102, 3) := by decide +kernel
theorem dX8_judge_35 : decode cX8_judge 35 = .ok (.ifCond .ne 10, 3) := by decide +kernel
theorem dX8_judge_38 : decode cX8_judge 38 = .ok (.aload_n 0, 1) := by decide +kernel
theorem dX8_judge_39 : decode cX8_judge 39 = .ok (.bipush (-2), 2) := by decide +kernel
theorem dX8_judge_41 : decode cX8_judge 41 = .ok (.invokevirtual 144, 3) := by decide +kernel
theorem dX8_judge_44 : decode cX8_judge 44 = .ok (.ireturn, 1) := by decide +kernel
theorem dX8_judge_45 : decode cX8_judge 45 = .ok (.aload_n 0, 1) := by decide +kernel
theorem dX8_judge_46 : decode cX8_judge 46 = .ok (.getfield 99, 3) := by decide +kernel
theorem dX8_judge_49 : decode cX8_judge 49 = .ok (.ifCond .ne 10, 3) := by decide +kernel
theorem dX8_judge_52 : decode cX8_judge 52 = .ok (.aload_n 0, 1) := by decide +kernel
theorem dX8_judge_53 : decode cX8_judge 53 = .ok (.bipush (-3), 2) := by decide +kernel
theorem dX8_judge_55 : decode cX8_judge 55 = .ok (.invokevirtual 144, 3) := by decide +kernel
theorem dX8_judge_58 : decode cX8_judge 58 = .ok (.ireturn, 1) := by decide +kernel
theorem dX8_judge_59 : decode cX8_judge 59 = .ok (.aload_n 0, 1) := by decide +kernel
theorem dX8_judge_60 : decode cX8_judge 60 = .ok (.iload_n 1, 1) := by decide +kernel
theorem dX8_judge_61 : decode cX8_judge 61 = .ok (.iload_n 2, 1) := by decide +kernel
theorem dX8_judge_62 : decode cX8_judge 62 = .ok (.iload_n 3, 1) := by decide +kernel
theorem dX8_judge_63 : decode cX8_judge 63 = .ok (.ldc2_w 234, 3) := by decide +kernel
theorem dX8_judge_66 : decode cX8_judge 66 = .ok (.iload 4, 2) := by decide +kernel
theorem dX8_judge_68 : decode cX8_judge 68 = .ok (.i2l, 1) := by decide +kernel
theorem dX8_judge_69 : decode cX8_judge 69 = .ok (.lmul, 1) := by decide +kernel
theorem dX8_judge_70 : decode cX8_judge 70 = .ok (.invokevirtual 149, 3) := by decide +kernel
theorem dX8_judge_73 : decode cX8_judge 73 = .ok (.istore 5, 2) := by decide +kernel
theorem dX8_judge_75 : decode cX8_judge 75 = .ok (.iload 5, 2) := by decide +kernel
theorem dX8_judge_77 : decode cX8_judge 77 = .ok (.ifCond .ge 6, 3) := by decide +kernel
theorem dX8_judge_80 : decode cX8_judge 80 = .ok (.iload 5, 2) := by decide +kernel
theorem dX8_judge_82 : decode cX8_judge 82 = .ok (.ireturn, 1) := by decide +kernel
theorem dX8_judge_83 : decode cX8_judge 83 = .ok (.bipush 60, 2) := by decide +kernel
theorem dX8_judge_85 : decode cX8_judge 85 = .ok (.iload_n 1, 1) := by decide +kernel
theorem dX8_judge_86 : decode cX8_judge 86 = .ok (.imul, 1) := by decide +kernel
theorem dX8_judge_87 : decode cX8_judge 87 = .ok (.iload_n 3, 1) := by decide +kernel
theorem dX8_judge_88 : decode cX8_judge 88 = .ok (.iadd, 1) := by decide +kernel
theorem dX8_judge_89 : decode cX8_judge 89 = .ok (.istore 6, 2) := by decide +kernel
theorem dX8_judge_91 : decode cX8_judge 91 = .ok (.iconst 0, 1) := by decide +kernel
theorem dX8_judge_92 : decode cX8_judge 92 = .ok (.istore 7, 2) := by decide +kernel
theorem dX8_judge_94 : decode cX8_judge 94 = .ok (.iload 7, 2) := by decide +kernel
theorem dX8_judge_96 : decode cX8_judge 96 = .ok (.iload 4, 2) := by decide +kernel
theorem dX8_judge_98 : decode cX8_judge 98 = .ok (.if_icmp .ge 76, 3) := by decide +kernel
theorem dX8_judge_101 : decode cX8_judge 101 = .ok (.aload_n 0, 1) := by decide +kernel
theorem dX8_judge_102 : decode cX8_judge 102 = .ok (.aload_n 0, 1) := by decide +kernel
theorem dX8_judge_103 : decode cX8_judge 103 = .ok (.getfield 80, 3) := by decide +kernel
theorem dX8_judge_106 : decode cX8_judge 106 = .ok (.iload 6, 2) := by decide +kernel
theorem dX8_judge_108 : decode cX8_judge 108 = .ok (.iconst 3, 1) := by decide +kernel
theorem dX8_judge_109 : decode cX8_judge 109 = .ok (.iload 7, 2) := by decide +kernel
theorem dX8_judge_111 : decode cX8_judge 111 = .ok (.imul, 1) := by decide +kernel
theorem dX8_judge_112 : decode cX8_judge 112 = .ok (.iadd, 1) := by decide +kernel
theorem dX8_judge_113 : decode cX8_judge 113 = .ok (.iaload, 1) := by decide +kernel
theorem dX8_judge_114 : decode cX8_judge 114 = .ok (.invokevirtual 168, 3) := by decide +kernel
theorem dX8_judge_117 : decode cX8_judge 117 = .ok (.ifCond .ne 44, 3) := by decide +kernel
theorem dX8_judge_120 : decode cX8_judge 120 = .ok (.aload_n 0, 1) := by decide +kernel
theorem dX8_judge_121 : decode cX8_judge 121 = .ok (.aload_n 0, 1) := by decide +kernel
theorem dX8_judge_122 : decode cX8_judge 122 = .ok (.getfield 80, 3) := by decide +kernel
theorem dX8_judge_125 : decode cX8_judge 125 = .ok (.iload 6, 2) := by decide +kernel
theorem dX8_judge_127 : decode cX8_judge 127 = .ok (.iconst 3, 1) := by decide +kernel
theorem dX8_judge_128 : decode cX8_judge 128 = .ok (.iload 7, 2) := by decide +kernel
theorem dX8_judge_130 : decode cX8_judge 130 = .ok (.imul, 1) := by decide +kernel
theorem dX8_judge_131 : decode cX8_judge 131 = .ok (.iadd, 1) := by decide +kernel
theorem dX8_judge_132 : decode cX8_judge 132 = .ok (.iconst 1, 1) := by decide +kernel
theorem dX8_judge_133 : decode cX8_judge 133 = .ok (.iadd, 1) := by decide +kernel
theorem dX8_judge_134 : decode cX8_judge 134 = .ok (.iaload, 1) := by decide +kernel
theorem dX8_judge_135 : decode cX8_judge 135 = .ok (.invokevirtual 177, 3) := by decide +kernel
theorem dX8_judge_138 : decode cX8_judge 138 = .ok (.ifCond .ne 23, 3) := by decide +kernel
theorem dX8_judge_141 : decode cX8_judge 141 = .ok (.aload_n 0, 1) := by decide +kernel
theorem dX8_judge_142 : decode cX8_judge 142 = .ok (.getfield 80, 3) := by decide +kernel
theorem dX8_judge_145 : decode cX8_judge 145 = .ok (.iload 6, 2) := by decide +kernel
theorem dX8_judge_147 : decode cX8_judge 147 = .ok (.iconst 3, 1) := by decide +kernel
theorem dX8_judge_148 : decode cX8_judge 148 = .ok (.iload 7, 2) := by decide +kernel
theorem dX8_judge_150 : decode cX8_judge 150 = .ok (.imul, 1) := by decide +kernel
theorem dX8_judge_151 : decode cX8_judge 151 = .ok (.iadd, 1) := by decide +kernel
theorem dX8_judge_152 : decode cX8_judge 152 = .ok (.iconst 2, 1) := by decide +kernel
theorem dX8_judge_153 : decode cX8_judge 153 = .ok (.iadd, 1) := by decide +kernel
theorem dX8_judge_154 : decode cX8_judge 154 = .ok (.iaload, 1) := by decide +kernel
theorem dX8_judge_155 : decode cX8_judge 155 = .ok (.invokestatic 171, 3) := by decide +kernel
theorem dX8_judge_158 : decode cX8_judge 158 = .ok (.ifCond .ne 10, 3) := by decide +kernel
theorem dX8_judge_161 : decode cX8_judge 161 = .ok (.aload_n 0, 1) := by decide +kernel
theorem dX8_judge_162 : decode cX8_judge 162 = .ok (.bipush (-2), 2) := by decide +kernel
theorem dX8_judge_164 : decode cX8_judge 164 = .ok (.invokevirtual 144, 3) := by decide +kernel
theorem dX8_judge_167 : decode cX8_judge 167 = .ok (.ireturn, 1) := by decide +kernel
theorem dX8_judge_168 : decode cX8_judge 168 = .ok (.iinc 7 1, 3) := by decide +kernel
theorem dX8_judge_171 : decode cX8_judge 171 = .ok (.goto (-77), 3) := by decide +kernel
theorem dX8_judge_174 : decode cX8_judge 174 = .ok (.aload_n 0, 1) := by decide +kernel
theorem dX8_judge_175 : decode cX8_judge 175 = .ok (.aload_n 0, 1) := by decide +kernel
theorem dX8_judge_176 : decode cX8_judge 176 = .ok (.iload 6, 2) := by decide +kernel
theorem dX8_judge_178 : decode cX8_judge 178 = .ok (.iload 4, 2) := by decide +kernel
theorem dX8_judge_180 : decode cX8_judge 180 = .ok (.invokevirtual 236, 3) := by decide +kernel
theorem dX8_judge_183 : decode cX8_judge 183 = .ok (.invokevirtual 144, 3) := by decide +kernel
theorem dX8_judge_186 : decode cX8_judge 186 = .ok (.ireturn, 1) := by decide +kernel
set_option maxRecDepth 20000 in
theorem ggX8_reading_X8_noPlace : GoodIn wsX8_reading wsX8_noPlace := goodIn_r _ [12, 13, 14, 15, 11, 16, 21, 22, 23, 24, 25, 26, 27, 28, 29, 30, 31, 32, 33, 34, 35, 36, 37, 38, 39, 40, 41, 42, 43, 44, 45, 46, 47, 48, 49, 50, 51, 52, 53, 54, 55, 56, 57, 58, 59, 60, 61, 62] (by decide +kernel) (by decide +kernel)
set_option maxRecDepth 20000 in
theorem gX8_reading_X8_noPlace : GoodIn wsX8_reading (wsV RX8 177 RX8 yX8_noPlace wsX8_noPlace) := goodIn_app (goodIn_of _ (by decide +kernel)) ggX8_reading_X8_noPlace
set_option maxRecDepth 20000 in
theorem ggX8_reading_X8_isNight : GoodIn wsX8_reading wsX8_isNight := goodIn_r _ [19, 20, 14, 15, 11, 16] (by decide +kernel) (by decide +kernel)
set_option maxRecDepth 20000 in
theorem gX8_reading_X8_isNight : GoodIn wsX8_reading (va_wsS RX8 171 yX8_isNight wsX8_isNight) := goodIn_app (goodIn_of _ (by decide +kernel)) ggX8_reading_X8_isNight
set_option maxRecDepth 20000 in
theorem ggX8_reading_X8_in : GoodIn wsX8_reading wsX8_in := goodIn_r _ [16] (by decide +kernel) (by decide +kernel)
set_option maxRecDepth 20000 in
theorem gX8_reading_X8_in : GoodIn wsX8_reading (va_wsS RX8 102 yX8_in wsX8_in) := goodIn_app (goodIn_of _ (by decide +kernel)) ggX8_reading_X8_in
theorem dX8_reading_0 : decode cX8_reading 0 = .ok (.aload_n 0, 1) := by decide +kernel
theorem dX8_reading_1 : decode cX8_reading 1 = .ok (.iload_n 1, 1) := by decide +kernel
theorem dX8_reading_2 : decode cX8_reading 2 = .ok (.invokevirtual 177, 3) := by decide +kernel
theorem dX8_reading_5 : decode cX8_reading 5 = .ok (.ifCond .eq 5, 3) := by decide +kernel
theorem dX8_reading_8 : decode cX8_reading 8 = .ok (.iconst (-1), 1) := by decide +kernel
theorem dX8_reading_9 : decode cX8_reading 9 = .ok (.ireturn, 1) := by decide +kernel
theorem dX8_reading_10 : decode cX8_reading 10 = .ok (.iload_n 2, 1) := by decide +kernel
theorem dX8_reading_11 : decode cX8_reading 11 = .ok (.invokestatic 171, 3) := by decide +kernel
theorem dX8_reading_14 : decode cX8_reading 14 = .ok (.ifCond .eq 35, 3) := by decide +kernel
theorem dX8_reading_17 : decode cX8_reading 17 = .ok (.iload_n 3, 1) := by decide +kernel
theorem dX8_reading_18 : decode cX8_reading 18 = .ok (.i2l, 1) := by decide +kernel
theorem dX8_reading_19 : decode cX8_reading 19 = .ok (.lconst 0, 1) := by decide +kernel
theorem dX8_reading_20 : decode cX8_reading 20 = .ok (.ldc2_w 239, 3) := by decide +kernel
theorem dX8_reading_23 : decode cX8_reading 23 = .ok (.invokestatic 102, 3) := by decide +kernel
theorem dX8_reading_26 : decode cX8_reading 26 = .ok (.ifCond .eq 23, 3) := by decide +kernel
theorem dX8_reading_29 : decode cX8_reading 29 = .ok (.iload 4, 2) := by decide +kernel
theorem dX8_reading_31 : decode cX8_reading 31 = .ok (.i2l, 1) := by decide +kernel
theorem dX8_reading_32 : decode cX8_reading 32 = .ok (.lconst 0, 1) := by decide +kernel
theorem dX8_reading_33 : decode cX8_reading 33 = .ok (.ldc2_w 226, 3) := by decide +kernel
theorem dX8_reading_36 : decode cX8_reading 36 = .ok (.invokestatic 102, 3) := by decide +kernel
theorem dX8_reading_39 : decode cX8_reading 39 = .ok (.ifCond .ne 13, 3) := by decide +kernel
theorem dX8_reading_42 : decode cX8_reading 42 = .ok (.iload 4, 2) := by decide +kernel
theorem dX8_reading_44 : decode cX8_reading 44 = .ok (.bipush 9, 2) := by decide +kernel
theorem dX8_reading_46 : decode cX8_reading 46 = .ok (.if_icmp .eq 6, 3) := by decide +kernel
theorem dX8_reading_49 : decode cX8_reading 49 = .ok (.bipush (-2), 2) := by decide +kernel
theorem dX8_reading_51 : decode cX8_reading 51 = .ok (.ireturn, 1) := by decide +kernel
theorem dX8_reading_52 : decode cX8_reading 52 = .ok (.aload_n 0, 1) := by decide +kernel
theorem dX8_reading_53 : decode cX8_reading 53 = .ok (.getfield 165, 3) := by decide +kernel
theorem dX8_reading_56 : decode cX8_reading 56 = .ok (.bipush 8, 2) := by decide +kernel
theorem dX8_reading_58 : decode cX8_reading 58 = .ok (.if_icmp .ne 6, 3) := by decide +kernel
theorem dX8_reading_61 : decode cX8_reading 61 = .ok (.bipush (-4), 2) := by decide +kernel
theorem dX8_reading_63 : decode cX8_reading 63 = .ok (.ireturn, 1) := by decide +kernel
theorem dX8_reading_64 : decode cX8_reading 64 = .ok (.aload_n 0, 1) := by decide +kernel
theorem dX8_reading_65 : decode cX8_reading 65 = .ok (.getfield 55, 3) := by decide +kernel
theorem dX8_reading_68 : decode cX8_reading 68 = .ok (.aload_n 0, 1) := by decide +kernel
theorem dX8_reading_69 : decode cX8_reading 69 = .ok (.getfield 165, 3) := by decide +kernel
theorem dX8_reading_72 : decode cX8_reading 72 = .ok (.iload_n 1, 1) := by decide +kernel
theorem dX8_reading_73 : decode cX8_reading 73 = .ok (.iastore, 1) := by decide +kernel
theorem dX8_reading_74 : decode cX8_reading 74 = .ok (.aload_n 0, 1) := by decide +kernel
theorem dX8_reading_75 : decode cX8_reading 75 = .ok (.getfield 58, 3) := by decide +kernel
theorem dX8_reading_78 : decode cX8_reading 78 = .ok (.aload_n 0, 1) := by decide +kernel
theorem dX8_reading_79 : decode cX8_reading 79 = .ok (.getfield 165, 3) := by decide +kernel
theorem dX8_reading_82 : decode cX8_reading 82 = .ok (.iload_n 2, 1) := by decide +kernel
theorem dX8_reading_83 : decode cX8_reading 83 = .ok (.iastore, 1) := by decide +kernel
theorem dX8_reading_84 : decode cX8_reading 84 = .ok (.aload_n 0, 1) := by decide +kernel
theorem dX8_reading_85 : decode cX8_reading 85 = .ok (.getfield 61, 3) := by decide +kernel
theorem dX8_reading_88 : decode cX8_reading 88 = .ok (.aload_n 0, 1) := by decide +kernel
theorem dX8_reading_89 : decode cX8_reading 89 = .ok (.getfield 165, 3) := by decide +kernel
theorem dX8_reading_92 : decode cX8_reading 92 = .ok (.iload_n 3, 1) := by decide +kernel
theorem dX8_reading_93 : decode cX8_reading 93 = .ok (.iastore, 1) := by decide +kernel
theorem dX8_reading_94 : decode cX8_reading 94 = .ok (.aload_n 0, 1) := by decide +kernel
theorem dX8_reading_95 : decode cX8_reading 95 = .ok (.getfield 64, 3) := by decide +kernel
theorem dX8_reading_98 : decode cX8_reading 98 = .ok (.aload_n 0, 1) := by decide +kernel
theorem dX8_reading_99 : decode cX8_reading 99 = .ok (.getfield 165, 3) := by decide +kernel
theorem dX8_reading_102 : decode cX8_reading 102 = .ok (.iload 4, 2) := by decide +kernel
theorem dX8_reading_104 : decode cX8_reading 104 = .ok (.iastore, 1) := by decide +kernel
theorem dX8_reading_105 : decode cX8_reading 105 = .ok (.aload_n 0, 1) := by decide +kernel
theorem dX8_reading_106 : decode cX8_reading 106 = .ok (.dup, 1) := by decide +kernel
theorem dX8_reading_107 : decode cX8_reading 107 = .ok (.getfield 165, 3) := by decide +kernel
theorem dX8_reading_110 : decode cX8_reading 110 = .ok (.iconst 1, 1) := by decide +kernel
theorem dX8_reading_111 : decode cX8_reading 111 = .ok (.iadd, 1) := by decide +kernel
theorem dX8_reading_112 : decode cX8_reading 112 = .ok (.putfield 165, 3) := by decide +kernel
theorem dX8_reading_115 : decode cX8_reading 115 = .ok (.aload_n 0, 1) := by decide +kernel
theorem dX8_reading_116 : decode cX8_reading 116 = .ok (.getfield 165, 3) := by decide +kernel
theorem dX8_reading_119 : decode cX8_reading 119 = .ok (.iconst 1, 1) := by decide +kernel
theorem dX8_reading_120 : decode cX8_reading 120 = .ok (.isub, 1) := by decide +kernel
theorem dX8_reading_121 : decode cX8_reading 121 = .ok (.ireturn, 1) := by decide +kernel
set_option maxRecDepth 20000 in
theorem ggX8_back_X8_in : GoodIn wsX8_back wsX8_in := goodIn_r _ [5] (by decide +kernel) (by decide +kernel)
set_option maxRecDepth 20000 in
theorem gX8_back_X8_in : GoodIn wsX8_back (va_wsS RX8 102 yX8_in wsX8_in) := goodIn_app (goodIn_of _ (by decide +kernel)) ggX8_back_X8_in
theorem dX8_back_0 : decode cX8_back 0 = .ok (.iload_n 1, 1) := by decide +kernel
theorem dX8_back_1 : decode cX8_back 1 = .ok (.i2l, 1) := by decide +kernel
theorem dX8_back_2 : decode cX8_back 2 = .ok (.lconst 0, 1) := by decide +kernel
theorem dX8_back_3 : decode cX8_back 3 = .ok (.aload_n 0, 1) := by decide +kernel
theorem dX8_back_4 : decode cX8_back 4 = .ok (.getfield 165, 3) := by decide +kernel
theorem dX8_back_7 : decode cX8_back 7 = .ok (.i2l, 1) := by decide +kernel
theorem dX8_back_8 : decode cX8_back 8 = .ok (.invokestatic 102, 3) := by decide +kernel
theorem dX8_back_11 : decode cX8_back 11 = .ok (.ifCond .ne 6, 3) := by decide +kernel
theorem dX8_back_14 : decode cX8_back 14 = .ok (.bipush (-2), 2) := by decide +kernel
theorem dX8_back_16 : decode cX8_back 16 = .ok (.ireturn, 1) := by decide +kernel
theorem dX8_back_17 : decode cX8_back 17 = .ok (.aload_n 0, 1) := by decide +kernel
theorem dX8_back_18 : decode cX8_back 18 = .ok (.dup, 1) := by decide +kernel
theorem dX8_back_19 : decode cX8_back 19 = .ok (.getfield 165, 3) := by decide +kernel
theorem dX8_back_22 : decode cX8_back 22 = .ok (.iload_n 1, 1) := by decide +kernel
theorem dX8_back_23 : decode cX8_back 23 = .ok (.isub, 1) := by decide +kernel
theorem dX8_back_24 : decode cX8_back 24 = .ok (.putfield 165, 3) := by decide +kernel
theorem dX8_back_27 : decode cX8_back 27 = .ok (.aload_n 0, 1) := by decide +kernel
theorem dX8_back_28 : decode cX8_back 28 = .ok (.getfield 165, 3) := by decide +kernel
theorem dX8_back_31 : decode cX8_back 31 = .ok (.ireturn, 1) := by decide +kernel
set_option maxRecDepth 20000 in
theorem ggX8_areSo_X8_goTo : GoodIn wsX8_areSo wsX8_goTo := goodIn_r _ [10, 11, 12, 13, 14, 15, 9, 16, 17, 18, 19, 20, 21, 22, 23, 24, 25, 26, 27, 28, 29, 30, 31, 32, 33, 34, 35, 36, 37, 53, 54, 55, 56, 57, 58, 59, 60, 61, 62, 63, 64, 65, 66, 67, 68, 69, 70, 71, 72, 73, 74, 75, 76, 77, 78, 79, 80, 81, 82, 83, 84, 85, 86, 87, 88, 89, 90, 91, 92, 93, 94] (by decide +kernel) (by decide +kernel)
set_option maxRecDepth 20000 in
theorem gX8_areSo_X8_goTo : GoodIn wsX8_areSo (wsV RX8 214 RX8 yX8_goTo wsX8_goTo) := goodIn_app (goodIn_of _ (by decide +kernel)) ggX8_areSo_X8_goTo
set_option maxRecDepth 20000 in
theorem ggX8_areSo_X8_layerAt : GoodIn wsX8_areSo wsX8_layerAt := goodIn_r _ [41, 11, 12, 33, 53, 54, 55, 56, 57, 58, 59, 60, 61, 62, 63, 64, 65, 66, 67, 68, 69, 70, 71, 72, 73, 74, 75, 76, 77, 78, 79, 80, 81, 82, 83, 84, 85, 86, 87, 88, 89, 90, 91, 92, 93, 94] (by decide +kernel) (by decide +kernel)
set_option maxRecDepth 20000 in
theorem gX8_areSo_X8_layerAt : GoodIn wsX8_areSo (wsV RX8 217 RX8 yX8_layerAt wsX8_layerAt) := goodIn_app (goodIn_of _ (by decide +kernel)) ggX8_areSo_X8_layerAt
set_option maxRecDepth 20000 in
theorem ggX8_areSo_X8_gumBy : GoodIn wsX8_areSo wsX8_gumBy := goodIn_r _ [45, 46, 30, 47, 48, 49, 9, 50, 51, 52, 53, 54, 55, 56, 57, 58, 59, 60, 61, 62, 63, 64, 65, 66, 67, 68, 69, 70, 71, 72, 73, 74, 75, 76, 77, 78, 79, 80, 81, 82, 83, 84, 85, 86, 87, 88, 89, 90, 91, 92, 93, 94] (by decide +kernel) (by decide +kernel)
set_option maxRecDepth 20000 in
theorem gX8_areSo_X8_gumBy : GoodIn wsX8_areSo (wsV RX8 220 RX8 yX8_gumBy wsX8_gumBy) := goodIn_app (goodIn_of _ (by decide +kernel)) ggX8_areSo_X8_gumBy
theorem dX8_areSo_0 : decode cX8_areSo 0 = .ok (.iconst 1, 1) := by decide +kernel
theorem dX8_areSo_1 : decode cX8_areSo 1 = .ok (.istore_n 1, 1) := by decide +kernel
theorem dX8_areSo_2 : decode cX8_areSo 2 = .ok (.iconst 0, 1) := by decide +kernel
theorem dX8_areSo_3 : decode cX8_areSo 3 = .ok (.istore_n 2, 1) := by decide +kernel
theorem dX8_areSo_4 : decode cX8_areSo 4 = .ok (.iload_n 2, 1) := by decide +kernel
theorem dX8_areSo_5 : decode cX8_areSo 5 = .ok (.aload_n 0, 1) := by decide +kernel
theorem dX8_areSo_6 : decode cX8_areSo 6 = .ok (.getfield 165, 3) := by decide +kernel
theorem dX8_areSo_9 : decode cX8_areSo 9 = .ok (.if_icmp .ge 69, 3) := by decide +kernel
theorem dX8_areSo_12 : decode cX8_areSo 12 = .ok (.iload_n 1, 1) := by decide +kernel
theorem dX8_areSo_13 : decode cX8_areSo 13 = .ok (.ifCond .eq 65, 3) := by decide +kernel
theorem dX8_areSo_16 : decode cX8_areSo 16 = .ok (.aload_n 0, 1) := by decide +kernel
theorem dX8_areSo_17 : decode cX8_areSo 17 = .ok (.aload_n 0, 1) := by decide +kernel
theorem dX8_areSo_18 : decode cX8_areSo 18 = .ok (.getfield 58, 3) := by decide +kernel
theorem dX8_areSo_21 : decode cX8_areSo 21 = .ok (.iload_n 2, 1) := by decide +kernel
theorem dX8_areSo_22 : decode cX8_areSo 22 = .ok (.iaload, 1) := by decide +kernel
theorem dX8_areSo_23 : decode cX8_areSo 23 = .ok (.invokevirtual 214, 3) := by decide +kernel
theorem dX8_areSo_26 : decode cX8_areSo 26 = .ok (.aload_n 0, 1) := by decide +kernel
theorem dX8_areSo_27 : decode cX8_areSo 27 = .ok (.aload_n 0, 1) := by decide +kernel
theorem dX8_areSo_28 : decode cX8_areSo 28 = .ok (.getfield 55, 3) := by decide +kernel
theorem dX8_areSo_31 : decode cX8_areSo 31 = .ok (.iload_n 2, 1) := by decide +kernel
theorem dX8_areSo_32 : decode cX8_areSo 32 = .ok (.iaload, 1) := by decide +kernel
theorem dX8_areSo_33 : decode cX8_areSo 33 = .ok (.aload_n 0, 1) := by decide +kernel
theorem dX8_areSo_34 : decode cX8_areSo 34 = .ok (.getfield 61, 3) := by decide +kernel
theorem dX8_areSo_37 : decode cX8_areSo 37 = .ok (.iload_n 2, 1) := by decide +kernel
theorem dX8_areSo_38 : decode cX8_areSo 38 = .ok (.iaload, 1) := by decide +kernel
theorem dX8_areSo_39 : decode cX8_areSo 39 = .ok (.invokevirtual 217, 3) := by decide +kernel
theorem dX8_areSo_42 : decode cX8_areSo 42 = .ok (.istore_n 3, 1) := by decide +kernel
theorem dX8_areSo_43 : decode cX8_areSo 43 = .ok (.iload_n 3, 1) := by decide +kernel
theorem dX8_areSo_44 : decode cX8_areSo 44 = .ok (.ifCond .ge 8, 3) := by decide +kernel
theorem dX8_areSo_47 : decode cX8_areSo 47 = .ok (.bipush 9, 2) := by decide +kernel
theorem dX8_areSo_49 : decode cX8_areSo 49 = .ok (.goto 8, 3) := by decide +kernel
theorem dX8_areSo_52 : decode cX8_areSo 52 = .ok (.aload_n 0, 1) := by decide +kernel
theorem dX8_areSo_53 : decode cX8_areSo 53 = .ok (.iload_n 3, 1) := by decide +kernel
theorem dX8_areSo_54 : decode cX8_areSo 54 = .ok (.invokevirtual 220, 3) := by decide +kernel
theorem dX8_areSo_57 : decode cX8_areSo 57 = .ok (.aload_n 0, 1) := by decide +kernel
theorem dX8_areSo_58 : decode cX8_areSo 58 = .ok (.getfield 64, 3) := by decide +kernel
theorem dX8_areSo_61 : decode cX8_areSo 61 = .ok (.iload_n 2, 1) := by decide +kernel
theorem dX8_areSo_62 : decode cX8_areSo 62 = .ok (.iaload, 1) := by decide +kernel
theorem dX8_areSo_63 : decode cX8_areSo 63 = .ok (.if_icmp .ne 7, 3) := by decide +kernel
theorem dX8_areSo_66 : decode cX8_areSo 66 = .ok (.iconst 1, 1) := by decide +kernel
theorem dX8_areSo_67 : decode cX8_areSo 67 = .ok (.goto 4, 3) := by decide +kernel
theorem dX8_areSo_70 : decode cX8_areSo 70 = .ok (.iconst 0, 1) := by decide +kernel
theorem dX8_areSo_71 : decode cX8_areSo 71 = .ok (.istore_n 1, 1) := by decide +kernel
theorem dX8_areSo_72 : decode cX8_areSo 72 = .ok (.iinc 2 1, 3) := by decide +kernel
theorem dX8_areSo_75 : decode cX8_areSo 75 = .ok (.goto (-71), 3) := by decide +kernel
theorem dX8_areSo_78 : decode cX8_areSo 78 = .ok (.iload_n 1, 1) := by decide +kernel
theorem dX8_areSo_79 : decode cX8_areSo 79 = .ok (.ireturn, 1) := by decide +kernel
set_option maxRecDepth 20000 in
theorem ggX8_sat_X8_noPlace : GoodIn wsX8_sat wsX8_noPlace := goodIn_r _ [7, 8, 9, 10, 6, 11, 78, 79, 80, 81, 82, 83, 84, 85, 86, 87, 88, 89, 90, 91, 92, 93, 94, 95, 96, 97, 98, 99, 100, 101, 102, 103, 104, 105, 106, 107, 108, 109, 110, 111, 112, 113, 114, 115, 116, 117, 118, 119] (by decide +kernel) (by decide +kernel)
set_option maxRecDepth 20000 in
theorem gX8_sat_X8_noPlace : GoodIn wsX8_sat (wsV RX8 177 RX8 yX8_noPlace wsX8_noPlace) := goodIn_app (goodIn_of _ (by decide +kernel)) ggX8_sat_X8_noPlace
set_option maxRecDepth 20000 in
theorem ggX8_sat_X8_isNight : GoodIn wsX8_sat wsX8_isNight := goodIn_r _ [14, 15, 9, 10, 6, 11] (by decide +kernel) (by decide +kernel)
set_option maxRecDepth 20000 in
theorem gX8_sat_X8_isNight : GoodIn wsX8_sat (va_wsS RX8 171 yX8_isNight wsX8_isNight) := goodIn_app (goodIn_of _ (by decide +kernel)) ggX8_sat_X8_isNight
set_option maxRecDepth 20000 in
theorem ggX8_sat_X8_maySit : GoodIn wsX8_sat wsX8_maySit := goodIn_r _ [19, 2, 20, 21, 22, 78, 79, 80, 81, 82, 83, 84, 85, 86, 87, 88, 89, 90, 91, 92, 93, 94, 95, 96, 97, 98, 99, 100, 101, 102, 103, 104, 105, 106, 107, 108, 109, 110, 111, 112, 113, 114, 115, 116, 117, 118, 119] (by decide +kernel) (by decide +kernel)
set_option maxRecDepth 20000 in
theorem gX8_sat_X8_maySit : GoodIn wsX8_sat (wsV RX8 180 RX8 yX8_maySit wsX8_maySit) := goodIn_app (goodIn_of _ (by decide +kernel)) ggX8_sat_X8_maySit
set_option maxRecDepth 20000 in
theorem ggX8_sat_X8_sitDown : GoodIn wsX8_sat wsX8_sitDown := goodIn_r _ [26, 21, 2, 22, 20, 78, 79, 80, 81, 82, 83, 84, 85, 86, 87, 88, 89, 90, 91, 92, 93, 94, 95, 96, 97, 98, 99, 100, 101, 102, 103, 104, 105, 106, 107, 108, 109, 110, 111, 112, 113, 114, 115, 116, 117, 118, 119] (by decide +kernel) (by decide +kernel)
set_option maxRecDepth 20000 in
theorem gX8_sat_X8_sitDown : GoodIn wsX8_sat (wsV RX8 184 RX8 yX8_sitDown wsX8_sitDown) := goodIn_app (goodIn_of _ (by decide +kernel)) ggX8_sat_X8_sitDown
set_option maxRecDepth 20000 in
theorem ggX8_sat_X8_areSo : GoodIn wsX8_sat wsX8_areSo := goodIn_r _ [30, 31, 32, 33, 34, 35, 36, 37, 38, 6, 39, 40, 41, 42, 43, 44, 45, 46, 47, 48, 49, 50, 51, 52, 53, 54, 55, 56, 57, 2, 20, 58, 22, 59, 60, 61, 62, 63, 64, 65, 66, 67, 68, 69, 70, 71, 21, 72, 73, 74, 75, 76, 77, 78, 79, 80, 81, 82, 83, 84, 85, 86, 87, 88, 89, 90, 91, 92, 93, 94, 95, 96, 97, 98, 99, 100, 101, 102, 103, 104, 105, 106, 107, 108, 109, 110, 111, 112, 113, 114, 115, 116, 117, 118, 119] (by decide +kernel) (by decide +kernel)
set_option maxRecDepth 20000 in
theorem gX8_sat_X8_areSo : GoodIn wsX8_sat (wsV RX8 241 RX8 yX8_areSo wsX8_areSo) := goodIn_app (goodIn_of _ (by decide +kernel)) ggX8_sat_X8_areSo
theorem dX8_sat_0 : decode cX8_sat 0 = .ok (.aload_n 0, 1) := by decide +kernel
theorem dX8_sat_1 : decode cX8_sat 1 = .ok (.iload_n 1, 1) := by decide +kernel
theorem dX8_sat_2 : decode cX8_sat 2 = .ok (.invokevirtual 177, 3) := by decide +kernel
theorem dX8_sat_5 : decode cX8_sat 5 = .ok (.ifCond .eq 5, 3) := by decide +kernel
theorem dX8_sat_8 : decode cX8_sat 8 = .ok (.iconst (-1), 1) := by decide +kernel
theorem dX8_sat_9 : decode cX8_sat 9 = .ok (.ireturn, 1) := by decide +kernel
theorem dX8_sat_10 : decode cX8_sat 10 = .ok (.iload_n 2, 1) := by decide +kernel
theorem dX8_sat_11 : decode cX8_sat 11 = .ok (.invokestatic 171, 3) := by decide +kernel
theorem dX8_sat_14 : decode cX8_sat 14 = .ok (.ifCond .ne 6, 3) := by decide +kernel
theorem dX8_sat_17 : decode cX8_sat 17 = .ok (.bipush (-2), 2) := by decide +kernel
theorem dX8_sat_19 : decode cX8_sat 19 = .ok (.ireturn, 1) := by decide +kernel
theorem dX8_sat_20 : decode cX8_sat 20 = .ok (.iconst 0, 1) := by decide +kernel
theorem dX8_sat_21 : decode cX8_sat 21 = .ok (.istore_n 3, 1) := by decide +kernel
theorem dX8_sat_22 : decode cX8_sat 22 = .ok (.iconst 0, 1) := by decide +kernel
theorem dX8_sat_23 : decode cX8_sat 23 = .ok (.istore 4, 2) := by decide +kernel
theorem dX8_sat_25 : decode cX8_sat 25 = .ok (.iload 4, 2) := by decide +kernel
theorem dX8_sat_27 : decode cX8_sat 27 = .ok (.aload_n 0, 1) := by decide +kernel
theorem dX8_sat_28 : decode cX8_sat 28 = .ok (.getfield 99, 3) := by decide +kernel
theorem dX8_sat_31 : decode cX8_sat 31 = .ok (.if_icmp .ge 56, 3) := by decide +kernel
theorem dX8_sat_34 : decode cX8_sat 34 = .ok (.aload_n 0, 1) := by decide +kernel
theorem dX8_sat_35 : decode cX8_sat 35 = .ok (.iload 4, 2) := by decide +kernel
theorem dX8_sat_37 : decode cX8_sat 37 = .ok (.iload_n 1, 1) := by decide +kernel
theorem dX8_sat_38 : decode cX8_sat 38 = .ok (.iload_n 2, 1) := by decide +kernel
theorem dX8_sat_39 : decode cX8_sat 39 = .ok (.invokevirtual 180, 3) := by decide +kernel
theorem dX8_sat_42 : decode cX8_sat 42 = .ok (.ifCond .eq 39, 3) := by decide +kernel
theorem dX8_sat_45 : decode cX8_sat 45 = .ok (.aload_n 0, 1) := by decide +kernel
theorem dX8_sat_46 : decode cX8_sat 46 = .ok (.iload 4, 2) := by decide +kernel
theorem dX8_sat_48 : decode cX8_sat 48 = .ok (.iload_n 1, 1) := by decide +kernel
theorem dX8_sat_49 : decode cX8_sat 49 = .ok (.iload_n 2, 1) := by decide +kernel
theorem dX8_sat_50 : decode cX8_sat 50 = .ok (.invokevirtual 184, 3) := by decide +kernel
theorem dX8_sat_53 : decode cX8_sat 53 = .ok (.iload_n 3, 1) := by decide +kernel
theorem dX8_sat_54 : decode cX8_sat 54 = .ok (.aload_n 0, 1) := by decide +kernel
theorem dX8_sat_55 : decode cX8_sat 55 = .ok (.invokevirtual 241, 3) := by decide +kernel
theorem dX8_sat_58 : decode cX8_sat 58 = .ok (.ifCond .eq 10, 3) := by decide +kernel
theorem dX8_sat_61 : decode cX8_sat 61 = .ok (.iconst 1, 1) := by decide +kernel
theorem dX8_sat_62 : decode cX8_sat 62 = .ok (.iload 4, 2) := by decide +kernel
theorem dX8_sat_64 : decode cX8_sat 64 = .ok (.ishl, 1) := by decide +kernel
theorem dX8_sat_65 : decode cX8_sat 65 = .ok (.goto 4, 3) := by decide +kernel
theorem dX8_sat_68 : decode cX8_sat 68 = .ok (.iconst 0, 1) := by decide +kernel
theorem dX8_sat_69 : decode cX8_sat 69 = .ok (.ior, 1) := by decide +kernel
theorem dX8_sat_70 : decode cX8_sat 70 = .ok (.istore_n 3, 1) := by decide +kernel
theorem dX8_sat_71 : decode cX8_sat 71 = .ok (.aload_n 0, 1) := by decide +kernel
theorem dX8_sat_72 : decode cX8_sat 72 = .ok (.dup, 1) := by decide +kernel
theorem dX8_sat_73 : decode cX8_sat 73 = .ok (.getfield 156, 3) := by decide +kernel
theorem dX8_sat_76 : decode cX8_sat 76 = .ok (.iconst 1, 1) := by decide +kernel
theorem dX8_sat_77 : decode cX8_sat 77 = .ok (.isub, 1) := by decide +kernel
theorem dX8_sat_78 : decode cX8_sat 78 = .ok (.putfield 156, 3) := by decide +kernel
theorem dX8_sat_81 : decode cX8_sat 81 = .ok (.iinc 4 1, 3) := by decide +kernel
theorem dX8_sat_84 : decode cX8_sat 84 = .ok (.goto (-59), 3) := by decide +kernel
theorem dX8_sat_87 : decode cX8_sat 87 = .ok (.iload_n 3, 1) := by decide +kernel
theorem dX8_sat_88 : decode cX8_sat 88 = .ok (.ireturn, 1) := by decide +kernel
set_option maxRecDepth 20000 in
theorem ggX8_moved_X8_isNight : GoodIn wsX8_moved wsX8_isNight := goodIn_r _ [9, 10, 11, 12, 8, 13] (by decide +kernel) (by decide +kernel)
set_option maxRecDepth 20000 in
theorem gX8_moved_X8_isNight : GoodIn wsX8_moved (va_wsS RX8 171 yX8_isNight wsX8_isNight) := goodIn_app (goodIn_of _ (by decide +kernel)) ggX8_moved_X8_isNight
set_option maxRecDepth 20000 in
theorem ggX8_moved_X8_areSo : GoodIn wsX8_moved wsX8_areSo := goodIn_r _ [17, 18, 19, 20, 21, 22, 23, 24, 25, 8, 26, 27, 28, 29, 30, 31, 32, 33, 34, 35, 36, 37, 38, 39, 40, 41, 2, 4, 5, 42, 43, 44, 45, 46, 47, 48, 49, 50, 51, 52, 53, 54, 55, 56, 57, 58, 59, 60, 61, 62, 63, 64, 65, 70, 71, 72, 73, 74, 75, 76, 77, 78, 79, 80, 81, 82, 83, 84, 85, 86, 87, 88, 89, 90, 91, 92, 93, 94, 95, 96, 97, 98, 99, 100, 101, 102, 103, 104, 105, 106, 107, 108, 109, 110, 111] (by decide +kernel) (by decide +kernel)
set_option maxRecDepth 20000 in
theorem gX8_moved_X8_areSo : GoodIn wsX8_moved (wsV RX8 241 RX8 yX8_areSo wsX8_areSo) := goodIn_app (goodIn_of _ (by decide +kernel)) ggX8_moved_X8_areSo
set_option maxRecDepth 20000 in
theorem ggX8_moved_X8_meanNothing : GoodIn wsX8_moved wsX8_meanNothing := goodIn_r _ [69, 44, 2, 33, 70, 71, 72, 73, 74, 75, 76, 77, 78, 79, 80, 81, 82, 83, 84, 85, 86, 87, 88, 89, 90, 91, 92, 93, 94, 95, 96, 97, 98, 99, 100, 101, 102, 103, 104, 105, 106, 107, 108, 109, 110, 111] (by decide +kernel) (by decide +kernel)
set_option maxRecDepth 20000 in
theorem gX8_moved_X8_meanNothing : GoodIn wsX8_moved (wsV RX8 86 RX8 yX8_meanNothing wsX8_meanNothing) := goodIn_app (goodIn_of _ (by decide +kernel)) ggX8_moved_X8_meanNothing
theorem dX8_moved_0 : decode cX8_moved 0 = .ok (.iload_n 1, 1) := by decide +kernel
theorem dX8_moved_1 : decode cX8_moved 1 = .ok (.invokestatic 171, 3) := by decide +kernel
theorem dX8_moved_4 : decode cX8_moved 4 = .ok (.ifCond .ne 6, 3) := by decide +kernel
theorem dX8_moved_7 : decode cX8_moved 7 = .ok (.bipush (-2), 2) := by decide +kernel
theorem dX8_moved_9 : decode cX8_moved 9 = .ok (.ireturn, 1) := by decide +kernel
theorem dX8_moved_10 : decode cX8_moved 10 = .ok (.aload_n 0, 1) := by decide +kernel
theorem dX8_moved_11 : decode cX8_moved 11 = .ok (.getfield 99, 3) := by decide +kernel
theorem dX8_moved_14 : decode cX8_moved 14 = .ok (.ifCond .ne 6, 3) := by decide +kernel
theorem dX8_moved_17 : decode cX8_moved 17 = .ok (.bipush (-3), 2) := by decide +kernel
theorem dX8_moved_19 : decode cX8_moved 19 = .ok (.ireturn, 1) := by decide +kernel
theorem dX8_moved_20 : decode cX8_moved 20 = .ok (.bipush (-9), 2) := by decide +kernel
theorem dX8_moved_22 : decode cX8_moved 22 = .ok (.istore_n 2, 1) := by decide +kernel
theorem dX8_moved_23 : decode cX8_moved 23 = .ok (.aload_n 0, 1) := by decide +kernel
theorem dX8_moved_24 : decode cX8_moved 24 = .ok (.iload_n 1, 1) := by decide +kernel
theorem dX8_moved_25 : decode cX8_moved 25 = .ok (.putfield 191, 3) := by decide +kernel
theorem dX8_moved_28 : decode cX8_moved 28 = .ok (.iconst 0, 1) := by decide +kernel
theorem dX8_moved_29 : decode cX8_moved 29 = .ok (.istore_n 3, 1) := by decide +kernel
theorem dX8_moved_30 : decode cX8_moved 30 = .ok (.iload_n 3, 1) := by decide +kernel
theorem dX8_moved_31 : decode cX8_moved 31 = .ok (.aload_n 0, 1) := by decide +kernel
theorem dX8_moved_32 : decode cX8_moved 32 = .ok (.getfield 106, 3) := by decide +kernel
theorem dX8_moved_35 : decode cX8_moved 35 = .ok (.aload_n 0, 1) := by decide +kernel
theorem dX8_moved_36 : decode cX8_moved 36 = .ok (.getfield 106, 3) := by decide +kernel
theorem dX8_moved_39 : decode cX8_moved 39 = .ok (.imul, 1) := by decide +kernel
theorem dX8_moved_40 : decode cX8_moved 40 = .ok (.if_icmp .ge 64, 3) := by decide +kernel
theorem dX8_moved_43 : decode cX8_moved 43 = .ok (.iload_n 2, 1) := by decide +kernel
theorem dX8_moved_44 : decode cX8_moved 44 = .ok (.ifCond .ge 60, 3) := by decide +kernel
theorem dX8_moved_47 : decode cX8_moved 47 = .ok (.aload_n 0, 1) := by decide +kernel
theorem dX8_moved_48 : decode cX8_moved 48 = .ok (.iload_n 3, 1) := by decide +kernel
theorem dX8_moved_49 : decode cX8_moved 49 = .ok (.aload_n 0, 1) := by decide +kernel
theorem dX8_moved_50 : decode cX8_moved 50 = .ok (.getfield 106, 3) := by decide +kernel
theorem dX8_moved_53 : decode cX8_moved 53 = .ok (.idiv, 1) := by decide +kernel
theorem dX8_moved_54 : decode cX8_moved 54 = .ok (.putfield 204, 3) := by decide +kernel
theorem dX8_moved_57 : decode cX8_moved 57 = .ok (.aload_n 0, 1) := by decide +kernel
theorem dX8_moved_58 : decode cX8_moved 58 = .ok (.iload_n 3, 1) := by decide +kernel
theorem dX8_moved_59 : decode cX8_moved 59 = .ok (.aload_n 0, 1) := by decide +kernel
theorem dX8_moved_60 : decode cX8_moved 60 = .ok (.getfield 106, 3) := by decide +kernel
theorem dX8_moved_63 : decode cX8_moved 63 = .ok (.irem, 1) := by decide +kernel
theorem dX8_moved_64 : decode cX8_moved 64 = .ok (.putfield 207, 3) := by decide +kernel
theorem dX8_moved_67 : decode cX8_moved 67 = .ok (.aload_n 0, 1) := by decide +kernel
theorem dX8_moved_68 : decode cX8_moved 68 = .ok (.getfield 204, 3) := by decide +kernel
theorem dX8_moved_71 : decode cX8_moved 71 = .ok (.aload_n 0, 1) := by decide +kernel
theorem dX8_moved_72 : decode cX8_moved 72 = .ok (.getfield 207, 3) := by decide +kernel
theorem dX8_moved_75 : decode cX8_moved 75 = .ok (.if_icmp .ge 23, 3) := by decide +kernel
theorem dX8_moved_78 : decode cX8_moved 78 = .ok (.aload_n 0, 1) := by decide +kernel
theorem dX8_moved_79 : decode cX8_moved 79 = .ok (.invokevirtual 241, 3) := by decide +kernel
theorem dX8_moved_82 : decode cX8_moved 82 = .ok (.ifCond .eq 16, 3) := by decide +kernel
theorem dX8_moved_85 : decode cX8_moved 85 = .ok (.bipush 10, 2) := by decide +kernel
theorem dX8_moved_87 : decode cX8_moved 87 = .ok (.aload_n 0, 1) := by decide +kernel
theorem dX8_moved_88 : decode cX8_moved 88 = .ok (.getfield 204, 3) := by decide +kernel
theorem dX8_moved_91 : decode cX8_moved 91 = .ok (.imul, 1) := by decide +kernel
theorem dX8_moved_92 : decode cX8_moved 92 = .ok (.aload_n 0, 1) := by decide +kernel
theorem dX8_moved_93 : decode cX8_moved 93 = .ok (.getfield 207, 3) := by decide +kernel
theorem dX8_moved_96 : decode cX8_moved 96 = .ok (.iadd, 1) := by decide +kernel
theorem dX8_moved_97 : decode cX8_moved 97 = .ok (.istore_n 2, 1) := by decide +kernel
theorem dX8_moved_98 : decode cX8_moved 98 = .ok (.iinc 3 1, 3) := by decide +kernel
theorem dX8_moved_101 : decode cX8_moved 101 = .ok (.goto (-71), 3) := by decide +kernel
theorem dX8_moved_104 : decode cX8_moved 104 = .ok (.aload_n 0, 1) := by decide +kernel
theorem dX8_moved_105 : decode cX8_moved 105 = .ok (.invokevirtual 86, 3) := by decide +kernel
theorem dX8_moved_108 : decode cX8_moved 108 = .ok (.iload_n 2, 1) := by decide +kernel
theorem dX8_moved_109 : decode cX8_moved 109 = .ok (.ireturn, 1) := by decide +kernel
set_option maxRecDepth 20000 in
theorem ggX8_scraped_X8_isNight : GoodIn wsX8_scraped wsX8_isNight := goodIn_r _ [8, 9, 10, 11, 7, 12] (by decide +kernel) (by decide +kernel)
set_option maxRecDepth 20000 in
theorem gX8_scraped_X8_isNight : GoodIn wsX8_scraped (va_wsS RX8 171 yX8_isNight wsX8_isNight) := goodIn_app (goodIn_of _ (by decide +kernel)) ggX8_scraped_X8_isNight
set_option maxRecDepth 20000 in
theorem ggX8_scraped_X8_areSo : GoodIn wsX8_scraped wsX8_areSo := goodIn_r _ [16, 17, 18, 19, 20, 21, 22, 23, 24, 7, 25, 26, 27, 28, 29, 30, 31, 2, 4, 32, 33, 34, 35, 36, 37, 38, 39, 40, 41, 42, 43, 44, 45, 46, 47, 48, 49, 50, 51, 52, 53, 54, 55, 56, 57, 58, 59, 60, 61, 62, 63, 64, 65, 70, 71, 72, 73, 74, 75, 76, 77, 78, 79, 80, 81, 82, 83, 84, 85, 86, 87, 88, 89, 90, 91, 92, 93, 94, 95, 96, 97, 98, 99, 100, 101, 102, 103, 104, 105, 106, 107, 108, 109, 110, 111] (by decide +kernel) (by decide +kernel)
set_option maxRecDepth 20000 in
theorem gX8_scraped_X8_areSo : GoodIn wsX8_scraped (wsV RX8 241 RX8 yX8_areSo wsX8_areSo) := goodIn_app (goodIn_of _ (by decide +kernel)) ggX8_scraped_X8_areSo
set_option maxRecDepth 20000 in
theorem ggX8_scraped_X8_meanNothing : GoodIn wsX8_scraped wsX8_meanNothing := goodIn_r _ [69, 44, 39, 2, 70, 71, 72, 73, 74, 75, 76, 77, 78, 79, 80, 81, 82, 83, 84, 85, 86, 87, 88, 89, 90, 91, 92, 93, 94, 95, 96, 97, 98, 99, 100, 101, 102, 103, 104, 105, 106, 107, 108, 109, 110, 111] (by decide +kernel) (by decide +kernel)
set_option maxRecDepth 20000 in
theorem gX8_scraped_X8_meanNothing : GoodIn wsX8_scraped (wsV RX8 86 RX8 yX8_meanNothing wsX8_meanNothing) := goodIn_app (goodIn_of _ (by decide +kernel)) ggX8_scraped_X8_meanNothing
theorem dX8_scraped_0 : decode cX8_scraped 0 = .ok (.iload_n 1, 1) := by decide +kernel
theorem dX8_scraped_1 : decode cX8_scraped 1 = .ok (.invokestatic 171, 3) := by decide +kernel
theorem dX8_scraped_4 : decode cX8_scraped 4 = .ok (.ifCond .ne 6, 3) := by decide +kernel
theorem dX8_scraped_7 : decode cX8_scraped 7 = .ok (.bipush (-2), 2) := by decide +kernel
theorem dX8_scraped_9 : decode cX8_scraped 9 = .ok (.ireturn, 1) := by decide +kernel
theorem dX8_scraped_10 : decode cX8_scraped 10 = .ok (.aload_n 0, 1) := by decide +kernel
theorem dX8_scraped_11 : decode cX8_scraped 11 = .ok (.getfield 99, 3) := by decide +kernel
theorem dX8_scraped_14 : decode cX8_scraped 14 = .ok (.ifCond .ne 6, 3) := by decide +kernel
theorem dX8_scraped_17 : decode cX8_scraped 17 = .ok (.bipush (-3), 2) := by decide +kernel
theorem dX8_scraped_19 : decode cX8_scraped 19 = .ok (.ireturn, 1) := by decide +kernel
theorem dX8_scraped_20 : decode cX8_scraped 20 = .ok (.iconst 0, 1) := by decide +kernel
theorem dX8_scraped_21 : decode cX8_scraped 21 = .ok (.istore_n 2, 1) := by decide +kernel
theorem dX8_scraped_22 : decode cX8_scraped 22 = .ok (.aload_n 0, 1) := by decide +kernel
theorem dX8_scraped_23 : decode cX8_scraped 23 = .ok (.iload_n 1, 1) := by decide +kernel
theorem dX8_scraped_24 : decode cX8_scraped 24 = .ok (.putfield 194, 3) := by decide +kernel
theorem dX8_scraped_27 : decode cX8_scraped 27 = .ok (.iconst 0, 1) := by decide +kernel
theorem dX8_scraped_28 : decode cX8_scraped 28 = .ok (.istore_n 3, 1) := by decide +kernel
theorem dX8_scraped_29 : decode cX8_scraped 29 = .ok (.iload_n 3, 1) := by decide +kernel
theorem dX8_scraped_30 : decode cX8_scraped 30 = .ok (.aload_n 0, 1) := by decide +kernel
theorem dX8_scraped_31 : decode cX8_scraped 31 = .ok (.getfield 106, 3) := by decide +kernel
theorem dX8_scraped_34 : decode cX8_scraped 34 = .ok (.if_icmp .ge 31, 3) := by decide +kernel
theorem dX8_scraped_37 : decode cX8_scraped 37 = .ok (.aload_n 0, 1) := by decide +kernel
theorem dX8_scraped_38 : decode cX8_scraped 38 = .ok (.iload_n 3, 1) := by decide +kernel
theorem dX8_scraped_39 : decode cX8_scraped 39 = .ok (.putfield 197, 3) := by decide +kernel
theorem dX8_scraped_42 : decode cX8_scraped 42 = .ok (.iload_n 2, 1) := by decide +kernel
theorem dX8_scraped_43 : decode cX8_scraped 43 = .ok (.aload_n 0, 1) := by decide +kernel
theorem dX8_scraped_44 : decode cX8_scraped 44 = .ok (.invokevirtual 241, 3) := by decide +kernel
theorem dX8_scraped_47 : decode cX8_scraped 47 = .ok (.ifCond .eq 9, 3) := by decide +kernel
theorem dX8_scraped_50 : decode cX8_scraped 50 = .ok (.iconst 1, 1) := by decide +kernel
theorem dX8_scraped_51 : decode cX8_scraped 51 = .ok (.iload_n 3, 1) := by decide +kernel
theorem dX8_scraped_52 : decode cX8_scraped 52 = .ok (.ishl, 1) := by decide +kernel
theorem dX8_scraped_53 : decode cX8_scraped 53 = .ok (.goto 4, 3) := by decide +kernel
theorem dX8_scraped_56 : decode cX8_scraped 56 = .ok (.iconst 0, 1) := by decide +kernel
theorem dX8_scraped_57 : decode cX8_scraped 57 = .ok (.ior, 1) := by decide +kernel
theorem dX8_scraped_58 : decode cX8_scraped 58 = .ok (.istore_n 2, 1) := by decide +kernel
theorem dX8_scraped_59 : decode cX8_scraped 59 = .ok (.iinc 3 1, 3) := by decide +kernel
theorem dX8_scraped_62 : decode cX8_scraped 62 = .ok (.goto (-33), 3) := by decide +kernel
theorem dX8_scraped_65 : decode cX8_scraped 65 = .ok (.aload_n 0, 1) := by decide +kernel
theorem dX8_scraped_66 : decode cX8_scraped 66 = .ok (.invokevirtual 86, 3) := by decide +kernel
theorem dX8_scraped_69 : decode cX8_scraped 69 = .ok (.iload_n 2, 1) := by decide +kernel
theorem dX8_scraped_70 : decode cX8_scraped 70 = .ok (.ireturn, 1) := by decide +kernel
set_option maxRecDepth 20000 in
theorem ggX8_never_X8_areSo : GoodIn wsX8_never wsX8_areSo := goodIn_r _ [8, 9, 10, 11, 12, 13, 14, 15, 16, 7, 17, 18, 19, 20, 21, 22, 23, 24, 25, 26, 27, 28, 29, 30, 31, 32, 33, 34, 35, 2, 36, 3, 37, 38, 39, 40, 41, 42, 43, 44, 45, 46, 47, 48, 49, 50, 51, 52, 53, 54, 55, 56, 57, 62, 63, 64, 65, 66, 67, 68, 69, 70, 71, 72, 73, 74, 75, 76, 77, 78, 79, 80, 81, 82, 83, 84, 85, 86, 87, 88, 89, 90, 91, 92, 93, 94, 95, 96, 97, 98, 99, 100, 101, 102, 103] (by decide +kernel) (by decide +kernel)
set_option maxRecDepth 20000 in
theorem gX8_never_X8_areSo : GoodIn wsX8_never (wsV RX8 241 RX8 yX8_areSo wsX8_areSo) := goodIn_app (goodIn_of _ (by decide +kernel)) ggX8_never_X8_areSo
set_option maxRecDepth 20000 in
theorem ggX8_never_X8_meanNothing : GoodIn wsX8_never wsX8_meanNothing := goodIn_r _ [61, 3, 33, 24, 62, 63, 64, 65, 66, 67, 68, 69, 70, 71, 72, 73, 74, 75, 76, 77, 78, 79, 80, 81, 82, 83, 84, 85, 86, 87, 88, 89, 90, 91, 92, 93, 94, 95, 96, 97, 98, 99, 100, 101, 102, 103] (by decide +kernel) (by decide +kernel)
set_option maxRecDepth 20000 in
theorem gX8_never_X8_meanNothing : GoodIn wsX8_never (wsV RX8 86 RX8 yX8_meanNothing wsX8_meanNothing) := goodIn_app (goodIn_of _ (by decide +kernel)) ggX8_never_X8_meanNothing
theorem dX8_never_0 : decode cX8_never 0 = .ok (.aload_n 0, 1) := by decide +kernel
theorem dX8_never_1 : decode cX8_never 1 = .ok (.getfield 99, 3) := by decide +kernel
theorem dX8_never_4 : decode cX8_never 4 = .ok (.ifCond .ne 6, 3) := by decide +kernel
theorem dX8_never_7 : decode cX8_never 7 = .ok (.bipush (-3), 2) := by decide +kernel
theorem dX8_never_9 : decode cX8_never 9 = .ok (.ireturn, 1) := by decide +kernel
theorem dX8_never_10 : decode cX8_never 10 = .ok (.iconst 0, 1) := by decide +kernel
theorem dX8_never_11 : decode cX8_never 11 = .ok (.istore_n 1, 1) := by decide +kernel
theorem dX8_never_12 : decode cX8_never 12 = .ok (.iconst 0, 1) := by decide +kernel
theorem dX8_never_13 : decode cX8_never 13 = .ok (.istore_n 2, 1) := by decide +kernel
theorem dX8_never_14 : decode cX8_never 14 = .ok (.iload_n 2, 1) := by decide +kernel
theorem dX8_never_15 : decode cX8_never 15 = .ok (.aload_n 0, 1) := by decide +kernel
theorem dX8_never_16 : decode cX8_never 16 = .ok (.getfield 156, 3) := by decide +kernel
theorem dX8_never_19 : decode cX8_never 19 = .ok (.if_icmp .ge 31, 3) := by decide +kernel
theorem dX8_never_22 : decode cX8_never 22 = .ok (.aload_n 0, 1) := by decide +kernel
theorem dX8_never_23 : decode cX8_never 23 = .ok (.iload_n 2, 1) := by decide +kernel
theorem dX8_never_24 : decode cX8_never 24 = .ok (.putfield 188, 3) := by decide +kernel
theorem dX8_never_27 : decode cX8_never 27 = .ok (.iload_n 1, 1) := by decide +kernel
theorem dX8_never_28 : decode cX8_never 28 = .ok (.aload_n 0, 1) := by decide +kernel
theorem dX8_never_29 : decode cX8_never 29 = .ok (.invokevirtual 241, 3) := by decide +kernel
theorem dX8_never_32 : decode cX8_never 32 = .ok (.ifCond .eq 9, 3) := by decide +kernel
theorem dX8_never_35 : decode cX8_never 35 = .ok (.iconst 1, 1) := by decide +kernel
theorem dX8_never_36 : decode cX8_never 36 = .ok (.iload_n 2, 1) := by decide +kernel
theorem dX8_never_37 : decode cX8_never 37 = .ok (.ishl, 1) := by decide +kernel
theorem dX8_never_38 : decode cX8_never 38 = .ok (.goto 4, 3) := by decide +kernel
theorem dX8_never_41 : decode cX8_never 41 = .ok (.iconst 0, 1) := by decide +kernel
theorem dX8_never_42 : decode cX8_never 42 = .ok (.ior, 1) := by decide +kernel
theorem dX8_never_43 : decode cX8_never 43 = .ok (.istore_n 1, 1) := by decide +kernel
theorem dX8_never_44 : decode cX8_never 44 = .ok (.iinc 2 1, 3) := by decide +kernel
theorem dX8_never_47 : decode cX8_never 47 = .ok (.goto (-33), 3) := by decide +kernel
theorem dX8_never_50 : decode cX8_never 50 = .ok (.aload_n 0, 1) := by decide +kernel
theorem dX8_never_51 : decode cX8_never 51 = .ok (.invokevirtual 86, 3) := by decide +kernel
theorem dX8_never_54 : decode cX8_never 54 = .ok (.iload_n 1, 1) := by decide +kernel
theorem dX8_never_55 : decode cX8_never 55 = .ok (.ireturn, 1) := by decide +kernel
set_option maxRecDepth 20000 in
theorem ggX8_layLook_X8_gumBy : GoodIn wsX8_layLook wsX8_gumBy := goodIn_r _ [11, 12, 13, 14, 15, 16, 10, 17, 18, 19, 20, 21, 22, 23, 24, 25, 26, 27, 28, 29, 30, 31, 32, 33, 34, 35, 36, 37, 38, 39, 40, 41, 42, 43, 44, 45, 46, 47, 48, 49, 50, 51, 52, 53, 54, 55, 56, 57, 58, 59, 60, 61] (by decide +kernel) (by decide +kernel)
set_option maxRecDepth 20000 in
theorem gX8_layLook_X8_gumBy : GoodIn wsX8_layLook (wsV RX8 220 RX8 yX8_gumBy wsX8_gumBy) := goodIn_app (goodIn_of _ (by decide +kernel)) ggX8_layLook_X8_gumBy
theorem dX8_layLook_0 : decode cX8_layLook 0 = .ok (.aload_n 0, 1) := by decide +kernel
theorem dX8_layLook_1 : decode cX8_layLook 1 = .ok (.getfield 46, 3) := by decide +kernel
theorem dX8_layLook_4 : decode cX8_layLook 4 = .ok (.iload_n 2, 1) := by decide +kernel
theorem dX8_layLook_5 : decode cX8_layLook 5 = .ok (.iaload, 1) := by decide +kernel
theorem dX8_layLook_6 : decode cX8_layLook 6 = .ok (.istore_n 3, 1) := by decide +kernel
theorem dX8_layLook_7 : decode cX8_layLook 7 = .ok (.aload_n 0, 1) := by decide +kernel
theorem dX8_layLook_8 : decode cX8_layLook 8 = .ok (.getfield 67, 3) := by decide +kernel
theorem dX8_layLook_11 : decode cX8_layLook 11 = .ok (.iload_n 1, 1) := by decide +kernel
theorem dX8_layLook_12 : decode cX8_layLook 12 = .ok (.lconst 0, 1) := by decide +kernel
theorem dX8_layLook_13 : decode cX8_layLook 13 = .ok (.lastore, 1) := by decide +kernel
theorem dX8_layLook_14 : decode cX8_layLook 14 = .ok (.aload_n 0, 1) := by decide +kernel
theorem dX8_layLook_15 : decode cX8_layLook 15 = .ok (.getfield 71, 3) := by decide +kernel
theorem dX8_layLook_18 : decode cX8_layLook 18 = .ok (.iload_n 1, 1) := by decide +kernel
theorem dX8_layLook_19 : decode cX8_layLook 19 = .ok (.aload_n 0, 1) := by decide +kernel
theorem dX8_layLook_20 : decode cX8_layLook 20 = .ok (.getfield 49, 3) := by decide +kernel
theorem dX8_layLook_23 : decode cX8_layLook 23 = .ok (.iload_n 3, 1) := by decide +kernel
theorem dX8_layLook_24 : decode cX8_layLook 24 = .ok (.iaload, 1) := by decide +kernel
theorem dX8_layLook_25 : decode cX8_layLook 25 = .ok (.i2l, 1) := by decide +kernel
theorem dX8_layLook_26 : decode cX8_layLook 26 = .ok (.lastore, 1) := by decide +kernel
theorem dX8_layLook_27 : decode cX8_layLook 27 = .ok (.iconst 0, 1) := by decide +kernel
theorem dX8_layLook_28 : decode cX8_layLook 28 = .ok (.istore 4, 2) := by decide +kernel
theorem dX8_layLook_30 : decode cX8_layLook 30 = .ok (.iload 4, 2) := by decide +kernel
theorem dX8_layLook_32 : decode cX8_layLook 32 = .ok (.aload_n 0, 1) := by decide +kernel
theorem dX8_layLook_33 : decode cX8_layLook 33 = .ok (.getfield 49, 3) := by decide +kernel
theorem dX8_layLook_36 : decode cX8_layLook 36 = .ok (.iload_n 3, 1) := by decide +kernel
theorem dX8_layLook_37 : decode cX8_layLook 37 = .ok (.iaload, 1) := by decide +kernel
theorem dX8_layLook_38 : decode cX8_layLook 38 = .ok (.if_icmp .ge 76, 3) := by decide +kernel
theorem dX8_layLook_41 : decode cX8_layLook 41 = .ok (.aload_n 0, 1) := by decide +kernel
theorem dX8_layLook_42 : decode cX8_layLook 42 = .ok (.aload_n 0, 1) := by decide +kernel
theorem dX8_layLook_43 : decode cX8_layLook 43 = .ok (.getfield 52, 3) := by decide +kernel
theorem dX8_layLook_46 : decode cX8_layLook 46 = .ok (.bipush 25, 2) := by decide +kernel
theorem dX8_layLook_48 : decode cX8_layLook 48 = .ok (.iload_n 3, 1) := by decide +kernel
theorem dX8_layLook_49 : decode cX8_layLook 49 = .ok (.imul, 1) := by decide +kernel
theorem dX8_layLook_50 : decode cX8_layLook 50 = .ok (.iload 4, 2) := by decide +kernel
theorem dX8_layLook_52 : decode cX8_layLook 52 = .ok (.iadd, 1) := by decide +kernel
theorem dX8_layLook_53 : decode cX8_layLook 53 = .ok (.iaload, 1) := by decide +kernel
theorem dX8_layLook_54 : decode cX8_layLook 54 = .ok (.invokevirtual 220, 3) := by decide +kernel
theorem dX8_layLook_57 : decode cX8_layLook 57 = .ok (.i2l, 1) := by decide +kernel
theorem dX8_layLook_58 : decode cX8_layLook 58 = .ok (.lstore 5, 2) := by decide +kernel
theorem dX8_layLook_60 : decode cX8_layLook 60 = .ok (.iload 4, 2) := by decide +kernel
theorem dX8_layLook_62 : decode cX8_layLook 62 = .ok (.bipush 20, 2) := by decide +kernel
theorem dX8_layLook_64 : decode cX8_layLook 64 = .ok (.if_icmp .ge 25, 3) := by decide +kernel
theorem dX8_layLook_67 : decode cX8_layLook 67 = .ok (.aload_n 0, 1) := by decide +kernel
theorem dX8_layLook_68 : decode cX8_layLook 68 = .ok (.getfield 67, 3) := by decide +kernel
theorem dX8_layLook_71 : decode cX8_layLook 71 = .ok (.iload_n 1, 1) := by decide +kernel
theorem dX8_layLook_72 : decode cX8_layLook 72 = .ok (.ldc2_w 245, 3) := by decide +kernel
theorem dX8_layLook_75 : decode cX8_layLook 75 = .ok (.aload_n 0, 1) := by decide +kernel
theorem dX8_layLook_76 : decode cX8_layLook 76 = .ok (.getfield 67, 3) := by decide +kernel
theorem dX8_layLook_79 : decode cX8_layLook 79 = .ok (.iload_n 1, 1) := by decide +kernel
theorem dX8_layLook_80 : decode cX8_layLook 80 = .ok (.laload, 1) := by decide +kernel
theorem dX8_layLook_81 : decode cX8_layLook 81 = .ok (.lmul, 1) := by decide +kernel
theorem dX8_layLook_82 : decode cX8_layLook 82 = .ok (.lload 5, 2) := by decide +kernel
theorem dX8_layLook_84 : decode cX8_layLook 84 = .ok (.ladd, 1) := by decide +kernel
theorem dX8_layLook_85 : decode cX8_layLook 85 = .ok (.lastore, 1) := by decide +kernel
theorem dX8_layLook_86 : decode cX8_layLook 86 = .ok (.goto 22, 3) := by decide +kernel
theorem dX8_layLook_89 : decode cX8_layLook 89 = .ok (.aload_n 0, 1) := by decide +kernel
theorem dX8_layLook_90 : decode cX8_layLook 90 = .ok (.getfield 71, 3) := by decide +kernel
theorem dX8_layLook_93 : decode cX8_layLook 93 = .ok (.iload_n 1, 1) := by decide +kernel
theorem dX8_layLook_94 : decode cX8_layLook 94 = .ok (.ldc2_w 245, 3) := by decide +kernel
theorem dX8_layLook_97 : decode cX8_layLook 97 = .ok (.aload_n 0, 1) := by decide +kernel
theorem dX8_layLook_98 : decode cX8_layLook 98 = .ok (.getfield 71, 3) := by decide +kernel
theorem dX8_layLook_101 : decode cX8_layLook 101 = .ok (.iload_n 1, 1) := by decide +kernel
theorem dX8_layLook_102 : decode cX8_layLook 102 = .ok (.laload, 1) := by decide +kernel
theorem dX8_layLook_103 : decode cX8_layLook 103 = .ok (.lmul, 1) := by decide +kernel
theorem dX8_layLook_104 : decode cX8_layLook 104 = .ok (.lload 5, 2) := by decide +kernel
theorem dX8_layLook_106 : decode cX8_layLook 106 = .ok (.ladd, 1) := by decide +kernel
theorem dX8_layLook_107 : decode cX8_layLook 107 = .ok (.lastore, 1) := by decide +kernel
theorem dX8_layLook_108 : decode cX8_layLook 108 = .ok (.iinc 4 1, 3) := by decide +kernel
theorem dX8_layLook_111 : decode cX8_layLook 111 = .ok (.goto (-81), 3) := by decide +kernel
theorem dX8_layLook_114 : decode cX8_layLook 114 = .ok (.return_, 1) := by decide +kernel
set_option maxRecDepth 20000 in
theorem ggX8_groupBy_X8_maySit : GoodIn wsX8_groupBy wsX8_maySit := goodIn_r _ [10, 3, 11, 12, 13, 61, 62, 63, 64, 65, 66, 67, 68, 69, 70, 71, 72, 73, 74, 75, 76, 77, 78, 79, 80, 81, 82, 83, 84, 85, 86, 87, 88, 89, 90, 91, 92, 93, 94, 95, 96, 97, 98, 99, 100, 101, 102] (by decide +kernel) (by decide +kernel)
set_option maxRecDepth 20000 in
theorem gX8_groupBy_X8_maySit : GoodIn wsX8_groupBy (wsV RX8 180 RX8 yX8_maySit wsX8_maySit) := goodIn_app (goodIn_of _ (by decide +kernel)) ggX8_groupBy_X8_maySit
set_option maxRecDepth 20000 in
theorem ggX8_groupBy_X8_sitDown : GoodIn wsX8_groupBy wsX8_sitDown := goodIn_r _ [17, 12, 3, 13, 11, 61, 62, 63, 64, 65, 66, 67, 68, 69, 70, 71, 72, 73, 74, 75, 76, 77, 78, 79, 80, 81, 82, 83, 84, 85, 86, 87, 88, 89, 90, 91, 92, 93, 94, 95, 96, 97, 98, 99, 100, 101, 102] (by decide +kernel) (by decide +kernel)
set_option maxRecDepth 20000 in
theorem gX8_groupBy_X8_sitDown : GoodIn wsX8_groupBy (wsV RX8 184 RX8 yX8_sitDown wsX8_sitDown) := goodIn_app (goodIn_of _ (by decide +kernel)) ggX8_groupBy_X8_sitDown
set_option maxRecDepth 20000 in
theorem ggX8_groupBy_X8_goTo : GoodIn wsX8_groupBy wsX8_goTo := goodIn_r _ [21, 22, 23, 24, 25, 26, 9, 27, 28, 29, 30, 31, 32, 33, 34, 35, 36, 37, 38, 39, 3, 11, 40, 13, 41, 42, 43, 44, 45, 61, 62, 63, 64, 65, 66, 67, 68, 69, 70, 71, 72, 73, 74, 75, 76, 77, 78, 79, 80, 81, 82, 83, 84, 85, 86, 87, 88, 89, 90, 91, 92, 93, 94, 95, 96, 97, 98, 99, 100, 101, 102] (by decide +kernel) (by decide +kernel)
set_option maxRecDepth 20000 in
theorem gX8_groupBy_X8_goTo : GoodIn wsX8_groupBy (wsV RX8 214 RX8 yX8_goTo wsX8_goTo) := goodIn_app (goodIn_of _ (by decide +kernel)) ggX8_groupBy_X8_goTo
set_option maxRecDepth 20000 in
theorem ggX8_groupBy_X8_layLook : GoodIn wsX8_groupBy wsX8_layLook := goodIn_r _ [49, 22, 4, 5, 23, 41, 50, 51, 52, 53, 9, 54, 12, 11, 55, 56, 57, 58, 59, 60, 61, 62, 63, 64, 65, 66, 67, 68, 69, 70, 71, 72, 73, 74, 75, 76, 77, 78, 79, 80, 81, 82, 83, 84, 85, 86, 87, 88, 89, 90, 91, 92, 93, 94, 95, 96, 97, 98, 99, 100, 101, 102] (by decide +kernel) (by decide +kernel)
set_option maxRecDepth 20000 in
theorem gX8_groupBy_X8_layLook : GoodIn wsX8_groupBy (wsV RX8 247 RX8 yX8_layLook wsX8_layLook) := goodIn_app (goodIn_of _ (by decide +kernel)) ggX8_groupBy_X8_layLook
theorem dX8_groupBy_0 : decode cX8_groupBy 0 = .ok (.iconst 0, 1) := by decide +kernel
theorem dX8_groupBy_1 : decode cX8_groupBy 1 = .ok (.istore 4, 2) := by decide +kernel
theorem dX8_groupBy_3 : decode cX8_groupBy 3 = .ok (.iconst 0, 1) := by decide +kernel
theorem dX8_groupBy_4 : decode cX8_groupBy 4 = .ok (.istore 5, 2) := by decide +kernel
theorem dX8_groupBy_6 : decode cX8_groupBy 6 = .ok (.iload 5, 2) := by decide +kernel
theorem dX8_groupBy_8 : decode cX8_groupBy 8 = .ok (.aload_n 0, 1) := by decide +kernel
theorem dX8_groupBy_9 : decode cX8_groupBy 9 = .ok (.getfield 99, 3) := by decide +kernel
theorem dX8_groupBy_12 : decode cX8_groupBy 12 = .ok (.aload_n 0, 1) := by decide +kernel
theorem dX8_groupBy_13 : decode cX8_groupBy 13 = .ok (.getfield 106, 3) := by decide +kernel
theorem dX8_groupBy_16 : decode cX8_groupBy 16 = .ok (.imul, 1) := by decide +kernel
theorem dX8_groupBy_17 : decode cX8_groupBy 17 = .ok (.if_icmp .ge 73, 3) := by decide +kernel
theorem dX8_groupBy_20 : decode cX8_groupBy 20 = .ok (.iload 5, 2) := by decide +kernel
theorem dX8_groupBy_22 : decode cX8_groupBy 22 = .ok (.aload_n 0, 1) := by decide +kernel
theorem dX8_groupBy_23 : decode cX8_groupBy 23 = .ok (.getfield 106, 3) := by decide +kernel
theorem dX8_groupBy_26 : decode cX8_groupBy 26 = .ok (.idiv, 1) := by decide +kernel
theorem dX8_groupBy_27 : decode cX8_groupBy 27 = .ok (.istore 6, 2) := by decide +kernel
theorem dX8_groupBy_29 : decode cX8_groupBy 29 = .ok (.iload 5, 2) := by decide +kernel
theorem dX8_groupBy_31 : decode cX8_groupBy 31 = .ok (.aload_n 0, 1) := by decide +kernel
theorem dX8_groupBy_32 : decode cX8_groupBy 32 = .ok (.getfield 106, 3) := by decide +kernel
theorem dX8_groupBy_35 : decode cX8_groupBy 35 = .ok (.irem, 1) := by decide +kernel
theorem dX8_groupBy_36 : decode cX8_groupBy 36 = .ok (.istore 7, 2) := by decide +kernel
theorem dX8_groupBy_38 : decode cX8_groupBy 38 = .ok (.aload_n 0, 1) := by decide +kernel
theorem dX8_groupBy_39 : decode cX8_groupBy 39 = .ok (.iload 6, 2) := by decide +kernel
theorem dX8_groupBy_41 : decode cX8_groupBy 41 = .ok (.iload 7, 2) := by decide +kernel
theorem dX8_groupBy_43 : decode cX8_groupBy 43 = .ok (.iload_n 2, 1) := by decide +kernel
theorem dX8_groupBy_44 : decode cX8_groupBy 44 = .ok (.invokevirtual 180, 3) := by decide +kernel
theorem dX8_groupBy_47 : decode cX8_groupBy 47 = .ok (.ifCond .eq 37, 3) := by decide +kernel
theorem dX8_groupBy_50 : decode cX8_groupBy 50 = .ok (.aload_n 0, 1) := by decide +kernel
theorem dX8_groupBy_51 : decode cX8_groupBy 51 = .ok (.iload 6, 2) := by decide +kernel
theorem dX8_groupBy_53 : decode cX8_groupBy 53 = .ok (.iload 7, 2) := by decide +kernel
theorem dX8_groupBy_55 : decode cX8_groupBy 55 = .ok (.iload_n 2, 1) := by decide +kernel
theorem dX8_groupBy_56 : decode cX8_groupBy 56 = .ok (.invokevirtual 184, 3) := by decide +kernel
theorem dX8_groupBy_59 : decode cX8_groupBy 59 = .ok (.aload_n 0, 1) := by decide +kernel
theorem dX8_groupBy_60 : decode cX8_groupBy 60 = .ok (.iload_n 3, 1) := by decide +kernel
theorem dX8_groupBy_61 : decode cX8_groupBy 61 = .ok (.invokevirtual 214, 3) := by decide +kernel
theorem dX8_groupBy_64 : decode cX8_groupBy 64 = .ok (.aload_n 0, 1) := by decide +kernel
theorem dX8_groupBy_65 : decode cX8_groupBy 65 = .ok (.iload 4, 2) := by decide +kernel
theorem dX8_groupBy_67 : decode cX8_groupBy 67 = .ok (.iload_n 1, 1) := by decide +kernel
theorem dX8_groupBy_68 : decode cX8_groupBy 68 = .ok (.invokevirtual 247, 3) := by decide +kernel
theorem dX8_groupBy_71 : decode cX8_groupBy 71 = .ok (.aload_n 0, 1) := by decide +kernel
theorem dX8_groupBy_72 : decode cX8_groupBy 72 = .ok (.dup, 1) := by decide +kernel
theorem dX8_groupBy_73 : decode cX8_groupBy 73 = .ok (.getfield 156, 3) := by decide +kernel
theorem dX8_groupBy_76 : decode cX8_groupBy 76 = .ok (.iconst 1, 1) := by decide +kernel
theorem dX8_groupBy_77 : decode cX8_groupBy 77 = .ok (.isub, 1) := by decide +kernel
theorem dX8_groupBy_78 : decode cX8_groupBy 78 = .ok (.putfield 156, 3) := by decide +kernel
theorem dX8_groupBy_81 : decode cX8_groupBy 81 = .ok (.iinc 4 1, 3) := by decide +kernel
theorem dX8_groupBy_84 : decode cX8_groupBy 84 = .ok (.iinc 5 1, 3) := by decide +kernel
theorem dX8_groupBy_87 : decode cX8_groupBy 87 = .ok (.goto (-81), 3) := by decide +kernel
theorem dX8_groupBy_90 : decode cX8_groupBy 90 = .ok (.iconst 0, 1) := by decide +kernel
theorem dX8_groupBy_91 : decode cX8_groupBy 91 = .ok (.istore 5, 2) := by decide +kernel
theorem dX8_groupBy_93 : decode cX8_groupBy 93 = .ok (.iconst 0, 1) := by decide +kernel
theorem dX8_groupBy_94 : decode cX8_groupBy 94 = .ok (.istore 6, 2) := by decide +kernel
theorem dX8_groupBy_96 : decode cX8_groupBy 96 = .ok (.iload 6, 2) := by decide +kernel
theorem dX8_groupBy_98 : decode cX8_groupBy 98 = .ok (.iload 4, 2) := by decide +kernel
theorem dX8_groupBy_100 : decode cX8_groupBy 100 = .ok (.if_icmp .ge 90, 3) := by decide +kernel
theorem dX8_groupBy_103 : decode cX8_groupBy 103 = .ok (.iconst 0, 1) := by decide +kernel
theorem dX8_groupBy_104 : decode cX8_groupBy 104 = .ok (.istore 7, 2) := by decide +kernel
theorem dX8_groupBy_106 : decode cX8_groupBy 106 = .ok (.iconst 0, 1) := by decide +kernel
theorem dX8_groupBy_107 : decode cX8_groupBy 107 = .ok (.istore 8, 2) := by decide +kernel
theorem dX8_groupBy_109 : decode cX8_groupBy 109 = .ok (.iload 8, 2) := by decide +kernel
theorem dX8_groupBy_111 : decode cX8_groupBy 111 = .ok (.iload 4, 2) := by decide +kernel
theorem dX8_groupBy_113 : decode cX8_groupBy 113 = .ok (.if_icmp .ge 55, 3) := by decide +kernel
theorem dX8_groupBy_116 : decode cX8_groupBy 116 = .ok (.iload 7, 2) := by decide +kernel
theorem dX8_groupBy_118 : decode cX8_groupBy 118 = .ok (.aload_n 0, 1) := by decide +kernel
theorem dX8_groupBy_119 : decode cX8_groupBy 119 = .ok (.getfield 67, 3) := by decide +kernel
theorem dX8_groupBy_122 : decode cX8_groupBy 122 = .ok (.iload 6, 2) := by decide +kernel
theorem dX8_groupBy_124 : decode cX8_groupBy 124 = .ok (.laload, 1) := by decide +kernel
theorem dX8_groupBy_125 : decode cX8_groupBy 125 = .ok (.aload_n 0, 1) := by decide +kernel
theorem dX8_groupBy_126 : decode cX8_groupBy 126 = .ok (.getfield 67, 3) := by decide +kernel
theorem dX8_groupBy_129 : decode cX8_groupBy 129 = .ok (.iload 8, 2) := by decide +kernel
theorem dX8_groupBy_131 : decode cX8_groupBy 131 = .ok (.laload, 1) := by decide +kernel
theorem dX8_groupBy_132 : decode cX8_groupBy 132 = .ok (.lcmp, 1) := by decide +kernel
theorem dX8_groupBy_133 : decode cX8_groupBy 133 = .ok (.ifCond .ne 25, 3) := by decide +kernel
theorem dX8_groupBy_136 : decode cX8_groupBy 136 = .ok (.aload_n 0, 1) := by decide +kernel
theorem dX8_groupBy_137 : decode cX8_groupBy 137 = .ok (.getfield 71, 3) := by decide +kernel
theorem dX8_groupBy_140 : decode cX8_groupBy 140 = .ok (.iload 6, 2) := by decide +kernel
theorem dX8_groupBy_142 : decode cX8_groupBy 142 = .ok (.laload, 1) := by decide +kernel
theorem dX8_groupBy_143 : decode cX8_groupBy 143 = .ok (.aload_n 0, 1) := by decide +kernel
theorem dX8_groupBy_144 : decode cX8_groupBy 144 = .ok (.getfield 71, 3) := by decide +kernel
theorem dX8_groupBy_147 : decode cX8_groupBy 147 = .ok (.iload 8, 2) := by decide +kernel
theorem dX8_groupBy_149 : decode cX8_groupBy 149 = .ok (.laload, 1) := by decide +kernel
theorem dX8_groupBy_150 : decode cX8_groupBy 150 = .ok (.lcmp, 1) := by decide +kernel
theorem dX8_groupBy_151 : decode cX8_groupBy 151 = .ok (.ifCond .ne 7, 3) := by decide +kernel
theorem dX8_groupBy_154 : decode cX8_groupBy 154 = .ok (.iconst 1, 1) := by decide +kernel
theorem dX8_groupBy_155 : decode cX8_groupBy 155 = .ok (.goto 4, 3) := by decide +kernel
theorem dX8_groupBy_158 : decode cX8_groupBy 158 = .ok (.iconst 0, 1) := by decide +kernel
theorem dX8_groupBy_159 : decode cX8_groupBy 159 = .ok (.iadd, 1) := by decide +kernel
theorem dX8_groupBy_160 : decode cX8_groupBy 160 = .ok (.istore 7, 2) := by decide +kernel
theorem dX8_groupBy_162 : decode cX8_groupBy 162 = .ok (.iinc 8 1, 3) := by decide +kernel
theorem dX8_groupBy_165 : decode cX8_groupBy 165 = .ok (.goto (-56), 3) := by decide +kernel
theorem dX8_groupBy_168 : decode cX8_groupBy 168 = .ok (.iload 7, 2) := by decide +kernel
theorem dX8_groupBy_170 : decode cX8_groupBy 170 = .ok (.iload 5, 2) := by decide +kernel
theorem dX8_groupBy_172 : decode cX8_groupBy 172 = .ok (.if_icmp .le 8, 3) := by decide +kernel
theorem dX8_groupBy_175 : decode cX8_groupBy 175 = .ok (.iload 7, 2) := by decide +kernel
theorem dX8_groupBy_177 : decode cX8_groupBy 177 = .ok (.goto 5, 3) := by decide +kernel
theorem dX8_groupBy_180 : decode cX8_groupBy 180 = .ok (.iload 5, 2) := by decide +kernel
theorem dX8_groupBy_182 : decode cX8_groupBy 182 = .ok (.istore 5, 2) := by decide +kernel
theorem dX8_groupBy_184 : decode cX8_groupBy 184 = .ok (.iinc 6 1, 3) := by decide +kernel
theorem dX8_groupBy_187 : decode cX8_groupBy 187 = .ok (.goto (-91), 3) := by decide +kernel
theorem dX8_groupBy_190 : decode cX8_groupBy 190 = .ok (.iload 5, 2) := by decide +kernel
theorem dX8_groupBy_192 : decode cX8_groupBy 192 = .ok (.ireturn, 1) := by decide +kernel
set_option maxRecDepth 20000 in
theorem ggX8_look_X8_isNight : GoodIn wsX8_look wsX8_isNight := goodIn_r _ [6, 7, 8, 9, 5, 10] (by decide +kernel) (by decide +kernel)
set_option maxRecDepth 20000 in
theorem gX8_look_X8_isNight : GoodIn wsX8_look (va_wsS RX8 171 yX8_isNight wsX8_isNight) := goodIn_app (goodIn_of _ (by decide +kernel)) ggX8_look_X8_isNight
set_option maxRecDepth 20000 in
theorem ggX8_look_X8_in : GoodIn wsX8_look wsX8_in := goodIn_r _ [10] (by decide +kernel) (by decide +kernel)
set_option maxRecDepth 20000 in
theorem gX8_look_X8_in : GoodIn wsX8_look (va_wsS RX8 102 yX8_in wsX8_in) := goodIn_app (goodIn_of _ (by decide +kernel)) ggX8_look_X8_in
set_option maxRecDepth 20000 in
theorem ggX8_look_X8_groupBy : GoodIn wsX8_look wsX8_groupBy := goodIn_r _ [14, 1, 2, 15, 16, 17, 18, 19, 20, 5, 21, 22, 23, 24, 25, 26, 27, 28, 29, 30, 31, 32, 33, 34, 35, 36, 37, 38, 39, 40, 41, 42, 43, 44, 45, 46, 47, 48, 49, 50, 51, 52, 53, 54, 55, 56, 57, 58, 59, 60, 61, 62, 63, 64, 65, 66, 67, 68, 69, 70, 71, 72, 73, 74, 75, 76, 77, 78, 79, 80, 81, 82, 83, 84, 85, 86, 87, 88, 89, 90, 91, 92, 93, 94, 95, 96, 97, 98, 99, 100, 101, 102, 103, 104, 105, 106, 107, 108, 109, 110, 111, 112, 113] (by decide +kernel) (by decide +kernel)
set_option maxRecDepth 20000 in
theorem gX8_look_X8_groupBy : GoodIn wsX8_look (wsV RX8 250 RX8 yX8_groupBy wsX8_groupBy) := goodIn_app (goodIn_of _ (by decide +kernel)) ggX8_look_X8_groupBy
theorem dX8_look_0 : decode cX8_look 0 = .ok (.iload_n 1, 1) := by decide +kernel
theorem dX8_look_1 : decode cX8_look 1 = .ok (.invokestatic 171, 3) := by decide +kernel
theorem dX8_look_4 : decode cX8_look 4 = .ok (.ifCond .eq 20, 3) := by decide +kernel
theorem dX8_look_7 : decode cX8_look 7 = .ok (.iload_n 2, 1) := by decide +kernel
theorem dX8_look_8 : decode cX8_look 8 = .ok (.invokestatic 171, 3) := by decide +kernel
theorem dX8_look_11 : decode cX8_look 11 = .ok (.ifCond .eq 13, 3) := by decide +kernel
theorem dX8_look_14 : decode cX8_look 14 = .ok (.iload_n 3, 1) := by decide +kernel
theorem dX8_look_15 : decode cX8_look 15 = .ok (.i2l, 1) := by decide +kernel
theorem dX8_look_16 : decode cX8_look 16 = .ok (.lconst 0, 1) := by decide +kernel
theorem dX8_look_17 : decode cX8_look 17 = .ok (.lconst 1, 1) := by decide +kernel
theorem dX8_look_18 : decode cX8_look 18 = .ok (.invokestatic 102, 3) := by decide +kernel
theorem dX8_look_21 : decode cX8_look 21 = .ok (.ifCond .ne 6, 3) := by decide +kernel
theorem dX8_look_24 : decode cX8_look 24 = .ok (.bipush (-2), 2) := by decide +kernel
theorem dX8_look_26 : decode cX8_look 26 = .ok (.ireturn, 1) := by decide +kernel
theorem dX8_look_27 : decode cX8_look 27 = .ok (.aload_n 0, 1) := by decide +kernel
theorem dX8_look_28 : decode cX8_look 28 = .ok (.getfield 99, 3) := by decide +kernel
theorem dX8_look_31 : decode cX8_look 31 = .ok (.ifCond .ne 6, 3) := by decide +kernel
theorem dX8_look_34 : decode cX8_look 34 = .ok (.bipush (-3), 2) := by decide +kernel
theorem dX8_look_36 : decode cX8_look 36 = .ok (.ireturn, 1) := by decide +kernel
theorem dX8_look_37 : decode cX8_look 37 = .ok (.iconst 0, 1) := by decide +kernel
theorem dX8_look_38 : decode cX8_look 38 = .ok (.istore 4, 2) := by decide +kernel
theorem dX8_look_40 : decode cX8_look 40 = .ok (.bipush 99, 2) := by decide +kernel
theorem dX8_look_42 : decode cX8_look 42 = .ok (.istore 5, 2) := by decide +kernel
theorem dX8_look_44 : decode cX8_look 44 = .ok (.iconst 0, 1) := by decide +kernel
theorem dX8_look_45 : decode cX8_look 45 = .ok (.istore 6, 2) := by decide +kernel
theorem dX8_look_47 : decode cX8_look 47 = .ok (.iload 6, 2) := by decide +kernel
theorem dX8_look_49 : decode cX8_look 49 = .ok (.aload_n 0, 1) := by decide +kernel
theorem dX8_look_50 : decode cX8_look 50 = .ok (.getfield 106, 3) := by decide +kernel
theorem dX8_look_53 : decode cX8_look 53 = .ok (.if_icmp .ge 51, 3) := by decide +kernel
theorem dX8_look_56 : decode cX8_look 56 = .ok (.aload_n 0, 1) := by decide +kernel
theorem dX8_look_57 : decode cX8_look 57 = .ok (.iload 6, 2) := by decide +kernel
theorem dX8_look_59 : decode cX8_look 59 = .ok (.iload_n 1, 1) := by decide +kernel
theorem dX8_look_60 : decode cX8_look 60 = .ok (.iload_n 2, 1) := by decide +kernel
theorem dX8_look_61 : decode cX8_look 61 = .ok (.invokevirtual 250, 3) := by decide +kernel
theorem dX8_look_64 : decode cX8_look 64 = .ok (.istore 7, 2) := by decide +kernel
theorem dX8_look_66 : decode cX8_look 66 = .ok (.iload 7, 2) := by decide +kernel
theorem dX8_look_68 : decode cX8_look 68 = .ok (.iload 5, 2) := by decide +kernel
theorem dX8_look_70 : decode cX8_look 70 = .ok (.if_icmp .ge 8, 3) := by decide +kernel
theorem dX8_look_73 : decode cX8_look 73 = .ok (.iload 6, 2) := by decide +kernel
theorem dX8_look_75 : decode cX8_look 75 = .ok (.goto 5, 3) := by decide +kernel
theorem dX8_look_78 : decode cX8_look 78 = .ok (.iload 4, 2) := by decide +kernel
theorem dX8_look_80 : decode cX8_look 80 = .ok (.istore 4, 2) := by decide +kernel
theorem dX8_look_82 : decode cX8_look 82 = .ok (.iload 7, 2) := by decide +kernel
theorem dX8_look_84 : decode cX8_look 84 = .ok (.iload 5, 2) := by decide +kernel
theorem dX8_look_86 : decode cX8_look 86 = .ok (.if_icmp .ge 8, 3) := by decide +kernel
theorem dX8_look_89 : decode cX8_look 89 = .ok (.iload 7, 2) := by decide +kernel
theorem dX8_look_91 : decode cX8_look 91 = .ok (.goto 5, 3) := by decide +kernel
theorem dX8_look_94 : decode cX8_look 94 = .ok (.iload 5, 2) := by decide +kernel
theorem dX8_look_96 : decode cX8_look 96 = .ok (.istore 5, 2) := by decide +kernel
theorem dX8_look_98 : decode cX8_look 98 = .ok (.iinc 6 1, 3) := by decide +kernel
theorem dX8_look_101 : decode cX8_look 101 = .ok (.goto (-54), 3) := by decide +kernel
theorem dX8_look_104 : decode cX8_look 104 = .ok (.iload_n 3, 1) := by decide +kernel
theorem dX8_look_105 : decode cX8_look 105 = .ok (.ifCond .ne 8, 3) := by decide +kernel
theorem dX8_look_108 : decode cX8_look 108 = .ok (.iload 4, 2) := by decide +kernel
theorem dX8_look_110 : decode cX8_look 110 = .ok (.goto 5, 3) := by decide +kernel
theorem dX8_look_113 : decode cX8_look 113 = .ok (.iload 5, 2) := by decide +kernel
theorem dX8_look_115 : decode cX8_look 115 = .ok (.ireturn, 1) := by decide +kernel
set_option maxRecDepth 20000 in
theorem ggX8_odds_X8_noPlace : GoodIn wsX8_odds wsX8_noPlace := goodIn_r _ [8, 9, 10, 11, 7, 12, 53, 54, 55, 56, 57, 58, 59, 60, 61, 62, 63, 64, 65, 66, 67, 68, 69, 70, 71, 72, 73, 74, 75, 76, 77, 78, 79, 80, 81, 82, 83, 84, 85, 86, 87, 88, 89, 90, 91, 92, 93, 94] (by decide +kernel) (by decide +kernel)
set_option maxRecDepth 20000 in
theorem gX8_odds_X8_noPlace : GoodIn wsX8_odds (wsV RX8 177 RX8 yX8_noPlace wsX8_noPlace) := goodIn_app (goodIn_of _ (by decide +kernel)) ggX8_odds_X8_noPlace
