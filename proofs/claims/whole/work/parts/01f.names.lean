theorem dX5_counted_62 : decode cX5_counted 62 = .ok (.invokestatic 125, 3) := by decide +kernel
theorem dX5_counted_65 : decode cX5_counted 65 = .ok (.istore_n 3, 1) := by decide +kernel
theorem dX5_counted_66 : decode cX5_counted 66 = .ok (.iload_n 1, 1) := by decide +kernel
theorem dX5_counted_67 : decode cX5_counted 67 = .ok (.iconst 3, 1) := by decide +kernel
theorem dX5_counted_68 : decode cX5_counted 68 = .ok (.if_icmp .ne 22, 3) := by decide +kernel
theorem dX5_counted_71 : decode cX5_counted 71 = .ok (.aload_n 0, 1) := by decide +kernel
theorem dX5_counted_72 : decode cX5_counted 72 = .ok (.getfield 19, 3) := by decide +kernel
theorem dX5_counted_75 : decode cX5_counted 75 = .ok (.iload 4, 2) := by decide +kernel
theorem dX5_counted_77 : decode cX5_counted 77 = .ok (.iaload, 1) := by decide +kernel
theorem dX5_counted_78 : decode cX5_counted 78 = .ok (.iconst (-1), 1) := by decide +kernel
theorem dX5_counted_79 : decode cX5_counted 79 = .ok (.if_icmp .ne 7, 3) := by decide +kernel
theorem dX5_counted_82 : decode cX5_counted 82 = .ok (.iconst 1, 1) := by decide +kernel
theorem dX5_counted_83 : decode cX5_counted 83 = .ok (.goto 55, 3) := by decide +kernel
theorem dX5_counted_86 : decode cX5_counted 86 = .ok (.iconst 0, 1) := by decide +kernel
theorem dX5_counted_87 : decode cX5_counted 87 = .ok (.goto 51, 3) := by decide +kernel
theorem dX5_counted_90 : decode cX5_counted 90 = .ok (.iload_n 1, 1) := by decide +kernel
theorem dX5_counted_91 : decode cX5_counted 91 = .ok (.bipush 7, 2) := by decide +kernel
theorem dX5_counted_93 : decode cX5_counted 93 = .ok (.if_icmp .ne 44, 3) := by decide +kernel
theorem dX5_counted_96 : decode cX5_counted 96 = .ok (.aload_n 0, 1) := by decide +kernel
theorem dX5_counted_97 : decode cX5_counted 97 = .ok (.getfield 25, 3) := by decide +kernel
theorem dX5_counted_100 : decode cX5_counted 100 = .ok (.iload 4, 2) := by decide +kernel
theorem dX5_counted_102 : decode cX5_counted 102 = .ok (.baload, 1) := by decide +kernel
theorem dX5_counted_103 : decode cX5_counted 103 = .ok (.ifCond .eq 34, 3) := by decide +kernel
theorem dX5_counted_106 : decode cX5_counted 106 = .ok (.aload_n 0, 1) := by decide +kernel
theorem dX5_counted_107 : decode cX5_counted 107 = .ok (.getfield 19, 3) := by decide +kernel
theorem dX5_counted_110 : decode cX5_counted 110 = .ok (.iload 4, 2) := by decide +kernel
theorem dX5_counted_112 : decode cX5_counted 112 = .ok (.iaload, 1) := by decide +kernel
theorem dX5_counted_113 : decode cX5_counted 113 = .ok (.iconst (-1), 1) := by decide +kernel
theorem dX5_counted_114 : decode cX5_counted 114 = .ok (.if_icmp .eq 23, 3) := by decide +kernel
theorem dX5_counted_117 : decode cX5_counted 117 = .ok (.aload_n 0, 1) := by decide +kernel
theorem dX5_counted_118 : decode cX5_counted 118 = .ok (.iload 4, 2) := by decide +kernel
theorem dX5_counted_120 : decode cX5_counted 120 = .ok (.invokevirtual 147, 3) := by decide +kernel
theorem dX5_counted_123 : decode cX5_counted 123 = .ok (.aload_n 0, 1) := by decide +kernel
theorem dX5_counted_124 : decode cX5_counted 124 = .ok (.getfield 19, 3) := by decide +kernel
theorem dX5_counted_127 : decode cX5_counted 127 = .ok (.iload 4, 2) := by decide +kernel
theorem dX5_counted_129 : decode cX5_counted 129 = .ok (.iaload, 1) := by decide +kernel
theorem dX5_counted_130 : decode cX5_counted 130 = .ok (.if_icmp .ne 7, 3) := by decide +kernel
theorem dX5_counted_133 : decode cX5_counted 133 = .ok (.iconst 1, 1) := by decide +kernel
theorem dX5_counted_134 : decode cX5_counted 134 = .ok (.goto 4, 3) := by decide +kernel
theorem dX5_counted_137 : decode cX5_counted 137 = .ok (.iconst 0, 1) := by decide +kernel
theorem dX5_counted_138 : decode cX5_counted 138 = .ok (.istore 5, 2) := by decide +kernel
theorem dX5_counted_140 : decode cX5_counted 140 = .ok (.iload_n 2, 1) := by decide +kernel
theorem dX5_counted_141 : decode cX5_counted 141 = .ok (.iload 5, 2) := by decide +kernel
theorem dX5_counted_143 : decode cX5_counted 143 = .ok (.ifCond .eq 7, 3) := by decide +kernel
theorem dX5_counted_146 : decode cX5_counted 146 = .ok (.iconst 1, 1) := by decide +kernel
theorem dX5_counted_147 : decode cX5_counted 147 = .ok (.goto 30, 3) := by decide +kernel
theorem dX5_counted_150 : decode cX5_counted 150 = .ok (.iload_n 1, 1) := by decide +kernel
theorem dX5_counted_151 : decode cX5_counted 151 = .ok (.bipush 6, 2) := by decide +kernel
theorem dX5_counted_153 : decode cX5_counted 153 = .ok (.if_icmp .ne 23, 3) := by decide +kernel
theorem dX5_counted_156 : decode cX5_counted 156 = .ok (.aload_n 0, 1) := by decide +kernel
theorem dX5_counted_157 : decode cX5_counted 157 = .ok (.getfield 25, 3) := by decide +kernel
theorem dX5_counted_160 : decode cX5_counted 160 = .ok (.iload 4, 2) := by decide +kernel
theorem dX5_counted_162 : decode cX5_counted 162 = .ok (.baload, 1) := by decide +kernel
theorem dX5_counted_163 : decode cX5_counted 163 = .ok (.ifCond .eq 13, 3) := by decide +kernel
theorem dX5_counted_166 : decode cX5_counted 166 = .ok (.aload_n 0, 1) := by decide +kernel
theorem dX5_counted_167 : decode cX5_counted 167 = .ok (.getfield 16, 3) := by decide +kernel
theorem dX5_counted_170 : decode cX5_counted 170 = .ok (.iload 4, 2) := by decide +kernel
theorem dX5_counted_172 : decode cX5_counted 172 = .ok (.iaload, 1) := by decide +kernel
theorem dX5_counted_173 : decode cX5_counted 173 = .ok (.goto 4, 3) := by decide +kernel
theorem dX5_counted_176 : decode cX5_counted 176 = .ok (.iconst 0, 1) := by decide +kernel
theorem dX5_counted_177 : decode cX5_counted 177 = .ok (.iadd, 1) := by decide +kernel
theorem dX5_counted_178 : decode cX5_counted 178 = .ok (.istore_n 2, 1) := by decide +kernel
theorem dX5_counted_179 : decode cX5_counted 179 = .ok (.iinc 4 1, 3) := by decide +kernel
theorem dX5_counted_182 : decode cX5_counted 182 = .ok (.goto (-136), 3) := by decide +kernel
theorem dX5_counted_185 : decode cX5_counted 185 = .ok (.iload_n 1, 1) := by decide +kernel
theorem dX5_counted_186 : decode cX5_counted 186 = .ok (.iconst 4, 1) := by decide +kernel
theorem dX5_counted_187 : decode cX5_counted 187 = .ok (.if_icmp .ne 7, 3) := by decide +kernel
theorem dX5_counted_190 : decode cX5_counted 190 = .ok (.iload_n 3, 1) := by decide +kernel
theorem dX5_counted_191 : decode cX5_counted 191 = .ok (.goto 4, 3) := by decide +kernel
theorem dX5_counted_194 : decode cX5_counted 194 = .ok (.iload_n 2, 1) := by decide +kernel
theorem dX5_counted_195 : decode cX5_counted 195 = .ok (.ireturn, 1) := by decide +kernel
set_option maxRecDepth 20000 in
theorem ggX5_count_X5_isIn : GoodIn wsX5_count wsX5_isIn := goodIn_r _ [5] (by decide +kernel) (by decide +kernel)
set_option maxRecDepth 20000 in
theorem gX5_count_X5_isIn : GoodIn wsX5_count (va_wsS RX5 54 yX5_isIn wsX5_isIn) := goodIn_app (goodIn_of _ (by decide +kernel)) ggX5_count_X5_isIn
set_option maxRecDepth 20000 in
theorem ggX5_count_X5_counted : GoodIn wsX5_count wsX5_counted := goodIn_r _ [9, 10, 11, 12, 13, 14, 15, 16, 17, 18, 19, 20, 21, 22, 4, 23, 24, 25, 26, 27, 28, 29, 30, 31, 32, 33, 34, 35, 36, 37, 38, 39, 40, 41, 42, 43, 44, 45, 46, 47, 48, 49, 50, 51, 52, 53, 54, 55, 60, 61, 62, 63, 64, 65, 66, 67, 68, 69, 70, 71, 72, 73, 74, 75, 76] (by decide +kernel) (by decide +kernel)
set_option maxRecDepth 20000 in
theorem gX5_count_X5_counted : GoodIn wsX5_count (wsV RX5 150 RX5 yX5_counted wsX5_counted) := goodIn_app (goodIn_of _ (by decide +kernel)) ggX5_count_X5_counted
set_option maxRecDepth 20000 in
theorem ggX5_count_X5_no : GoodIn wsX5_count wsX5_no := goodIn_r _ [59, 1, 60, 61, 62, 63, 64, 65, 66, 67, 68, 69, 70, 71, 72, 73, 74, 75, 76] (by decide +kernel) (by decide +kernel)
set_option maxRecDepth 20000 in
theorem gX5_count_X5_no : GoodIn wsX5_count (wsV RX5 64 RX5 yX5_no wsX5_no) := goodIn_app (goodIn_of _ (by decide +kernel)) ggX5_count_X5_no
theorem dX5_count_0 : decode cX5_count 0 = .ok (.aload_n 0, 1) := by decide +kernel
theorem dX5_count_1 : decode cX5_count 1 = .ok (.iconst 0, 1) := by decide +kernel
theorem dX5_count_2 : decode cX5_count 2 = .ok (.putfield 47, 3) := by decide +kernel
theorem dX5_count_5 : decode cX5_count 5 = .ok (.iload_n 1, 1) := by decide +kernel
theorem dX5_count_6 : decode cX5_count 6 = .ok (.iconst 0, 1) := by decide +kernel
theorem dX5_count_7 : decode cX5_count 7 = .ok (.bipush 7, 2) := by decide +kernel
theorem dX5_count_9 : decode cX5_count 9 = .ok (.invokestatic 54, 3) := by decide +kernel
theorem dX5_count_12 : decode cX5_count 12 = .ok (.ifCond .eq 11, 3) := by decide +kernel
theorem dX5_count_15 : decode cX5_count 15 = .ok (.aload_n 0, 1) := by decide +kernel
theorem dX5_count_16 : decode cX5_count 16 = .ok (.iload_n 1, 1) := by decide +kernel
theorem dX5_count_17 : decode cX5_count 17 = .ok (.invokevirtual 150, 3) := by decide +kernel
theorem dX5_count_20 : decode cX5_count 20 = .ok (.goto 8, 3) := by decide +kernel
theorem dX5_count_23 : decode cX5_count 23 = .ok (.aload_n 0, 1) := by decide +kernel
theorem dX5_count_24 : decode cX5_count 24 = .ok (.iconst 1, 1) := by decide +kernel
theorem dX5_count_25 : decode cX5_count 25 = .ok (.invokevirtual 64, 3) := by decide +kernel
theorem dX5_count_28 : decode cX5_count 28 = .ok (.ireturn, 1) := by decide +kernel
set_option maxRecDepth 20000 in
theorem ggX5_distance_X5_isText : GoodIn wsX5_distance wsX5_isText := goodIn_r _ [6, 7, 8, 9, 5, 10, 44, 45, 46, 47, 48, 49, 50, 51, 52, 53, 54, 55, 56, 57, 58, 59, 60] (by decide +kernel) (by decide +kernel)
set_option maxRecDepth 20000 in
theorem gX5_distance_X5_isText : GoodIn wsX5_distance (wsV RX5 78 RX5 yX5_isText wsX5_isText) := goodIn_app (goodIn_of _ (by decide +kernel)) ggX5_distance_X5_isText
set_option maxRecDepth 20000 in
theorem ggX5_distance_X5_apart : GoodIn wsX5_distance wsX5_apart := goodIn_r _ [14, 15, 16, 17, 18, 19, 20, 21, 22, 23, 24, 25, 5, 26, 27, 28, 29, 30, 31, 32, 33, 34, 35, 36, 37, 38, 39, 44, 45, 46, 47, 48, 49, 50, 51, 52, 53, 54, 55, 56, 57, 58, 59, 60] (by decide +kernel) (by decide +kernel)
set_option maxRecDepth 20000 in
theorem gX5_distance_X5_apart : GoodIn wsX5_distance (wsV RX5 138 RX5 yX5_apart wsX5_apart) := goodIn_app (goodIn_of _ (by decide +kernel)) ggX5_distance_X5_apart
set_option maxRecDepth 20000 in
theorem ggX5_distance_X5_no : GoodIn wsX5_distance wsX5_no := goodIn_r _ [43, 1, 44, 45, 46, 47, 48, 49, 50, 51, 52, 53, 54, 55, 56, 57, 58, 59, 60] (by decide +kernel) (by decide +kernel)
set_option maxRecDepth 20000 in
theorem gX5_distance_X5_no : GoodIn wsX5_distance (wsV RX5 64 RX5 yX5_no wsX5_no) := goodIn_app (goodIn_of _ (by decide +kernel)) ggX5_distance_X5_no
theorem dX5_distance_0 : decode cX5_distance 0 = .ok (.aload_n 0, 1) := by decide +kernel
theorem dX5_distance_1 : decode cX5_distance 1 = .ok (.iconst 0, 1) := by decide +kernel
theorem dX5_distance_2 : decode cX5_distance 2 = .ok (.putfield 47, 3) := by decide +kernel
theorem dX5_distance_5 : decode cX5_distance 5 = .ok (.aload_n 0, 1) := by decide +kernel
theorem dX5_distance_6 : decode cX5_distance 6 = .ok (.iload_n 1, 1) := by decide +kernel
theorem dX5_distance_7 : decode cX5_distance 7 = .ok (.invokevirtual 78, 3) := by decide +kernel
theorem dX5_distance_10 : decode cX5_distance 10 = .ok (.ifCond .eq 20, 3) := by decide +kernel
theorem dX5_distance_13 : decode cX5_distance 13 = .ok (.aload_n 0, 1) := by decide +kernel
theorem dX5_distance_14 : decode cX5_distance 14 = .ok (.iload_n 2, 1) := by decide +kernel
theorem dX5_distance_15 : decode cX5_distance 15 = .ok (.invokevirtual 78, 3) := by decide +kernel
theorem dX5_distance_18 : decode cX5_distance 18 = .ok (.ifCond .eq 12, 3) := by decide +kernel
theorem dX5_distance_21 : decode cX5_distance 21 = .ok (.aload_n 0, 1) := by decide +kernel
theorem dX5_distance_22 : decode cX5_distance 22 = .ok (.iload_n 1, 1) := by decide +kernel
theorem dX5_distance_23 : decode cX5_distance 23 = .ok (.iload_n 2, 1) := by decide +kernel
theorem dX5_distance_24 : decode cX5_distance 24 = .ok (.invokevirtual 138, 3) := by decide +kernel
theorem dX5_distance_27 : decode cX5_distance 27 = .ok (.goto 8, 3) := by decide +kernel
theorem dX5_distance_30 : decode cX5_distance 30 = .ok (.aload_n 0, 1) := by decide +kernel
theorem dX5_distance_31 : decode cX5_distance 31 = .ok (.iconst 1, 1) := by decide +kernel
theorem dX5_distance_32 : decode cX5_distance 32 = .ok (.invokevirtual 64, 3) := by decide +kernel
theorem dX5_distance_35 : decode cX5_distance 35 = .ok (.ireturn, 1) := by decide +kernel
set_option maxRecDepth 20000 in
theorem ggX5_common_X5_isText : GoodIn wsX5_common wsX5_isText := goodIn_r _ [7, 8, 9, 10, 6, 11, 20, 21, 22, 23, 24, 25, 26, 27, 28, 29, 30, 31, 32, 33, 34, 35, 36] (by decide +kernel) (by decide +kernel)
set_option maxRecDepth 20000 in
theorem gX5_common_X5_isText : GoodIn wsX5_common (wsV RX5 78 RX5 yX5_isText wsX5_isText) := goodIn_app (goodIn_of _ (by decide +kernel)) ggX5_common_X5_isText
set_option maxRecDepth 20000 in
theorem ggX5_common_X5_no : GoodIn wsX5_common wsX5_no := goodIn_r _ [15, 1, 20, 21, 22, 23, 24, 25, 26, 27, 28, 29, 30, 31, 32, 33, 34, 35, 36] (by decide +kernel) (by decide +kernel)
set_option maxRecDepth 20000 in
theorem gX5_common_X5_no : GoodIn wsX5_common (wsV RX5 64 RX5 yX5_no wsX5_no) := goodIn_app (goodIn_of _ (by decide +kernel)) ggX5_common_X5_no
set_option maxRecDepth 20000 in
theorem ggX5_common_X5_isOf : GoodIn wsX5_common wsX5_isOf := goodIn_r _ [19, 2, 20, 21, 22, 23, 24, 25, 26, 27, 28, 29, 30, 31, 32, 33, 34, 35, 36] (by decide +kernel) (by decide +kernel)
set_option maxRecDepth 20000 in
theorem gX5_common_X5_isOf : GoodIn wsX5_common (wsV RX5 131 RX5 yX5_isOf wsX5_isOf) := goodIn_app (goodIn_of _ (by decide +kernel)) ggX5_common_X5_isOf
theorem dX5_common_0 : decode cX5_common 0 = .ok (.aload_n 0, 1) := by decide +kernel
theorem dX5_common_1 : decode cX5_common 1 = .ok (.iconst 0, 1) := by decide +kernel
theorem dX5_common_2 : decode cX5_common 2 = .ok (.putfield 47, 3) := by decide +kernel
theorem dX5_common_5 : decode cX5_common 5 = .ok (.aload_n 0, 1) := by decide +kernel
theorem dX5_common_6 : decode cX5_common 6 = .ok (.iload_n 1, 1) := by decide +kernel
theorem dX5_common_7 : decode cX5_common 7 = .ok (.invokevirtual 78, 3) := by decide +kernel
theorem dX5_common_10 : decode cX5_common 10 = .ok (.ifCond .eq 11, 3) := by decide +kernel
theorem dX5_common_13 : decode cX5_common 13 = .ok (.aload_n 0, 1) := by decide +kernel
theorem dX5_common_14 : decode cX5_common 14 = .ok (.iload_n 2, 1) := by decide +kernel
theorem dX5_common_15 : decode cX5_common 15 = .ok (.invokevirtual 78, 3) := by decide +kernel
theorem dX5_common_18 : decode cX5_common 18 = .ok (.ifCond .ne 9, 3) := by decide +kernel
theorem dX5_common_21 : decode cX5_common 21 = .ok (.aload_n 0, 1) := by decide +kernel
theorem dX5_common_22 : decode cX5_common 22 = .ok (.iconst 1, 1) := by decide +kernel
theorem dX5_common_23 : decode cX5_common 23 = .ok (.invokevirtual 64, 3) := by decide +kernel
theorem dX5_common_26 : decode cX5_common 26 = .ok (.ireturn, 1) := by decide +kernel
theorem dX5_common_27 : decode cX5_common 27 = .ok (.iload_n 1, 1) := by decide +kernel
theorem dX5_common_28 : decode cX5_common 28 = .ok (.istore_n 3, 1) := by decide +kernel
theorem dX5_common_29 : decode cX5_common 29 = .ok (.iload_n 3, 1) := by decide +kernel
theorem dX5_common_30 : decode cX5_common 30 = .ok (.iconst (-1), 1) := by decide +kernel
theorem dX5_common_31 : decode cX5_common 31 = .ok (.if_icmp .eq 22, 3) := by decide +kernel
theorem dX5_common_34 : decode cX5_common 34 = .ok (.aload_n 0, 1) := by decide +kernel
theorem dX5_common_35 : decode cX5_common 35 = .ok (.iload_n 2, 1) := by decide +kernel
theorem dX5_common_36 : decode cX5_common 36 = .ok (.iload_n 3, 1) := by decide +kernel
theorem dX5_common_37 : decode cX5_common 37 = .ok (.invokevirtual 131, 3) := by decide +kernel
theorem dX5_common_40 : decode cX5_common 40 = .ok (.ifCond .ne 13, 3) := by decide +kernel
theorem dX5_common_43 : decode cX5_common 43 = .ok (.aload_n 0, 1) := by decide +kernel
theorem dX5_common_44 : decode cX5_common 44 = .ok (.getfield 19, 3) := by decide +kernel
theorem dX5_common_47 : decode cX5_common 47 = .ok (.iload_n 3, 1) := by decide +kernel
theorem dX5_common_48 : decode cX5_common 48 = .ok (.iaload, 1) := by decide +kernel
theorem dX5_common_49 : decode cX5_common 49 = .ok (.istore_n 3, 1) := by decide +kernel
theorem dX5_common_50 : decode cX5_common 50 = .ok (.goto (-21), 3) := by decide +kernel
theorem dX5_common_53 : decode cX5_common 53 = .ok (.iload_n 3, 1) := by decide +kernel
theorem dX5_common_54 : decode cX5_common 54 = .ok (.ireturn, 1) := by decide +kernel
set_option maxRecDepth 20000 in
theorem ggX5_guess_X5_isText : GoodIn wsX5_guess wsX5_isText := goodIn_r _ [6, 7, 8, 9, 5, 10, 49, 50, 51, 52, 53, 54, 55, 56, 57, 58, 59, 60, 61, 62, 63, 64, 65] (by decide +kernel) (by decide +kernel)
set_option maxRecDepth 20000 in
theorem gX5_guess_X5_isText : GoodIn wsX5_guess (wsV RX5 78 RX5 yX5_isText wsX5_isText) := goodIn_app (goodIn_of _ (by decide +kernel)) ggX5_guess_X5_isText
set_option maxRecDepth 20000 in
theorem ggX5_guess_X5_guessOf : GoodIn wsX5_guess wsX5_guessOf := goodIn_r _ [14, 15, 16, 17, 18, 5, 19, 20, 21, 22, 23, 24, 25, 26, 27, 28, 29, 30, 31, 32, 33, 34, 35, 36, 37, 38, 39, 40, 41, 42, 43, 44, 49, 50, 51, 52, 53, 54, 55, 56, 57, 58, 59, 60, 61, 62, 63, 64, 65] (by decide +kernel) (by decide +kernel)
set_option maxRecDepth 20000 in
theorem gX5_guess_X5_guessOf : GoodIn wsX5_guess (wsV RX5 147 RX5 yX5_guessOf wsX5_guessOf) := goodIn_app (goodIn_of _ (by decide +kernel)) ggX5_guess_X5_guessOf
set_option maxRecDepth 20000 in
theorem ggX5_guess_X5_no : GoodIn wsX5_guess wsX5_no := goodIn_r _ [48, 1, 49, 50, 51, 52, 53, 54, 55, 56, 57, 58, 59, 60, 61, 62, 63, 64, 65] (by decide +kernel) (by decide +kernel)
set_option maxRecDepth 20000 in
theorem gX5_guess_X5_no : GoodIn wsX5_guess (wsV RX5 64 RX5 yX5_no wsX5_no) := goodIn_app (goodIn_of _ (by decide +kernel)) ggX5_guess_X5_no
theorem dX5_guess_0 : decode cX5_guess 0 = .ok (.aload_n 0, 1) := by decide +kernel
theorem dX5_guess_1 : decode cX5_guess 1 = .ok (.iconst 0, 1) := by decide +kernel
theorem dX5_guess_2 : decode cX5_guess 2 = .ok (.putfield 47, 3) := by decide +kernel
theorem dX5_guess_5 : decode cX5_guess 5 = .ok (.aload_n 0, 1) := by decide +kernel
theorem dX5_guess_6 : decode cX5_guess 6 = .ok (.iload_n 1, 1) := by decide +kernel
theorem dX5_guess_7 : decode cX5_guess 7 = .ok (.invokevirtual 78, 3) := by decide +kernel
theorem dX5_guess_10 : decode cX5_guess 10 = .ok (.ifCond .eq 11, 3) := by decide +kernel
theorem dX5_guess_13 : decode cX5_guess 13 = .ok (.aload_n 0, 1) := by decide +kernel
theorem dX5_guess_14 : decode cX5_guess 14 = .ok (.iload_n 1, 1) := by decide +kernel
theorem dX5_guess_15 : decode cX5_guess 15 = .ok (.invokevirtual 147, 3) := by decide +kernel
theorem dX5_guess_18 : decode cX5_guess 18 = .ok (.goto 8, 3) := by decide +kernel
theorem dX5_guess_21 : decode cX5_guess 21 = .ok (.aload_n 0, 1) := by decide +kernel
theorem dX5_guess_22 : decode cX5_guess 22 = .ok (.iconst 1, 1) := by decide +kernel
theorem dX5_guess_23 : decode cX5_guess 23 = .ok (.invokevirtual 64, 3) := by decide +kernel
theorem dX5_guess_26 : decode cX5_guess 26 = .ok (.ireturn, 1) := by decide +kernel
set_option maxRecDepth 20000 in
theorem ggX5_find_X5_isText : GoodIn wsX5_find wsX5_isText := goodIn_r _ [8, 9, 10, 11, 7, 12, 17, 18, 19, 20, 21, 22, 23, 24, 25, 26, 27, 28, 29, 30, 31, 32, 33] (by decide +kernel) (by decide +kernel)
set_option maxRecDepth 20000 in
theorem gX5_find_X5_isText : GoodIn wsX5_find (wsV RX5 78 RX5 yX5_isText wsX5_isText) := goodIn_app (goodIn_of _ (by decide +kernel)) ggX5_find_X5_isText
set_option maxRecDepth 20000 in
theorem ggX5_find_X5_no : GoodIn wsX5_find wsX5_no := goodIn_r _ [16, 1, 17, 18, 19, 20, 21, 22, 23, 24, 25, 26, 27, 28, 29, 30, 31, 32, 33] (by decide +kernel) (by decide +kernel)
set_option maxRecDepth 20000 in
theorem gX5_find_X5_no : GoodIn wsX5_find (wsV RX5 64 RX5 yX5_no wsX5_no) := goodIn_app (goodIn_of _ (by decide +kernel)) ggX5_find_X5_no
set_option maxRecDepth 20000 in
theorem ggX5_find_X5_isIn : GoodIn wsX5_find wsX5_isIn := goodIn_r _ [12] (by decide +kernel) (by decide +kernel)
set_option maxRecDepth 20000 in
theorem gX5_find_X5_isIn : GoodIn wsX5_find (va_wsS RX5 54 yX5_isIn wsX5_isIn) := goodIn_app (goodIn_of _ (by decide +kernel)) ggX5_find_X5_isIn
theorem dX5_find_0 : decode cX5_find 0 = .ok (.aload_n 0, 1) := by decide +kernel
theorem dX5_find_1 : decode cX5_find 1 = .ok (.iconst 0, 1) := by decide +kernel
theorem dX5_find_2 : decode cX5_find 2 = .ok (.putfield 47, 3) := by decide +kernel
theorem dX5_find_5 : decode cX5_find 5 = .ok (.aload_n 0, 1) := by decide +kernel
theorem dX5_find_6 : decode cX5_find 6 = .ok (.iload_n 1, 1) := by decide +kernel
theorem dX5_find_7 : decode cX5_find 7 = .ok (.invokevirtual 78, 3) := by decide +kernel
theorem dX5_find_10 : decode cX5_find 10 = .ok (.ifCond .ne 9, 3) := by decide +kernel
theorem dX5_find_13 : decode cX5_find 13 = .ok (.aload_n 0, 1) := by decide +kernel
theorem dX5_find_14 : decode cX5_find 14 = .ok (.iconst 1, 1) := by decide +kernel
theorem dX5_find_15 : decode cX5_find 15 = .ok (.invokevirtual 64, 3) := by decide +kernel
theorem dX5_find_18 : decode cX5_find 18 = .ok (.ireturn, 1) := by decide +kernel
theorem dX5_find_19 : decode cX5_find 19 = .ok (.iload_n 2, 1) := by decide +kernel
theorem dX5_find_20 : decode cX5_find 20 = .ok (.ifCond .lt 24, 3) := by decide +kernel
theorem dX5_find_23 : decode cX5_find 23 = .ok (.iload_n 3, 1) := by decide +kernel
theorem dX5_find_24 : decode cX5_find 24 = .ok (.iconst 0, 1) := by decide +kernel
theorem dX5_find_25 : decode cX5_find 25 = .ok (.bipush 25, 2) := by decide +kernel
theorem dX5_find_27 : decode cX5_find 27 = .ok (.invokestatic 54, 3) := by decide +kernel
theorem dX5_find_30 : decode cX5_find 30 = .ok (.ifCond .eq 14, 3) := by decide +kernel
theorem dX5_find_33 : decode cX5_find 33 = .ok (.iload 4, 2) := by decide +kernel
theorem dX5_find_35 : decode cX5_find 35 = .ok (.iconst (-1), 1) := by decide +kernel
theorem dX5_find_36 : decode cX5_find 36 = .ok (.bipush 25, 2) := by decide +kernel
theorem dX5_find_38 : decode cX5_find 38 = .ok (.invokestatic 54, 3) := by decide +kernel
theorem dX5_find_41 : decode cX5_find 41 = .ok (.ifCond .ne 9, 3) := by decide +kernel
theorem dX5_find_44 : decode cX5_find 44 = .ok (.aload_n 0, 1) := by decide +kernel
theorem dX5_find_45 : decode cX5_find 45 = .ok (.iconst 2, 1) := by decide +kernel
theorem dX5_find_46 : decode cX5_find 46 = .ok (.invokevirtual 64, 3) := by decide +kernel
theorem dX5_find_49 : decode cX5_find 49 = .ok (.ireturn, 1) := by decide +kernel
theorem dX5_find_50 : decode cX5_find 50 = .ok (.iload_n 2, 1) := by decide +kernel
theorem dX5_find_51 : decode cX5_find 51 = .ok (.istore 5, 2) := by decide +kernel
theorem dX5_find_53 : decode cX5_find 53 = .ok (.iload 5, 2) := by decide +kernel
theorem dX5_find_55 : decode cX5_find 55 = .ok (.aload_n 0, 1) := by decide +kernel
theorem dX5_find_56 : decode cX5_find 56 = .ok (.getfield 16, 3) := by decide +kernel
theorem dX5_find_59 : decode cX5_find 59 = .ok (.iload_n 1, 1) := by decide +kernel
theorem dX5_find_60 : decode cX5_find 60 = .ok (.iaload, 1) := by decide +kernel
theorem dX5_find_61 : decode cX5_find 61 = .ok (.if_icmp .ge 71, 3) := by decide +kernel
theorem dX5_find_64 : decode cX5_find 64 = .ok (.bipush 120, 2) := by decide +kernel
theorem dX5_find_66 : decode cX5_find 66 = .ok (.iload_n 1, 1) := by decide +kernel
theorem dX5_find_67 : decode cX5_find 67 = .ok (.imul, 1) := by decide +kernel
theorem dX5_find_68 : decode cX5_find 68 = .ok (.iload 5, 2) := by decide +kernel
theorem dX5_find_70 : decode cX5_find 70 = .ok (.iadd, 1) := by decide +kernel
theorem dX5_find_71 : decode cX5_find 71 = .ok (.istore 6, 2) := by decide +kernel
theorem dX5_find_73 : decode cX5_find 73 = .ok (.aload_n 0, 1) := by decide +kernel
theorem dX5_find_74 : decode cX5_find 74 = .ok (.getfield 13, 3) := by decide +kernel
theorem dX5_find_77 : decode cX5_find 77 = .ok (.iload 6, 2) := by decide +kernel
theorem dX5_find_79 : decode cX5_find 79 = .ok (.iaload, 1) := by decide +kernel
theorem dX5_find_80 : decode cX5_find 80 = .ok (.iload_n 3, 1) := by decide +kernel
theorem dX5_find_81 : decode cX5_find 81 = .ok (.bipush 97, 2) := by decide +kernel
theorem dX5_find_83 : decode cX5_find 83 = .ok (.iadd, 1) := by decide +kernel
theorem dX5_find_84 : decode cX5_find 84 = .ok (.if_icmp .ne 42, 3) := by decide +kernel
theorem dX5_find_87 : decode cX5_find 87 = .ok (.iload 4, 2) := by decide +kernel
theorem dX5_find_89 : decode cX5_find 89 = .ok (.iconst (-1), 1) := by decide +kernel
theorem dX5_find_90 : decode cX5_find 90 = .ok (.if_icmp .eq 33, 3) := by decide +kernel
theorem dX5_find_93 : decode cX5_find 93 = .ok (.iload 5, 2) := by decide +kernel
theorem dX5_find_95 : decode cX5_find 95 = .ok (.iconst 1, 1) := by decide +kernel
theorem dX5_find_96 : decode cX5_find 96 = .ok (.iadd, 1) := by decide +kernel
theorem dX5_find_97 : decode cX5_find 97 = .ok (.aload_n 0, 1) := by decide +kernel
theorem dX5_find_98 : decode cX5_find 98 = .ok (.getfield 16, 3) := by decide +kernel
theorem dX5_find_101 : decode cX5_find 101 = .ok (.iload_n 1, 1) := by decide +kernel
theorem dX5_find_102 : decode cX5_find 102 = .ok (.iaload, 1) := by decide +kernel
theorem dX5_find_103 : decode cX5_find 103 = .ok (.if_icmp .ge 23, 3) := by decide +kernel
theorem dX5_find_106 : decode cX5_find 106 = .ok (.aload_n 0, 1) := by decide +kernel
theorem dX5_find_107 : decode cX5_find 107 = .ok (.getfield 13, 3) := by decide +kernel
theorem dX5_find_110 : decode cX5_find 110 = .ok (.iload 6, 2) := by decide +kernel
theorem dX5_find_112 : decode cX5_find 112 = .ok (.iconst 1, 1) := by decide +kernel
theorem dX5_find_113 : decode cX5_find 113 = .ok (.iadd, 1) := by decide +kernel
theorem dX5_find_114 : decode cX5_find 114 = .ok (.iaload, 1) := by decide +kernel
theorem dX5_find_115 : decode cX5_find 115 = .ok (.iload 4, 2) := by decide +kernel
theorem dX5_find_117 : decode cX5_find 117 = .ok (.bipush 97, 2) := by decide +kernel
theorem dX5_find_119 : decode cX5_find 119 = .ok (.iadd, 1) := by decide +kernel
theorem dX5_find_120 : decode cX5_find 120 = .ok (.if_icmp .ne 6, 3) := by decide +kernel
theorem dX5_find_123 : decode cX5_find 123 = .ok (.iload 5, 2) := by decide +kernel
theorem dX5_find_125 : decode cX5_find 125 = .ok (.ireturn, 1) := by decide +kernel
theorem dX5_find_126 : decode cX5_find 126 = .ok (.iinc 5 1, 3) := by decide +kernel
theorem dX5_find_129 : decode cX5_find 129 = .ok (.goto (-76), 3) := by decide +kernel
theorem dX5_find_132 : decode cX5_find 132 = .ok (.iconst (-1), 1) := by decide +kernel
theorem dX5_find_133 : decode cX5_find 133 = .ok (.ireturn, 1) := by decide +kernel
theorem dX5_votedLength_0 : decode cX5_votedLength 0 = .ok (.iconst 0, 1) := by decide +kernel
theorem dX5_votedLength_1 : decode cX5_votedLength 1 = .ok (.istore_n 1, 1) := by decide +kernel
theorem dX5_votedLength_2 : decode cX5_votedLength 2 = .ok (.iconst 0, 1) := by decide +kernel
theorem dX5_votedLength_3 : decode cX5_votedLength 3 = .ok (.istore_n 2, 1) := by decide +kernel
theorem dX5_votedLength_4 : decode cX5_votedLength 4 = .ok (.iconst 0, 1) := by decide +kernel
theorem dX5_votedLength_5 : decode cX5_votedLength 5 = .ok (.istore_n 3, 1) := by decide +kernel
theorem dX5_votedLength_6 : decode cX5_votedLength 6 = .ok (.iload_n 3, 1) := by decide +kernel
theorem dX5_votedLength_7 : decode cX5_votedLength 7 = .ok (.bipush 120, 2) := by decide +kernel
theorem dX5_votedLength_9 : decode cX5_votedLength 9 = .ok (.if_icmp .gt 75, 3) := by decide +kernel
theorem dX5_votedLength_12 : decode cX5_votedLength 12 = .ok (.iconst 0, 1) := by decide +kernel
theorem dX5_votedLength_13 : decode cX5_votedLength 13 = .ok (.istore 4, 2) := by decide +kernel
theorem dX5_votedLength_15 : decode cX5_votedLength 15 = .ok (.iconst 0, 1) := by decide +kernel
theorem dX5_votedLength_16 : decode cX5_votedLength 16 = .ok (.istore 5, 2) := by decide +kernel
theorem dX5_votedLength_18 : decode cX5_votedLength 18 = .ok (.iload 5, 2) := by decide +kernel
theorem dX5_votedLength_20 : decode cX5_votedLength 20 = .ok (.aload_n 0, 1) := by decide +kernel
theorem dX5_votedLength_21 : decode cX5_votedLength 21 = .ok (.getfield 51, 3) := by decide +kernel
theorem dX5_votedLength_24 : decode cX5_votedLength 24 = .ok (.if_icmp .ge 40, 3) := by decide +kernel
theorem dX5_votedLength_27 : decode cX5_votedLength 27 = .ok (.iload 4, 2) := by decide +kernel
theorem dX5_votedLength_29 : decode cX5_votedLength 29 = .ok (.aload_n 0, 1) := by decide +kernel
theorem dX5_votedLength_30 : decode cX5_votedLength 30 = .ok (.getfield 25, 3) := by decide +kernel
theorem dX5_votedLength_33 : decode cX5_votedLength 33 = .ok (.iload 5, 2) := by decide +kernel
theorem dX5_votedLength_35 : decode cX5_votedLength 35 = .ok (.baload, 1) := by decide +kernel
theorem dX5_votedLength_36 : decode cX5_votedLength 36 = .ok (.ifCond .eq 18, 3) := by decide +kernel
theorem dX5_votedLength_39 : decode cX5_votedLength 39 = .ok (.aload_n 0, 1) := by decide +kernel
theorem dX5_votedLength_40 : decode cX5_votedLength 40 = .ok (.getfield 16, 3) := by decide +kernel
theorem dX5_votedLength_43 : decode cX5_votedLength 43 = .ok (.iload 5, 2) := by decide +kernel
theorem dX5_votedLength_45 : decode cX5_votedLength 45 = .ok (.iaload, 1) := by decide +kernel
theorem dX5_votedLength_46 : decode cX5_votedLength 46 = .ok (.iload_n 3, 1) := by decide +kernel
theorem dX5_votedLength_47 : decode cX5_votedLength 47 = .ok (.if_icmp .ne 7, 3) := by decide +kernel
theorem dX5_votedLength_50 : decode cX5_votedLength 50 = .ok (.iconst 1, 1) := by decide +kernel
theorem dX5_votedLength_51 : decode cX5_votedLength 51 = .ok (.goto 4, 3) := by decide +kernel
theorem dX5_votedLength_54 : decode cX5_votedLength 54 = .ok (.iconst 0, 1) := by decide +kernel
theorem dX5_votedLength_55 : decode cX5_votedLength 55 = .ok (.iadd, 1) := by decide +kernel
theorem dX5_votedLength_56 : decode cX5_votedLength 56 = .ok (.istore 4, 2) := by decide +kernel
theorem dX5_votedLength_58 : decode cX5_votedLength 58 = .ok (.iinc 5 1, 3) := by decide +kernel
theorem dX5_votedLength_61 : decode cX5_votedLength 61 = .ok (.goto (-43), 3) := by decide +kernel
theorem dX5_votedLength_64 : decode cX5_votedLength 64 = .ok (.iload 4, 2) := by decide +kernel
theorem dX5_votedLength_66 : decode cX5_votedLength 66 = .ok (.iload_n 2, 1) := by decide +kernel
theorem dX5_votedLength_67 : decode cX5_votedLength 67 = .ok (.if_icmp .gt 6, 3) := by decide +kernel
theorem dX5_votedLength_70 : decode cX5_votedLength 70 = .ok (.goto 8, 3) := by decide +kernel
theorem dX5_votedLength_73 : decode cX5_votedLength 73 = .ok (.iload 4, 2) := by decide +kernel
theorem dX5_votedLength_75 : decode cX5_votedLength 75 = .ok (.istore_n 2, 1) := by decide +kernel
theorem dX5_votedLength_76 : decode cX5_votedLength 76 = .ok (.iload_n 3, 1) := by decide +kernel
theorem dX5_votedLength_77 : decode cX5_votedLength 77 = .ok (.istore_n 1, 1) := by decide +kernel
theorem dX5_votedLength_78 : decode cX5_votedLength 78 = .ok (.iinc 3 1, 3) := by decide +kernel
theorem dX5_votedLength_81 : decode cX5_votedLength 81 = .ok (.goto (-75), 3) := by decide +kernel
theorem dX5_votedLength_84 : decode cX5_votedLength 84 = .ok (.iload_n 1, 1) := by decide +kernel
theorem dX5_votedLength_85 : decode cX5_votedLength 85 = .ok (.ireturn, 1) := by decide +kernel
set_option maxRecDepth 20000 in
theorem ggX5_voteLength_X5_votedLength : GoodIn wsX5_voteLength wsX5_votedLength := goodIn_r _ [6, 7, 8, 9, 10, 11, 12, 13, 14, 15, 16, 17, 18, 19, 20, 21, 22, 23, 24, 25, 26] (by decide +kernel) (by decide +kernel)
set_option maxRecDepth 20000 in
theorem gX5_voteLength_X5_votedLength : GoodIn wsX5_voteLength (wsV RX5 153 RX5 yX5_votedLength wsX5_votedLength) := goodIn_app (goodIn_of _ (by decide +kernel)) ggX5_voteLength_X5_votedLength
theorem dX5_voteLength_0 : decode cX5_voteLength 0 = .ok (.aload_n 0, 1) := by decide +kernel
theorem dX5_voteLength_1 : decode cX5_voteLength 1 = .ok (.iconst 0, 1) := by decide +kernel
theorem dX5_voteLength_2 : decode cX5_voteLength 2 = .ok (.putfield 47, 3) := by decide +kernel
theorem dX5_voteLength_5 : decode cX5_voteLength 5 = .ok (.aload_n 0, 1) := by decide +kernel
theorem dX5_voteLength_6 : decode cX5_voteLength 6 = .ok (.invokevirtual 153, 3) := by decide +kernel
theorem dX5_voteLength_9 : decode cX5_voteLength 9 = .ok (.ireturn, 1) := by decide +kernel
theorem dX5_voted_0 : decode cX5_voted 0 = .ok (.iconst 0, 1) := by decide +kernel
theorem dX5_voted_1 : decode cX5_voted 1 = .ok (.istore_n 3, 1) := by decide +kernel
theorem dX5_voted_2 : decode cX5_voted 2 = .ok (.iconst 0, 1) := by decide +kernel
theorem dX5_voted_3 : decode cX5_voted 3 = .ok (.istore 4, 2) := by decide +kernel
theorem dX5_voted_5 : decode cX5_voted 5 = .ok (.bipush 97, 2) := by decide +kernel
theorem dX5_voted_7 : decode cX5_voted 7 = .ok (.istore 5, 2) := by decide +kernel
theorem dX5_voted_9 : decode cX5_voted 9 = .ok (.iload 5, 2) := by decide +kernel
theorem dX5_voted_11 : decode cX5_voted 11 = .ok (.bipush 122, 2) := by decide +kernel
theorem dX5_voted_13 : decode cX5_voted 13 = .ok (.if_icmp .gt 95, 3) := by decide +kernel
theorem dX5_voted_16 : decode cX5_voted 16 = .ok (.iconst 0, 1) := by decide +kernel
theorem dX5_voted_17 : decode cX5_voted 17 = .ok (.istore 6, 2) := by decide +kernel
theorem dX5_voted_19 : decode cX5_voted 19 = .ok (.iconst 0, 1) := by decide +kernel
theorem dX5_voted_20 : decode cX5_voted 20 = .ok (.istore 7, 2) := by decide +kernel
theorem dX5_voted_22 : decode cX5_voted 22 = .ok (.iload 7, 2) := by decide +kernel
theorem dX5_voted_24 : decode cX5_voted 24 = .ok (.aload_n 0, 1) := by decide +kernel
theorem dX5_voted_25 : decode cX5_voted 25 = .ok (.getfield 51, 3) := by decide +kernel
theorem dX5_voted_28 : decode cX5_voted 28 = .ok (.if_icmp .ge 57, 3) := by decide +kernel
theorem dX5_voted_31 : decode cX5_voted 31 = .ok (.iload 6, 2) := by decide +kernel
theorem dX5_voted_33 : decode cX5_voted 33 = .ok (.aload_n 0, 1) := by decide +kernel
theorem dX5_voted_34 : decode cX5_voted 34 = .ok (.getfield 25, 3) := by decide +kernel
theorem dX5_voted_37 : decode cX5_voted 37 = .ok (.iload 7, 2) := by decide +kernel
theorem dX5_voted_39 : decode cX5_voted 39 = .ok (.baload, 1) := by decide +kernel
theorem dX5_voted_40 : decode cX5_voted 40 = .ok (.ifCond .eq 35, 3) := by decide +kernel
theorem dX5_voted_43 : decode cX5_voted 43 = .ok (.aload_n 0, 1) := by decide +kernel
theorem dX5_voted_44 : decode cX5_voted 44 = .ok (.getfield 16, 3) := by decide +kernel
theorem dX5_voted_47 : decode cX5_voted 47 = .ok (.iload 7, 2) := by decide +kernel
theorem dX5_voted_49 : decode cX5_voted 49 = .ok (.iaload, 1) := by decide +kernel
theorem dX5_voted_50 : decode cX5_voted 50 = .ok (.iload_n 2, 1) := by decide +kernel
theorem dX5_voted_51 : decode cX5_voted 51 = .ok (.if_icmp .ne 24, 3) := by decide +kernel
theorem dX5_voted_54 : decode cX5_voted 54 = .ok (.aload_n 0, 1) := by decide +kernel
theorem dX5_voted_55 : decode cX5_voted 55 = .ok (.getfield 13, 3) := by decide +kernel
theorem dX5_voted_58 : decode cX5_voted 58 = .ok (.bipush 120, 2) := by decide +kernel
theorem dX5_voted_60 : decode cX5_voted 60 = .ok (.iload 7, 2) := by decide +kernel
theorem dX5_voted_62 : decode cX5_voted 62 = .ok (.imul, 1) := by decide +kernel
theorem dX5_voted_63 : decode cX5_voted 63 = .ok (.iload_n 1, 1) := by decide +kernel
theorem dX5_voted_64 : decode cX5_voted 64 = .ok (.iadd, 1) := by decide +kernel
theorem dX5_voted_65 : decode cX5_voted 65 = .ok (.iaload, 1) := by decide +kernel
theorem dX5_voted_66 : decode cX5_voted 66 = .ok (.iload 5, 2) := by decide +kernel
theorem dX5_voted_68 : decode cX5_voted 68 = .ok (.if_icmp .ne 7, 3) := by decide +kernel
theorem dX5_voted_71 : decode cX5_voted 71 = .ok (.iconst 1, 1) := by decide +kernel
theorem dX5_voted_72 : decode cX5_voted 72 = .ok (.goto 4, 3) := by decide +kernel
theorem dX5_voted_75 : decode cX5_voted 75 = .ok (.iconst 0, 1) := by decide +kernel
theorem dX5_voted_76 : decode cX5_voted 76 = .ok (.iadd, 1) := by decide +kernel
theorem dX5_voted_77 : decode cX5_voted 77 = .ok (.istore 6, 2) := by decide +kernel
theorem dX5_voted_79 : decode cX5_voted 79 = .ok (.iinc 7 1, 3) := by decide +kernel
theorem dX5_voted_82 : decode cX5_voted 82 = .ok (.goto (-60), 3) := by decide +kernel
theorem dX5_voted_85 : decode cX5_voted 85 = .ok (.iload 6, 2) := by decide +kernel
theorem dX5_voted_87 : decode cX5_voted 87 = .ok (.iload 4, 2) := by decide +kernel
theorem dX5_voted_89 : decode cX5_voted 89 = .ok (.if_icmp .gt 6, 3) := by decide +kernel
theorem dX5_voted_92 : decode cX5_voted 92 = .ok (.goto 10, 3) := by decide +kernel
theorem dX5_voted_95 : decode cX5_voted 95 = .ok (.iload 6, 2) := by decide +kernel
theorem dX5_voted_97 : decode cX5_voted 97 = .ok (.istore 4, 2) := by decide +kernel
theorem dX5_voted_99 : decode cX5_voted 99 = .ok (.iload 5, 2) := by decide +kernel
theorem dX5_voted_101 : decode cX5_voted 101 = .ok (.istore_n 3, 1) := by decide +kernel
theorem dX5_voted_102 : decode cX5_voted 102 = .ok (.iinc 5 1, 3) := by decide +kernel
theorem dX5_voted_105 : decode cX5_voted 105 = .ok (.goto (-96), 3) := by decide +kernel
theorem dX5_voted_108 : decode cX5_voted 108 = .ok (.iload_n 3, 1) := by decide +kernel
theorem dX5_voted_109 : decode cX5_voted 109 = .ok (.ireturn, 1) := by decide +kernel
set_option maxRecDepth 20000 in
theorem ggX5_vote_X5_votedLength : GoodIn wsX5_vote wsX5_votedLength := goodIn_r _ [6, 7, 8, 9, 22, 23, 24, 25, 26, 27, 28, 29, 30, 31, 32, 33, 34, 35, 36, 37, 38] (by decide +kernel) (by decide +kernel)
set_option maxRecDepth 20000 in
theorem gX5_vote_X5_votedLength : GoodIn wsX5_vote (wsV RX5 153 RX5 yX5_votedLength wsX5_votedLength) := goodIn_app (goodIn_of _ (by decide +kernel)) ggX5_vote_X5_votedLength
set_option maxRecDepth 20000 in
theorem ggX5_vote_X5_isIn : GoodIn wsX5_vote wsX5_isIn := goodIn_r _ [12] (by decide +kernel) (by decide +kernel)
set_option maxRecDepth 20000 in
theorem gX5_vote_X5_isIn : GoodIn wsX5_vote (va_wsS RX5 54 yX5_isIn wsX5_isIn) := goodIn_app (goodIn_of _ (by decide +kernel)) ggX5_vote_X5_isIn
set_option maxRecDepth 20000 in
theorem ggX5_vote_X5_voted : GoodIn wsX5_vote wsX5_voted := goodIn_r _ [16, 7, 8, 9, 17, 22, 23, 24, 25, 26, 27, 28, 29, 30, 31, 32, 33, 34, 35, 36, 37, 38] (by decide +kernel) (by decide +kernel)
set_option maxRecDepth 20000 in
theorem gX5_vote_X5_voted : GoodIn wsX5_vote (wsV RX5 156 RX5 yX5_voted wsX5_voted) := goodIn_app (goodIn_of _ (by decide +kernel)) ggX5_vote_X5_voted
set_option maxRecDepth 20000 in
theorem ggX5_vote_X5_no : GoodIn wsX5_vote wsX5_no := goodIn_r _ [21, 1, 22, 23, 24, 25, 26, 27, 28, 29, 30, 31, 32, 33, 34, 35, 36, 37, 38] (by decide +kernel) (by decide +kernel)
set_option maxRecDepth 20000 in
theorem gX5_vote_X5_no : GoodIn wsX5_vote (wsV RX5 64 RX5 yX5_no wsX5_no) := goodIn_app (goodIn_of _ (by decide +kernel)) ggX5_vote_X5_no
theorem dX5_vote_0 : decode cX5_vote 0 = .ok (.aload_n 0, 1) := by decide +kernel
theorem dX5_vote_1 : decode cX5_vote 1 = .ok (.iconst 0, 1) := by decide +kernel
theorem dX5_vote_2 : decode cX5_vote 2 = .ok (.putfield 47, 3) := by decide +kernel
theorem dX5_vote_5 : decode cX5_vote 5 = .ok (.aload_n 0, 1) := by decide +kernel
theorem dX5_vote_6 : decode cX5_vote 6 = .ok (.invokevirtual 153, 3) := by decide +kernel
theorem dX5_vote_9 : decode cX5_vote 9 = .ok (.istore_n 2, 1) := by decide +kernel
theorem dX5_vote_10 : decode cX5_vote 10 = .ok (.iload_n 1, 1) := by decide +kernel
theorem dX5_vote_11 : decode cX5_vote 11 = .ok (.iconst 0, 1) := by decide +kernel
theorem dX5_vote_12 : decode cX5_vote 12 = .ok (.iload_n 2, 1) := by decide +kernel
theorem dX5_vote_13 : decode cX5_vote 13 = .ok (.iconst 1, 1) := by decide +kernel
theorem dX5_vote_14 : decode cX5_vote 14 = .ok (.isub, 1) := by decide +kernel
theorem dX5_vote_15 : decode cX5_vote 15 = .ok (.invokestatic 54, 3) := by decide +kernel
theorem dX5_vote_18 : decode cX5_vote 18 = .ok (.ifCond .eq 12, 3) := by decide +kernel
theorem dX5_vote_21 : decode cX5_vote 21 = .ok (.aload_n 0, 1) := by decide +kernel
theorem dX5_vote_22 : decode cX5_vote 22 = .ok (.iload_n 1, 1) := by decide +kernel
theorem dX5_vote_23 : decode cX5_vote 23 = .ok (.iload_n 2, 1) := by decide +kernel
theorem dX5_vote_24 : decode cX5_vote 24 = .ok (.invokevirtual 156, 3) := by decide +kernel
theorem dX5_vote_27 : decode cX5_vote 27 = .ok (.goto 8, 3) := by decide +kernel
theorem dX5_vote_30 : decode cX5_vote 30 = .ok (.aload_n 0, 1) := by decide +kernel
theorem dX5_vote_31 : decode cX5_vote 31 = .ok (.iconst 1, 1) := by decide +kernel
theorem dX5_vote_32 : decode cX5_vote 32 = .ok (.invokevirtual 64, 3) := by decide +kernel
theorem dX5_vote_35 : decode cX5_vote 35 = .ok (.ireturn, 1) := by decide +kernel
set_option maxRecDepth 20000 in
theorem ggX5_voteDistance_X5_isText : GoodIn wsX5_voteDistance wsX5_isText := goodIn_r _ [8, 9, 10, 11, 7, 12, 37, 38, 39, 40, 41, 42, 43, 44, 45, 46, 47, 48, 49, 50, 51, 52, 53] (by decide +kernel) (by decide +kernel)
set_option maxRecDepth 20000 in
theorem gX5_voteDistance_X5_isText : GoodIn wsX5_voteDistance (wsV RX5 78 RX5 yX5_isText wsX5_isText) := goodIn_app (goodIn_of _ (by decide +kernel)) ggX5_voteDistance_X5_isText
set_option maxRecDepth 20000 in
theorem ggX5_voteDistance_X5_no : GoodIn wsX5_voteDistance wsX5_no := goodIn_r _ [16, 1, 37, 38, 39, 40, 41, 42, 43, 44, 45, 46, 47, 48, 49, 50, 51, 52, 53] (by decide +kernel) (by decide +kernel)
set_option maxRecDepth 20000 in
theorem gX5_voteDistance_X5_no : GoodIn wsX5_voteDistance (wsV RX5 64 RX5 yX5_no wsX5_no) := goodIn_app (goodIn_of _ (by decide +kernel)) ggX5_voteDistance_X5_no
set_option maxRecDepth 20000 in
theorem ggX5_voteDistance_X5_votedLength : GoodIn wsX5_voteDistance wsX5_votedLength := goodIn_r _ [20, 9, 21, 22, 37, 38, 39, 40, 41, 42, 43, 44, 45, 46, 47, 48, 49, 50, 51, 52, 53] (by decide +kernel) (by decide +kernel)
set_option maxRecDepth 20000 in
theorem gX5_voteDistance_X5_votedLength : GoodIn wsX5_voteDistance (wsV RX5 153 RX5 yX5_votedLength wsX5_votedLength) := goodIn_app (goodIn_of _ (by decide +kernel)) ggX5_voteDistance_X5_votedLength
set_option maxRecDepth 20000 in
theorem ggX5_voteDistance_X5_voted : GoodIn wsX5_voteDistance wsX5_voted := goodIn_r _ [26, 9, 21, 22, 27, 37, 38, 39, 40, 41, 42, 43, 44, 45, 46, 47, 48, 49, 50, 51, 52, 53] (by decide +kernel) (by decide +kernel)
set_option maxRecDepth 20000 in
theorem gX5_voteDistance_X5_voted : GoodIn wsX5_voteDistance (wsV RX5 156 RX5 yX5_voted wsX5_voted) := goodIn_app (goodIn_of _ (by decide +kernel)) ggX5_voteDistance_X5_voted
set_option maxRecDepth 20000 in
theorem ggX5_voteDistance_X5_distanceOf : GoodIn wsX5_voteDistance wsX5_distanceOf := goodIn_r _ [31, 22, 32, 2, 3, 27, 33, 34, 35, 36, 37, 38, 39, 40, 41, 42, 43, 44, 45, 46, 47, 48, 49, 50, 51, 52, 53] (by decide +kernel) (by decide +kernel)
set_option maxRecDepth 20000 in
theorem gX5_voteDistance_X5_distanceOf : GoodIn wsX5_voteDistance (wsV RX5 128 RX5 yX5_distanceOf wsX5_distanceOf) := goodIn_app (goodIn_of _ (by decide +kernel)) ggX5_voteDistance_X5_distanceOf
theorem dX5_voteDistance_0 : decode cX5_voteDistance 0 = .ok (.aload_n 0, 1) := by decide +kernel
theorem dX5_voteDistance_1 : decode cX5_voteDistance 1 = .ok (.iconst 0, 1) := by decide +kernel
theorem dX5_voteDistance_2 : decode cX5_voteDistance 2 = .ok (.putfield 47, 3) := by decide +kernel
theorem dX5_voteDistance_5 : decode cX5_voteDistance 5 = .ok (.aload_n 0, 1) := by decide +kernel
theorem dX5_voteDistance_6 : decode cX5_voteDistance 6 = .ok (.iload_n 1, 1) := by decide +kernel
theorem dX5_voteDistance_7 : decode cX5_voteDistance 7 = .ok (.invokevirtual 78, 3) := by decide +kernel
theorem dX5_voteDistance_10 : decode cX5_voteDistance 10 = .ok (.ifCond .ne 9, 3) := by decide +kernel
theorem dX5_voteDistance_13 : decode cX5_voteDistance 13 = .ok (.aload_n 0, 1) := by decide +kernel
theorem dX5_voteDistance_14 : decode cX5_voteDistance 14 = .ok (.iconst 1, 1) := by decide +kernel
theorem dX5_voteDistance_15 : decode cX5_voteDistance 15 = .ok (.invokevirtual 64, 3) := by decide +kernel
theorem dX5_voteDistance_18 : decode cX5_voteDistance 18 = .ok (.ireturn, 1) := by decide +kernel
theorem dX5_voteDistance_19 : decode cX5_voteDistance 19 = .ok (.aload_n 0, 1) := by decide +kernel
theorem dX5_voteDistance_20 : decode cX5_voteDistance 20 = .ok (.aload_n 0, 1) := by decide +kernel
theorem dX5_voteDistance_21 : decode cX5_voteDistance 21 = .ok (.invokevirtual 153, 3) := by decide +kernel
theorem dX5_voteDistance_24 : decode cX5_voteDistance 24 = .ok (.putfield 85, 3) := by decide +kernel
theorem dX5_voteDistance_27 : decode cX5_voteDistance 27 = .ok (.iconst 0, 1) := by decide +kernel
theorem dX5_voteDistance_28 : decode cX5_voteDistance 28 = .ok (.istore_n 2, 1) := by decide +kernel
theorem dX5_voteDistance_29 : decode cX5_voteDistance 29 = .ok (.iload_n 2, 1) := by decide +kernel
theorem dX5_voteDistance_30 : decode cX5_voteDistance 30 = .ok (.aload_n 0, 1) := by decide +kernel
theorem dX5_voteDistance_31 : decode cX5_voteDistance 31 = .ok (.getfield 85, 3) := by decide +kernel
theorem dX5_voteDistance_34 : decode cX5_voteDistance 34 = .ok (.if_icmp .ge 24, 3) := by decide +kernel
theorem dX5_voteDistance_37 : decode cX5_voteDistance 37 = .ok (.aload_n 0, 1) := by decide +kernel
theorem dX5_voteDistance_38 : decode cX5_voteDistance 38 = .ok (.getfield 38, 3) := by decide +kernel
theorem dX5_voteDistance_41 : decode cX5_voteDistance 41 = .ok (.iload_n 2, 1) := by decide +kernel
theorem dX5_voteDistance_42 : decode cX5_voteDistance 42 = .ok (.aload_n 0, 1) := by decide +kernel
theorem dX5_voteDistance_43 : decode cX5_voteDistance 43 = .ok (.iload_n 2, 1) := by decide +kernel
theorem dX5_voteDistance_44 : decode cX5_voteDistance 44 = .ok (.aload_n 0, 1) := by decide +kernel
theorem dX5_voteDistance_45 : decode cX5_voteDistance 45 = .ok (.getfield 85, 3) := by decide +kernel
theorem dX5_voteDistance_48 : decode cX5_voteDistance 48 = .ok (.invokevirtual 156, 3) := by decide +kernel
theorem dX5_voteDistance_51 : decode cX5_voteDistance 51 = .ok (.iastore, 1) := by decide +kernel
theorem dX5_voteDistance_52 : decode cX5_voteDistance 52 = .ok (.iinc 2 1, 3) := by decide +kernel
theorem dX5_voteDistance_55 : decode cX5_voteDistance 55 = .ok (.goto (-26), 3) := by decide +kernel
theorem dX5_voteDistance_58 : decode cX5_voteDistance 58 = .ok (.aload_n 0, 1) := by decide +kernel
theorem dX5_voteDistance_59 : decode cX5_voteDistance 59 = .ok (.iload_n 1, 1) := by decide +kernel
theorem dX5_voteDistance_60 : decode cX5_voteDistance 60 = .ok (.invokevirtual 128, 3) := by decide +kernel
theorem dX5_voteDistance_63 : decode cX5_voteDistance 63 = .ok (.ireturn, 1) := by decide +kernel
set_option maxRecDepth 20000 in
theorem ggX5_trial_X5_isText : GoodIn wsX5_trial wsX5_isText := goodIn_r _ [8, 9, 10, 11, 7, 12, 73, 74, 75, 76, 77, 78, 79, 80, 81, 82, 83, 84, 85, 86, 87, 88, 89] (by decide +kernel) (by decide +kernel)
set_option maxRecDepth 20000 in
theorem gX5_trial_X5_isText : GoodIn wsX5_trial (wsV RX5 78 RX5 yX5_isText wsX5_isText) := goodIn_app (goodIn_of _ (by decide +kernel)) ggX5_trial_X5_isText
set_option maxRecDepth 20000 in
theorem ggX5_trial_X5_isScribe : GoodIn wsX5_trial wsX5_isScribe := goodIn_r _ [16, 17, 10, 11, 7, 12, 73, 74, 75, 76, 77, 78, 79, 80, 81, 82, 83, 84, 85, 86, 87, 88, 89] (by decide +kernel) (by decide +kernel)
set_option maxRecDepth 20000 in
theorem gX5_trial_X5_isScribe : GoodIn wsX5_trial (wsV RX5 82 RX5 yX5_isScribe wsX5_isScribe) := goodIn_app (goodIn_of _ (by decide +kernel)) ggX5_trial_X5_isScribe
set_option maxRecDepth 20000 in
theorem ggX5_trial_X5_isIn : GoodIn wsX5_trial wsX5_isIn := goodIn_r _ [12] (by decide +kernel) (by decide +kernel)
set_option maxRecDepth 20000 in
theorem gX5_trial_X5_isIn : GoodIn wsX5_trial (va_wsS RX5 54 yX5_isIn wsX5_isIn) := goodIn_app (goodIn_of _ (by decide +kernel)) ggX5_trial_X5_isIn
set_option maxRecDepth 20000 in
theorem ggX5_trial_X5_no : GoodIn wsX5_trial wsX5_no := goodIn_r _ [21, 1, 73, 74, 75, 76, 77, 78, 79, 80, 81, 82, 83, 84, 85, 86, 87, 88, 89] (by decide +kernel) (by decide +kernel)
set_option maxRecDepth 20000 in
theorem gX5_trial_X5_no : GoodIn wsX5_trial (wsV RX5 64 RX5 yX5_no wsX5_no) := goodIn_app (goodIn_of _ (by decide +kernel)) ggX5_trial_X5_no
set_option maxRecDepth 20000 in
theorem ggX5_trial_X5_take : GoodIn wsX5_trial wsX5_take := goodIn_r _ [25, 26, 3, 27, 28, 29, 30, 31, 32, 73, 74, 75, 76, 77, 78, 79, 80, 81, 82, 83, 84, 85, 86, 87, 88, 89] (by decide +kernel) (by decide +kernel)
set_option maxRecDepth 20000 in
theorem gX5_trial_X5_take : GoodIn wsX5_trial (wsV RX5 109 RX5 yX5_take wsX5_take) := goodIn_app (goodIn_of _ (by decide +kernel)) ggX5_trial_X5_take
set_option maxRecDepth 20000 in
theorem ggX5_trial_X5_copyBy : GoodIn wsX5_trial wsX5_copyBy := goodIn_r _ [36, 37, 38, 39, 40, 41, 7, 42, 3, 28, 43, 44, 45, 46, 47, 48, 49, 50, 51, 29, 30, 31, 32, 52, 53, 54, 55, 56, 57, 58, 59, 60, 61, 62, 63, 73, 74, 75, 76, 77, 78, 79, 80, 81, 82, 83, 84, 85, 86, 87, 88, 89] (by decide +kernel) (by decide +kernel)
set_option maxRecDepth 20000 in
theorem gX5_trial_X5_copyBy : GoodIn wsX5_trial (wsV RX5 112 RX5 yX5_copyBy wsX5_copyBy) := goodIn_app (goodIn_of _ (by decide +kernel)) ggX5_trial_X5_copyBy
set_option maxRecDepth 20000 in
theorem ggX5_trial_X5_distanceOf : GoodIn wsX5_trial wsX5_distanceOf := goodIn_r _ [67, 26, 68, 3, 28, 27, 69, 70, 71, 72, 73, 74, 75, 76, 77, 78, 79, 80, 81, 82, 83, 84, 85, 86, 87, 88, 89] (by decide +kernel) (by decide +kernel)
set_option maxRecDepth 20000 in
theorem gX5_trial_X5_distanceOf : GoodIn wsX5_trial (wsV RX5 128 RX5 yX5_distanceOf wsX5_distanceOf) := goodIn_app (goodIn_of _ (by decide +kernel)) ggX5_trial_X5_distanceOf
theorem dX5_trial_0 : decode cX5_trial 0 = .ok (.aload_n 0, 1) := by decide +kernel
theorem dX5_trial_1 : decode cX5_trial 1 = .ok (.iconst 0, 1) := by decide +kernel
theorem dX5_trial_2 : decode cX5_trial 2 = .ok (.putfield 47, 3) := by decide +kernel
theorem dX5_trial_5 : decode cX5_trial 5 = .ok (.aload_n 0, 1) := by decide +kernel
theorem dX5_trial_6 : decode cX5_trial 6 = .ok (.iload_n 1, 1) := by decide +kernel
theorem dX5_trial_7 : decode cX5_trial 7 = .ok (.invokevirtual 78, 3) := by decide +kernel
theorem dX5_trial_10 : decode cX5_trial 10 = .ok (.ifCond .eq 21, 3) := by decide +kernel
theorem dX5_trial_13 : decode cX5_trial 13 = .ok (.aload_n 0, 1) := by decide +kernel
theorem dX5_trial_14 : decode cX5_trial 14 = .ok (.iload_n 2, 1) := by decide +kernel
theorem dX5_trial_15 : decode cX5_trial 15 = .ok (.invokevirtual 82, 3) := by decide +kernel
theorem dX5_trial_18 : decode cX5_trial 18 = .ok (.ifCond .eq 13, 3) := by decide +kernel
theorem dX5_trial_21 : decode cX5_trial 21 = .ok (.iload 4, 2) := by decide +kernel
theorem dX5_trial_23 : decode cX5_trial 23 = .ok (.iconst 0, 1) := by decide +kernel
theorem dX5_trial_24 : decode cX5_trial 24 = .ok (.iconst 1, 1) := by decide +kernel
theorem dX5_trial_25 : decode cX5_trial 25 = .ok (.invokestatic 54, 3) := by decide +kernel
theorem dX5_trial_28 : decode cX5_trial 28 = .ok (.ifCond .ne 9, 3) := by decide +kernel
theorem dX5_trial_31 : decode cX5_trial 31 = .ok (.aload_n 0, 1) := by decide +kernel
theorem dX5_trial_32 : decode cX5_trial 32 = .ok (.iconst 1, 1) := by decide +kernel
theorem dX5_trial_33 : decode cX5_trial 33 = .ok (.invokevirtual 64, 3) := by decide +kernel
theorem dX5_trial_36 : decode cX5_trial 36 = .ok (.ireturn, 1) := by decide +kernel
theorem dX5_trial_37 : decode cX5_trial 37 = .ok (.iload_n 3, 1) := by decide +kernel
theorem dX5_trial_38 : decode cX5_trial 38 = .ok (.iconst 1, 1) := by decide +kernel
theorem dX5_trial_39 : decode cX5_trial 39 = .ok (.bipush 20, 2) := by decide +kernel
theorem dX5_trial_41 : decode cX5_trial 41 = .ok (.invokestatic 54, 3) := by decide +kernel
theorem dX5_trial_44 : decode cX5_trial 44 = .ok (.ifCond .ne 9, 3) := by decide +kernel
theorem dX5_trial_47 : decode cX5_trial 47 = .ok (.aload_n 0, 1) := by decide +kernel
theorem dX5_trial_48 : decode cX5_trial 48 = .ok (.iconst 2, 1) := by decide +kernel
theorem dX5_trial_49 : decode cX5_trial 49 = .ok (.invokevirtual 64, 3) := by decide +kernel
theorem dX5_trial_52 : decode cX5_trial 52 = .ok (.ireturn, 1) := by decide +kernel
theorem dX5_trial_53 : decode cX5_trial 53 = .ok (.aload_n 0, 1) := by decide +kernel
theorem dX5_trial_54 : decode cX5_trial 54 = .ok (.getfield 25, 3) := by decide +kernel
theorem dX5_trial_57 : decode cX5_trial 57 = .ok (.iload_n 1, 1) := by decide +kernel
theorem dX5_trial_58 : decode cX5_trial 58 = .ok (.baload, 1) := by decide +kernel
theorem dX5_trial_59 : decode cX5_trial 59 = .ok (.ifCond .ne 9, 3) := by decide +kernel
theorem dX5_trial_62 : decode cX5_trial 62 = .ok (.aload_n 0, 1) := by decide +kernel
theorem dX5_trial_63 : decode cX5_trial 63 = .ok (.iconst 3, 1) := by decide +kernel
theorem dX5_trial_64 : decode cX5_trial 64 = .ok (.invokevirtual 64, 3) := by decide +kernel
theorem dX5_trial_67 : decode cX5_trial 67 = .ok (.ireturn, 1) := by decide +kernel
theorem dX5_trial_68 : decode cX5_trial 68 = .ok (.aload_n 0, 1) := by decide +kernel
theorem dX5_trial_69 : decode cX5_trial 69 = .ok (.iload_n 1, 1) := by decide +kernel
theorem dX5_trial_70 : decode cX5_trial 70 = .ok (.invokevirtual 109, 3) := by decide +kernel
theorem dX5_trial_73 : decode cX5_trial 73 = .ok (.iconst 0, 1) := by decide +kernel
theorem dX5_trial_74 : decode cX5_trial 74 = .ok (.istore 5, 2) := by decide +kernel
theorem dX5_trial_76 : decode cX5_trial 76 = .ok (.iload 5, 2) := by decide +kernel
theorem dX5_trial_78 : decode cX5_trial 78 = .ok (.iload_n 3, 1) := by decide +kernel
theorem dX5_trial_79 : decode cX5_trial 79 = .ok (.if_icmp .ge 14, 3) := by decide +kernel
theorem dX5_trial_82 : decode cX5_trial 82 = .ok (.aload_n 0, 1) := by decide +kernel
theorem dX5_trial_83 : decode cX5_trial 83 = .ok (.iload_n 2, 1) := by decide +kernel
theorem dX5_trial_84 : decode cX5_trial 84 = .ok (.invokevirtual 112, 3) := by decide +kernel
theorem dX5_trial_87 : decode cX5_trial 87 = .ok (.iinc 5 1, 3) := by decide +kernel
theorem dX5_trial_90 : decode cX5_trial 90 = .ok (.goto (-14), 3) := by decide +kernel
theorem dX5_trial_93 : decode cX5_trial 93 = .ok (.iload 4, 2) := by decide +kernel
theorem dX5_trial_95 : decode cX5_trial 95 = .ok (.ifCond .ne 10, 3) := by decide +kernel
theorem dX5_trial_98 : decode cX5_trial 98 = .ok (.aload_n 0, 1) := by decide +kernel
theorem dX5_trial_99 : decode cX5_trial 99 = .ok (.getfield 85, 3) := by decide +kernel
theorem dX5_trial_102 : decode cX5_trial 102 = .ok (.goto 8, 3) := by decide +kernel
theorem dX5_trial_105 : decode cX5_trial 105 = .ok (.aload_n 0, 1) := by decide +kernel
theorem dX5_trial_106 : decode cX5_trial 106 = .ok (.iload_n 1, 1) := by decide +kernel
theorem dX5_trial_107 : decode cX5_trial 107 = .ok (.invokevirtual 128, 3) := by decide +kernel
theorem dX5_trial_110 : decode cX5_trial 110 = .ok (.ireturn, 1) := by decide +kernel
set_option maxRecDepth 20000 in
theorem ggX5_advise_X5_isText : GoodIn wsX5_advise wsX5_isText := goodIn_r _ [8, 9, 10, 11, 7, 12, 69, 70, 71, 72, 73, 74, 75, 76, 77, 78, 79, 80, 81, 82, 83, 84, 85] (by decide +kernel) (by decide +kernel)
set_option maxRecDepth 20000 in
theorem gX5_advise_X5_isText : GoodIn wsX5_advise (wsV RX5 78 RX5 yX5_isText wsX5_isText) := goodIn_app (goodIn_of _ (by decide +kernel)) ggX5_advise_X5_isText
set_option maxRecDepth 20000 in
theorem ggX5_advise_X5_no : GoodIn wsX5_advise wsX5_no := goodIn_r _ [16, 1, 69, 70, 71, 72, 73, 74, 75, 76, 77, 78, 79, 80, 81, 82, 83, 84, 85] (by decide +kernel) (by decide +kernel)
set_option maxRecDepth 20000 in
theorem gX5_advise_X5_no : GoodIn wsX5_advise (wsV RX5 64 RX5 yX5_no wsX5_no) := goodIn_app (goodIn_of _ (by decide +kernel)) ggX5_advise_X5_no
set_option maxRecDepth 20000 in
theorem ggX5_advise_X5_take : GoodIn wsX5_advise wsX5_take := goodIn_r _ [20, 21, 22, 23, 24, 25, 26, 27, 28, 69, 70, 71, 72, 73, 74, 75, 76, 77, 78, 79, 80, 81, 82, 83, 84, 85] (by decide +kernel) (by decide +kernel)
set_option maxRecDepth 20000 in
theorem gX5_advise_X5_take : GoodIn wsX5_advise (wsV RX5 109 RX5 yX5_take wsX5_take) := goodIn_app (goodIn_of _ (by decide +kernel)) ggX5_advise_X5_take
set_option maxRecDepth 20000 in
theorem ggX5_advise_X5_copyBy : GoodIn wsX5_advise wsX5_copyBy := goodIn_r _ [32, 33, 34, 35, 36, 37, 7, 38, 22, 24, 39, 40, 41, 42, 43, 44, 45, 46, 47, 25, 26, 27, 28, 48, 49, 50, 51, 52, 53, 54, 55, 56, 57, 58, 59, 69, 70, 71, 72, 73, 74, 75, 76, 77, 78, 79, 80, 81, 82, 83, 84, 85] (by decide +kernel) (by decide +kernel)
set_option maxRecDepth 20000 in
theorem gX5_advise_X5_copyBy : GoodIn wsX5_advise (wsV RX5 112 RX5 yX5_copyBy wsX5_copyBy) := goodIn_app (goodIn_of _ (by decide +kernel)) ggX5_advise_X5_copyBy
set_option maxRecDepth 20000 in
theorem ggX5_advise_X5_distanceOf : GoodIn wsX5_advise wsX5_distanceOf := goodIn_r _ [63, 21, 64, 22, 24, 23, 65, 66, 67, 68, 69, 70, 71, 72, 73, 74, 75, 76, 77, 78, 79, 80, 81, 82, 83, 84, 85] (by decide +kernel) (by decide +kernel)
set_option maxRecDepth 20000 in
theorem gX5_advise_X5_distanceOf : GoodIn wsX5_advise (wsV RX5 128 RX5 yX5_distanceOf wsX5_distanceOf) := goodIn_app (goodIn_of _ (by decide +kernel)) ggX5_advise_X5_distanceOf
theorem dX5_advise_0 : decode cX5_advise 0 = .ok (.aload_n 0, 1) := by decide +kernel
theorem dX5_advise_1 : decode cX5_advise 1 = .ok (.iconst 0, 1) := by decide +kernel
theorem dX5_advise_2 : decode cX5_advise 2 = .ok (.putfield 47, 3) := by decide +kernel
theorem dX5_advise_5 : decode cX5_advise 5 = .ok (.aload_n 0, 1) := by decide +kernel
theorem dX5_advise_6 : decode cX5_advise 6 = .ok (.iload_n 1, 1) := by decide +kernel
theorem dX5_advise_7 : decode cX5_advise 7 = .ok (.invokevirtual 78, 3) := by decide +kernel
theorem dX5_advise_10 : decode cX5_advise 10 = .ok (.ifCond .ne 9, 3) := by decide +kernel
theorem dX5_advise_13 : decode cX5_advise 13 = .ok (.aload_n 0, 1) := by decide +kernel
theorem dX5_advise_14 : decode cX5_advise 14 = .ok (.iconst 1, 1) := by decide +kernel
theorem dX5_advise_15 : decode cX5_advise 15 = .ok (.invokevirtual 64, 3) := by decide +kernel
theorem dX5_advise_18 : decode cX5_advise 18 = .ok (.ireturn, 1) := by decide +kernel
theorem dX5_advise_19 : decode cX5_advise 19 = .ok (.aload_n 0, 1) := by decide +kernel
theorem dX5_advise_20 : decode cX5_advise 20 = .ok (.getfield 25, 3) := by decide +kernel
theorem dX5_advise_23 : decode cX5_advise 23 = .ok (.iload_n 1, 1) := by decide +kernel
theorem dX5_advise_24 : decode cX5_advise 24 = .ok (.baload, 1) := by decide +kernel
theorem dX5_advise_25 : decode cX5_advise 25 = .ok (.ifCond .ne 9, 3) := by decide +kernel
theorem dX5_advise_28 : decode cX5_advise 28 = .ok (.aload_n 0, 1) := by decide +kernel
theorem dX5_advise_29 : decode cX5_advise 29 = .ok (.iconst 2, 1) := by decide +kernel
theorem dX5_advise_30 : decode cX5_advise 30 = .ok (.invokevirtual 64, 3) := by decide +kernel
theorem dX5_advise_33 : decode cX5_advise 33 = .ok (.ireturn, 1) := by decide +kernel
theorem dX5_advise_34 : decode cX5_advise 34 = .ok (.iconst (-1), 1) := by decide +kernel
theorem dX5_advise_35 : decode cX5_advise 35 = .ok (.istore_n 2, 1) := by decide +kernel
theorem dX5_advise_36 : decode cX5_advise 36 = .ok (.iconst 0, 1) := by decide +kernel
theorem dX5_advise_37 : decode cX5_advise 37 = .ok (.istore_n 3, 1) := by decide +kernel
theorem dX5_advise_38 : decode cX5_advise 38 = .ok (.iconst 0, 1) := by decide +kernel
theorem dX5_advise_39 : decode cX5_advise 39 = .ok (.istore 4, 2) := by decide +kernel
theorem dX5_advise_41 : decode cX5_advise 41 = .ok (.iload 4, 2) := by decide +kernel
theorem dX5_advise_43 : decode cX5_advise 43 = .ok (.aload_n 0, 1) := by decide +kernel
theorem dX5_advise_44 : decode cX5_advise 44 = .ok (.getfield 58, 3) := by decide +kernel
theorem dX5_advise_47 : decode cX5_advise 47 = .ok (.if_icmp .ge 47, 3) := by decide +kernel
theorem dX5_advise_50 : decode cX5_advise 50 = .ok (.aload_n 0, 1) := by decide +kernel
theorem dX5_advise_51 : decode cX5_advise 51 = .ok (.iload_n 1, 1) := by decide +kernel
theorem dX5_advise_52 : decode cX5_advise 52 = .ok (.invokevirtual 109, 3) := by decide +kernel
theorem dX5_advise_55 : decode cX5_advise 55 = .ok (.aload_n 0, 1) := by decide +kernel
theorem dX5_advise_56 : decode cX5_advise 56 = .ok (.iload 4, 2) := by decide +kernel
theorem dX5_advise_58 : decode cX5_advise 58 = .ok (.invokevirtual 112, 3) := by decide +kernel
theorem dX5_advise_61 : decode cX5_advise 61 = .ok (.aload_n 0, 1) := by decide +kernel
theorem dX5_advise_62 : decode cX5_advise 62 = .ok (.iload_n 1, 1) := by decide +kernel
theorem dX5_advise_63 : decode cX5_advise 63 = .ok (.invokevirtual 128, 3) := by decide +kernel
theorem dX5_advise_66 : decode cX5_advise 66 = .ok (.istore 5, 2) := by decide +kernel
theorem dX5_advise_68 : decode cX5_advise 68 = .ok (.iload_n 2, 1) := by decide +kernel
theorem dX5_advise_69 : decode cX5_advise 69 = .ok (.iconst (-1), 1) := by decide +kernel
theorem dX5_advise_70 : decode cX5_advise 70 = .ok (.if_icmp .eq 12, 3) := by decide +kernel
theorem dX5_advise_73 : decode cX5_advise 73 = .ok (.iload 5, 2) := by decide +kernel
theorem dX5_advise_75 : decode cX5_advise 75 = .ok (.iload_n 3, 1) := by decide +kernel
theorem dX5_advise_76 : decode cX5_advise 76 = .ok (.if_icmp .lt 6, 3) := by decide +kernel
theorem dX5_advise_79 : decode cX5_advise 79 = .ok (.goto 9, 3) := by decide +kernel
theorem dX5_advise_82 : decode cX5_advise 82 = .ok (.iload 4, 2) := by decide +kernel
theorem dX5_advise_84 : decode cX5_advise 84 = .ok (.istore_n 2, 1) := by decide +kernel
theorem dX5_advise_85 : decode cX5_advise 85 = .ok (.iload 5, 2) := by decide +kernel
theorem dX5_advise_87 : decode cX5_advise 87 = .ok (.istore_n 3, 1) := by decide +kernel
theorem dX5_advise_88 : decode cX5_advise 88 = .ok (.iinc 4 1, 3) := by decide +kernel
theorem dX5_advise_91 : decode cX5_advise 91 = .ok (.goto (-50), 3) := by decide +kernel
theorem dX5_advise_94 : decode cX5_advise 94 = .ok (.iload_n 2, 1) := by decide +kernel
theorem dX5_advise_95 : decode cX5_advise 95 = .ok (.ireturn, 1) := by decide +kernel
set_option maxRecDepth 20000 in
theorem ggX5_decay_X5_origin : GoodIn wsX5_decay wsX5_origin := goodIn_r _ [8, 9, 43, 44, 45, 46, 47, 48, 49, 50, 51, 52, 53, 54, 55, 56, 57, 58, 59] (by decide +kernel) (by decide +kernel)
set_option maxRecDepth 20000 in
theorem gX5_decay_X5_origin : GoodIn wsX5_decay (wsV RX5 141 RX5 yX5_origin wsX5_origin) := goodIn_app (goodIn_of _ (by decide +kernel)) ggX5_decay_X5_origin
set_option maxRecDepth 20000 in
theorem ggX5_decay_X5_apart : GoodIn wsX5_decay wsX5_apart := goodIn_r _ [13, 14, 15, 16, 17, 18, 19, 20, 21, 22, 23, 24, 7, 25, 26, 27, 28, 29, 30, 31, 32, 33, 34, 35, 36, 37, 38, 43, 44, 45, 46, 47, 48, 49, 50, 51, 52, 53, 54, 55, 56, 57, 58, 59] (by decide +kernel) (by decide +kernel)
set_option maxRecDepth 20000 in
theorem gX5_decay_X5_apart : GoodIn wsX5_decay (wsV RX5 138 RX5 yX5_apart wsX5_apart) := goodIn_app (goodIn_of _ (by decide +kernel)) ggX5_decay_X5_apart
set_option maxRecDepth 20000 in
theorem ggX5_decay_X5_there : GoodIn wsX5_decay wsX5_there := goodIn_r _ [42, 2, 3, 43, 44, 45, 46, 47, 48, 49, 50, 51, 52, 53, 54, 55, 56, 57, 58, 59] (by decide +kernel) (by decide +kernel)
set_option maxRecDepth 20000 in
theorem gX5_decay_X5_there : GoodIn wsX5_decay (wsV RX5 121 RX5 yX5_there wsX5_there) := goodIn_app (goodIn_of _ (by decide +kernel)) ggX5_decay_X5_there
theorem dX5_decay_0 : decode cX5_decay 0 = .ok (.aload_n 0, 1) := by decide +kernel
theorem dX5_decay_1 : decode cX5_decay 1 = .ok (.iconst 0, 1) := by decide +kernel
theorem dX5_decay_2 : decode cX5_decay 2 = .ok (.putfield 47, 3) := by decide +kernel
theorem dX5_decay_5 : decode cX5_decay 5 = .ok (.iconst 0, 1) := by decide +kernel
theorem dX5_decay_6 : decode cX5_decay 6 = .ok (.istore_n 1, 1) := by decide +kernel
theorem dX5_decay_7 : decode cX5_decay 7 = .ok (.iconst 0, 1) := by decide +kernel
theorem dX5_decay_8 : decode cX5_decay 8 = .ok (.istore_n 2, 1) := by decide +kernel
theorem dX5_decay_9 : decode cX5_decay 9 = .ok (.iload_n 2, 1) := by decide +kernel
theorem dX5_decay_10 : decode cX5_decay 10 = .ok (.aload_n 0, 1) := by decide +kernel
theorem dX5_decay_11 : decode cX5_decay 11 = .ok (.getfield 51, 3) := by decide +kernel
theorem dX5_decay_14 : decode cX5_decay 14 = .ok (.if_icmp .ge 35, 3) := by decide +kernel
theorem dX5_decay_17 : decode cX5_decay 17 = .ok (.iload_n 1, 1) := by decide +kernel
theorem dX5_decay_18 : decode cX5_decay 18 = .ok (.aload_n 0, 1) := by decide +kernel
theorem dX5_decay_19 : decode cX5_decay 19 = .ok (.getfield 25, 3) := by decide +kernel
theorem dX5_decay_22 : decode cX5_decay 22 = .ok (.iload_n 2, 1) := by decide +kernel
theorem dX5_decay_23 : decode cX5_decay 23 = .ok (.baload, 1) := by decide +kernel
theorem dX5_decay_24 : decode cX5_decay 24 = .ok (.ifCond .eq 16, 3) := by decide +kernel
theorem dX5_decay_27 : decode cX5_decay 27 = .ok (.aload_n 0, 1) := by decide +kernel
theorem dX5_decay_28 : decode cX5_decay 28 = .ok (.iload_n 2, 1) := by decide +kernel
theorem dX5_decay_29 : decode cX5_decay 29 = .ok (.aload_n 0, 1) := by decide +kernel
theorem dX5_decay_30 : decode cX5_decay 30 = .ok (.iload_n 2, 1) := by decide +kernel
theorem dX5_decay_31 : decode cX5_decay 31 = .ok (.invokevirtual 141, 3) := by decide +kernel
theorem dX5_decay_34 : decode cX5_decay 34 = .ok (.invokevirtual 138, 3) := by decide +kernel
theorem dX5_decay_37 : decode cX5_decay 37 = .ok (.goto 4, 3) := by decide +kernel
theorem dX5_decay_40 : decode cX5_decay 40 = .ok (.iconst 0, 1) := by decide +kernel
theorem dX5_decay_41 : decode cX5_decay 41 = .ok (.iadd, 1) := by decide +kernel
theorem dX5_decay_42 : decode cX5_decay 42 = .ok (.istore_n 1, 1) := by decide +kernel
theorem dX5_decay_43 : decode cX5_decay 43 = .ok (.iinc 2 1, 3) := by decide +kernel
theorem dX5_decay_46 : decode cX5_decay 46 = .ok (.goto (-37), 3) := by decide +kernel
theorem dX5_decay_49 : decode cX5_decay 49 = .ok (.aload_n 0, 1) := by decide +kernel
theorem dX5_decay_50 : decode cX5_decay 50 = .ok (.invokevirtual 121, 3) := by decide +kernel
theorem dX5_decay_53 : decode cX5_decay 53 = .ok (.ifCond .ne 7, 3) := by decide +kernel
theorem dX5_decay_56 : decode cX5_decay 56 = .ok (.dconst 0, 1) := by decide +kernel
theorem dX5_decay_57 : decode cX5_decay 57 = .ok (.goto 11, 3) := by decide +kernel
theorem dX5_decay_60 : decode cX5_decay 60 = .ok (.iload_n 1, 1) := by decide +kernel
theorem dX5_decay_61 : decode cX5_decay 61 = .ok (.i2d, 1) := by decide +kernel
theorem dX5_decay_62 : decode cX5_decay 62 = .ok (.aload_n 0, 1) := by decide +kernel
theorem dX5_decay_63 : decode cX5_decay 63 = .ok (.invokevirtual 121, 3) := by decide +kernel
theorem dX5_decay_66 : decode cX5_decay 66 = .ok (.i2d, 1) := by decide +kernel
theorem dX5_decay_67 : decode cX5_decay 67 = .ok (.ddiv, 1) := by decide +kernel
theorem dX5_decay_68 : decode cX5_decay 68 = .ok (.dreturn, 1) := by decide +kernel
set_option maxRecDepth 20000 in
theorem ggX5_digest_X5_counted : GoodIn wsX5_digest wsX5_counted := goodIn_r _ [14, 7, 4, 15, 16, 17, 18, 19, 20, 21, 8, 22, 23, 24, 13, 25, 26, 27, 28, 29, 30, 31, 32, 33, 34, 35, 36, 37, 38, 39, 40, 41, 42, 43, 44, 45, 46, 9, 47, 48, 49, 50, 51, 52, 53, 54, 55, 56, 78, 79, 80, 81, 82, 83, 84, 85, 86, 87, 88, 89, 90, 91, 92, 93, 94] (by decide +kernel) (by decide +kernel)
set_option maxRecDepth 20000 in
theorem gX5_digest_X5_counted : GoodIn wsX5_digest (wsV RX5 150 RX5 yX5_counted wsX5_counted) := goodIn_app (goodIn_of _ (by decide +kernel)) ggX5_digest_X5_counted
set_option maxRecDepth 20000 in
theorem ggX5_digest_X5_told : GoodIn wsX5_digest wsX5_told := goodIn_r _ [60, 7, 20, 8, 61, 21, 62, 63, 64, 13, 65, 26, 27, 28, 29, 34, 35, 36, 37, 38, 39, 18, 40, 16, 17, 19, 41, 42, 43, 44, 45, 46, 9, 47, 48, 49, 50, 51, 52, 53, 54, 55, 56, 66, 67, 68, 69, 78, 79, 80, 81, 82, 83, 84, 85, 86, 87, 88, 89, 90, 91, 92, 93, 94] (by decide +kernel) (by decide +kernel)
set_option maxRecDepth 20000 in
theorem gX5_digest_X5_told : GoodIn wsX5_digest (wsV RX5 144 RX5 yX5_told wsX5_told) := goodIn_app (goodIn_of _ (by decide +kernel)) ggX5_digest_X5_told
set_option maxRecDepth 20000 in
theorem ggX5_digest_X5_guessOf : GoodIn wsX5_digest wsX5_guessOf := goodIn_r _ [33, 21, 34, 35, 36, 13, 37, 38, 39, 18, 40, 16, 17, 19, 41, 42, 43, 44, 45, 8, 46, 9, 47, 48, 49, 50, 51, 52, 53, 54, 55, 56, 78, 79, 80, 81, 82, 83, 84, 85, 86, 87, 88, 89, 90, 91, 92, 93, 94] (by decide +kernel) (by decide +kernel)
set_option maxRecDepth 20000 in
theorem gX5_digest_X5_guessOf : GoodIn wsX5_digest (wsV RX5 147 RX5 yX5_guessOf wsX5_guessOf) := goodIn_app (goodIn_of _ (by decide +kernel)) ggX5_digest_X5_guessOf
set_option maxRecDepth 20000 in
theorem ggX5_digest_X5_votedLength : GoodIn wsX5_digest wsX5_votedLength := goodIn_r _ [73, 7, 21, 8, 78, 79, 80, 81, 82, 83, 84, 85, 86, 87, 88, 89, 90, 91, 92, 93, 94] (by decide +kernel) (by decide +kernel)
set_option maxRecDepth 20000 in
theorem gX5_digest_X5_votedLength : GoodIn wsX5_digest (wsV RX5 153 RX5 yX5_votedLength wsX5_votedLength) := goodIn_app (goodIn_of _ (by decide +kernel)) ggX5_digest_X5_votedLength
set_option maxRecDepth 20000 in
theorem ggX5_digest_X5_voted : GoodIn wsX5_digest wsX5_voted := goodIn_r _ [77, 7, 21, 8, 9, 78, 79, 80, 81, 82, 83, 84, 85, 86, 87, 88, 89, 90, 91, 92, 93, 94] (by decide +kernel) (by decide +kernel)
set_option maxRecDepth 20000 in
theorem gX5_digest_X5_voted : GoodIn wsX5_digest (wsV RX5 156 RX5 yX5_voted wsX5_voted) := goodIn_app (goodIn_of _ (by decide +kernel)) ggX5_digest_X5_voted
theorem dX5_digest_0 : decode cX5_digest 0 = .ok (.aload_n 0, 1) := by decide +kernel
theorem dX5_digest_1 : decode cX5_digest 1 = .ok (.iconst 0, 1) := by decide +kernel
theorem dX5_digest_2 : decode cX5_digest 2 = .ok (.putfield 47, 3) := by decide +kernel
theorem dX5_digest_5 : decode cX5_digest 5 = .ok (.ldc2_w 159, 3) := by decide +kernel
theorem dX5_digest_8 : decode cX5_digest 8 = .ok (.lstore_n 1, 1) := by decide +kernel
theorem dX5_digest_9 : decode cX5_digest 9 = .ok (.iconst 0, 1) := by decide +kernel
theorem dX5_digest_10 : decode cX5_digest 10 = .ok (.istore_n 3, 1) := by decide +kernel
theorem dX5_digest_11 : decode cX5_digest 11 = .ok (.iload_n 3, 1) := by decide +kernel
theorem dX5_digest_12 : decode cX5_digest 12 = .ok (.bipush 8, 2) := by decide +kernel
theorem dX5_digest_14 : decode cX5_digest 14 = .ok (.if_icmp .ge 22, 3) := by decide +kernel
theorem dX5_digest_17 : decode cX5_digest 17 = .ok (.lload_n 1, 1) := by decide +kernel
theorem dX5_digest_18 : decode cX5_digest 18 = .ok (.ldc2_w 161, 3) := by decide +kernel
theorem dX5_digest_21 : decode cX5_digest 21 = .ok (.lmul, 1) := by decide +kernel
theorem dX5_digest_22 : decode cX5_digest 22 = .ok (.aload_n 0, 1) := by decide +kernel
theorem dX5_digest_23 : decode cX5_digest 23 = .ok (.iload_n 3, 1) := by decide +kernel
theorem dX5_digest_24 : decode cX5_digest 24 = .ok (.invokevirtual 150, 3) := by decide +kernel
theorem dX5_digest_27 : decode cX5_digest 27 = .ok (.i2l, 1) := by decide +kernel
theorem dX5_digest_28 : decode cX5_digest 28 = .ok (.ladd, 1) := by decide +kernel
theorem dX5_digest_29 : decode cX5_digest 29 = .ok (.lstore_n 1, 1) := by decide +kernel
theorem dX5_digest_30 : decode cX5_digest 30 = .ok (.iinc 3 1, 3) := by decide +kernel
theorem dX5_digest_33 : decode cX5_digest 33 = .ok (.goto (-22), 3) := by decide +kernel
theorem dX5_digest_36 : decode cX5_digest 36 = .ok (.iconst 0, 1) := by decide +kernel
theorem dX5_digest_37 : decode cX5_digest 37 = .ok (.istore_n 3, 1) := by decide +kernel
theorem dX5_digest_38 : decode cX5_digest 38 = .ok (.iload_n 3, 1) := by decide +kernel
theorem dX5_digest_39 : decode cX5_digest 39 = .ok (.aload_n 0, 1) := by decide +kernel
theorem dX5_digest_40 : decode cX5_digest 40 = .ok (.getfield 58, 3) := by decide +kernel
theorem dX5_digest_43 : decode cX5_digest 43 = .ok (.if_icmp .ge 65, 3) := by decide +kernel
theorem dX5_digest_46 : decode cX5_digest 46 = .ok (.lload_n 1, 1) := by decide +kernel
theorem dX5_digest_47 : decode cX5_digest 47 = .ok (.ldc2_w 161, 3) := by decide +kernel
theorem dX5_digest_50 : decode cX5_digest 50 = .ok (.lmul, 1) := by decide +kernel
theorem dX5_digest_51 : decode cX5_digest 51 = .ok (.aload_n 0, 1) := by decide +kernel
theorem dX5_digest_52 : decode cX5_digest 52 = .ok (.getfield 29, 3) := by decide +kernel
theorem dX5_digest_55 : decode cX5_digest 55 = .ok (.iload_n 3, 1) := by decide +kernel
theorem dX5_digest_56 : decode cX5_digest 56 = .ok (.iaload, 1) := by decide +kernel
theorem dX5_digest_57 : decode cX5_digest 57 = .ok (.i2l, 1) := by decide +kernel
theorem dX5_digest_58 : decode cX5_digest 58 = .ok (.ladd, 1) := by decide +kernel
theorem dX5_digest_59 : decode cX5_digest 59 = .ok (.lstore_n 1, 1) := by decide +kernel
theorem dX5_digest_60 : decode cX5_digest 60 = .ok (.iconst 0, 1) := by decide +kernel
theorem dX5_digest_61 : decode cX5_digest 61 = .ok (.istore 4, 2) := by decide +kernel
theorem dX5_digest_63 : decode cX5_digest 63 = .ok (.iload 4, 2) := by decide +kernel
theorem dX5_digest_65 : decode cX5_digest 65 = .ok (.iconst 4, 1) := by decide +kernel
theorem dX5_digest_66 : decode cX5_digest 66 = .ok (.aload_n 0, 1) := by decide +kernel
theorem dX5_digest_67 : decode cX5_digest 67 = .ok (.getfield 29, 3) := by decide +kernel
theorem dX5_digest_70 : decode cX5_digest 70 = .ok (.iload_n 3, 1) := by decide +kernel
theorem dX5_digest_71 : decode cX5_digest 71 = .ok (.iaload, 1) := by decide +kernel
theorem dX5_digest_72 : decode cX5_digest 72 = .ok (.imul, 1) := by decide +kernel
theorem dX5_digest_73 : decode cX5_digest 73 = .ok (.if_icmp .ge 29, 3) := by decide +kernel
theorem dX5_digest_76 : decode cX5_digest 76 = .ok (.lload_n 1, 1) := by decide +kernel
theorem dX5_digest_77 : decode cX5_digest 77 = .ok (.ldc2_w 161, 3) := by decide +kernel
theorem dX5_digest_80 : decode cX5_digest 80 = .ok (.lmul, 1) := by decide +kernel
theorem dX5_digest_81 : decode cX5_digest 81 = .ok (.aload_n 0, 1) := by decide +kernel
theorem dX5_digest_82 : decode cX5_digest 82 = .ok (.getfield 32, 3) := by decide +kernel
theorem dX5_digest_85 : decode cX5_digest 85 = .ok (.bipush 20, 2) := by decide +kernel
theorem dX5_digest_87 : decode cX5_digest 87 = .ok (.iload_n 3, 1) := by decide +kernel
theorem dX5_digest_88 : decode cX5_digest 88 = .ok (.imul, 1) := by decide +kernel
theorem dX5_digest_89 : decode cX5_digest 89 = .ok (.iload 4, 2) := by decide +kernel
theorem dX5_digest_91 : decode cX5_digest 91 = .ok (.iadd, 1) := by decide +kernel
theorem dX5_digest_92 : decode cX5_digest 92 = .ok (.iaload, 1) := by decide +kernel
theorem dX5_digest_93 : decode cX5_digest 93 = .ok (.i2l, 1) := by decide +kernel
theorem dX5_digest_94 : decode cX5_digest 94 = .ok (.ladd, 1) := by decide +kernel
theorem dX5_digest_95 : decode cX5_digest 95 = .ok (.lstore_n 1, 1) := by decide +kernel
theorem dX5_digest_96 : decode cX5_digest 96 = .ok (.iinc 4 1, 3) := by decide +kernel
theorem dX5_digest_99 : decode cX5_digest 99 = .ok (.goto (-36), 3) := by decide +kernel
theorem dX5_digest_102 : decode cX5_digest 102 = .ok (.iinc 3 1, 3) := by decide +kernel
theorem dX5_digest_105 : decode cX5_digest 105 = .ok (.goto (-67), 3) := by decide +kernel
theorem dX5_digest_108 : decode cX5_digest 108 = .ok (.iconst 0, 1) := by decide +kernel
theorem dX5_digest_109 : decode cX5_digest 109 = .ok (.istore_n 3, 1) := by decide +kernel
theorem dX5_digest_110 : decode cX5_digest 110 = .ok (.iload_n 3, 1) := by decide +kernel
theorem dX5_digest_111 : decode cX5_digest 111 = .ok (.aload_n 0, 1) := by decide +kernel
theorem dX5_digest_112 : decode cX5_digest 112 = .ok (.getfield 51, 3) := by decide +kernel
theorem dX5_digest_115 : decode cX5_digest 115 = .ok (.if_icmp .ge 93, 3) := by decide +kernel
theorem dX5_digest_118 : decode cX5_digest 118 = .ok (.iconst 0, 1) := by decide +kernel
theorem dX5_digest_119 : decode cX5_digest 119 = .ok (.istore 4, 2) := by decide +kernel
theorem dX5_digest_121 : decode cX5_digest 121 = .ok (.iload 4, 2) := by decide +kernel
theorem dX5_digest_123 : decode cX5_digest 123 = .ok (.bipush 9, 2) := by decide +kernel
theorem dX5_digest_125 : decode cX5_digest 125 = .ok (.if_icmp .ge 24, 3) := by decide +kernel
theorem dX5_digest_128 : decode cX5_digest 128 = .ok (.lload_n 1, 1) := by decide +kernel
theorem dX5_digest_129 : decode cX5_digest 129 = .ok (.ldc2_w 161, 3) := by decide +kernel
theorem dX5_digest_132 : decode cX5_digest 132 = .ok (.lmul, 1) := by decide +kernel
theorem dX5_digest_133 : decode cX5_digest 133 = .ok (.aload_n 0, 1) := by decide +kernel
theorem dX5_digest_134 : decode cX5_digest 134 = .ok (.iload_n 3, 1) := by decide +kernel
theorem dX5_digest_135 : decode cX5_digest 135 = .ok (.iload 4, 2) := by decide +kernel
theorem dX5_digest_137 : decode cX5_digest 137 = .ok (.invokevirtual 144, 3) := by decide +kernel
theorem dX5_digest_140 : decode cX5_digest 140 = .ok (.i2l, 1) := by decide +kernel
theorem dX5_digest_141 : decode cX5_digest 141 = .ok (.ladd, 1) := by decide +kernel
theorem dX5_digest_142 : decode cX5_digest 142 = .ok (.lstore_n 1, 1) := by decide +kernel
theorem dX5_digest_143 : decode cX5_digest 143 = .ok (.iinc 4 1, 3) := by decide +kernel
theorem dX5_digest_146 : decode cX5_digest 146 = .ok (.goto (-25), 3) := by decide +kernel
theorem dX5_digest_149 : decode cX5_digest 149 = .ok (.lload_n 1, 1) := by decide +kernel
theorem dX5_digest_150 : decode cX5_digest 150 = .ok (.ldc2_w 161, 3) := by decide +kernel
theorem dX5_digest_153 : decode cX5_digest 153 = .ok (.lmul, 1) := by decide +kernel
theorem dX5_digest_154 : decode cX5_digest 154 = .ok (.aload_n 0, 1) := by decide +kernel
theorem dX5_digest_155 : decode cX5_digest 155 = .ok (.iload_n 3, 1) := by decide +kernel
theorem dX5_digest_156 : decode cX5_digest 156 = .ok (.invokevirtual 147, 3) := by decide +kernel
theorem dX5_digest_159 : decode cX5_digest 159 = .ok (.i2l, 1) := by decide +kernel
theorem dX5_digest_160 : decode cX5_digest 160 = .ok (.ladd, 1) := by decide +kernel
theorem dX5_digest_161 : decode cX5_digest 161 = .ok (.lstore_n 1, 1) := by decide +kernel
theorem dX5_digest_162 : decode cX5_digest 162 = .ok (.iconst 0, 1) := by decide +kernel
theorem dX5_digest_163 : decode cX5_digest 163 = .ok (.istore 4, 2) := by decide +kernel
theorem dX5_digest_165 : decode cX5_digest 165 = .ok (.iload 4, 2) := by decide +kernel
theorem dX5_digest_167 : decode cX5_digest 167 = .ok (.aload_n 0, 1) := by decide +kernel
theorem dX5_digest_168 : decode cX5_digest 168 = .ok (.getfield 16, 3) := by decide +kernel
theorem dX5_digest_171 : decode cX5_digest 171 = .ok (.iload_n 3, 1) := by decide +kernel
theorem dX5_digest_172 : decode cX5_digest 172 = .ok (.iaload, 1) := by decide +kernel
theorem dX5_digest_173 : decode cX5_digest 173 = .ok (.if_icmp .ge 29, 3) := by decide +kernel
theorem dX5_digest_176 : decode cX5_digest 176 = .ok (.lload_n 1, 1) := by decide +kernel
theorem dX5_digest_177 : decode cX5_digest 177 = .ok (.ldc2_w 161, 3) := by decide +kernel
theorem dX5_digest_180 : decode cX5_digest 180 = .ok (.lmul, 1) := by decide +kernel
theorem dX5_digest_181 : decode cX5_digest 181 = .ok (.aload_n 0, 1) := by decide +kernel
theorem dX5_digest_182 : decode cX5_digest 182 = .ok (.getfield 13, 3) := by decide +kernel
theorem dX5_digest_185 : decode cX5_digest 185 = .ok (.bipush 120, 2) := by decide +kernel
theorem dX5_digest_187 : decode cX5_digest 187 = .ok (.iload_n 3, 1) := by decide +kernel
theorem dX5_digest_188 : decode cX5_digest 188 = .ok (.imul, 1) := by decide +kernel
theorem dX5_digest_189 : decode cX5_digest 189 = .ok (.iload 4, 2) := by decide +kernel
theorem dX5_digest_191 : decode cX5_digest 191 = .ok (.iadd, 1) := by decide +kernel
theorem dX5_digest_192 : decode cX5_digest 192 = .ok (.iaload, 1) := by decide +kernel
theorem dX5_digest_193 : decode cX5_digest 193 = .ok (.i2l, 1) := by decide +kernel
theorem dX5_digest_194 : decode cX5_digest 194 = .ok (.ladd, 1) := by decide +kernel
theorem dX5_digest_195 : decode cX5_digest 195 = .ok (.lstore_n 1, 1) := by decide +kernel
theorem dX5_digest_196 : decode cX5_digest 196 = .ok (.iinc 4 1, 3) := by decide +kernel
theorem dX5_digest_199 : decode cX5_digest 199 = .ok (.goto (-34), 3) := by decide +kernel
theorem dX5_digest_202 : decode cX5_digest 202 = .ok (.iinc 3 1, 3) := by decide +kernel
theorem dX5_digest_205 : decode cX5_digest 205 = .ok (.goto (-95), 3) := by decide +kernel
theorem dX5_digest_208 : decode cX5_digest 208 = .ok (.aload_n 0, 1) := by decide +kernel
theorem dX5_digest_209 : decode cX5_digest 209 = .ok (.invokevirtual 153, 3) := by decide +kernel
theorem dX5_digest_212 : decode cX5_digest 212 = .ok (.istore_n 3, 1) := by decide +kernel
theorem dX5_digest_213 : decode cX5_digest 213 = .ok (.lload_n 1, 1) := by decide +kernel
theorem dX5_digest_214 : decode cX5_digest 214 = .ok (.ldc2_w 161, 3) := by decide +kernel
theorem dX5_digest_217 : decode cX5_digest 217 = .ok (.lmul, 1) := by decide +kernel
theorem dX5_digest_218 : decode cX5_digest 218 = .ok (.iload_n 3, 1) := by decide +kernel
theorem dX5_digest_219 : decode cX5_digest 219 = .ok (.i2l, 1) := by decide +kernel
theorem dX5_digest_220 : decode cX5_digest 220 = .ok (.ladd, 1) := by decide +kernel
theorem dX5_digest_221 : decode cX5_digest 221 = .ok (.lstore_n 1, 1) := by decide +kernel
theorem dX5_digest_222 : decode cX5_digest 222 = .ok (.iconst 0, 1) := by decide +kernel
theorem dX5_digest_223 : decode cX5_digest 223 = .ok (.istore 4, 2) := by decide +kernel
theorem dX5_digest_225 : decode cX5_digest 225 = .ok (.iload 4, 2) := by decide +kernel
theorem dX5_digest_227 : decode cX5_digest 227 = .ok (.iload_n 3, 1) := by decide +kernel
theorem dX5_digest_228 : decode cX5_digest 228 = .ok (.if_icmp .ge 24, 3) := by decide +kernel
theorem dX5_digest_231 : decode cX5_digest 231 = .ok (.lload_n 1, 1) := by decide +kernel
theorem dX5_digest_232 : decode cX5_digest 232 = .ok (.ldc2_w 161, 3) := by decide +kernel
theorem dX5_digest_235 : decode cX5_digest 235 = .ok (.lmul, 1) := by decide +kernel
theorem dX5_digest_236 : decode cX5_digest 236 = .ok (.aload_n 0, 1) := by decide +kernel
theorem dX5_digest_237 : decode cX5_digest 237 = .ok (.iload 4, 2) := by decide +kernel
theorem dX5_digest_239 : decode cX5_digest 239 = .ok (.iload_n 3, 1) := by decide +kernel
theorem dX5_digest_240 : decode cX5_digest 240 = .ok (.invokevirtual 156, 3) := by decide +kernel
theorem dX5_digest_243 : decode cX5_digest 243 = .ok (.i2l, 1) := by decide +kernel
theorem dX5_digest_244 : decode cX5_digest 244 = .ok (.ladd, 1) := by decide +kernel
theorem dX5_digest_245 : decode cX5_digest 245 = .ok (.lstore_n 1, 1) := by decide +kernel
theorem dX5_digest_246 : decode cX5_digest 246 = .ok (.iinc 4 1, 3) := by decide +kernel
theorem dX5_digest_249 : decode cX5_digest 249 = .ok (.goto (-24), 3) := by decide +kernel
theorem dX5_digest_252 : decode cX5_digest 252 = .ok (.lload_n 1, 1) := by decide +kernel
theorem dX5_digest_253 : decode cX5_digest 253 = .ok (.lreturn, 1) := by decide +kernel
theorem dJ9_max_7cf53_0 : decode cJ9_max_7cf53 0 = .ok (.iload_n 0, 1) := by decide +kernel
theorem dJ9_max_7cf53_1 : decode cJ9_max_7cf53 1 = .ok (.iload_n 1, 1) := by decide +kernel
theorem dJ9_max_7cf53_2 : decode cJ9_max_7cf53 2 = .ok (.if_icmp .lt 7, 3) := by decide +kernel
theorem dJ9_max_7cf53_5 : decode cJ9_max_7cf53 5 = .ok (.iload_n 0, 1) := by decide +kernel
theorem dJ9_max_7cf53_6 : decode cJ9_max_7cf53 6 = .ok (.goto 4, 3) := by decide +kernel
theorem dJ9_max_7cf53_9 : decode cJ9_max_7cf53 9 = .ok (.iload_n 1, 1) := by decide +kernel
theorem dJ9_max_7cf53_10 : decode cJ9_max_7cf53 10 = .ok (.ireturn, 1) := by decide +kernel
theorem dJ9_min_7cf53_0 : decode cJ9_min_7cf53 0 = .ok (.iload_n 0, 1) := by decide +kernel
theorem dJ9_min_7cf53_1 : decode cJ9_min_7cf53 1 = .ok (.iload_n 1, 1) := by decide +kernel
theorem dJ9_min_7cf53_2 : decode cJ9_min_7cf53 2 = .ok (.if_icmp .gt 7, 3) := by decide +kernel
theorem dJ9_min_7cf53_5 : decode cJ9_min_7cf53 5 = .ok (.iload_n 0, 1) := by decide +kernel
theorem dJ9_min_7cf53_6 : decode cJ9_min_7cf53 6 = .ok (.goto 4, 3) := by decide +kernel
theorem dJ9_min_7cf53_9 : decode cJ9_min_7cf53 9 = .ok (.iload_n 1, 1) := by decide +kernel
theorem dJ9_min_7cf53_10 : decode cJ9_min_7cf53 10 = .ok (.ireturn, 1) := by decide +kernel
theorem dJxa1e45_init_da8c8_0 : decode cJxa1e45_init_da8c8 0 = .ok (.aload_n 0, 1) := by decide +kernel
theorem dJxa1e45_init_da8c8_1 : decode cJxa1e45_init_da8c8 1 = .ok (.invokespecial 1, 3) := by decide +kernel
theorem dJxa1e45_init_da8c8_4 : decode cJxa1e45_init_da8c8 4 = .ok (.return_, 1) := by decide +kernel
set_option maxRecDepth 20000 in
theorem ggJxc12de_init_da8c8_Jxa1e45_init_da8c8 : GoodIn wsJxc12de_init_da8c8 wsJxa1e45_init_da8c8 := goodIn_r _ [5, 6, 7, 8] (by decide +kernel) (by decide +kernel)
set_option maxRecDepth 20000 in
theorem gJxc12de_init_da8c8_Jxa1e45_init_da8c8 : GoodIn wsJxc12de_init_da8c8 (wsJxa1e45_init_da8c8) := ggJxc12de_init_da8c8_Jxa1e45_init_da8c8
theorem dJxc12de_init_da8c8_0 : decode cJxc12de_init_da8c8 0 = .ok (.aload_n 0, 1) := by decide +kernel
theorem dJxc12de_init_da8c8_1 : decode cJxc12de_init_da8c8 1 = .ok (.invokespecial 1, 3) := by decide +kernel
theorem dJxc12de_init_da8c8_4 : decode cJxc12de_init_da8c8 4 = .ok (.aload_n 0, 1) := by decide +kernel
theorem dJxc12de_init_da8c8_5 : decode cJxc12de_init_da8c8 5 = .ok (.iconst 0, 1) := by decide +kernel
theorem dJxc12de_init_da8c8_6 : decode cJxc12de_init_da8c8 6 = .ok (.putfield 7, 3) := by decide +kernel
theorem dJxc12de_init_da8c8_9 : decode cJxc12de_init_da8c8 9 = .ok (.return_, 1) := by decide +kernel
set_option maxRecDepth 20000 in
theorem ggJx4a65c_init_da8c8_Jxc12de_init_da8c8 : GoodIn wsJx4a65c_init_da8c8 wsJxc12de_init_da8c8 := goodIn_r _ [6, 7, 8, 9, 10, 11, 12, 13, 14, 15, 16, 17] (by decide +kernel) (by decide +kernel)
set_option maxRecDepth 20000 in
theorem gJx4a65c_init_da8c8_Jxc12de_init_da8c8 : GoodIn wsJx4a65c_init_da8c8 (wsJxc12de_init_da8c8) := ggJx4a65c_init_da8c8_Jxc12de_init_da8c8
theorem dJx4a65c_init_da8c8_0 : decode cJx4a65c_init_da8c8 0 = .ok (.aload_n 0, 1) := by decide +kernel
theorem dJx4a65c_init_da8c8_1 : decode cJx4a65c_init_da8c8 1 = .ok (.invokespecial 1, 3) := by decide +kernel
theorem dJx4a65c_init_da8c8_4 : decode cJx4a65c_init_da8c8 4 = .ok (.aload_n 0, 1) := by decide +kernel
theorem dJx4a65c_init_da8c8_5 : decode cJx4a65c_init_da8c8 5 = .ok (.getstatic 39, 3) := by decide +kernel
theorem dJx4a65c_init_da8c8_8 : decode cJx4a65c_init_da8c8 8 = .ok (.putfield 9, 3) := by decide +kernel
theorem dJx4a65c_init_da8c8_11 : decode cJx4a65c_init_da8c8 11 = .ok (.return_, 1) := by decide +kernel
set_option maxRecDepth 20000 in
theorem ggJx4a65c_grow_92f84_J8_newLength_cabcc : GoodIn wsJx4a65c_grow_92f84 wsJ8_newLength_cabcc := goodIn_r _ [11, 12, 4, 5, 6, 13, 14, 15, 10, 16] (by decide +kernel) (by decide +kernel)
set_option maxRecDepth 20000 in
theorem gJx4a65c_grow_92f84_J8_newLength_cabcc : GoodIn wsJx4a65c_grow_92f84 (va_wsS RJx4a65c 73 yJ8_newLength_cabcc wsJ8_newLength_cabcc) := goodIn_app (goodIn_of _ (by decide +kernel)) ggJx4a65c_grow_92f84_J8_newLength_cabcc
set_option maxRecDepth 20000 in
theorem ggJx4a65c_grow_92f84_J7_copyOf_1904c : GoodIn wsJx4a65c_grow_92f84 wsJ7_copyOf_1904c := goodIn_r _ [20, 21, 22, 23, 24, 25, 26, 19, 27, 28, 29, 30, 31, 5, 32, 33, 34, 35, 36] (by decide +kernel) (by decide +kernel)
set_option maxRecDepth 20000 in
theorem gJx4a65c_grow_92f84_J7_copyOf_1904c : GoodIn wsJx4a65c_grow_92f84 (va_wsS RJx4a65c 66 yJ7_copyOf_1904c wsJ7_copyOf_1904c) := goodIn_app (goodIn_of _ (by decide +kernel)) ggJx4a65c_grow_92f84_J7_copyOf_1904c
theorem dJx4a65c_grow_92f84_0 : decode cJx4a65c_grow_92f84 0 = .ok (.aload_n 0, 1) := by decide +kernel
theorem dJx4a65c_grow_92f84_1 : decode cJx4a65c_grow_92f84 1 = .ok (.getfield 9, 3) := by decide +kernel
theorem dJx4a65c_grow_92f84_4 : decode cJx4a65c_grow_92f84 4 = .ok (.arraylength, 1) := by decide +kernel
theorem dJx4a65c_grow_92f84_5 : decode cJx4a65c_grow_92f84 5 = .ok (.istore_n 2, 1) := by decide +kernel
theorem dJx4a65c_grow_92f84_6 : decode cJx4a65c_grow_92f84 6 = .ok (.iload_n 2, 1) := by decide +kernel
theorem dJx4a65c_grow_92f84_7 : decode cJx4a65c_grow_92f84 7 = .ok (.ifCond .gt 13, 3) := by decide +kernel
theorem dJx4a65c_grow_92f84_10 : decode cJx4a65c_grow_92f84 10 = .ok (.aload_n 0, 1) := by decide +kernel
theorem dJx4a65c_grow_92f84_11 : decode cJx4a65c_grow_92f84 11 = .ok (.getfield 9, 3) := by decide +kernel
theorem dJx4a65c_grow_92f84_14 : decode cJx4a65c_grow_92f84 14 = .ok (.getstatic 39, 3) := by decide +kernel
theorem dJx4a65c_grow_92f84_17 : decode cJx4a65c_grow_92f84 17 = .ok (.if_acmp .eq 28, 3) := by decide +kernel
theorem dJx4a65c_grow_92f84_20 : decode cJx4a65c_grow_92f84 20 = .ok (.iload_n 2, 1) := by decide +kernel
theorem dJx4a65c_grow_92f84_21 : decode cJx4a65c_grow_92f84 21 = .ok (.iload_n 1, 1) := by decide +kernel
theorem dJx4a65c_grow_92f84_22 : decode cJx4a65c_grow_92f84 22 = .ok (.iload_n 2, 1) := by decide +kernel
theorem dJx4a65c_grow_92f84_23 : decode cJx4a65c_grow_92f84 23 = .ok (.isub, 1) := by decide +kernel
theorem dJx4a65c_grow_92f84_24 : decode cJx4a65c_grow_92f84 24 = .ok (.iload_n 2, 1) := by decide +kernel
theorem dJx4a65c_grow_92f84_25 : decode cJx4a65c_grow_92f84 25 = .ok (.iconst 1, 1) := by decide +kernel
theorem dJx4a65c_grow_92f84_26 : decode cJx4a65c_grow_92f84 26 = .ok (.ishr, 1) := by decide +kernel
theorem dJx4a65c_grow_92f84_27 : decode cJx4a65c_grow_92f84 27 = .ok (.invokestatic 73, 3) := by decide +kernel
theorem dJx4a65c_grow_92f84_30 : decode cJx4a65c_grow_92f84 30 = .ok (.istore_n 3, 1) := by decide +kernel
theorem dJx4a65c_grow_92f84_31 : decode cJx4a65c_grow_92f84 31 = .ok (.aload_n 0, 1) := by decide +kernel
theorem dJx4a65c_grow_92f84_32 : decode cJx4a65c_grow_92f84 32 = .ok (.aload_n 0, 1) := by decide +kernel
theorem dJx4a65c_grow_92f84_33 : decode cJx4a65c_grow_92f84 33 = .ok (.getfield 9, 3) := by decide +kernel
theorem dJx4a65c_grow_92f84_36 : decode cJx4a65c_grow_92f84 36 = .ok (.iload_n 3, 1) := by decide +kernel
theorem dJx4a65c_grow_92f84_37 : decode cJx4a65c_grow_92f84 37 = .ok (.invokestatic 66, 3) := by decide +kernel
theorem dJx4a65c_grow_92f84_40 : decode cJx4a65c_grow_92f84 40 = .ok (.dup_x1, 1) := by decide +kernel
theorem dJx4a65c_grow_92f84_41 : decode cJx4a65c_grow_92f84 41 = .ok (.putfield 9, 3) := by decide +kernel
theorem dJx4a65c_grow_92f84_44 : decode cJx4a65c_grow_92f84 44 = .ok (.areturn, 1) := by decide +kernel
theorem dJx4a65c_grow_92f84_45 : decode cJx4a65c_grow_92f84 45 = .ok (.aload_n 0, 1) := by decide +kernel
theorem dJx4a65c_grow_92f84_46 : decode cJx4a65c_grow_92f84 46 = .ok (.bipush 10, 2) := by decide +kernel
theorem dJx4a65c_grow_92f84_48 : decode cJx4a65c_grow_92f84 48 = .ok (.iload_n 1, 1) := by decide +kernel
theorem dJx4a65c_grow_92f84_49 : decode cJx4a65c_grow_92f84 49 = .ok (.invokestatic 79, 3) := by decide +kernel
theorem dJx4a65c_grow_92f84_52 : decode cJx4a65c_grow_92f84 52 = .ok (.anewarray 7, 3) := by decide +kernel
theorem dJx4a65c_grow_92f84_55 : decode cJx4a65c_grow_92f84 55 = .ok (.dup_x1, 1) := by decide +kernel
theorem dJx4a65c_grow_92f84_56 : decode cJx4a65c_grow_92f84 56 = .ok (.putfield 9, 3) := by decide +kernel
theorem dJx4a65c_grow_92f84_59 : decode cJx4a65c_grow_92f84 59 = .ok (.areturn, 1) := by decide +kernel
set_option maxRecDepth 20000 in
theorem ggJx4a65c_grow_d5877_Jx4a65c_grow_92f84 : GoodIn wsJx4a65c_grow_d5877 wsJx4a65c_grow_92f84 := goodIn_r _ [6, 7, 8, 9, 10, 11, 12, 13, 14, 15, 16, 17, 18, 19, 20, 21, 22, 23, 24, 25, 26, 27, 28, 29, 30, 31, 32, 33, 34, 35, 36, 37, 38, 39, 40, 41, 42, 43, 44, 45] (by decide +kernel) (by decide +kernel)
set_option maxRecDepth 20000 in
theorem gJx4a65c_grow_d5877_Jx4a65c_grow_92f84 : GoodIn wsJx4a65c_grow_d5877 (wsV RJx4a65c 69 RJx4a65c yJx4a65c_grow_92f84 wsJx4a65c_grow_92f84) := goodIn_app (goodIn_of _ (by decide +kernel)) ggJx4a65c_grow_d5877_Jx4a65c_grow_92f84
theorem dJx4a65c_grow_d5877_0 : decode cJx4a65c_grow_d5877 0 = .ok (.aload_n 0, 1) := by decide +kernel
theorem dJx4a65c_grow_d5877_1 : decode cJx4a65c_grow_d5877 1 = .ok (.aload_n 0, 1) := by decide +kernel
theorem dJx4a65c_grow_d5877_2 : decode cJx4a65c_grow_d5877 2 = .ok (.getfield 48, 3) := by decide +kernel
theorem dJx4a65c_grow_d5877_5 : decode cJx4a65c_grow_d5877 5 = .ok (.iconst 1, 1) := by decide +kernel
theorem dJx4a65c_grow_d5877_6 : decode cJx4a65c_grow_d5877 6 = .ok (.iadd, 1) := by decide +kernel
theorem dJx4a65c_grow_d5877_7 : decode cJx4a65c_grow_d5877 7 = .ok (.invokevirtual 69, 3) := by decide +kernel
theorem dJx4a65c_grow_d5877_10 : decode cJx4a65c_grow_d5877 10 = .ok (.areturn, 1) := by decide +kernel
theorem dJx4a65c_size_8abf5_0 : decode cJx4a65c_size_8abf5 0 = .ok (.aload_n 0, 1) := by decide +kernel
theorem dJx4a65c_size_8abf5_1 : decode cJx4a65c_size_8abf5 1 = .ok (.getfield 48, 3) := by decide +kernel
theorem dJx4a65c_size_8abf5_4 : decode cJx4a65c_size_8abf5 4 = .ok (.ireturn, 1) := by decide +kernel
theorem dJx4a65c_elementData_915e3_0 : decode cJx4a65c_elementData_915e3 0 = .ok (.aload_n 0, 1) := by decide +kernel
theorem dJx4a65c_elementData_915e3_1 : decode cJx4a65c_elementData_915e3 1 = .ok (.getfield 9, 3) := by decide +kernel
theorem dJx4a65c_elementData_915e3_4 : decode cJx4a65c_elementData_915e3 4 = .ok (.iload_n 1, 1) := by decide +kernel
theorem dJx4a65c_elementData_915e3_5 : decode cJx4a65c_elementData_915e3 5 = .ok (.aaload, 1) := by decide +kernel
theorem dJx4a65c_elementData_915e3_6 : decode cJx4a65c_elementData_915e3 6 = .ok (.areturn, 1) := by decide +kernel
set_option maxRecDepth 20000 in
theorem ggJx4a65c_get_915e3_J15_checkIndex_7cf53 : GoodIn wsJx4a65c_get_915e3 wsJ15_checkIndex_7cf53 := goodIn_r _ [5, 6, 7, 8, 9] (by decide +kernel) (by decide +kernel)
set_option maxRecDepth 20000 in
theorem gJx4a65c_get_915e3_J15_checkIndex_7cf53 : GoodIn wsJx4a65c_get_915e3 (va_wsS RJx4a65c 118 yJ15_checkIndex_7cf53 wsJ15_checkIndex_7cf53) := goodIn_app (goodIn_of _ (by decide +kernel)) ggJx4a65c_get_915e3_J15_checkIndex_7cf53
set_option maxRecDepth 20000 in
theorem ggJx4a65c_get_915e3_Jx4a65c_elementData_915e3 : GoodIn wsJx4a65c_get_915e3 wsJx4a65c_elementData_915e3 := goodIn_r _ [14, 15, 16, 17, 18] (by decide +kernel) (by decide +kernel)
set_option maxRecDepth 20000 in
theorem gJx4a65c_get_915e3_Jx4a65c_elementData_915e3 : GoodIn wsJx4a65c_get_915e3 (wsV RJx4a65c 123 RJx4a65c yJx4a65c_elementData_915e3 wsJx4a65c_elementData_915e3) := goodIn_app (goodIn_of _ (by decide +kernel)) ggJx4a65c_get_915e3_Jx4a65c_elementData_915e3
theorem dJx4a65c_get_915e3_0 : decode cJx4a65c_get_915e3 0 = .ok (.iload_n 1, 1) := by decide +kernel
theorem dJx4a65c_get_915e3_1 : decode cJx4a65c_get_915e3 1 = .ok (.aload_n 0, 1) := by decide +kernel
theorem dJx4a65c_get_915e3_2 : decode cJx4a65c_get_915e3 2 = .ok (.getfield 48, 3) := by decide +kernel
theorem dJx4a65c_get_915e3_5 : decode cJx4a65c_get_915e3 5 = .ok (.invokestatic 118, 3) := by decide +kernel
theorem dJx4a65c_get_915e3_8 : decode cJx4a65c_get_915e3 8 = .ok (.pop, 1) := by decide +kernel
theorem dJx4a65c_get_915e3_9 : decode cJx4a65c_get_915e3 9 = .ok (.aload_n 0, 1) := by decide +kernel
theorem dJx4a65c_get_915e3_10 : decode cJx4a65c_get_915e3 10 = .ok (.iload_n 1, 1) := by decide +kernel
theorem dJx4a65c_get_915e3_11 : decode cJx4a65c_get_915e3 11 = .ok (.invokevirtual 123, 3) := by decide +kernel
theorem dJx4a65c_get_915e3_14 : decode cJx4a65c_get_915e3 14 = .ok (.areturn, 1) := by decide +kernel
set_option maxRecDepth 20000 in
theorem ggJx4a65c_add_72be8_Jx4a65c_grow_d5877 : GoodIn wsJx4a65c_add_72be8 wsJx4a65c_grow_d5877 := goodIn_r _ [6, 1, 7, 8, 9, 5, 10, 11, 12, 13, 14, 15, 16, 17, 18, 19, 20, 21, 22, 23, 24, 25, 26, 27, 28, 29, 30, 31, 32, 33, 34, 35, 36, 37, 38, 39, 40, 41, 42, 43, 44, 45, 46, 47, 48, 49] (by decide +kernel) (by decide +kernel)
set_option maxRecDepth 20000 in
theorem gJx4a65c_add_72be8_Jx4a65c_grow_d5877 : GoodIn wsJx4a65c_add_72be8 (wsV RJx4a65c 129 RJx4a65c yJx4a65c_grow_d5877 wsJx4a65c_grow_d5877) := goodIn_app (goodIn_of _ (by decide +kernel)) ggJx4a65c_add_72be8_Jx4a65c_grow_d5877
theorem dJx4a65c_add_72be8_0 : decode cJx4a65c_add_72be8 0 = .ok (.iload_n 3, 1) := by decide +kernel
theorem dJx4a65c_add_72be8_1 : decode cJx4a65c_add_72be8 1 = .ok (.aload_n 2, 1) := by decide +kernel
theorem dJx4a65c_add_72be8_2 : decode cJx4a65c_add_72be8 2 = .ok (.arraylength, 1) := by decide +kernel
theorem dJx4a65c_add_72be8_3 : decode cJx4a65c_add_72be8 3 = .ok (.if_icmp .ne 8, 3) := by decide +kernel
theorem dJx4a65c_add_72be8_6 : decode cJx4a65c_add_72be8 6 = .ok (.aload_n 0, 1) := by decide +kernel
theorem dJx4a65c_add_72be8_7 : decode cJx4a65c_add_72be8 7 = .ok (.invokevirtual 129, 3) := by decide +kernel
theorem dJx4a65c_add_72be8_10 : decode cJx4a65c_add_72be8 10 = .ok (.astore_n 2, 1) := by decide +kernel
theorem dJx4a65c_add_72be8_11 : decode cJx4a65c_add_72be8 11 = .ok (.aload_n 2, 1) := by decide +kernel
theorem dJx4a65c_add_72be8_12 : decode cJx4a65c_add_72be8 12 = .ok (.iload_n 3, 1) := by decide +kernel
theorem dJx4a65c_add_72be8_13 : decode cJx4a65c_add_72be8 13 = .ok (.aload_n 1, 1) := by decide +kernel
theorem dJx4a65c_add_72be8_14 : decode cJx4a65c_add_72be8 14 = .ok (.aastore, 1) := by decide +kernel
theorem dJx4a65c_add_72be8_15 : decode cJx4a65c_add_72be8 15 = .ok (.aload_n 0, 1) := by decide +kernel
theorem dJx4a65c_add_72be8_16 : decode cJx4a65c_add_72be8 16 = .ok (.iload_n 3, 1) := by decide +kernel
theorem dJx4a65c_add_72be8_17 : decode cJx4a65c_add_72be8 17 = .ok (.iconst 1, 1) := by decide +kernel
theorem dJx4a65c_add_72be8_18 : decode cJx4a65c_add_72be8 18 = .ok (.iadd, 1) := by decide +kernel
theorem dJx4a65c_add_72be8_19 : decode cJx4a65c_add_72be8 19 = .ok (.putfield 48, 3) := by decide +kernel
theorem dJx4a65c_add_72be8_22 : decode cJx4a65c_add_72be8 22 = .ok (.return_, 1) := by decide +kernel
set_option maxRecDepth 20000 in
theorem ggJx4a65c_add_9ea2d_Jx4a65c_add_72be8 : GoodIn wsJx4a65c_add_9ea2d wsJx4a65c_add_72be8 := goodIn_r _ [9, 4, 10, 11, 12, 8, 13, 14, 15, 16, 17, 3, 18, 19, 20, 21, 22, 23, 24, 25, 26, 27, 28, 29, 30, 31, 32, 33, 34, 35, 36, 37, 38, 39, 40, 41, 42, 43, 44, 45, 46, 47, 48, 49, 50, 51, 52, 53, 54, 55] (by decide +kernel) (by decide +kernel)
set_option maxRecDepth 20000 in
theorem gJx4a65c_add_9ea2d_Jx4a65c_add_72be8 : GoodIn wsJx4a65c_add_9ea2d (wsV RJx4a65c 131 RJx4a65c yJx4a65c_add_72be8 wsJx4a65c_add_72be8) := goodIn_app (goodIn_of _ (by decide +kernel)) ggJx4a65c_add_9ea2d_Jx4a65c_add_72be8
theorem dJx4a65c_add_9ea2d_0 : decode cJx4a65c_add_9ea2d 0 = .ok (.aload_n 0, 1) := by decide +kernel
theorem dJx4a65c_add_9ea2d_1 : decode cJx4a65c_add_9ea2d 1 = .ok (.dup, 1) := by decide +kernel
theorem dJx4a65c_add_9ea2d_2 : decode cJx4a65c_add_9ea2d 2 = .ok (.getfield 63, 3) := by decide +kernel
theorem dJx4a65c_add_9ea2d_5 : decode cJx4a65c_add_9ea2d 5 = .ok (.iconst 1, 1) := by decide +kernel
theorem dJx4a65c_add_9ea2d_6 : decode cJx4a65c_add_9ea2d 6 = .ok (.iadd, 1) := by decide +kernel
theorem dJx4a65c_add_9ea2d_7 : decode cJx4a65c_add_9ea2d 7 = .ok (.putfield 63, 3) := by decide +kernel
theorem dJx4a65c_add_9ea2d_10 : decode cJx4a65c_add_9ea2d 10 = .ok (.aload_n 0, 1) := by decide +kernel
theorem dJx4a65c_add_9ea2d_11 : decode cJx4a65c_add_9ea2d 11 = .ok (.aload_n 1, 1) := by decide +kernel
theorem dJx4a65c_add_9ea2d_12 : decode cJx4a65c_add_9ea2d 12 = .ok (.aload_n 0, 1) := by decide +kernel
theorem dJx4a65c_add_9ea2d_13 : decode cJx4a65c_add_9ea2d 13 = .ok (.getfield 9, 3) := by decide +kernel
theorem dJx4a65c_add_9ea2d_16 : decode cJx4a65c_add_9ea2d 16 = .ok (.aload_n 0, 1) := by decide +kernel
theorem dJx4a65c_add_9ea2d_17 : decode cJx4a65c_add_9ea2d 17 = .ok (.getfield 48, 3) := by decide +kernel
theorem dJx4a65c_add_9ea2d_20 : decode cJx4a65c_add_9ea2d 20 = .ok (.invokevirtual 131, 3) := by decide +kernel
theorem dJx4a65c_add_9ea2d_23 : decode cJx4a65c_add_9ea2d 23 = .ok (.iconst 1, 1) := by decide +kernel
theorem dJx4a65c_add_9ea2d_24 : decode cJx4a65c_add_9ea2d 24 = .ok (.ireturn, 1) := by decide +kernel
set_option maxRecDepth 20000 in
theorem ggJx4a65c_remove_915e3_J15_checkIndex_7cf53 : GoodIn wsJx4a65c_remove_915e3 wsJ15_checkIndex_7cf53 := goodIn_r _ [6, 7, 8, 9, 10] (by decide +kernel) (by decide +kernel)
set_option maxRecDepth 20000 in
theorem gJx4a65c_remove_915e3_J15_checkIndex_7cf53 : GoodIn wsJx4a65c_remove_915e3 (va_wsS RJx4a65c 118 yJ15_checkIndex_7cf53 wsJ15_checkIndex_7cf53) := goodIn_app (goodIn_of _ (by decide +kernel)) ggJx4a65c_remove_915e3_J15_checkIndex_7cf53
set_option maxRecDepth 20000 in
theorem ggJx4a65c_remove_915e3_Jx4a65c_fastRemove_b59b0 : GoodIn wsJx4a65c_remove_915e3 wsJx4a65c_fastRemove_b59b0 := goodIn_r _ [15, 16, 17, 1, 18, 19, 20, 21, 22, 23, 24] (by decide +kernel) (by decide +kernel)
set_option maxRecDepth 20000 in
theorem gJx4a65c_remove_915e3_Jx4a65c_fastRemove_b59b0 : GoodIn wsJx4a65c_remove_915e3 (wsV RJx4a65c 144 RJx4a65c yJx4a65c_fastRemove_b59b0 wsJx4a65c_fastRemove_b59b0) := goodIn_app (goodIn_of _ (by decide +kernel)) ggJx4a65c_remove_915e3_Jx4a65c_fastRemove_b59b0
theorem dJx4a65c_remove_915e3_0 : decode cJx4a65c_remove_915e3 0 = .ok (.iload_n 1, 1) := by decide +kernel
theorem dJx4a65c_remove_915e3_1 : decode cJx4a65c_remove_915e3 1 = .ok (.aload_n 0, 1) := by decide +kernel
theorem dJx4a65c_remove_915e3_2 : decode cJx4a65c_remove_915e3 2 = .ok (.getfield 48, 3) := by decide +kernel
theorem dJx4a65c_remove_915e3_5 : decode cJx4a65c_remove_915e3 5 = .ok (.invokestatic 118, 3) := by decide +kernel
theorem dJx4a65c_remove_915e3_8 : decode cJx4a65c_remove_915e3 8 = .ok (.pop, 1) := by decide +kernel
theorem dJx4a65c_remove_915e3_9 : decode cJx4a65c_remove_915e3 9 = .ok (.aload_n 0, 1) := by decide +kernel
theorem dJx4a65c_remove_915e3_10 : decode cJx4a65c_remove_915e3 10 = .ok (.getfield 9, 3) := by decide +kernel
theorem dJx4a65c_remove_915e3_13 : decode cJx4a65c_remove_915e3 13 = .ok (.astore_n 2, 1) := by decide +kernel
theorem dJx4a65c_remove_915e3_14 : decode cJx4a65c_remove_915e3 14 = .ok (.aload_n 2, 1) := by decide +kernel
theorem dJx4a65c_remove_915e3_15 : decode cJx4a65c_remove_915e3 15 = .ok (.iload_n 1, 1) := by decide +kernel
theorem dJx4a65c_remove_915e3_16 : decode cJx4a65c_remove_915e3 16 = .ok (.aaload, 1) := by decide +kernel
theorem dJx4a65c_remove_915e3_17 : decode cJx4a65c_remove_915e3 17 = .ok (.astore_n 3, 1) := by decide +kernel
theorem dJx4a65c_remove_915e3_18 : decode cJx4a65c_remove_915e3 18 = .ok (.aload_n 0, 1) := by decide +kernel
theorem dJx4a65c_remove_915e3_19 : decode cJx4a65c_remove_915e3 19 = .ok (.aload_n 2, 1) := by decide +kernel
theorem dJx4a65c_remove_915e3_20 : decode cJx4a65c_remove_915e3 20 = .ok (.iload_n 1, 1) := by decide +kernel
theorem dJx4a65c_remove_915e3_21 : decode cJx4a65c_remove_915e3 21 = .ok (.invokevirtual 144, 3) := by decide +kernel
theorem dJx4a65c_remove_915e3_24 : decode cJx4a65c_remove_915e3 24 = .ok (.aload_n 3, 1) := by decide +kernel
theorem dJx4a65c_remove_915e3_25 : decode cJx4a65c_remove_915e3 25 = .ok (.areturn, 1) := by decide +kernel
theorem dJx4a65c_fastRemove_b59b0_0 : decode cJx4a65c_fastRemove_b59b0 0 = .ok (.aload_n 0, 1) := by decide +kernel
theorem dJx4a65c_fastRemove_b59b0_1 : decode cJx4a65c_fastRemove_b59b0 1 = .ok (.dup, 1) := by decide +kernel
theorem dJx4a65c_fastRemove_b59b0_2 : decode cJx4a65c_fastRemove_b59b0 2 = .ok (.getfield 63, 3) := by decide +kernel
theorem dJx4a65c_fastRemove_b59b0_5 : decode cJx4a65c_fastRemove_b59b0 5 = .ok (.iconst 1, 1) := by decide +kernel
theorem dJx4a65c_fastRemove_b59b0_6 : decode cJx4a65c_fastRemove_b59b0 6 = .ok (.iadd, 1) := by decide +kernel
theorem dJx4a65c_fastRemove_b59b0_7 : decode cJx4a65c_fastRemove_b59b0 7 = .ok (.putfield 63, 3) := by decide +kernel
theorem dJx4a65c_fastRemove_b59b0_10 : decode cJx4a65c_fastRemove_b59b0 10 = .ok (.aload_n 0, 1) := by decide +kernel
theorem dJx4a65c_fastRemove_b59b0_11 : decode cJx4a65c_fastRemove_b59b0 11 = .ok (.getfield 48, 3) := by decide +kernel
theorem dJx4a65c_fastRemove_b59b0_14 : decode cJx4a65c_fastRemove_b59b0 14 = .ok (.iconst 1, 1) := by decide +kernel
theorem dJx4a65c_fastRemove_b59b0_15 : decode cJx4a65c_fastRemove_b59b0 15 = .ok (.isub, 1) := by decide +kernel
theorem dJx4a65c_fastRemove_b59b0_16 : decode cJx4a65c_fastRemove_b59b0 16 = .ok (.dup, 1) := by decide +kernel
theorem dJx4a65c_fastRemove_b59b0_17 : decode cJx4a65c_fastRemove_b59b0 17 = .ok (.istore_n 3, 1) := by decide +kernel
theorem dJx4a65c_fastRemove_b59b0_18 : decode cJx4a65c_fastRemove_b59b0 18 = .ok (.iload_n 2, 1) := by decide +kernel
theorem dJx4a65c_fastRemove_b59b0_19 : decode cJx4a65c_fastRemove_b59b0 19 = .ok (.if_icmp .le 15, 3) := by decide +kernel
theorem dJx4a65c_fastRemove_b59b0_22 : decode cJx4a65c_fastRemove_b59b0 22 = .ok (.aload_n 1, 1) := by decide +kernel
theorem dJx4a65c_fastRemove_b59b0_23 : decode cJx4a65c_fastRemove_b59b0 23 = .ok (.iload_n 2, 1) := by decide +kernel
theorem dJx4a65c_fastRemove_b59b0_24 : decode cJx4a65c_fastRemove_b59b0 24 = .ok (.iconst 1, 1) := by decide +kernel
theorem dJx4a65c_fastRemove_b59b0_25 : decode cJx4a65c_fastRemove_b59b0 25 = .ok (.iadd, 1) := by decide +kernel
theorem dJx4a65c_fastRemove_b59b0_26 : decode cJx4a65c_fastRemove_b59b0 26 = .ok (.aload_n 1, 1) := by decide +kernel
theorem dJx4a65c_fastRemove_b59b0_27 : decode cJx4a65c_fastRemove_b59b0 27 = .ok (.iload_n 2, 1) := by decide +kernel
theorem dJx4a65c_fastRemove_b59b0_28 : decode cJx4a65c_fastRemove_b59b0 28 = .ok (.iload_n 3, 1) := by decide +kernel
theorem dJx4a65c_fastRemove_b59b0_29 : decode cJx4a65c_fastRemove_b59b0 29 = .ok (.iload_n 2, 1) := by decide +kernel
theorem dJx4a65c_fastRemove_b59b0_30 : decode cJx4a65c_fastRemove_b59b0 30 = .ok (.isub, 1) := by decide +kernel
theorem dJx4a65c_fastRemove_b59b0_31 : decode cJx4a65c_fastRemove_b59b0 31 = .ok (.invokestatic 112, 3) := by decide +kernel
theorem dJx4a65c_fastRemove_b59b0_34 : decode cJx4a65c_fastRemove_b59b0 34 = .ok (.aload_n 1, 1) := by decide +kernel
theorem dJx4a65c_fastRemove_b59b0_35 : decode cJx4a65c_fastRemove_b59b0 35 = .ok (.aload_n 0, 1) := by decide +kernel
theorem dJx4a65c_fastRemove_b59b0_36 : decode cJx4a65c_fastRemove_b59b0 36 = .ok (.iload_n 3, 1) := by decide +kernel
theorem dJx4a65c_fastRemove_b59b0_37 : decode cJx4a65c_fastRemove_b59b0 37 = .ok (.dup_x1, 1) := by decide +kernel
theorem dJx4a65c_fastRemove_b59b0_38 : decode cJx4a65c_fastRemove_b59b0 38 = .ok (.putfield 48, 3) := by decide +kernel
theorem dJx4a65c_fastRemove_b59b0_41 : decode cJx4a65c_fastRemove_b59b0 41 = .ok (.aconst_null, 1) := by decide +kernel
theorem dJx4a65c_fastRemove_b59b0_42 : decode cJx4a65c_fastRemove_b59b0 42 = .ok (.aastore, 1) := by decide +kernel
theorem dJx4a65c_fastRemove_b59b0_43 : decode cJx4a65c_fastRemove_b59b0 43 = .ok (.return_, 1) := by decide +kernel
theorem dJ7_fill_53178_0 : decode cJ7_fill_53178 0 = .ok (.iconst 0, 1) := by decide +kernel
theorem dJ7_fill_53178_1 : decode cJ7_fill_53178 1 = .ok (.istore_n 2, 1) := by decide +kernel
theorem dJ7_fill_53178_2 : decode cJ7_fill_53178 2 = .ok (.aload_n 0, 1) := by decide +kernel
theorem dJ7_fill_53178_3 : decode cJ7_fill_53178 3 = .ok (.arraylength, 1) := by decide +kernel
theorem dJ7_fill_53178_4 : decode cJ7_fill_53178 4 = .ok (.istore_n 3, 1) := by decide +kernel
theorem dJ7_fill_53178_5 : decode cJ7_fill_53178 5 = .ok (.iload_n 2, 1) := by decide +kernel
theorem dJ7_fill_53178_6 : decode cJ7_fill_53178 6 = .ok (.iload_n 3, 1) := by decide +kernel
theorem dJ7_fill_53178_7 : decode cJ7_fill_53178 7 = .ok (.if_icmp .ge 13, 3) := by decide +kernel
theorem dJ7_fill_53178_10 : decode cJ7_fill_53178 10 = .ok (.aload_n 0, 1) := by decide +kernel
theorem dJ7_fill_53178_11 : decode cJ7_fill_53178 11 = .ok (.iload_n 2, 1) := by decide +kernel
theorem dJ7_fill_53178_12 : decode cJ7_fill_53178 12 = .ok (.iload_n 1, 1) := by decide +kernel
theorem dJ7_fill_53178_13 : decode cJ7_fill_53178 13 = .ok (.iastore, 1) := by decide +kernel
theorem dJ7_fill_53178_14 : decode cJ7_fill_53178 14 = .ok (.iinc 2 1, 3) := by decide +kernel
theorem dJ7_fill_53178_17 : decode cJ7_fill_53178 17 = .ok (.goto (-12), 3) := by decide +kernel
theorem dJ7_fill_53178_20 : decode cJ7_fill_53178 20 = .ok (.return_, 1) := by decide +kernel
set_option maxRecDepth 20000 in
theorem ggJ7_copyOf_1904c_J7_copyOf_6403c : GoodIn wsJ7_copyOf_1904c wsJ7_copyOf_6403c := goodIn_r _ [8, 9, 10, 11, 12, 13, 14, 15, 16, 17, 18] (by decide +kernel) (by decide +kernel)
set_option maxRecDepth 20000 in
theorem gJ7_copyOf_1904c_J7_copyOf_6403c : GoodIn wsJ7_copyOf_1904c (va_wsS RJ7 300 yJ7_copyOf_6403c wsJ7_copyOf_6403c) := goodIn_app (goodIn_of _ (by decide +kernel)) ggJ7_copyOf_1904c_J7_copyOf_6403c
theorem dJ7_copyOf_1904c_0 : decode cJ7_copyOf_1904c 0 = .ok (.aload_n 0, 1) := by decide +kernel
theorem dJ7_copyOf_1904c_1 : decode cJ7_copyOf_1904c 1 = .ok (.iload_n 1, 1) := by decide +kernel
theorem dJ7_copyOf_1904c_2 : decode cJ7_copyOf_1904c 2 = .ok (.aload_n 0, 1) := by decide +kernel
theorem dJ7_copyOf_1904c_3 : decode cJ7_copyOf_1904c 3 = .ok (.invokevirtual 86, 3) := by decide +kernel
theorem dJ7_copyOf_1904c_6 : decode cJ7_copyOf_1904c 6 = .ok (.invokestatic 300, 3) := by decide +kernel
theorem dJ7_copyOf_1904c_9 : decode cJ7_copyOf_1904c 9 = .ok (.areturn, 1) := by decide +kernel
theorem dJ7_copyOf_6403c_0 : decode cJ7_copyOf_6403c 0 = .ok (.aload_n 2, 1) := by decide +kernel
theorem dJ7_copyOf_6403c_1 : decode cJ7_copyOf_6403c 1 = .ok (.ldc 110, 2) := by decide +kernel
theorem dJ7_copyOf_6403c_3 : decode cJ7_copyOf_6403c 3 = .ok (.if_acmp .ne 10, 3) := by decide +kernel
theorem dJ7_copyOf_6403c_6 : decode cJ7_copyOf_6403c 6 = .ok (.iload_n 1, 1) := by decide +kernel
theorem dJ7_copyOf_6403c_7 : decode cJ7_copyOf_6403c 7 = .ok (.anewarray 2, 3) := by decide +kernel
theorem dJ7_copyOf_6403c_10 : decode cJ7_copyOf_6403c 10 = .ok (.goto 14, 3) := by decide +kernel
theorem dJ7_copyOf_6403c_13 : decode cJ7_copyOf_6403c 13 = .ok (.aload_n 2, 1) := by decide +kernel
theorem dJ7_copyOf_6403c_14 : decode cJ7_copyOf_6403c 14 = .ok (.invokevirtual 90, 3) := by decide +kernel
theorem dJ7_copyOf_6403c_17 : decode cJ7_copyOf_6403c 17 = .ok (.iload_n 1, 1) := by decide +kernel
theorem dJ7_copyOf_6403c_18 : decode cJ7_copyOf_6403c 18 = .ok (.invokestatic 95, 3) := by decide +kernel
theorem dJ7_copyOf_6403c_21 : decode cJ7_copyOf_6403c 21 = .ok (.checkcast 110, 3) := by decide +kernel
theorem dJ7_copyOf_6403c_24 : decode cJ7_copyOf_6403c 24 = .ok (.astore_n 3, 1) := by decide +kernel
theorem dJ7_copyOf_6403c_25 : decode cJ7_copyOf_6403c 25 = .ok (.aload_n 0, 1) := by decide +kernel
theorem dJ7_copyOf_6403c_26 : decode cJ7_copyOf_6403c 26 = .ok (.iconst 0, 1) := by decide +kernel
theorem dJ7_copyOf_6403c_27 : decode cJ7_copyOf_6403c 27 = .ok (.aload_n 3, 1) := by decide +kernel
theorem dJ7_copyOf_6403c_28 : decode cJ7_copyOf_6403c 28 = .ok (.iconst 0, 1) := by decide +kernel
theorem dJ7_copyOf_6403c_29 : decode cJ7_copyOf_6403c 29 = .ok (.aload_n 0, 1) := by decide +kernel
theorem dJ7_copyOf_6403c_30 : decode cJ7_copyOf_6403c 30 = .ok (.arraylength, 1) := by decide +kernel
theorem dJ7_copyOf_6403c_31 : decode cJ7_copyOf_6403c 31 = .ok (.iload_n 1, 1) := by decide +kernel
theorem dJ7_copyOf_6403c_32 : decode cJ7_copyOf_6403c 32 = .ok (.invokestatic 304, 3) := by decide +kernel
theorem dJ7_copyOf_6403c_35 : decode cJ7_copyOf_6403c 35 = .ok (.invokestatic 150, 3) := by decide +kernel
theorem dJ7_copyOf_6403c_38 : decode cJ7_copyOf_6403c 38 = .ok (.aload_n 3, 1) := by decide +kernel
theorem dJ7_copyOf_6403c_39 : decode cJ7_copyOf_6403c 39 = .ok (.areturn, 1) := by decide +kernel
set_option maxRecDepth 20000 in
theorem ggJ15_checkIndex_7cf53_J3_checkIndex_8e157 : GoodIn wsJ15_checkIndex_7cf53 wsJ3_checkIndex_8e157 := goodIn_r _ [4] (by decide +kernel) (by decide +kernel)
set_option maxRecDepth 20000 in
theorem gJ15_checkIndex_7cf53_J3_checkIndex_8e157 : GoodIn wsJ15_checkIndex_7cf53 (va_wsS RJ15 105 yJ3_checkIndex_8e157 wsJ3_checkIndex_8e157) := goodIn_app (goodIn_of _ (by decide +kernel)) ggJ15_checkIndex_7cf53_J3_checkIndex_8e157
theorem dJ15_checkIndex_7cf53_0 : decode cJ15_checkIndex_7cf53 0 = .ok (.iload_n 0, 1) := by decide +kernel
theorem dJ15_checkIndex_7cf53_1 : decode cJ15_checkIndex_7cf53 1 = .ok (.iload_n 1, 1) := by decide +kernel
theorem dJ15_checkIndex_7cf53_2 : decode cJ15_checkIndex_7cf53 2 = .ok (.aconst_null, 1) := by decide +kernel
theorem dJ15_checkIndex_7cf53_3 : decode cJ15_checkIndex_7cf53 3 = .ok (.invokestatic 105, 3) := by decide +kernel
theorem dJ15_checkIndex_7cf53_6 : decode cJ15_checkIndex_7cf53 6 = .ok (.ireturn, 1) := by decide +kernel
set_option maxRecDepth 20000 in
theorem ggJ8_newLength_cabcc_J8_hugeLength_7cf53 : GoodIn wsJ8_newLength_cabcc wsJ8_hugeLength_7cf53 := goodIn_r _ [9, 5] (by decide +kernel) (by decide +kernel)
set_option maxRecDepth 20000 in
theorem gJ8_newLength_cabcc_J8_hugeLength_7cf53 : GoodIn wsJ8_newLength_cabcc (va_wsS RJ8 201 yJ8_hugeLength_7cf53 wsJ8_hugeLength_7cf53) := goodIn_app (goodIn_of _ (by decide +kernel)) ggJ8_newLength_cabcc_J8_hugeLength_7cf53
theorem dJ8_newLength_cabcc_0 : decode cJ8_newLength_cabcc 0 = .ok (.iload_n 0, 1) := by decide +kernel
theorem dJ8_newLength_cabcc_1 : decode cJ8_newLength_cabcc 1 = .ok (.iload_n 1, 1) := by decide +kernel
theorem dJ8_newLength_cabcc_2 : decode cJ8_newLength_cabcc 2 = .ok (.iload_n 2, 1) := by decide +kernel
theorem dJ8_newLength_cabcc_3 : decode cJ8_newLength_cabcc 3 = .ok (.invokestatic 194, 3) := by decide +kernel
theorem dJ8_newLength_cabcc_6 : decode cJ8_newLength_cabcc 6 = .ok (.iadd, 1) := by decide +kernel
theorem dJ8_newLength_cabcc_7 : decode cJ8_newLength_cabcc 7 = .ok (.istore_n 3, 1) := by decide +kernel
theorem dJ8_newLength_cabcc_8 : decode cJ8_newLength_cabcc 8 = .ok (.iconst 0, 1) := by decide +kernel
theorem dJ8_newLength_cabcc_9 : decode cJ8_newLength_cabcc 9 = .ok (.iload_n 3, 1) := by decide +kernel
theorem dJ8_newLength_cabcc_10 : decode cJ8_newLength_cabcc 10 = .ok (.if_icmp .ge 11, 3) := by decide +kernel
theorem dJ8_newLength_cabcc_13 : decode cJ8_newLength_cabcc 13 = .ok (.iload_n 3, 1) := by decide +kernel
theorem dJ8_newLength_cabcc_14 : decode cJ8_newLength_cabcc 14 = .ok (.ldc 200, 2) := by decide +kernel
theorem dJ8_newLength_cabcc_16 : decode cJ8_newLength_cabcc 16 = .ok (.if_icmp .gt 5, 3) := by decide +kernel
theorem dJ8_newLength_cabcc_19 : decode cJ8_newLength_cabcc 19 = .ok (.iload_n 3, 1) := by decide +kernel
theorem dJ8_newLength_cabcc_20 : decode cJ8_newLength_cabcc 20 = .ok (.ireturn, 1) := by decide +kernel
theorem dJ8_newLength_cabcc_21 : decode cJ8_newLength_cabcc 21 = .ok (.iload_n 0, 1) := by decide +kernel
theorem dJ8_newLength_cabcc_22 : decode cJ8_newLength_cabcc 22 = .ok (.iload_n 1, 1) := by decide +kernel
theorem dJ8_newLength_cabcc_23 : decode cJ8_newLength_cabcc 23 = .ok (.invokestatic 201, 3) := by decide +kernel
theorem dJ8_newLength_cabcc_26 : decode cJ8_newLength_cabcc 26 = .ok (.ireturn, 1) := by decide +kernel
theorem dJ8_hugeLength_7cf53_0 : decode cJ8_hugeLength_7cf53 0 = .ok (.iload_n 0, 1) := by decide +kernel
theorem dJ8_hugeLength_7cf53_1 : decode cJ8_hugeLength_7cf53 1 = .ok (.iload_n 1, 1) := by decide +kernel
theorem dJ8_hugeLength_7cf53_2 : decode cJ8_hugeLength_7cf53 2 = .ok (.iadd, 1) := by decide +kernel
theorem dJ8_hugeLength_7cf53_3 : decode cJ8_hugeLength_7cf53 3 = .ok (.istore_n 2, 1) := by decide +kernel
theorem dJ8_hugeLength_7cf53_4 : decode cJ8_hugeLength_7cf53 4 = .ok (.iload_n 2, 1) := by decide +kernel
theorem dJ8_hugeLength_7cf53_5 : decode cJ8_hugeLength_7cf53 5 = .ok (.ifCond .ge 44, 3) := by decide +kernel
theorem dJ8_hugeLength_7cf53_8 : decode cJ8_hugeLength_7cf53 8 = .ok (.new 204, 3) := by decide +kernel
theorem dJ8_hugeLength_7cf53_11 : decode cJ8_hugeLength_7cf53 11 = .ok (.dup, 1) := by decide +kernel
theorem dJ8_hugeLength_7cf53_12 : decode cJ8_hugeLength_7cf53 12 = .ok (.new 89, 3) := by decide +kernel
theorem dJ8_hugeLength_7cf53_15 : decode cJ8_hugeLength_7cf53 15 = .ok (.dup, 1) := by decide +kernel
theorem dJ8_hugeLength_7cf53_16 : decode cJ8_hugeLength_7cf53 16 = .ok (.invokespecial 91, 3) := by decide +kernel
theorem dJ8_hugeLength_7cf53_19 : decode cJ8_hugeLength_7cf53 19 = .ok (.ldc 206, 2) := by decide +kernel
theorem dJ8_hugeLength_7cf53_21 : decode cJ8_hugeLength_7cf53 21 = .ok (.invokevirtual 94, 3) := by decide +kernel
theorem dJ8_hugeLength_7cf53_24 : decode cJ8_hugeLength_7cf53 24 = .ok (.iload_n 0, 1) := by decide +kernel
theorem dJ8_hugeLength_7cf53_25 : decode cJ8_hugeLength_7cf53 25 = .ok (.invokevirtual 98, 3) := by decide +kernel
theorem dJ8_hugeLength_7cf53_28 : decode cJ8_hugeLength_7cf53 28 = .ok (.ldc 208, 2) := by decide +kernel
theorem dJ8_hugeLength_7cf53_30 : decode cJ8_hugeLength_7cf53 30 = .ok (.invokevirtual 94, 3) := by decide +kernel
theorem dJ8_hugeLength_7cf53_33 : decode cJ8_hugeLength_7cf53 33 = .ok (.iload_n 1, 1) := by decide +kernel
theorem dJ8_hugeLength_7cf53_34 : decode cJ8_hugeLength_7cf53 34 = .ok (.invokevirtual 98, 3) := by decide +kernel
theorem dJ8_hugeLength_7cf53_37 : decode cJ8_hugeLength_7cf53 37 = .ok (.ldc 210, 2) := by decide +kernel
theorem dJ8_hugeLength_7cf53_39 : decode cJ8_hugeLength_7cf53 39 = .ok (.invokevirtual 94, 3) := by decide +kernel
theorem dJ8_hugeLength_7cf53_42 : decode cJ8_hugeLength_7cf53 42 = .ok (.invokevirtual 101, 3) := by decide +kernel
theorem dJ8_hugeLength_7cf53_45 : decode cJ8_hugeLength_7cf53 45 = .ok (.invokespecial 212, 3) := by decide +kernel
theorem dJ8_hugeLength_7cf53_48 : decode cJ8_hugeLength_7cf53 48 = .ok (.athrow, 1) := by decide +kernel
theorem dJ8_hugeLength_7cf53_49 : decode cJ8_hugeLength_7cf53 49 = .ok (.iload_n 2, 1) := by decide +kernel
theorem dJ8_hugeLength_7cf53_50 : decode cJ8_hugeLength_7cf53 50 = .ok (.ldc 200, 2) := by decide +kernel
theorem dJ8_hugeLength_7cf53_52 : decode cJ8_hugeLength_7cf53 52 = .ok (.if_icmp .gt 6, 3) := by decide +kernel
theorem dJ8_hugeLength_7cf53_55 : decode cJ8_hugeLength_7cf53 55 = .ok (.ldc 200, 2) := by decide +kernel
theorem dJ8_hugeLength_7cf53_57 : decode cJ8_hugeLength_7cf53 57 = .ok (.ireturn, 1) := by decide +kernel
theorem dJ8_hugeLength_7cf53_58 : decode cJ8_hugeLength_7cf53 58 = .ok (.iload_n 2, 1) := by decide +kernel
theorem dJ8_hugeLength_7cf53_59 : decode cJ8_hugeLength_7cf53 59 = .ok (.ireturn, 1) := by decide +kernel
theorem dJ3_checkIndex_8e157_0 : decode cJ3_checkIndex_8e157 0 = .ok (.iload_n 0, 1) := by decide +kernel
theorem dJ3_checkIndex_8e157_1 : decode cJ3_checkIndex_8e157 1 = .ok (.ifCond .lt 8, 3) := by decide +kernel
theorem dJ3_checkIndex_8e157_4 : decode cJ3_checkIndex_8e157 4 = .ok (.iload_n 0, 1) := by decide +kernel
theorem dJ3_checkIndex_8e157_5 : decode cJ3_checkIndex_8e157 5 = .ok (.iload_n 1, 1) := by decide +kernel
theorem dJ3_checkIndex_8e157_6 : decode cJ3_checkIndex_8e157 6 = .ok (.if_icmp .lt 10, 3) := by decide +kernel
theorem dJ3_checkIndex_8e157_9 : decode cJ3_checkIndex_8e157 9 = .ok (.aload_n 2, 1) := by decide +kernel
theorem dJ3_checkIndex_8e157_10 : decode cJ3_checkIndex_8e157 10 = .ok (.iload_n 0, 1) := by decide +kernel
theorem dJ3_checkIndex_8e157_11 : decode cJ3_checkIndex_8e157 11 = .ok (.iload_n 1, 1) := by decide +kernel
theorem dJ3_checkIndex_8e157_12 : decode cJ3_checkIndex_8e157 12 = .ok (.invokestatic 95, 3) := by decide +kernel
theorem dJ3_checkIndex_8e157_15 : decode cJ3_checkIndex_8e157 15 = .ok (.athrow, 1) := by decide +kernel
theorem dJ3_checkIndex_8e157_16 : decode cJ3_checkIndex_8e157 16 = .ok (.iload_n 0, 1) := by decide +kernel
theorem dJ3_checkIndex_8e157_17 : decode cJ3_checkIndex_8e157 17 = .ok (.ireturn, 1) := by decide +kernel
set_option maxRecDepth 20000 in
theorem ggL_feed_X4_feed : GoodIn wsL_feed wsX4_feed := goodIn_ca (goodIn_r _ [6, 7, 8, 9, 10, 11, 12, 5, 13, 14, 15, 16, 17, 18, 19, 20, 21, 22, 23, 24] (by decide +kernel) (by decide +kernel)) (goodIn_sub (fun _ h => List.mem_cons_of_mem _ (List.mem_append_right _ h)) (by decide +kernel))
set_option maxRecDepth 20000 in
theorem gL_feed_X4_feed : GoodIn wsL_feed (wsV RL 7 RX4 yX4_feed wsX4_feed) := goodIn_app (goodIn_of _ (by decide +kernel)) ggL_feed_X4_feed
theorem dL_feed_0 : decode cL_feed 0 = .ok (.aload 6, 2) := by decide +kernel
theorem dL_feed_2 : decode cL_feed 2 = .ok (.iconst 0, 1) := by decide +kernel
theorem dL_feed_3 : decode cL_feed 3 = .ok (.aload_n 0, 1) := by decide +kernel
theorem dL_feed_4 : decode cL_feed 4 = .ok (.iload_n 1, 1) := by decide +kernel
theorem dL_feed_5 : decode cL_feed 5 = .ok (.iload_n 2, 1) := by decide +kernel
theorem dL_feed_6 : decode cL_feed 6 = .ok (.iload_n 3, 1) := by decide +kernel
theorem dL_feed_7 : decode cL_feed 7 = .ok (.iload 4, 2) := by decide +kernel
theorem dL_feed_9 : decode cL_feed 9 = .ok (.iload 5, 2) := by decide +kernel
theorem dL_feed_11 : decode cL_feed 11 = .ok (.invokevirtual 7, 3) := by decide +kernel
theorem dL_feed_14 : decode cL_feed 14 = .ok (.i2l, 1) := by decide +kernel
theorem dL_feed_15 : decode cL_feed 15 = .ok (.lastore, 1) := by decide +kernel
theorem dL_feed_16 : decode cL_feed 16 = .ok (.goto 7, 3) := by decide +kernel
theorem dL_feed_19 : decode cL_feed 19 = .ok (.astore 7, 2) := by decide +kernel
theorem dL_feed_21 : decode cL_feed 21 = .ok (.iconst 1, 1) := by decide +kernel
theorem dL_feed_22 : decode cL_feed 22 = .ok (.ireturn, 1) := by decide +kernel
theorem dL_feed_23 : decode cL_feed 23 = .ok (.iconst 0, 1) := by decide +kernel
theorem dL_feed_24 : decode cL_feed 24 = .ok (.ireturn, 1) := by decide +kernel
set_option maxRecDepth 20000 in
theorem ggL_trim_X4_trim : GoodIn wsL_trim wsX4_trim := goodIn_ca (goodIn_r _ [6, 7, 8, 9, 10, 11, 12, 13, 14, 15, 16, 17, 18, 19] (by decide +kernel) (by decide +kernel)) (goodIn_sub (fun _ h => List.mem_cons_of_mem _ (List.mem_append_right _ h)) (by decide +kernel))
set_option maxRecDepth 20000 in
theorem gL_trim_X4_trim : GoodIn wsL_trim (wsV RL 15 RX4 yX4_trim wsX4_trim) := goodIn_app (goodIn_of _ (by decide +kernel)) ggL_trim_X4_trim
theorem dL_trim_0 : decode cL_trim 0 = .ok (.aload_n 2, 1) := by decide +kernel
theorem dL_trim_1 : decode cL_trim 1 = .ok (.iconst 0, 1) := by decide +kernel
theorem dL_trim_2 : decode cL_trim 2 = .ok (.aload_n 0, 1) := by decide +kernel
theorem dL_trim_3 : decode cL_trim 3 = .ok (.iload_n 1, 1) := by decide +kernel
theorem dL_trim_4 : decode cL_trim 4 = .ok (.invokevirtual 15, 3) := by decide +kernel
theorem dL_trim_7 : decode cL_trim 7 = .ok (.i2l, 1) := by decide +kernel
theorem dL_trim_8 : decode cL_trim 8 = .ok (.lastore, 1) := by decide +kernel
theorem dL_trim_9 : decode cL_trim 9 = .ok (.goto 6, 3) := by decide +kernel
theorem dL_trim_12 : decode cL_trim 12 = .ok (.astore_n 3, 1) := by decide +kernel
theorem dL_trim_13 : decode cL_trim 13 = .ok (.iconst 1, 1) := by decide +kernel
theorem dL_trim_14 : decode cL_trim 14 = .ok (.ireturn, 1) := by decide +kernel
theorem dL_trim_15 : decode cL_trim 15 = .ok (.iconst 0, 1) := by decide +kernel
theorem dL_trim_16 : decode cL_trim 16 = .ok (.ireturn, 1) := by decide +kernel
set_option maxRecDepth 20000 in
theorem ggL_write_X4_write : GoodIn wsL_write wsX4_write := goodIn_ca (goodIn_r _ [6, 7, 8, 9, 10, 11, 12, 13, 14, 15, 16, 17, 18, 19, 5, 20, 21, 22, 23, 24, 25, 26, 27, 28, 29, 30, 31, 32, 33, 34, 35, 36, 37, 38, 39, 40, 41, 42, 43, 44, 45, 46, 47, 48, 49, 50, 51, 52, 53, 54, 55, 56, 57, 58, 59, 60, 61, 62, 63, 64, 65, 66, 67, 68, 69, 70, 71, 72, 73, 74, 75, 76, 77, 78, 79, 80, 81, 82, 83, 84, 85, 86, 87, 88, 89, 90, 91, 92, 93, 94, 95, 96, 97, 98, 99, 100, 101, 102, 103, 104, 105, 106, 107, 108, 109, 110, 111, 112, 113, 114, 115, 116, 117, 118, 119, 120, 121, 122, 123, 124, 125, 126, 127, 128, 129, 130, 131, 132, 133, 134, 135, 136, 137, 138, 139, 140, 141, 142, 143, 144, 145, 146, 147] (by decide +kernel) (by decide +kernel)) (goodIn_sub (fun _ h => List.mem_cons_of_mem _ (List.mem_append_right _ h)) (by decide +kernel))
set_option maxRecDepth 20000 in
theorem gL_write_X4_write : GoodIn wsL_write (wsV RL 21 RX4 yX4_write wsX4_write) := goodIn_app (goodIn_of _ (by decide +kernel)) ggL_write_X4_write
theorem dL_write_0 : decode cL_write 0 = .ok (.aload_n 1, 1) := by decide +kernel
theorem dL_write_1 : decode cL_write 1 = .ok (.iconst 0, 1) := by decide +kernel
theorem dL_write_2 : decode cL_write 2 = .ok (.aload_n 0, 1) := by decide +kernel
theorem dL_write_3 : decode cL_write 3 = .ok (.invokevirtual 21, 3) := by decide +kernel
theorem dL_write_6 : decode cL_write 6 = .ok (.i2l, 1) := by decide +kernel
theorem dL_write_7 : decode cL_write 7 = .ok (.lastore, 1) := by decide +kernel
theorem dL_write_8 : decode cL_write 8 = .ok (.goto 6, 3) := by decide +kernel
theorem dL_write_11 : decode cL_write 11 = .ok (.astore_n 2, 1) := by decide +kernel
theorem dL_write_12 : decode cL_write 12 = .ok (.iconst 1, 1) := by decide +kernel
theorem dL_write_13 : decode cL_write 13 = .ok (.ireturn, 1) := by decide +kernel
theorem dL_write_14 : decode cL_write 14 = .ok (.iconst 0, 1) := by decide +kernel
theorem dL_write_15 : decode cL_write 15 = .ok (.ireturn, 1) := by decide +kernel
set_option maxRecDepth 20000 in
theorem ggL_letter_X4_letter : GoodIn wsL_letter wsX4_letter := goodIn_ca (goodIn_r _ [6, 7, 8, 9, 10, 11, 12, 13, 14, 5, 15, 16, 17, 18, 19, 20, 21, 22, 23, 24, 25, 26, 27, 28, 29, 30, 31, 32, 33, 34, 35, 36, 37, 38, 39, 40, 41, 42, 43, 44, 45, 46, 47, 48, 49, 50, 51, 52, 53, 54, 55, 56, 57, 58, 59, 60, 61] (by decide +kernel) (by decide +kernel)) (goodIn_sub (fun _ h => List.mem_cons_of_mem _ (List.mem_append_right _ h)) (by decide +kernel))
set_option maxRecDepth 20000 in
theorem gL_letter_X4_letter : GoodIn wsL_letter (wsV RL 25 RX4 yX4_letter wsX4_letter) := goodIn_app (goodIn_of _ (by decide +kernel)) ggL_letter_X4_letter
theorem dL_letter_0 : decode cL_letter 0 = .ok (.aload_n 3, 1) := by decide +kernel
theorem dL_letter_1 : decode cL_letter 1 = .ok (.iconst 0, 1) := by decide +kernel
theorem dL_letter_2 : decode cL_letter 2 = .ok (.aload_n 0, 1) := by decide +kernel
theorem dL_letter_3 : decode cL_letter 3 = .ok (.iload_n 1, 1) := by decide +kernel
theorem dL_letter_4 : decode cL_letter 4 = .ok (.iload_n 2, 1) := by decide +kernel
theorem dL_letter_5 : decode cL_letter 5 = .ok (.invokevirtual 25, 3) := by decide +kernel
theorem dL_letter_8 : decode cL_letter 8 = .ok (.i2l, 1) := by decide +kernel
theorem dL_letter_9 : decode cL_letter 9 = .ok (.lastore, 1) := by decide +kernel
theorem dL_letter_10 : decode cL_letter 10 = .ok (.goto 7, 3) := by decide +kernel
theorem dL_letter_13 : decode cL_letter 13 = .ok (.astore 4, 2) := by decide +kernel
theorem dL_letter_15 : decode cL_letter 15 = .ok (.iconst 1, 1) := by decide +kernel
theorem dL_letter_16 : decode cL_letter 16 = .ok (.ireturn, 1) := by decide +kernel
theorem dL_letter_17 : decode cL_letter 17 = .ok (.iconst 0, 1) := by decide +kernel
theorem dL_letter_18 : decode cL_letter 18 = .ok (.ireturn, 1) := by decide +kernel
set_option maxRecDepth 20000 in
theorem ggL_addScribe_X4_addScribe : GoodIn wsL_addScribe wsX4_addScribe := goodIn_ca (goodIn_r _ [6, 7, 8, 9, 10, 11, 12, 13, 14, 15, 16, 17, 18, 19, 20, 21, 22, 23, 24, 25, 26, 27, 28, 29, 30, 31, 32, 33, 34, 35, 36, 37, 38, 39, 40, 41, 42, 43, 44, 45, 46, 47, 48, 49, 50, 51, 52, 53, 54, 55, 56, 57, 58, 59, 60, 61, 62, 63, 64, 65, 66, 67, 68, 69, 70, 71, 72, 73, 74, 75, 76, 77, 78, 79, 80, 81, 82, 83, 84, 85, 86, 87, 88, 89, 90, 91, 92, 93, 94, 95, 96, 97, 98, 99, 100, 101, 102, 103, 104, 105, 106, 107] (by decide +kernel) (by decide +kernel)) (goodIn_sub (fun _ h => List.mem_cons_of_mem _ (List.mem_append_right _ h)) (by decide +kernel))
set_option maxRecDepth 20000 in
theorem gL_addScribe_X4_addScribe : GoodIn wsL_addScribe (wsV RL 31 RX4 yX4_addScribe wsX4_addScribe) := goodIn_app (goodIn_of _ (by decide +kernel)) ggL_addScribe_X4_addScribe
theorem dL_addScribe_0 : decode cL_addScribe 0 = .ok (.aload_n 1, 1) := by decide +kernel
theorem dL_addScribe_1 : decode cL_addScribe 1 = .ok (.iconst 0, 1) := by decide +kernel
theorem dL_addScribe_2 : decode cL_addScribe 2 = .ok (.aload_n 0, 1) := by decide +kernel
theorem dL_addScribe_3 : decode cL_addScribe 3 = .ok (.invokevirtual 31, 3) := by decide +kernel
theorem dL_addScribe_6 : decode cL_addScribe 6 = .ok (.i2l, 1) := by decide +kernel
theorem dL_addScribe_7 : decode cL_addScribe 7 = .ok (.lastore, 1) := by decide +kernel
theorem dL_addScribe_8 : decode cL_addScribe 8 = .ok (.goto 6, 3) := by decide +kernel
theorem dL_addScribe_11 : decode cL_addScribe 11 = .ok (.astore_n 2, 1) := by decide +kernel
theorem dL_addScribe_12 : decode cL_addScribe 12 = .ok (.iconst 1, 1) := by decide +kernel
theorem dL_addScribe_13 : decode cL_addScribe 13 = .ok (.ireturn, 1) := by decide +kernel
theorem dL_addScribe_14 : decode cL_addScribe 14 = .ok (.iconst 0, 1) := by decide +kernel
theorem dL_addScribe_15 : decode cL_addScribe 15 = .ok (.ireturn, 1) := by decide +kernel
set_option maxRecDepth 20000 in
theorem ggL_addHabit_X4_addHabit : GoodIn wsL_addHabit wsX4_addHabit := goodIn_ca (goodIn_ca (goodIn_ca (goodIn_r _ [8, 9, 10, 11, 12, 13, 14, 15, 16, 17, 18, 19, 7, 20, 21, 22, 23, 24, 25, 26, 27, 28, 29, 30, 31, 32, 33, 34, 35, 36, 37, 38, 39, 40, 41, 42, 43, 44, 45, 46, 47, 48, 49, 50, 51, 52, 53, 54, 55, 56, 57, 58, 59, 60, 61, 62, 63, 64, 65, 66, 67, 68, 69, 70, 71, 72, 73, 74, 75, 76, 77, 78, 79, 80, 81, 82, 83, 84, 85, 86, 87, 88, 89, 90, 91, 92, 93, 94, 95, 96, 97, 98, 99, 100, 101, 102, 103, 104, 105, 106, 107, 108, 109, 110, 111, 112, 113, 114, 115, 116, 117, 118, 119, 120, 121, 122, 123, 124, 125, 126, 127, 128, 129, 130, 131] (by decide +kernel) (by decide +kernel)) (goodIn_sub (fun _ h => List.mem_cons_of_mem _ (List.mem_append_left _ (List.mem_append_left _ (List.mem_append_right _ h)))) (by decide +kernel))) (goodIn_sub (fun _ h => List.mem_cons_of_mem _ (List.mem_append_left _ (List.mem_append_right _ h))) (by decide +kernel))) (goodIn_sub (fun _ h => List.mem_cons_of_mem _ (List.mem_append_right _ h)) (by decide +kernel))
set_option maxRecDepth 20000 in
theorem gL_addHabit_X4_addHabit : GoodIn wsL_addHabit (wsV RL 34 RX4 yX4_addHabit wsX4_addHabit) := goodIn_app (goodIn_of _ (by decide +kernel)) ggL_addHabit_X4_addHabit
theorem dL_addHabit_0 : decode cL_addHabit 0 = .ok (.aload 6, 2) := by decide +kernel
theorem dL_addHabit_2 : decode cL_addHabit 2 = .ok (.iconst 0, 1) := by decide +kernel
theorem dL_addHabit_3 : decode cL_addHabit 3 = .ok (.aload_n 0, 1) := by decide +kernel
theorem dL_addHabit_4 : decode cL_addHabit 4 = .ok (.iload_n 1, 1) := by decide +kernel
theorem dL_addHabit_5 : decode cL_addHabit 5 = .ok (.iload_n 2, 1) := by decide +kernel
theorem dL_addHabit_6 : decode cL_addHabit 6 = .ok (.iload_n 3, 1) := by decide +kernel
theorem dL_addHabit_7 : decode cL_addHabit 7 = .ok (.iload 4, 2) := by decide +kernel
theorem dL_addHabit_9 : decode cL_addHabit 9 = .ok (.iload 5, 2) := by decide +kernel
theorem dL_addHabit_11 : decode cL_addHabit 11 = .ok (.invokevirtual 34, 3) := by decide +kernel
theorem dL_addHabit_14 : decode cL_addHabit 14 = .ok (.i2l, 1) := by decide +kernel
theorem dL_addHabit_15 : decode cL_addHabit 15 = .ok (.lastore, 1) := by decide +kernel
theorem dL_addHabit_16 : decode cL_addHabit 16 = .ok (.goto 15, 3) := by decide +kernel
theorem dL_addHabit_19 : decode cL_addHabit 19 = .ok (.astore 7, 2) := by decide +kernel
theorem dL_addHabit_21 : decode cL_addHabit 21 = .ok (.iconst 1, 1) := by decide +kernel
theorem dL_addHabit_22 : decode cL_addHabit 22 = .ok (.ireturn, 1) := by decide +kernel
theorem dL_addHabit_23 : decode cL_addHabit 23 = .ok (.astore 7, 2) := by decide +kernel
theorem dL_addHabit_25 : decode cL_addHabit 25 = .ok (.iconst 2, 1) := by decide +kernel
theorem dL_addHabit_26 : decode cL_addHabit 26 = .ok (.ireturn, 1) := by decide +kernel
theorem dL_addHabit_27 : decode cL_addHabit 27 = .ok (.astore 7, 2) := by decide +kernel
theorem dL_addHabit_29 : decode cL_addHabit 29 = .ok (.iconst 3, 1) := by decide +kernel
theorem dL_addHabit_30 : decode cL_addHabit 30 = .ok (.ireturn, 1) := by decide +kernel
theorem dL_addHabit_31 : decode cL_addHabit 31 = .ok (.iconst 0, 1) := by decide +kernel
theorem dL_addHabit_32 : decode cL_addHabit 32 = .ok (.ireturn, 1) := by decide +kernel
set_option maxRecDepth 20000 in
theorem ggL_dropHabit_X4_dropHabit : GoodIn wsL_dropHabit wsX4_dropHabit := goodIn_ca (goodIn_r _ [6, 7, 8, 9, 10, 11, 12, 5, 13, 14, 15, 16, 17, 18, 19, 20, 21, 22, 23, 24, 25, 26, 27, 28, 29, 30, 31, 32, 33, 34, 35, 36, 37, 38, 39, 40, 41, 42, 43, 44, 45, 46, 47, 48, 49, 50, 51, 52, 53, 54, 55, 56, 57, 58, 59, 60, 61, 62, 63, 64, 65, 66] (by decide +kernel) (by decide +kernel)) (goodIn_sub (fun _ h => List.mem_cons_of_mem _ (List.mem_append_right _ h)) (by decide +kernel))
set_option maxRecDepth 20000 in
theorem gL_dropHabit_X4_dropHabit : GoodIn wsL_dropHabit (wsV RL 37 RX4 yX4_dropHabit wsX4_dropHabit) := goodIn_app (goodIn_of _ (by decide +kernel)) ggL_dropHabit_X4_dropHabit
theorem dL_dropHabit_0 : decode cL_dropHabit 0 = .ok (.aload_n 3, 1) := by decide +kernel
theorem dL_dropHabit_1 : decode cL_dropHabit 1 = .ok (.iconst 0, 1) := by decide +kernel
theorem dL_dropHabit_2 : decode cL_dropHabit 2 = .ok (.aload_n 0, 1) := by decide +kernel
theorem dL_dropHabit_3 : decode cL_dropHabit 3 = .ok (.iload_n 1, 1) := by decide +kernel
theorem dL_dropHabit_4 : decode cL_dropHabit 4 = .ok (.iload_n 2, 1) := by decide +kernel
theorem dL_dropHabit_5 : decode cL_dropHabit 5 = .ok (.invokevirtual 37, 3) := by decide +kernel
theorem dL_dropHabit_8 : decode cL_dropHabit 8 = .ok (.i2l, 1) := by decide +kernel
theorem dL_dropHabit_9 : decode cL_dropHabit 9 = .ok (.lastore, 1) := by decide +kernel
theorem dL_dropHabit_10 : decode cL_dropHabit 10 = .ok (.goto 7, 3) := by decide +kernel
theorem dL_dropHabit_13 : decode cL_dropHabit 13 = .ok (.astore 4, 2) := by decide +kernel
theorem dL_dropHabit_15 : decode cL_dropHabit 15 = .ok (.iconst 1, 1) := by decide +kernel
theorem dL_dropHabit_16 : decode cL_dropHabit 16 = .ok (.ireturn, 1) := by decide +kernel
theorem dL_dropHabit_17 : decode cL_dropHabit 17 = .ok (.iconst 0, 1) := by decide +kernel
theorem dL_dropHabit_18 : decode cL_dropHabit 18 = .ok (.ireturn, 1) := by decide +kernel
set_option maxRecDepth 20000 in
theorem ggL_habit_X4_habit : GoodIn wsL_habit wsX4_habit := goodIn_ca (goodIn_r _ [6, 7, 8, 9, 10, 11, 12, 13, 5, 14, 15, 16, 17, 18, 19, 20, 21, 22, 23, 24, 25, 26, 27, 28, 29, 30, 31, 32, 33, 34, 35, 36, 37, 38, 39, 40, 41, 42, 43, 44, 45, 46, 47, 48, 49, 50, 51, 52, 53, 54, 55, 56, 57, 58, 59, 60, 61, 62, 63, 64, 65, 66] (by decide +kernel) (by decide +kernel)) (goodIn_sub (fun _ h => List.mem_cons_of_mem _ (List.mem_append_right _ h)) (by decide +kernel))
set_option maxRecDepth 20000 in
theorem gL_habit_X4_habit : GoodIn wsL_habit (wsV RL 40 RX4 yX4_habit wsX4_habit) := goodIn_app (goodIn_of _ (by decide +kernel)) ggL_habit_X4_habit
theorem dL_habit_0 : decode cL_habit 0 = .ok (.aload 4, 2) := by decide +kernel
theorem dL_habit_2 : decode cL_habit 2 = .ok (.iconst 0, 1) := by decide +kernel
theorem dL_habit_3 : decode cL_habit 3 = .ok (.aload_n 0, 1) := by decide +kernel
theorem dL_habit_4 : decode cL_habit 4 = .ok (.iload_n 1, 1) := by decide +kernel
theorem dL_habit_5 : decode cL_habit 5 = .ok (.iload_n 2, 1) := by decide +kernel
theorem dL_habit_6 : decode cL_habit 6 = .ok (.iload_n 3, 1) := by decide +kernel
theorem dL_habit_7 : decode cL_habit 7 = .ok (.invokevirtual 40, 3) := by decide +kernel
theorem dL_habit_10 : decode cL_habit 10 = .ok (.i2l, 1) := by decide +kernel
theorem dL_habit_11 : decode cL_habit 11 = .ok (.lastore, 1) := by decide +kernel
theorem dL_habit_12 : decode cL_habit 12 = .ok (.goto 7, 3) := by decide +kernel
theorem dL_habit_15 : decode cL_habit 15 = .ok (.astore 5, 2) := by decide +kernel
theorem dL_habit_17 : decode cL_habit 17 = .ok (.iconst 1, 1) := by decide +kernel
theorem dL_habit_18 : decode cL_habit 18 = .ok (.ireturn, 1) := by decide +kernel
theorem dL_habit_19 : decode cL_habit 19 = .ok (.iconst 0, 1) := by decide +kernel
theorem dL_habit_20 : decode cL_habit 20 = .ok (.ireturn, 1) := by decide +kernel
set_option maxRecDepth 20000 in
theorem ggL_copy_X4_copy : GoodIn wsL_copy wsX4_copy := goodIn_ca (goodIn_ca (goodIn_r _ [7, 8, 9, 10, 11, 12, 13, 14, 6, 15, 16, 17, 18, 19, 20, 21, 22, 23, 24, 25, 26, 27, 28, 29, 30, 31, 32, 33, 34, 35, 36, 37, 38, 39, 40, 41, 42, 43, 44, 45, 46, 47, 48, 49, 50, 51, 52, 53, 54, 55, 56, 57, 58, 59, 60, 61, 62, 63, 64, 65, 66, 67, 68, 69, 70, 71, 72, 73, 74, 75, 76, 77, 78, 79, 80, 81, 82, 83, 84, 85, 86, 87, 88, 89, 90, 91, 92, 93, 94, 95, 96, 97, 98, 99, 100, 101, 102, 103, 104, 105, 106, 107, 108, 109, 110, 111, 112, 113, 114, 115, 116, 117, 118, 119, 120, 121, 122, 123, 124, 125, 126, 127, 128, 129, 130, 131, 132, 133, 134, 135, 136, 137, 138, 139, 140, 141, 142, 143, 144, 145, 146, 147, 148, 149, 150, 151, 152, 153, 154, 155, 156, 157, 158, 159, 160, 161, 162, 163, 164, 165, 166, 167, 168, 169, 170, 171, 172, 173, 174, 175, 176, 177, 178, 179, 180, 181, 182, 183, 184, 185, 186, 187, 188, 189, 190, 191, 192, 193, 194, 195, 196, 197, 198, 199, 200, 201, 202, 203, 204, 205, 206, 207, 208, 209, 210, 211, 212, 213] (by decide +kernel) (by decide +kernel)) (goodIn_sub (fun _ h => List.mem_cons_of_mem _ (List.mem_append_left _ (List.mem_append_right _ h))) (by decide +kernel))) (goodIn_sub (fun _ h => List.mem_cons_of_mem _ (List.mem_append_right _ h)) (by decide +kernel))
set_option maxRecDepth 20000 in
theorem gL_copy_X4_copy : GoodIn wsL_copy (wsV RL 44 RX4 yX4_copy wsX4_copy) := goodIn_app (goodIn_of _ (by decide +kernel)) ggL_copy_X4_copy
theorem dL_copy_0 : decode cL_copy 0 = .ok (.aload_n 3, 1) := by decide +kernel
theorem dL_copy_1 : decode cL_copy 1 = .ok (.iconst 0, 1) := by decide +kernel
theorem dL_copy_2 : decode cL_copy 2 = .ok (.aload_n 0, 1) := by decide +kernel
theorem dL_copy_3 : decode cL_copy 3 = .ok (.iload_n 1, 1) := by decide +kernel
theorem dL_copy_4 : decode cL_copy 4 = .ok (.iload_n 2, 1) := by decide +kernel
theorem dL_copy_5 : decode cL_copy 5 = .ok (.invokevirtual 44, 3) := by decide +kernel
theorem dL_copy_8 : decode cL_copy 8 = .ok (.i2l, 1) := by decide +kernel
theorem dL_copy_9 : decode cL_copy 9 = .ok (.lastore, 1) := by decide +kernel
theorem dL_copy_10 : decode cL_copy 10 = .ok (.goto 11, 3) := by decide +kernel
theorem dL_copy_13 : decode cL_copy 13 = .ok (.astore 4, 2) := by decide +kernel
theorem dL_copy_15 : decode cL_copy 15 = .ok (.iconst 1, 1) := by decide +kernel
theorem dL_copy_16 : decode cL_copy 16 = .ok (.ireturn, 1) := by decide +kernel
theorem dL_copy_17 : decode cL_copy 17 = .ok (.astore 4, 2) := by decide +kernel
theorem dL_copy_19 : decode cL_copy 19 = .ok (.iconst 2, 1) := by decide +kernel
theorem dL_copy_20 : decode cL_copy 20 = .ok (.ireturn, 1) := by decide +kernel
theorem dL_copy_21 : decode cL_copy 21 = .ok (.iconst 0, 1) := by decide +kernel
theorem dL_copy_22 : decode cL_copy 22 = .ok (.ireturn, 1) := by decide +kernel
set_option maxRecDepth 20000 in
theorem ggL_emend_X4_emend : GoodIn wsL_emend wsX4_emend := goodIn_ca (goodIn_ca (goodIn_ca (goodIn_r _ [8, 9, 10, 11, 12, 13, 14, 15, 16, 17, 18, 7, 19, 20, 21, 22, 23, 24, 25, 26, 27, 28, 29, 30, 31, 32, 33, 34, 35, 36, 37, 38, 39, 40, 41, 42, 43, 44, 45, 46, 47, 48, 49, 50, 51, 52, 53, 54, 55, 56, 57, 58, 59, 60, 61, 62, 63, 64, 65, 66, 67, 68, 69, 70, 71, 72, 73, 74, 75, 76, 77, 78, 79] (by decide +kernel) (by decide +kernel)) (goodIn_sub (fun _ h => List.mem_cons_of_mem _ (List.mem_append_left _ (List.mem_append_left _ (List.mem_append_right _ h)))) (by decide +kernel))) (goodIn_sub (fun _ h => List.mem_cons_of_mem _ (List.mem_append_left _ (List.mem_append_right _ h))) (by decide +kernel))) (goodIn_sub (fun _ h => List.mem_cons_of_mem _ (List.mem_append_right _ h)) (by decide +kernel))
set_option maxRecDepth 20000 in
theorem gL_emend_X4_emend : GoodIn wsL_emend (wsV RL 47 RX4 yX4_emend wsX4_emend) := goodIn_app (goodIn_of _ (by decide +kernel)) ggL_emend_X4_emend
theorem dL_emend_0 : decode cL_emend 0 = .ok (.aload 5, 2) := by decide +kernel
theorem dL_emend_2 : decode cL_emend 2 = .ok (.iconst 0, 1) := by decide +kernel
theorem dL_emend_3 : decode cL_emend 3 = .ok (.aload_n 0, 1) := by decide +kernel
theorem dL_emend_4 : decode cL_emend 4 = .ok (.iload_n 1, 1) := by decide +kernel
theorem dL_emend_5 : decode cL_emend 5 = .ok (.iload_n 2, 1) := by decide +kernel
theorem dL_emend_6 : decode cL_emend 6 = .ok (.iload_n 3, 1) := by decide +kernel
theorem dL_emend_7 : decode cL_emend 7 = .ok (.iload 4, 2) := by decide +kernel
theorem dL_emend_9 : decode cL_emend 9 = .ok (.invokevirtual 47, 3) := by decide +kernel
theorem dL_emend_12 : decode cL_emend 12 = .ok (.i2l, 1) := by decide +kernel
theorem dL_emend_13 : decode cL_emend 13 = .ok (.lastore, 1) := by decide +kernel
theorem dL_emend_14 : decode cL_emend 14 = .ok (.goto 15, 3) := by decide +kernel
theorem dL_emend_17 : decode cL_emend 17 = .ok (.astore 6, 2) := by decide +kernel
theorem dL_emend_19 : decode cL_emend 19 = .ok (.iconst 1, 1) := by decide +kernel
theorem dL_emend_20 : decode cL_emend 20 = .ok (.ireturn, 1) := by decide +kernel
theorem dL_emend_21 : decode cL_emend 21 = .ok (.astore 6, 2) := by decide +kernel
theorem dL_emend_23 : decode cL_emend 23 = .ok (.iconst 2, 1) := by decide +kernel
theorem dL_emend_24 : decode cL_emend 24 = .ok (.ireturn, 1) := by decide +kernel
theorem dL_emend_25 : decode cL_emend 25 = .ok (.astore 6, 2) := by decide +kernel
theorem dL_emend_27 : decode cL_emend 27 = .ok (.iconst 3, 1) := by decide +kernel
theorem dL_emend_28 : decode cL_emend 28 = .ok (.ireturn, 1) := by decide +kernel
theorem dL_emend_29 : decode cL_emend 29 = .ok (.iconst 0, 1) := by decide +kernel
theorem dL_emend_30 : decode cL_emend 30 = .ok (.ireturn, 1) := by decide +kernel
set_option maxRecDepth 20000 in
theorem ggL_lose_X4_lose : GoodIn wsL_lose wsX4_lose := goodIn_ca (goodIn_ca (goodIn_r _ [7, 8, 9, 10, 11, 12, 13, 6, 14, 15, 16, 17, 18, 19, 20, 21, 22, 23, 24, 25, 26, 27, 28, 29, 30, 31, 32, 33, 34, 35, 36, 37, 38, 39, 40, 41, 42, 43, 44, 45, 46, 47, 48, 49, 50, 51, 52, 53, 54, 55, 56, 57, 58, 59, 60, 61, 62, 63, 64] (by decide +kernel) (by decide +kernel)) (goodIn_sub (fun _ h => List.mem_cons_of_mem _ (List.mem_append_left _ (List.mem_append_right _ h))) (by decide +kernel))) (goodIn_sub (fun _ h => List.mem_cons_of_mem _ (List.mem_append_right _ h)) (by decide +kernel))
set_option maxRecDepth 20000 in
theorem gL_lose_X4_lose : GoodIn wsL_lose (wsV RL 51 RX4 yX4_lose wsX4_lose) := goodIn_app (goodIn_of _ (by decide +kernel)) ggL_lose_X4_lose
theorem dL_lose_0 : decode cL_lose 0 = .ok (.aload_n 2, 1) := by decide +kernel
theorem dL_lose_1 : decode cL_lose 1 = .ok (.iconst 0, 1) := by decide +kernel
theorem dL_lose_2 : decode cL_lose 2 = .ok (.aload_n 0, 1) := by decide +kernel
theorem dL_lose_3 : decode cL_lose 3 = .ok (.iload_n 1, 1) := by decide +kernel
theorem dL_lose_4 : decode cL_lose 4 = .ok (.invokevirtual 51, 3) := by decide +kernel
theorem dL_lose_7 : decode cL_lose 7 = .ok (.i2l, 1) := by decide +kernel
theorem dL_lose_8 : decode cL_lose 8 = .ok (.lastore, 1) := by decide +kernel
theorem dL_lose_9 : decode cL_lose 9 = .ok (.goto 9, 3) := by decide +kernel
theorem dL_lose_12 : decode cL_lose 12 = .ok (.astore_n 3, 1) := by decide +kernel
theorem dL_lose_13 : decode cL_lose 13 = .ok (.iconst 1, 1) := by decide +kernel
theorem dL_lose_14 : decode cL_lose 14 = .ok (.ireturn, 1) := by decide +kernel
theorem dL_lose_15 : decode cL_lose 15 = .ok (.astore_n 3, 1) := by decide +kernel
theorem dL_lose_16 : decode cL_lose 16 = .ok (.iconst 2, 1) := by decide +kernel
theorem dL_lose_17 : decode cL_lose 17 = .ok (.ireturn, 1) := by decide +kernel
theorem dL_lose_18 : decode cL_lose 18 = .ok (.iconst 0, 1) := by decide +kernel
theorem dL_lose_19 : decode cL_lose 19 = .ok (.ireturn, 1) := by decide +kernel
set_option maxRecDepth 20000 in
theorem ggL_manuscript_X4_manuscript : GoodIn wsL_manuscript wsX4_manuscript := goodIn_ca (goodIn_r _ [6, 7, 8, 9, 10, 11, 5, 12, 13, 14, 15, 16, 17, 18, 19, 20, 21, 22, 23, 24, 25, 26, 27, 28, 29, 30, 31, 32, 33, 34, 35, 36, 37, 38, 39, 40, 41, 42, 43, 44, 45, 46, 47, 48, 49, 50, 51, 52, 53, 54, 55, 56, 57, 58, 59, 60, 61, 62, 63, 64, 65, 66, 67, 68, 69, 70, 71, 72, 73, 74, 75, 76, 77, 78, 79, 80, 81, 82, 83, 84, 85, 86, 87, 88, 89, 90, 91, 92, 93, 94, 95, 96, 97, 98, 99, 100, 101, 102, 103, 104, 105, 106, 107, 108, 109, 110, 111, 112] (by decide +kernel) (by decide +kernel)) (goodIn_sub (fun _ h => List.mem_cons_of_mem _ (List.mem_append_right _ h)) (by decide +kernel))
set_option maxRecDepth 20000 in
theorem gL_manuscript_X4_manuscript : GoodIn wsL_manuscript (wsV RL 54 RX4 yX4_manuscript wsX4_manuscript) := goodIn_app (goodIn_of _ (by decide +kernel)) ggL_manuscript_X4_manuscript
theorem dL_manuscript_0 : decode cL_manuscript 0 = .ok (.aload_n 3, 1) := by decide +kernel
theorem dL_manuscript_1 : decode cL_manuscript 1 = .ok (.iconst 0, 1) := by decide +kernel
theorem dL_manuscript_2 : decode cL_manuscript 2 = .ok (.aload_n 0, 1) := by decide +kernel
theorem dL_manuscript_3 : decode cL_manuscript 3 = .ok (.iload_n 1, 1) := by decide +kernel
theorem dL_manuscript_4 : decode cL_manuscript 4 = .ok (.iload_n 2, 1) := by decide +kernel
theorem dL_manuscript_5 : decode cL_manuscript 5 = .ok (.invokevirtual 54, 3) := by decide +kernel
theorem dL_manuscript_8 : decode cL_manuscript 8 = .ok (.i2l, 1) := by decide +kernel
theorem dL_manuscript_9 : decode cL_manuscript 9 = .ok (.lastore, 1) := by decide +kernel
theorem dL_manuscript_10 : decode cL_manuscript 10 = .ok (.goto 7, 3) := by decide +kernel
theorem dL_manuscript_13 : decode cL_manuscript 13 = .ok (.astore 4, 2) := by decide +kernel
theorem dL_manuscript_15 : decode cL_manuscript 15 = .ok (.iconst 1, 1) := by decide +kernel
theorem dL_manuscript_16 : decode cL_manuscript 16 = .ok (.ireturn, 1) := by decide +kernel
theorem dL_manuscript_17 : decode cL_manuscript 17 = .ok (.iconst 0, 1) := by decide +kernel
theorem dL_manuscript_18 : decode cL_manuscript 18 = .ok (.ireturn, 1) := by decide +kernel
set_option maxRecDepth 20000 in
theorem ggL_count_X4_count : GoodIn wsL_count wsX4_count := goodIn_ca (goodIn_r _ [6, 7, 8, 9, 10, 11, 5, 12, 13, 14, 15, 16, 17, 18, 19, 20, 21, 22, 23, 24, 25, 26, 27, 28, 29, 30, 31, 32, 33, 34, 35, 36, 37, 38, 39, 40, 41, 42, 43, 44, 45, 46, 47, 48, 49, 50, 51, 52, 53, 54, 55, 56, 57, 58, 59, 60, 61, 62, 63, 64, 65, 66, 67, 68, 69, 70, 71, 72, 73, 74, 75, 76, 77, 78, 79, 80, 81, 82, 83, 84, 85, 86, 87, 88, 89, 90, 91, 92, 93, 94, 95, 96, 97, 98, 99, 100, 101, 102, 103, 104, 105, 106, 107, 108, 109, 110, 111, 112, 113, 114, 115, 116, 117, 118] (by decide +kernel) (by decide +kernel)) (goodIn_sub (fun _ h => List.mem_cons_of_mem _ (List.mem_append_right _ h)) (by decide +kernel))
set_option maxRecDepth 20000 in
theorem gL_count_X4_count : GoodIn wsL_count (wsV RL 57 RX4 yX4_count wsX4_count) := goodIn_app (goodIn_of _ (by decide +kernel)) ggL_count_X4_count
theorem dL_count_0 : decode cL_count 0 = .ok (.aload_n 2, 1) := by decide +kernel
theorem dL_count_1 : decode cL_count 1 = .ok (.iconst 0, 1) := by decide +kernel
theorem dL_count_2 : decode cL_count 2 = .ok (.aload_n 0, 1) := by decide +kernel
theorem dL_count_3 : decode cL_count 3 = .ok (.iload_n 1, 1) := by decide +kernel
theorem dL_count_4 : decode cL_count 4 = .ok (.invokevirtual 57, 3) := by decide +kernel
theorem dL_count_7 : decode cL_count 7 = .ok (.i2l, 1) := by decide +kernel
theorem dL_count_8 : decode cL_count 8 = .ok (.lastore, 1) := by decide +kernel
theorem dL_count_9 : decode cL_count 9 = .ok (.goto 6, 3) := by decide +kernel
theorem dL_count_12 : decode cL_count 12 = .ok (.astore_n 3, 1) := by decide +kernel
theorem dL_count_13 : decode cL_count 13 = .ok (.iconst 1, 1) := by decide +kernel
theorem dL_count_14 : decode cL_count 14 = .ok (.ireturn, 1) := by decide +kernel
theorem dL_count_15 : decode cL_count 15 = .ok (.iconst 0, 1) := by decide +kernel
theorem dL_count_16 : decode cL_count 16 = .ok (.ireturn, 1) := by decide +kernel
set_option maxRecDepth 20000 in
theorem ggL_distance_X4_distance : GoodIn wsL_distance wsX4_distance := goodIn_ca (goodIn_r _ [6, 7, 8, 9, 5, 10, 11, 12, 13, 14, 15, 16, 17, 18, 19, 20, 21, 22, 23, 24, 25, 26, 27, 28, 29, 30, 31, 32, 33, 34, 35, 36, 37, 38, 39, 40, 41, 42, 43, 44, 45, 46, 47, 48, 49, 50, 51, 52, 53, 54, 55, 56, 57, 58, 59, 60, 61, 62, 63, 64, 65, 66, 67, 68, 69, 70, 71, 72, 73, 74, 75, 76, 77, 78, 79, 80, 81, 82, 83, 84, 85, 86] (by decide +kernel) (by decide +kernel)) (goodIn_sub (fun _ h => List.mem_cons_of_mem _ (List.mem_append_right _ h)) (by decide +kernel))
set_option maxRecDepth 20000 in
theorem gL_distance_X4_distance : GoodIn wsL_distance (wsV RL 60 RX4 yX4_distance wsX4_distance) := goodIn_app (goodIn_of _ (by decide +kernel)) ggL_distance_X4_distance
theorem dL_distance_0 : decode cL_distance 0 = .ok (.aload_n 3, 1) := by decide +kernel
theorem dL_distance_1 : decode cL_distance 1 = .ok (.iconst 0, 1) := by decide +kernel
theorem dL_distance_2 : decode cL_distance 2 = .ok (.aload_n 0, 1) := by decide +kernel
theorem dL_distance_3 : decode cL_distance 3 = .ok (.iload_n 1, 1) := by decide +kernel
theorem dL_distance_4 : decode cL_distance 4 = .ok (.iload_n 2, 1) := by decide +kernel
theorem dL_distance_5 : decode cL_distance 5 = .ok (.invokevirtual 60, 3) := by decide +kernel
theorem dL_distance_8 : decode cL_distance 8 = .ok (.i2l, 1) := by decide +kernel
theorem dL_distance_9 : decode cL_distance 9 = .ok (.lastore, 1) := by decide +kernel
theorem dL_distance_10 : decode cL_distance 10 = .ok (.goto 7, 3) := by decide +kernel
theorem dL_distance_13 : decode cL_distance 13 = .ok (.astore 4, 2) := by decide +kernel
theorem dL_distance_15 : decode cL_distance 15 = .ok (.iconst 1, 1) := by decide +kernel
theorem dL_distance_16 : decode cL_distance 16 = .ok (.ireturn, 1) := by decide +kernel
theorem dL_distance_17 : decode cL_distance 17 = .ok (.iconst 0, 1) := by decide +kernel
theorem dL_distance_18 : decode cL_distance 18 = .ok (.ireturn, 1) := by decide +kernel
set_option maxRecDepth 20000 in
theorem ggL_common_X4_common : GoodIn wsL_common wsX4_common := goodIn_ca (goodIn_r _ [6, 7, 8, 9, 10, 11, 5, 12, 13, 14, 15, 16, 17, 18, 19, 20, 21, 22, 23, 24, 25, 26, 27, 28, 29, 30, 31, 32, 33, 34, 35, 36, 37, 38, 39, 40, 41, 42, 43, 44, 45, 46, 47, 48, 49, 50, 51, 52, 53, 54, 55, 56, 57, 58, 59, 60, 61, 62, 63, 64] (by decide +kernel) (by decide +kernel)) (goodIn_sub (fun _ h => List.mem_cons_of_mem _ (List.mem_append_right _ h)) (by decide +kernel))
set_option maxRecDepth 20000 in
theorem gL_common_X4_common : GoodIn wsL_common (wsV RL 63 RX4 yX4_common wsX4_common) := goodIn_app (goodIn_of _ (by decide +kernel)) ggL_common_X4_common
