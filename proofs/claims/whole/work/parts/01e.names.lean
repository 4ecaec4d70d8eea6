theorem dX5_add_26 : decode cX5_add 26 = .ok (.iastore, 1) := by decide +kernel
theorem dX5_add_27 : decode cX5_add 27 = .ok (.aload_n 0, 1) := by decide +kernel
theorem dX5_add_28 : decode cX5_add 28 = .ok (.getfield 19, 3) := by decide +kernel
theorem dX5_add_31 : decode cX5_add 31 = .ok (.aload_n 0, 1) := by decide +kernel
theorem dX5_add_32 : decode cX5_add 32 = .ok (.getfield 51, 3) := by decide +kernel
theorem dX5_add_35 : decode cX5_add 35 = .ok (.iload_n 3, 1) := by decide +kernel
theorem dX5_add_36 : decode cX5_add 36 = .ok (.iastore, 1) := by decide +kernel
theorem dX5_add_37 : decode cX5_add 37 = .ok (.aload_n 0, 1) := by decide +kernel
theorem dX5_add_38 : decode cX5_add 38 = .ok (.getfield 22, 3) := by decide +kernel
theorem dX5_add_41 : decode cX5_add 41 = .ok (.aload_n 0, 1) := by decide +kernel
theorem dX5_add_42 : decode cX5_add 42 = .ok (.getfield 51, 3) := by decide +kernel
theorem dX5_add_45 : decode cX5_add 45 = .ok (.iload 4, 2) := by decide +kernel
theorem dX5_add_47 : decode cX5_add 47 = .ok (.iastore, 1) := by decide +kernel
theorem dX5_add_48 : decode cX5_add 48 = .ok (.aload_n 0, 1) := by decide +kernel
theorem dX5_add_49 : decode cX5_add 49 = .ok (.getfield 25, 3) := by decide +kernel
theorem dX5_add_52 : decode cX5_add 52 = .ok (.aload_n 0, 1) := by decide +kernel
theorem dX5_add_53 : decode cX5_add 53 = .ok (.getfield 51, 3) := by decide +kernel
theorem dX5_add_56 : decode cX5_add 56 = .ok (.iconst 1, 1) := by decide +kernel
theorem dX5_add_57 : decode cX5_add 57 = .ok (.bastore, 1) := by decide +kernel
theorem dX5_add_58 : decode cX5_add 58 = .ok (.aload_n 0, 1) := by decide +kernel
theorem dX5_add_59 : decode cX5_add 59 = .ok (.dup, 1) := by decide +kernel
theorem dX5_add_60 : decode cX5_add 60 = .ok (.getfield 51, 3) := by decide +kernel
theorem dX5_add_63 : decode cX5_add 63 = .ok (.iconst 1, 1) := by decide +kernel
theorem dX5_add_64 : decode cX5_add 64 = .ok (.iadd, 1) := by decide +kernel
theorem dX5_add_65 : decode cX5_add 65 = .ok (.putfield 51, 3) := by decide +kernel
theorem dX5_add_68 : decode cX5_add 68 = .ok (.aload_n 0, 1) := by decide +kernel
theorem dX5_add_69 : decode cX5_add 69 = .ok (.getfield 51, 3) := by decide +kernel
theorem dX5_add_72 : decode cX5_add 72 = .ok (.iconst 1, 1) := by decide +kernel
theorem dX5_add_73 : decode cX5_add 73 = .ok (.isub, 1) := by decide +kernel
theorem dX5_add_74 : decode cX5_add 74 = .ok (.ireturn, 1) := by decide +kernel
set_option maxRecDepth 20000 in
theorem ggX5_write_X5_no : GoodIn wsX5_write wsX5_no := goodIn_r _ [9, 1, 26, 27, 28, 29, 30, 31, 32, 33, 34, 35, 36, 37, 38, 39, 40, 41, 42] (by decide +kernel) (by decide +kernel)
set_option maxRecDepth 20000 in
theorem gX5_write_X5_no : GoodIn wsX5_write (wsV RX5 64 RX5 yX5_no wsX5_no) := goodIn_app (goodIn_of _ (by decide +kernel)) ggX5_write_X5_no
set_option maxRecDepth 20000 in
theorem ggX5_write_X5_isIn : GoodIn wsX5_write wsX5_isIn := goodIn_r _ [12] (by decide +kernel) (by decide +kernel)
set_option maxRecDepth 20000 in
theorem gX5_write_X5_isIn : GoodIn wsX5_write (va_wsS RX5 54 yX5_isIn wsX5_isIn) := goodIn_app (goodIn_of _ (by decide +kernel)) ggX5_write_X5_isIn
set_option maxRecDepth 20000 in
theorem ggX5_write_X5_add : GoodIn wsX5_write wsX5_add := goodIn_r _ [16, 17, 2, 18, 19, 20, 21, 22, 23, 24, 25, 26, 27, 28, 29, 30, 31, 32, 33, 34, 35, 36, 37, 38, 39, 40, 41, 42] (by decide +kernel) (by decide +kernel)
set_option maxRecDepth 20000 in
theorem gX5_write_X5_add : GoodIn wsX5_write (wsV RX5 74 RX5 yX5_add wsX5_add) := goodIn_app (goodIn_of _ (by decide +kernel)) ggX5_write_X5_add
theorem dX5_write_0 : decode cX5_write 0 = .ok (.aload_n 0, 1) := by decide +kernel
theorem dX5_write_1 : decode cX5_write 1 = .ok (.iconst 0, 1) := by decide +kernel
theorem dX5_write_2 : decode cX5_write 2 = .ok (.putfield 47, 3) := by decide +kernel
theorem dX5_write_5 : decode cX5_write 5 = .ok (.aload_n 0, 1) := by decide +kernel
theorem dX5_write_6 : decode cX5_write 6 = .ok (.getfield 51, 3) := by decide +kernel
theorem dX5_write_9 : decode cX5_write 9 = .ok (.bipush 24, 2) := by decide +kernel
theorem dX5_write_11 : decode cX5_write 11 = .ok (.if_icmp .ne 9, 3) := by decide +kernel
theorem dX5_write_14 : decode cX5_write 14 = .ok (.aload_n 0, 1) := by decide +kernel
theorem dX5_write_15 : decode cX5_write 15 = .ok (.iconst 1, 1) := by decide +kernel
theorem dX5_write_16 : decode cX5_write 16 = .ok (.invokevirtual 64, 3) := by decide +kernel
theorem dX5_write_19 : decode cX5_write 19 = .ok (.ireturn, 1) := by decide +kernel
theorem dX5_write_20 : decode cX5_write 20 = .ok (.aload_n 0, 1) := by decide +kernel
theorem dX5_write_21 : decode cX5_write 21 = .ok (.getfield 61, 3) := by decide +kernel
theorem dX5_write_24 : decode cX5_write 24 = .ok (.ifCond .le 7, 3) := by decide +kernel
theorem dX5_write_27 : decode cX5_write 27 = .ok (.iconst 1, 1) := by decide +kernel
theorem dX5_write_28 : decode cX5_write 28 = .ok (.goto 4, 3) := by decide +kernel
theorem dX5_write_31 : decode cX5_write 31 = .ok (.iconst 0, 1) := by decide +kernel
theorem dX5_write_32 : decode cX5_write 32 = .ok (.istore_n 1, 1) := by decide +kernel
theorem dX5_write_33 : decode cX5_write 33 = .ok (.iconst 0, 1) := by decide +kernel
theorem dX5_write_34 : decode cX5_write 34 = .ok (.istore_n 2, 1) := by decide +kernel
theorem dX5_write_35 : decode cX5_write 35 = .ok (.iload_n 2, 1) := by decide +kernel
theorem dX5_write_36 : decode cX5_write 36 = .ok (.aload_n 0, 1) := by decide +kernel
theorem dX5_write_37 : decode cX5_write 37 = .ok (.getfield 61, 3) := by decide +kernel
theorem dX5_write_40 : decode cX5_write 40 = .ok (.if_icmp .ge 35, 3) := by decide +kernel
theorem dX5_write_43 : decode cX5_write 43 = .ok (.iload_n 1, 1) := by decide +kernel
theorem dX5_write_44 : decode cX5_write 44 = .ok (.ifCond .eq 23, 3) := by decide +kernel
theorem dX5_write_47 : decode cX5_write 47 = .ok (.aload_n 0, 1) := by decide +kernel
theorem dX5_write_48 : decode cX5_write 48 = .ok (.getfield 9, 3) := by decide +kernel
theorem dX5_write_51 : decode cX5_write 51 = .ok (.iload_n 2, 1) := by decide +kernel
theorem dX5_write_52 : decode cX5_write 52 = .ok (.iaload, 1) := by decide +kernel
theorem dX5_write_53 : decode cX5_write 53 = .ok (.bipush 97, 2) := by decide +kernel
theorem dX5_write_55 : decode cX5_write 55 = .ok (.bipush 122, 2) := by decide +kernel
theorem dX5_write_57 : decode cX5_write 57 = .ok (.invokestatic 54, 3) := by decide +kernel
theorem dX5_write_60 : decode cX5_write 60 = .ok (.ifCond .eq 7, 3) := by decide +kernel
theorem dX5_write_63 : decode cX5_write 63 = .ok (.iconst 1, 1) := by decide +kernel
theorem dX5_write_64 : decode cX5_write 64 = .ok (.goto 4, 3) := by decide +kernel
theorem dX5_write_67 : decode cX5_write 67 = .ok (.iconst 0, 1) := by decide +kernel
theorem dX5_write_68 : decode cX5_write 68 = .ok (.istore_n 1, 1) := by decide +kernel
theorem dX5_write_69 : decode cX5_write 69 = .ok (.iinc 2 1, 3) := by decide +kernel
theorem dX5_write_72 : decode cX5_write 72 = .ok (.goto (-37), 3) := by decide +kernel
theorem dX5_write_75 : decode cX5_write 75 = .ok (.aload_n 0, 1) := by decide +kernel
theorem dX5_write_76 : decode cX5_write 76 = .ok (.getfield 61, 3) := by decide +kernel
theorem dX5_write_79 : decode cX5_write 79 = .ok (.istore_n 2, 1) := by decide +kernel
theorem dX5_write_80 : decode cX5_write 80 = .ok (.aload_n 0, 1) := by decide +kernel
theorem dX5_write_81 : decode cX5_write 81 = .ok (.iconst 0, 1) := by decide +kernel
theorem dX5_write_82 : decode cX5_write 82 = .ok (.putfield 61, 3) := by decide +kernel
theorem dX5_write_85 : decode cX5_write 85 = .ok (.iload_n 1, 1) := by decide +kernel
theorem dX5_write_86 : decode cX5_write 86 = .ok (.ifCond .eq 17, 3) := by decide +kernel
theorem dX5_write_89 : decode cX5_write 89 = .ok (.aload_n 0, 1) := by decide +kernel
theorem dX5_write_90 : decode cX5_write 90 = .ok (.aload_n 0, 1) := by decide +kernel
theorem dX5_write_91 : decode cX5_write 91 = .ok (.getfield 9, 3) := by decide +kernel
theorem dX5_write_94 : decode cX5_write 94 = .ok (.iload_n 2, 1) := by decide +kernel
theorem dX5_write_95 : decode cX5_write 95 = .ok (.iconst (-1), 1) := by decide +kernel
theorem dX5_write_96 : decode cX5_write 96 = .ok (.iconst (-1), 1) := by decide +kernel
theorem dX5_write_97 : decode cX5_write 97 = .ok (.invokevirtual 74, 3) := by decide +kernel
theorem dX5_write_100 : decode cX5_write 100 = .ok (.goto 4, 3) := by decide +kernel
theorem dX5_write_103 : decode cX5_write 103 = .ok (.iconst (-1), 1) := by decide +kernel
theorem dX5_write_104 : decode cX5_write 104 = .ok (.ireturn, 1) := by decide +kernel
set_option maxRecDepth 20000 in
theorem ggX5_letter_X5_isText : GoodIn wsX5_letter wsX5_isText := goodIn_r _ [8, 9, 10, 11, 7, 12, 17, 18, 19, 20, 21, 22, 23, 24, 25, 26, 27, 28, 29, 30, 31, 32, 33] (by decide +kernel) (by decide +kernel)
set_option maxRecDepth 20000 in
theorem gX5_letter_X5_isText : GoodIn wsX5_letter (wsV RX5 78 RX5 yX5_isText wsX5_isText) := goodIn_app (goodIn_of _ (by decide +kernel)) ggX5_letter_X5_isText
set_option maxRecDepth 20000 in
theorem ggX5_letter_X5_isIn : GoodIn wsX5_letter wsX5_isIn := goodIn_r _ [12] (by decide +kernel) (by decide +kernel)
set_option maxRecDepth 20000 in
theorem gX5_letter_X5_isIn : GoodIn wsX5_letter (va_wsS RX5 54 yX5_isIn wsX5_isIn) := goodIn_app (goodIn_of _ (by decide +kernel)) ggX5_letter_X5_isIn
set_option maxRecDepth 20000 in
theorem ggX5_letter_X5_no : GoodIn wsX5_letter wsX5_no := goodIn_r _ [16, 1, 17, 18, 19, 20, 21, 22, 23, 24, 25, 26, 27, 28, 29, 30, 31, 32, 33] (by decide +kernel) (by decide +kernel)
set_option maxRecDepth 20000 in
theorem gX5_letter_X5_no : GoodIn wsX5_letter (wsV RX5 64 RX5 yX5_no wsX5_no) := goodIn_app (goodIn_of _ (by decide +kernel)) ggX5_letter_X5_no
theorem dX5_letter_0 : decode cX5_letter 0 = .ok (.aload_n 0, 1) := by decide +kernel
theorem dX5_letter_1 : decode cX5_letter 1 = .ok (.iconst 0, 1) := by decide +kernel
theorem dX5_letter_2 : decode cX5_letter 2 = .ok (.putfield 47, 3) := by decide +kernel
theorem dX5_letter_5 : decode cX5_letter 5 = .ok (.aload_n 0, 1) := by decide +kernel
theorem dX5_letter_6 : decode cX5_letter 6 = .ok (.iload_n 1, 1) := by decide +kernel
theorem dX5_letter_7 : decode cX5_letter 7 = .ok (.invokevirtual 78, 3) := by decide +kernel
theorem dX5_letter_10 : decode cX5_letter 10 = .ok (.ifCond .eq 33, 3) := by decide +kernel
theorem dX5_letter_13 : decode cX5_letter 13 = .ok (.iload_n 2, 1) := by decide +kernel
theorem dX5_letter_14 : decode cX5_letter 14 = .ok (.iconst 0, 1) := by decide +kernel
theorem dX5_letter_15 : decode cX5_letter 15 = .ok (.aload_n 0, 1) := by decide +kernel
theorem dX5_letter_16 : decode cX5_letter 16 = .ok (.getfield 16, 3) := by decide +kernel
theorem dX5_letter_19 : decode cX5_letter 19 = .ok (.iload_n 1, 1) := by decide +kernel
theorem dX5_letter_20 : decode cX5_letter 20 = .ok (.iaload, 1) := by decide +kernel
theorem dX5_letter_21 : decode cX5_letter 21 = .ok (.iconst 1, 1) := by decide +kernel
theorem dX5_letter_22 : decode cX5_letter 22 = .ok (.isub, 1) := by decide +kernel
theorem dX5_letter_23 : decode cX5_letter 23 = .ok (.invokestatic 54, 3) := by decide +kernel
theorem dX5_letter_26 : decode cX5_letter 26 = .ok (.ifCond .eq 17, 3) := by decide +kernel
theorem dX5_letter_29 : decode cX5_letter 29 = .ok (.aload_n 0, 1) := by decide +kernel
theorem dX5_letter_30 : decode cX5_letter 30 = .ok (.getfield 13, 3) := by decide +kernel
theorem dX5_letter_33 : decode cX5_letter 33 = .ok (.bipush 120, 2) := by decide +kernel
theorem dX5_letter_35 : decode cX5_letter 35 = .ok (.iload_n 1, 1) := by decide +kernel
theorem dX5_letter_36 : decode cX5_letter 36 = .ok (.imul, 1) := by decide +kernel
theorem dX5_letter_37 : decode cX5_letter 37 = .ok (.iload_n 2, 1) := by decide +kernel
theorem dX5_letter_38 : decode cX5_letter 38 = .ok (.iadd, 1) := by decide +kernel
theorem dX5_letter_39 : decode cX5_letter 39 = .ok (.iaload, 1) := by decide +kernel
theorem dX5_letter_40 : decode cX5_letter 40 = .ok (.goto 8, 3) := by decide +kernel
theorem dX5_letter_43 : decode cX5_letter 43 = .ok (.aload_n 0, 1) := by decide +kernel
theorem dX5_letter_44 : decode cX5_letter 44 = .ok (.iconst 1, 1) := by decide +kernel
theorem dX5_letter_45 : decode cX5_letter 45 = .ok (.invokevirtual 64, 3) := by decide +kernel
theorem dX5_letter_48 : decode cX5_letter 48 = .ok (.ireturn, 1) := by decide +kernel
set_option maxRecDepth 20000 in
theorem ggX5_addScribe_X5_no : GoodIn wsX5_addScribe wsX5_no := goodIn_r _ [7, 1, 8, 9, 10, 11, 12, 13, 14, 15, 16, 17, 18, 19, 20, 21, 22, 23, 24] (by decide +kernel) (by decide +kernel)
set_option maxRecDepth 20000 in
theorem gX5_addScribe_X5_no : GoodIn wsX5_addScribe (wsV RX5 64 RX5 yX5_no wsX5_no) := goodIn_app (goodIn_of _ (by decide +kernel)) ggX5_addScribe_X5_no
theorem dX5_addScribe_0 : decode cX5_addScribe 0 = .ok (.aload_n 0, 1) := by decide +kernel
theorem dX5_addScribe_1 : decode cX5_addScribe 1 = .ok (.iconst 0, 1) := by decide +kernel
theorem dX5_addScribe_2 : decode cX5_addScribe 2 = .ok (.putfield 47, 3) := by decide +kernel
theorem dX5_addScribe_5 : decode cX5_addScribe 5 = .ok (.aload_n 0, 1) := by decide +kernel
theorem dX5_addScribe_6 : decode cX5_addScribe 6 = .ok (.getfield 58, 3) := by decide +kernel
theorem dX5_addScribe_9 : decode cX5_addScribe 9 = .ok (.bipush 8, 2) := by decide +kernel
theorem dX5_addScribe_11 : decode cX5_addScribe 11 = .ok (.if_icmp .ne 9, 3) := by decide +kernel
theorem dX5_addScribe_14 : decode cX5_addScribe 14 = .ok (.aload_n 0, 1) := by decide +kernel
theorem dX5_addScribe_15 : decode cX5_addScribe 15 = .ok (.iconst 1, 1) := by decide +kernel
theorem dX5_addScribe_16 : decode cX5_addScribe 16 = .ok (.invokevirtual 64, 3) := by decide +kernel
theorem dX5_addScribe_19 : decode cX5_addScribe 19 = .ok (.ireturn, 1) := by decide +kernel
theorem dX5_addScribe_20 : decode cX5_addScribe 20 = .ok (.aload_n 0, 1) := by decide +kernel
theorem dX5_addScribe_21 : decode cX5_addScribe 21 = .ok (.dup, 1) := by decide +kernel
theorem dX5_addScribe_22 : decode cX5_addScribe 22 = .ok (.getfield 58, 3) := by decide +kernel
theorem dX5_addScribe_25 : decode cX5_addScribe 25 = .ok (.iconst 1, 1) := by decide +kernel
theorem dX5_addScribe_26 : decode cX5_addScribe 26 = .ok (.iadd, 1) := by decide +kernel
theorem dX5_addScribe_27 : decode cX5_addScribe 27 = .ok (.putfield 58, 3) := by decide +kernel
theorem dX5_addScribe_30 : decode cX5_addScribe 30 = .ok (.aload_n 0, 1) := by decide +kernel
theorem dX5_addScribe_31 : decode cX5_addScribe 31 = .ok (.getfield 58, 3) := by decide +kernel
theorem dX5_addScribe_34 : decode cX5_addScribe 34 = .ok (.iconst 1, 1) := by decide +kernel
theorem dX5_addScribe_35 : decode cX5_addScribe 35 = .ok (.isub, 1) := by decide +kernel
theorem dX5_addScribe_36 : decode cX5_addScribe 36 = .ok (.ireturn, 1) := by decide +kernel
set_option maxRecDepth 20000 in
theorem ggX5_addHabit_X5_isScribe : GoodIn wsX5_addHabit wsX5_isScribe := goodIn_r _ [13, 14, 15, 16, 12, 17, 22, 23, 24, 25, 26, 27, 28, 29, 30, 31, 32, 33, 34, 35, 36, 37, 38] (by decide +kernel) (by decide +kernel)
set_option maxRecDepth 20000 in
theorem gX5_addHabit_X5_isScribe : GoodIn wsX5_addHabit (wsV RX5 82 RX5 yX5_isScribe wsX5_isScribe) := goodIn_app (goodIn_of _ (by decide +kernel)) ggX5_addHabit_X5_isScribe
set_option maxRecDepth 20000 in
theorem ggX5_addHabit_X5_no : GoodIn wsX5_addHabit wsX5_no := goodIn_r _ [21, 1, 22, 23, 24, 25, 26, 27, 28, 29, 30, 31, 32, 33, 34, 35, 36, 37, 38] (by decide +kernel) (by decide +kernel)
set_option maxRecDepth 20000 in
theorem gX5_addHabit_X5_no : GoodIn wsX5_addHabit (wsV RX5 64 RX5 yX5_no wsX5_no) := goodIn_app (goodIn_of _ (by decide +kernel)) ggX5_addHabit_X5_no
set_option maxRecDepth 20000 in
theorem ggX5_addHabit_X5_isIn : GoodIn wsX5_addHabit wsX5_isIn := goodIn_r _ [17] (by decide +kernel) (by decide +kernel)
set_option maxRecDepth 20000 in
theorem gX5_addHabit_X5_isIn : GoodIn wsX5_addHabit (va_wsS RX5 54 yX5_isIn wsX5_isIn) := goodIn_app (goodIn_of _ (by decide +kernel)) ggX5_addHabit_X5_isIn
theorem dX5_addHabit_0 : decode cX5_addHabit 0 = .ok (.aload_n 0, 1) := by decide +kernel
theorem dX5_addHabit_1 : decode cX5_addHabit 1 = .ok (.iconst 0, 1) := by decide +kernel
theorem dX5_addHabit_2 : decode cX5_addHabit 2 = .ok (.putfield 47, 3) := by decide +kernel
theorem dX5_addHabit_5 : decode cX5_addHabit 5 = .ok (.aload_n 0, 1) := by decide +kernel
theorem dX5_addHabit_6 : decode cX5_addHabit 6 = .ok (.iload_n 1, 1) := by decide +kernel
theorem dX5_addHabit_7 : decode cX5_addHabit 7 = .ok (.invokevirtual 82, 3) := by decide +kernel
theorem dX5_addHabit_10 : decode cX5_addHabit 10 = .ok (.ifCond .ne 9, 3) := by decide +kernel
theorem dX5_addHabit_13 : decode cX5_addHabit 13 = .ok (.aload_n 0, 1) := by decide +kernel
theorem dX5_addHabit_14 : decode cX5_addHabit 14 = .ok (.iconst 1, 1) := by decide +kernel
theorem dX5_addHabit_15 : decode cX5_addHabit 15 = .ok (.invokevirtual 64, 3) := by decide +kernel
theorem dX5_addHabit_18 : decode cX5_addHabit 18 = .ok (.ireturn, 1) := by decide +kernel
theorem dX5_addHabit_19 : decode cX5_addHabit 19 = .ok (.iload_n 2, 1) := by decide +kernel
theorem dX5_addHabit_20 : decode cX5_addHabit 20 = .ok (.iconst 0, 1) := by decide +kernel
theorem dX5_addHabit_21 : decode cX5_addHabit 21 = .ok (.iconst 4, 1) := by decide +kernel
theorem dX5_addHabit_22 : decode cX5_addHabit 22 = .ok (.invokestatic 54, 3) := by decide +kernel
theorem dX5_addHabit_25 : decode cX5_addHabit 25 = .ok (.ifCond .eq 35, 3) := by decide +kernel
theorem dX5_addHabit_28 : decode cX5_addHabit 28 = .ok (.iload_n 3, 1) := by decide +kernel
theorem dX5_addHabit_29 : decode cX5_addHabit 29 = .ok (.iconst 0, 1) := by decide +kernel
theorem dX5_addHabit_30 : decode cX5_addHabit 30 = .ok (.bipush 25, 2) := by decide +kernel
theorem dX5_addHabit_32 : decode cX5_addHabit 32 = .ok (.invokestatic 54, 3) := by decide +kernel
theorem dX5_addHabit_35 : decode cX5_addHabit 35 = .ok (.ifCond .eq 25, 3) := by decide +kernel
theorem dX5_addHabit_38 : decode cX5_addHabit 38 = .ok (.iload 4, 2) := by decide +kernel
theorem dX5_addHabit_40 : decode cX5_addHabit 40 = .ok (.iconst 0, 1) := by decide +kernel
theorem dX5_addHabit_41 : decode cX5_addHabit 41 = .ok (.bipush 25, 2) := by decide +kernel
theorem dX5_addHabit_43 : decode cX5_addHabit 43 = .ok (.invokestatic 54, 3) := by decide +kernel
theorem dX5_addHabit_46 : decode cX5_addHabit 46 = .ok (.ifCond .eq 14, 3) := by decide +kernel
theorem dX5_addHabit_49 : decode cX5_addHabit 49 = .ok (.iload 5, 2) := by decide +kernel
theorem dX5_addHabit_51 : decode cX5_addHabit 51 = .ok (.iconst 1, 1) := by decide +kernel
theorem dX5_addHabit_52 : decode cX5_addHabit 52 = .ok (.bipush 9, 2) := by decide +kernel
theorem dX5_addHabit_54 : decode cX5_addHabit 54 = .ok (.invokestatic 54, 3) := by decide +kernel
theorem dX5_addHabit_57 : decode cX5_addHabit 57 = .ok (.ifCond .ne 9, 3) := by decide +kernel
theorem dX5_addHabit_60 : decode cX5_addHabit 60 = .ok (.aload_n 0, 1) := by decide +kernel
theorem dX5_addHabit_61 : decode cX5_addHabit 61 = .ok (.iconst 2, 1) := by decide +kernel
theorem dX5_addHabit_62 : decode cX5_addHabit 62 = .ok (.invokevirtual 64, 3) := by decide +kernel
theorem dX5_addHabit_65 : decode cX5_addHabit 65 = .ok (.ireturn, 1) := by decide +kernel
theorem dX5_addHabit_66 : decode cX5_addHabit 66 = .ok (.aload_n 0, 1) := by decide +kernel
theorem dX5_addHabit_67 : decode cX5_addHabit 67 = .ok (.getfield 29, 3) := by decide +kernel
theorem dX5_addHabit_70 : decode cX5_addHabit 70 = .ok (.iload_n 1, 1) := by decide +kernel
theorem dX5_addHabit_71 : decode cX5_addHabit 71 = .ok (.iaload, 1) := by decide +kernel
theorem dX5_addHabit_72 : decode cX5_addHabit 72 = .ok (.iconst 5, 1) := by decide +kernel
theorem dX5_addHabit_73 : decode cX5_addHabit 73 = .ok (.if_icmp .ne 9, 3) := by decide +kernel
theorem dX5_addHabit_76 : decode cX5_addHabit 76 = .ok (.aload_n 0, 1) := by decide +kernel
theorem dX5_addHabit_77 : decode cX5_addHabit 77 = .ok (.iconst 3, 1) := by decide +kernel
theorem dX5_addHabit_78 : decode cX5_addHabit 78 = .ok (.invokevirtual 64, 3) := by decide +kernel
theorem dX5_addHabit_81 : decode cX5_addHabit 81 = .ok (.ireturn, 1) := by decide +kernel
theorem dX5_addHabit_82 : decode cX5_addHabit 82 = .ok (.iconst 4, 1) := by decide +kernel
theorem dX5_addHabit_83 : decode cX5_addHabit 83 = .ok (.newarray .int, 2) := by decide +kernel
theorem dX5_addHabit_85 : decode cX5_addHabit 85 = .ok (.dup, 1) := by decide +kernel
theorem dX5_addHabit_86 : decode cX5_addHabit 86 = .ok (.iconst 0, 1) := by decide +kernel
theorem dX5_addHabit_87 : decode cX5_addHabit 87 = .ok (.iload_n 2, 1) := by decide +kernel
theorem dX5_addHabit_88 : decode cX5_addHabit 88 = .ok (.iastore, 1) := by decide +kernel
theorem dX5_addHabit_89 : decode cX5_addHabit 89 = .ok (.dup, 1) := by decide +kernel
theorem dX5_addHabit_90 : decode cX5_addHabit 90 = .ok (.iconst 1, 1) := by decide +kernel
theorem dX5_addHabit_91 : decode cX5_addHabit 91 = .ok (.iload_n 3, 1) := by decide +kernel
theorem dX5_addHabit_92 : decode cX5_addHabit 92 = .ok (.iastore, 1) := by decide +kernel
theorem dX5_addHabit_93 : decode cX5_addHabit 93 = .ok (.dup, 1) := by decide +kernel
theorem dX5_addHabit_94 : decode cX5_addHabit 94 = .ok (.iconst 2, 1) := by decide +kernel
theorem dX5_addHabit_95 : decode cX5_addHabit 95 = .ok (.iload 4, 2) := by decide +kernel
theorem dX5_addHabit_97 : decode cX5_addHabit 97 = .ok (.iastore, 1) := by decide +kernel
theorem dX5_addHabit_98 : decode cX5_addHabit 98 = .ok (.dup, 1) := by decide +kernel
theorem dX5_addHabit_99 : decode cX5_addHabit 99 = .ok (.iconst 3, 1) := by decide +kernel
theorem dX5_addHabit_100 : decode cX5_addHabit 100 = .ok (.iload 5, 2) := by decide +kernel
theorem dX5_addHabit_102 : decode cX5_addHabit 102 = .ok (.iastore, 1) := by decide +kernel
theorem dX5_addHabit_103 : decode cX5_addHabit 103 = .ok (.astore 6, 2) := by decide +kernel
theorem dX5_addHabit_105 : decode cX5_addHabit 105 = .ok (.aload 6, 2) := by decide +kernel
theorem dX5_addHabit_107 : decode cX5_addHabit 107 = .ok (.iconst 0, 1) := by decide +kernel
theorem dX5_addHabit_108 : decode cX5_addHabit 108 = .ok (.aload_n 0, 1) := by decide +kernel
theorem dX5_addHabit_109 : decode cX5_addHabit 109 = .ok (.getfield 32, 3) := by decide +kernel
theorem dX5_addHabit_112 : decode cX5_addHabit 112 = .ok (.iconst 4, 1) := by decide +kernel
theorem dX5_addHabit_113 : decode cX5_addHabit 113 = .ok (.iconst 5, 1) := by decide +kernel
theorem dX5_addHabit_114 : decode cX5_addHabit 114 = .ok (.iload_n 1, 1) := by decide +kernel
theorem dX5_addHabit_115 : decode cX5_addHabit 115 = .ok (.imul, 1) := by decide +kernel
theorem dX5_addHabit_116 : decode cX5_addHabit 116 = .ok (.aload_n 0, 1) := by decide +kernel
theorem dX5_addHabit_117 : decode cX5_addHabit 117 = .ok (.getfield 29, 3) := by decide +kernel
theorem dX5_addHabit_120 : decode cX5_addHabit 120 = .ok (.iload_n 1, 1) := by decide +kernel
theorem dX5_addHabit_121 : decode cX5_addHabit 121 = .ok (.iaload, 1) := by decide +kernel
theorem dX5_addHabit_122 : decode cX5_addHabit 122 = .ok (.iadd, 1) := by decide +kernel
theorem dX5_addHabit_123 : decode cX5_addHabit 123 = .ok (.imul, 1) := by decide +kernel
theorem dX5_addHabit_124 : decode cX5_addHabit 124 = .ok (.iconst 4, 1) := by decide +kernel
theorem dX5_addHabit_125 : decode cX5_addHabit 125 = .ok (.invokestatic 68, 3) := by decide +kernel
theorem dX5_addHabit_128 : decode cX5_addHabit 128 = .ok (.aload_n 0, 1) := by decide +kernel
theorem dX5_addHabit_129 : decode cX5_addHabit 129 = .ok (.getfield 29, 3) := by decide +kernel
theorem dX5_addHabit_132 : decode cX5_addHabit 132 = .ok (.iload_n 1, 1) := by decide +kernel
theorem dX5_addHabit_133 : decode cX5_addHabit 133 = .ok (.dup2, 1) := by decide +kernel
theorem dX5_addHabit_134 : decode cX5_addHabit 134 = .ok (.iaload, 1) := by decide +kernel
theorem dX5_addHabit_135 : decode cX5_addHabit 135 = .ok (.iconst 1, 1) := by decide +kernel
theorem dX5_addHabit_136 : decode cX5_addHabit 136 = .ok (.iadd, 1) := by decide +kernel
theorem dX5_addHabit_137 : decode cX5_addHabit 137 = .ok (.iastore, 1) := by decide +kernel
theorem dX5_addHabit_138 : decode cX5_addHabit 138 = .ok (.aload_n 0, 1) := by decide +kernel
theorem dX5_addHabit_139 : decode cX5_addHabit 139 = .ok (.getfield 29, 3) := by decide +kernel
theorem dX5_addHabit_142 : decode cX5_addHabit 142 = .ok (.iload_n 1, 1) := by decide +kernel
theorem dX5_addHabit_143 : decode cX5_addHabit 143 = .ok (.iaload, 1) := by decide +kernel
theorem dX5_addHabit_144 : decode cX5_addHabit 144 = .ok (.ireturn, 1) := by decide +kernel
set_option maxRecDepth 20000 in
theorem ggX5_dropHabit_X5_isScribe : GoodIn wsX5_dropHabit wsX5_isScribe := goodIn_r _ [8, 9, 10, 11, 7, 12, 17, 18, 19, 20, 21, 22, 23, 24, 25, 26, 27, 28, 29, 30, 31, 32, 33] (by decide +kernel) (by decide +kernel)
set_option maxRecDepth 20000 in
theorem gX5_dropHabit_X5_isScribe : GoodIn wsX5_dropHabit (wsV RX5 82 RX5 yX5_isScribe wsX5_isScribe) := goodIn_app (goodIn_of _ (by decide +kernel)) ggX5_dropHabit_X5_isScribe
set_option maxRecDepth 20000 in
theorem ggX5_dropHabit_X5_isIn : GoodIn wsX5_dropHabit wsX5_isIn := goodIn_r _ [12] (by decide +kernel) (by decide +kernel)
set_option maxRecDepth 20000 in
theorem gX5_dropHabit_X5_isIn : GoodIn wsX5_dropHabit (va_wsS RX5 54 yX5_isIn wsX5_isIn) := goodIn_app (goodIn_of _ (by decide +kernel)) ggX5_dropHabit_X5_isIn
set_option maxRecDepth 20000 in
theorem ggX5_dropHabit_X5_no : GoodIn wsX5_dropHabit wsX5_no := goodIn_r _ [16, 1, 17, 18, 19, 20, 21, 22, 23, 24, 25, 26, 27, 28, 29, 30, 31, 32, 33] (by decide +kernel) (by decide +kernel)
set_option maxRecDepth 20000 in
theorem gX5_dropHabit_X5_no : GoodIn wsX5_dropHabit (wsV RX5 64 RX5 yX5_no wsX5_no) := goodIn_app (goodIn_of _ (by decide +kernel)) ggX5_dropHabit_X5_no
theorem dX5_dropHabit_0 : decode cX5_dropHabit 0 = .ok (.aload_n 0, 1) := by decide +kernel
theorem dX5_dropHabit_1 : decode cX5_dropHabit 1 = .ok (.iconst 0, 1) := by decide +kernel
theorem dX5_dropHabit_2 : decode cX5_dropHabit 2 = .ok (.putfield 47, 3) := by decide +kernel
theorem dX5_dropHabit_5 : decode cX5_dropHabit 5 = .ok (.aload_n 0, 1) := by decide +kernel
theorem dX5_dropHabit_6 : decode cX5_dropHabit 6 = .ok (.iload_n 1, 1) := by decide +kernel
theorem dX5_dropHabit_7 : decode cX5_dropHabit 7 = .ok (.invokevirtual 82, 3) := by decide +kernel
theorem dX5_dropHabit_10 : decode cX5_dropHabit 10 = .ok (.ifCond .eq 19, 3) := by decide +kernel
theorem dX5_dropHabit_13 : decode cX5_dropHabit 13 = .ok (.iload_n 2, 1) := by decide +kernel
theorem dX5_dropHabit_14 : decode cX5_dropHabit 14 = .ok (.iconst 0, 1) := by decide +kernel
theorem dX5_dropHabit_15 : decode cX5_dropHabit 15 = .ok (.aload_n 0, 1) := by decide +kernel
theorem dX5_dropHabit_16 : decode cX5_dropHabit 16 = .ok (.getfield 29, 3) := by decide +kernel
theorem dX5_dropHabit_19 : decode cX5_dropHabit 19 = .ok (.iload_n 1, 1) := by decide +kernel
theorem dX5_dropHabit_20 : decode cX5_dropHabit 20 = .ok (.iaload, 1) := by decide +kernel
theorem dX5_dropHabit_21 : decode cX5_dropHabit 21 = .ok (.iconst 1, 1) := by decide +kernel
theorem dX5_dropHabit_22 : decode cX5_dropHabit 22 = .ok (.isub, 1) := by decide +kernel
theorem dX5_dropHabit_23 : decode cX5_dropHabit 23 = .ok (.invokestatic 54, 3) := by decide +kernel
theorem dX5_dropHabit_26 : decode cX5_dropHabit 26 = .ok (.ifCond .ne 9, 3) := by decide +kernel
theorem dX5_dropHabit_29 : decode cX5_dropHabit 29 = .ok (.aload_n 0, 1) := by decide +kernel
theorem dX5_dropHabit_30 : decode cX5_dropHabit 30 = .ok (.iconst 1, 1) := by decide +kernel
theorem dX5_dropHabit_31 : decode cX5_dropHabit 31 = .ok (.invokevirtual 64, 3) := by decide +kernel
theorem dX5_dropHabit_34 : decode cX5_dropHabit 34 = .ok (.ireturn, 1) := by decide +kernel
theorem dX5_dropHabit_35 : decode cX5_dropHabit 35 = .ok (.aload_n 0, 1) := by decide +kernel
theorem dX5_dropHabit_36 : decode cX5_dropHabit 36 = .ok (.getfield 29, 3) := by decide +kernel
theorem dX5_dropHabit_39 : decode cX5_dropHabit 39 = .ok (.iload_n 1, 1) := by decide +kernel
theorem dX5_dropHabit_40 : decode cX5_dropHabit 40 = .ok (.dup2, 1) := by decide +kernel
theorem dX5_dropHabit_41 : decode cX5_dropHabit 41 = .ok (.iaload, 1) := by decide +kernel
theorem dX5_dropHabit_42 : decode cX5_dropHabit 42 = .ok (.iconst 1, 1) := by decide +kernel
theorem dX5_dropHabit_43 : decode cX5_dropHabit 43 = .ok (.isub, 1) := by decide +kernel
theorem dX5_dropHabit_44 : decode cX5_dropHabit 44 = .ok (.iastore, 1) := by decide +kernel
theorem dX5_dropHabit_45 : decode cX5_dropHabit 45 = .ok (.iconst 4, 1) := by decide +kernel
theorem dX5_dropHabit_46 : decode cX5_dropHabit 46 = .ok (.iconst 5, 1) := by decide +kernel
theorem dX5_dropHabit_47 : decode cX5_dropHabit 47 = .ok (.iload_n 1, 1) := by decide +kernel
theorem dX5_dropHabit_48 : decode cX5_dropHabit 48 = .ok (.imul, 1) := by decide +kernel
theorem dX5_dropHabit_49 : decode cX5_dropHabit 49 = .ok (.iload_n 2, 1) := by decide +kernel
theorem dX5_dropHabit_50 : decode cX5_dropHabit 50 = .ok (.iadd, 1) := by decide +kernel
theorem dX5_dropHabit_51 : decode cX5_dropHabit 51 = .ok (.imul, 1) := by decide +kernel
theorem dX5_dropHabit_52 : decode cX5_dropHabit 52 = .ok (.istore_n 3, 1) := by decide +kernel
theorem dX5_dropHabit_53 : decode cX5_dropHabit 53 = .ok (.iload_n 3, 1) := by decide +kernel
theorem dX5_dropHabit_54 : decode cX5_dropHabit 54 = .ok (.iconst 4, 1) := by decide +kernel
theorem dX5_dropHabit_55 : decode cX5_dropHabit 55 = .ok (.iconst 5, 1) := by decide +kernel
theorem dX5_dropHabit_56 : decode cX5_dropHabit 56 = .ok (.iload_n 1, 1) := by decide +kernel
theorem dX5_dropHabit_57 : decode cX5_dropHabit 57 = .ok (.imul, 1) := by decide +kernel
theorem dX5_dropHabit_58 : decode cX5_dropHabit 58 = .ok (.aload_n 0, 1) := by decide +kernel
theorem dX5_dropHabit_59 : decode cX5_dropHabit 59 = .ok (.getfield 29, 3) := by decide +kernel
theorem dX5_dropHabit_62 : decode cX5_dropHabit 62 = .ok (.iload_n 1, 1) := by decide +kernel
theorem dX5_dropHabit_63 : decode cX5_dropHabit 63 = .ok (.iaload, 1) := by decide +kernel
theorem dX5_dropHabit_64 : decode cX5_dropHabit 64 = .ok (.iadd, 1) := by decide +kernel
theorem dX5_dropHabit_65 : decode cX5_dropHabit 65 = .ok (.imul, 1) := by decide +kernel
theorem dX5_dropHabit_66 : decode cX5_dropHabit 66 = .ok (.if_icmp .ge 23, 3) := by decide +kernel
theorem dX5_dropHabit_69 : decode cX5_dropHabit 69 = .ok (.aload_n 0, 1) := by decide +kernel
theorem dX5_dropHabit_70 : decode cX5_dropHabit 70 = .ok (.getfield 32, 3) := by decide +kernel
theorem dX5_dropHabit_73 : decode cX5_dropHabit 73 = .ok (.iload_n 3, 1) := by decide +kernel
theorem dX5_dropHabit_74 : decode cX5_dropHabit 74 = .ok (.aload_n 0, 1) := by decide +kernel
theorem dX5_dropHabit_75 : decode cX5_dropHabit 75 = .ok (.getfield 32, 3) := by decide +kernel
theorem dX5_dropHabit_78 : decode cX5_dropHabit 78 = .ok (.iload_n 3, 1) := by decide +kernel
theorem dX5_dropHabit_79 : decode cX5_dropHabit 79 = .ok (.iconst 4, 1) := by decide +kernel
theorem dX5_dropHabit_80 : decode cX5_dropHabit 80 = .ok (.iadd, 1) := by decide +kernel
theorem dX5_dropHabit_81 : decode cX5_dropHabit 81 = .ok (.iaload, 1) := by decide +kernel
theorem dX5_dropHabit_82 : decode cX5_dropHabit 82 = .ok (.iastore, 1) := by decide +kernel
theorem dX5_dropHabit_83 : decode cX5_dropHabit 83 = .ok (.iinc 3 1, 3) := by decide +kernel
theorem dX5_dropHabit_86 : decode cX5_dropHabit 86 = .ok (.goto (-33), 3) := by decide +kernel
theorem dX5_dropHabit_89 : decode cX5_dropHabit 89 = .ok (.aload_n 0, 1) := by decide +kernel
theorem dX5_dropHabit_90 : decode cX5_dropHabit 90 = .ok (.getfield 29, 3) := by decide +kernel
theorem dX5_dropHabit_93 : decode cX5_dropHabit 93 = .ok (.iload_n 1, 1) := by decide +kernel
theorem dX5_dropHabit_94 : decode cX5_dropHabit 94 = .ok (.iaload, 1) := by decide +kernel
theorem dX5_dropHabit_95 : decode cX5_dropHabit 95 = .ok (.ireturn, 1) := by decide +kernel
set_option maxRecDepth 20000 in
theorem ggX5_habit_X5_isScribe : GoodIn wsX5_habit wsX5_isScribe := goodIn_r _ [8, 9, 10, 11, 7, 12, 17, 18, 19, 20, 21, 22, 23, 24, 25, 26, 27, 28, 29, 30, 31, 32, 33] (by decide +kernel) (by decide +kernel)
set_option maxRecDepth 20000 in
theorem gX5_habit_X5_isScribe : GoodIn wsX5_habit (wsV RX5 82 RX5 yX5_isScribe wsX5_isScribe) := goodIn_app (goodIn_of _ (by decide +kernel)) ggX5_habit_X5_isScribe
set_option maxRecDepth 20000 in
theorem ggX5_habit_X5_isIn : GoodIn wsX5_habit wsX5_isIn := goodIn_r _ [12] (by decide +kernel) (by decide +kernel)
set_option maxRecDepth 20000 in
theorem gX5_habit_X5_isIn : GoodIn wsX5_habit (va_wsS RX5 54 yX5_isIn wsX5_isIn) := goodIn_app (goodIn_of _ (by decide +kernel)) ggX5_habit_X5_isIn
set_option maxRecDepth 20000 in
theorem ggX5_habit_X5_no : GoodIn wsX5_habit wsX5_no := goodIn_r _ [16, 1, 17, 18, 19, 20, 21, 22, 23, 24, 25, 26, 27, 28, 29, 30, 31, 32, 33] (by decide +kernel) (by decide +kernel)
set_option maxRecDepth 20000 in
theorem gX5_habit_X5_no : GoodIn wsX5_habit (wsV RX5 64 RX5 yX5_no wsX5_no) := goodIn_app (goodIn_of _ (by decide +kernel)) ggX5_habit_X5_no
theorem dX5_habit_0 : decode cX5_habit 0 = .ok (.aload_n 0, 1) := by decide +kernel
theorem dX5_habit_1 : decode cX5_habit 1 = .ok (.iconst 0, 1) := by decide +kernel
theorem dX5_habit_2 : decode cX5_habit 2 = .ok (.putfield 47, 3) := by decide +kernel
theorem dX5_habit_5 : decode cX5_habit 5 = .ok (.aload_n 0, 1) := by decide +kernel
theorem dX5_habit_6 : decode cX5_habit 6 = .ok (.iload_n 1, 1) := by decide +kernel
theorem dX5_habit_7 : decode cX5_habit 7 = .ok (.invokevirtual 82, 3) := by decide +kernel
theorem dX5_habit_10 : decode cX5_habit 10 = .ok (.ifCond .eq 45, 3) := by decide +kernel
theorem dX5_habit_13 : decode cX5_habit 13 = .ok (.iload_n 2, 1) := by decide +kernel
theorem dX5_habit_14 : decode cX5_habit 14 = .ok (.iconst 0, 1) := by decide +kernel
theorem dX5_habit_15 : decode cX5_habit 15 = .ok (.aload_n 0, 1) := by decide +kernel
theorem dX5_habit_16 : decode cX5_habit 16 = .ok (.getfield 29, 3) := by decide +kernel
theorem dX5_habit_19 : decode cX5_habit 19 = .ok (.iload_n 1, 1) := by decide +kernel
theorem dX5_habit_20 : decode cX5_habit 20 = .ok (.iaload, 1) := by decide +kernel
theorem dX5_habit_21 : decode cX5_habit 21 = .ok (.iconst 1, 1) := by decide +kernel
theorem dX5_habit_22 : decode cX5_habit 22 = .ok (.isub, 1) := by decide +kernel
theorem dX5_habit_23 : decode cX5_habit 23 = .ok (.invokestatic 54, 3) := by decide +kernel
theorem dX5_habit_26 : decode cX5_habit 26 = .ok (.ifCond .eq 29, 3) := by decide +kernel
theorem dX5_habit_29 : decode cX5_habit 29 = .ok (.iload_n 3, 1) := by decide +kernel
theorem dX5_habit_30 : decode cX5_habit 30 = .ok (.iconst 0, 1) := by decide +kernel
theorem dX5_habit_31 : decode cX5_habit 31 = .ok (.iconst 3, 1) := by decide +kernel
theorem dX5_habit_32 : decode cX5_habit 32 = .ok (.invokestatic 54, 3) := by decide +kernel
theorem dX5_habit_35 : decode cX5_habit 35 = .ok (.ifCond .eq 20, 3) := by decide +kernel
theorem dX5_habit_38 : decode cX5_habit 38 = .ok (.aload_n 0, 1) := by decide +kernel
theorem dX5_habit_39 : decode cX5_habit 39 = .ok (.getfield 32, 3) := by decide +kernel
theorem dX5_habit_42 : decode cX5_habit 42 = .ok (.iconst 4, 1) := by decide +kernel
theorem dX5_habit_43 : decode cX5_habit 43 = .ok (.iconst 5, 1) := by decide +kernel
theorem dX5_habit_44 : decode cX5_habit 44 = .ok (.iload_n 1, 1) := by decide +kernel
theorem dX5_habit_45 : decode cX5_habit 45 = .ok (.imul, 1) := by decide +kernel
theorem dX5_habit_46 : decode cX5_habit 46 = .ok (.iload_n 2, 1) := by decide +kernel
theorem dX5_habit_47 : decode cX5_habit 47 = .ok (.iadd, 1) := by decide +kernel
theorem dX5_habit_48 : decode cX5_habit 48 = .ok (.imul, 1) := by decide +kernel
theorem dX5_habit_49 : decode cX5_habit 49 = .ok (.iload_n 3, 1) := by decide +kernel
theorem dX5_habit_50 : decode cX5_habit 50 = .ok (.iadd, 1) := by decide +kernel
theorem dX5_habit_51 : decode cX5_habit 51 = .ok (.iaload, 1) := by decide +kernel
theorem dX5_habit_52 : decode cX5_habit 52 = .ok (.goto 8, 3) := by decide +kernel
theorem dX5_habit_55 : decode cX5_habit 55 = .ok (.aload_n 0, 1) := by decide +kernel
theorem dX5_habit_56 : decode cX5_habit 56 = .ok (.iconst 1, 1) := by decide +kernel
theorem dX5_habit_57 : decode cX5_habit 57 = .ok (.invokevirtual 64, 3) := by decide +kernel
theorem dX5_habit_60 : decode cX5_habit 60 = .ok (.ireturn, 1) := by decide +kernel
theorem dX5_take_0 : decode cX5_take 0 = .ok (.aload_n 0, 1) := by decide +kernel
theorem dX5_take_1 : decode cX5_take 1 = .ok (.aload_n 0, 1) := by decide +kernel
theorem dX5_take_2 : decode cX5_take 2 = .ok (.getfield 16, 3) := by decide +kernel
theorem dX5_take_5 : decode cX5_take 5 = .ok (.iload_n 1, 1) := by decide +kernel
theorem dX5_take_6 : decode cX5_take 6 = .ok (.iaload, 1) := by decide +kernel
theorem dX5_take_7 : decode cX5_take 7 = .ok (.putfield 85, 3) := by decide +kernel
theorem dX5_take_10 : decode cX5_take 10 = .ok (.aload_n 0, 1) := by decide +kernel
theorem dX5_take_11 : decode cX5_take 11 = .ok (.getfield 13, 3) := by decide +kernel
theorem dX5_take_14 : decode cX5_take 14 = .ok (.bipush 120, 2) := by decide +kernel
theorem dX5_take_16 : decode cX5_take 16 = .ok (.iload_n 1, 1) := by decide +kernel
theorem dX5_take_17 : decode cX5_take 17 = .ok (.imul, 1) := by decide +kernel
theorem dX5_take_18 : decode cX5_take 18 = .ok (.aload_n 0, 1) := by decide +kernel
theorem dX5_take_19 : decode cX5_take 19 = .ok (.getfield 38, 3) := by decide +kernel
theorem dX5_take_22 : decode cX5_take 22 = .ok (.iconst 0, 1) := by decide +kernel
theorem dX5_take_23 : decode cX5_take 23 = .ok (.aload_n 0, 1) := by decide +kernel
theorem dX5_take_24 : decode cX5_take 24 = .ok (.getfield 85, 3) := by decide +kernel
theorem dX5_take_27 : decode cX5_take 27 = .ok (.invokestatic 68, 3) := by decide +kernel
theorem dX5_take_30 : decode cX5_take 30 = .ok (.return_, 1) := by decide +kernel
theorem dX5_become_0 : decode cX5_become 0 = .ok (.aload_n 0, 1) := by decide +kernel
theorem dX5_become_1 : decode cX5_become 1 = .ok (.getfield 41, 3) := by decide +kernel
theorem dX5_become_4 : decode cX5_become 4 = .ok (.iconst 0, 1) := by decide +kernel
theorem dX5_become_5 : decode cX5_become 5 = .ok (.aload_n 0, 1) := by decide +kernel
theorem dX5_become_6 : decode cX5_become 6 = .ok (.getfield 38, 3) := by decide +kernel
theorem dX5_become_9 : decode cX5_become 9 = .ok (.iconst 0, 1) := by decide +kernel
theorem dX5_become_10 : decode cX5_become 10 = .ok (.iload_n 1, 1) := by decide +kernel
theorem dX5_become_11 : decode cX5_become 11 = .ok (.invokestatic 68, 3) := by decide +kernel
theorem dX5_become_14 : decode cX5_become 14 = .ok (.aload_n 0, 1) := by decide +kernel
theorem dX5_become_15 : decode cX5_become 15 = .ok (.iload_n 1, 1) := by decide +kernel
theorem dX5_become_16 : decode cX5_become 16 = .ok (.putfield 85, 3) := by decide +kernel
theorem dX5_become_19 : decode cX5_become 19 = .ok (.return_, 1) := by decide +kernel
theorem dX5_change_0 : decode cX5_change 0 = .ok (.iconst 0, 1) := by decide +kernel
theorem dX5_change_1 : decode cX5_change 1 = .ok (.istore 4, 2) := by decide +kernel
theorem dX5_change_3 : decode cX5_change 3 = .ok (.iconst 0, 1) := by decide +kernel
theorem dX5_change_4 : decode cX5_change 4 = .ok (.istore 5, 2) := by decide +kernel
theorem dX5_change_6 : decode cX5_change 6 = .ok (.iload 5, 2) := by decide +kernel
theorem dX5_change_8 : decode cX5_change 8 = .ok (.aload_n 0, 1) := by decide +kernel
theorem dX5_change_9 : decode cX5_change 9 = .ok (.getfield 85, 3) := by decide +kernel
theorem dX5_change_12 : decode cX5_change 12 = .ok (.if_icmp .ge 41, 3) := by decide +kernel
theorem dX5_change_15 : decode cX5_change 15 = .ok (.aload_n 0, 1) := by decide +kernel
theorem dX5_change_16 : decode cX5_change 16 = .ok (.getfield 38, 3) := by decide +kernel
theorem dX5_change_19 : decode cX5_change 19 = .ok (.iload 5, 2) := by decide +kernel
theorem dX5_change_21 : decode cX5_change 21 = .ok (.iaload, 1) := by decide +kernel
theorem dX5_change_22 : decode cX5_change 22 = .ok (.iload_n 1, 1) := by decide +kernel
theorem dX5_change_23 : decode cX5_change 23 = .ok (.if_icmp .eq 6, 3) := by decide +kernel
theorem dX5_change_26 : decode cX5_change 26 = .ok (.goto 21, 3) := by decide +kernel
theorem dX5_change_29 : decode cX5_change 29 = .ok (.iinc 4 1, 3) := by decide +kernel
theorem dX5_change_32 : decode cX5_change 32 = .ok (.iload 4, 2) := by decide +kernel
theorem dX5_change_34 : decode cX5_change 34 = .ok (.iload_n 3, 1) := by decide +kernel
theorem dX5_change_35 : decode cX5_change 35 = .ok (.irem, 1) := by decide +kernel
theorem dX5_change_36 : decode cX5_change 36 = .ok (.ifCond .ne 11, 3) := by decide +kernel
theorem dX5_change_39 : decode cX5_change 39 = .ok (.aload_n 0, 1) := by decide +kernel
theorem dX5_change_40 : decode cX5_change 40 = .ok (.getfield 38, 3) := by decide +kernel
theorem dX5_change_43 : decode cX5_change 43 = .ok (.iload 5, 2) := by decide +kernel
theorem dX5_change_45 : decode cX5_change 45 = .ok (.iload_n 2, 1) := by decide +kernel
theorem dX5_change_46 : decode cX5_change 46 = .ok (.iastore, 1) := by decide +kernel
theorem dX5_change_47 : decode cX5_change 47 = .ok (.iinc 5 1, 3) := by decide +kernel
theorem dX5_change_50 : decode cX5_change 50 = .ok (.goto (-44), 3) := by decide +kernel
theorem dX5_change_53 : decode cX5_change 53 = .ok (.return_, 1) := by decide +kernel
set_option maxRecDepth 20000 in
theorem ggX5_drop_X5_become : GoodIn wsX5_drop wsX5_become := goodIn_r _ [8, 3, 2, 9, 10, 11, 12, 1, 13, 14, 15, 16, 17, 18, 19, 20, 21, 22, 23, 24, 25, 26, 27, 28, 29] (by decide +kernel) (by decide +kernel)
set_option maxRecDepth 20000 in
theorem gX5_drop_X5_become : GoodIn wsX5_drop (wsV RX5 88 RX5 yX5_become wsX5_become) := goodIn_app (goodIn_of _ (by decide +kernel)) ggX5_drop_X5_become
theorem dX5_drop_0 : decode cX5_drop 0 = .ok (.iconst 0, 1) := by decide +kernel
theorem dX5_drop_1 : decode cX5_drop 1 = .ok (.istore_n 3, 1) := by decide +kernel
theorem dX5_drop_2 : decode cX5_drop 2 = .ok (.iconst 0, 1) := by decide +kernel
theorem dX5_drop_3 : decode cX5_drop 3 = .ok (.istore 4, 2) := by decide +kernel
theorem dX5_drop_5 : decode cX5_drop 5 = .ok (.iconst 0, 1) := by decide +kernel
theorem dX5_drop_6 : decode cX5_drop 6 = .ok (.istore 5, 2) := by decide +kernel
theorem dX5_drop_8 : decode cX5_drop 8 = .ok (.iload 5, 2) := by decide +kernel
theorem dX5_drop_10 : decode cX5_drop 10 = .ok (.aload_n 0, 1) := by decide +kernel
theorem dX5_drop_11 : decode cX5_drop 11 = .ok (.getfield 85, 3) := by decide +kernel
theorem dX5_drop_14 : decode cX5_drop 14 = .ok (.if_icmp .ge 65, 3) := by decide +kernel
theorem dX5_drop_17 : decode cX5_drop 17 = .ok (.iload_n 3, 1) := by decide +kernel
theorem dX5_drop_18 : decode cX5_drop 18 = .ok (.aload_n 0, 1) := by decide +kernel
theorem dX5_drop_19 : decode cX5_drop 19 = .ok (.getfield 38, 3) := by decide +kernel
theorem dX5_drop_22 : decode cX5_drop 22 = .ok (.iload 5, 2) := by decide +kernel
theorem dX5_drop_24 : decode cX5_drop 24 = .ok (.iaload, 1) := by decide +kernel
theorem dX5_drop_25 : decode cX5_drop 25 = .ok (.iload_n 1, 1) := by decide +kernel
theorem dX5_drop_26 : decode cX5_drop 26 = .ok (.if_icmp .ne 7, 3) := by decide +kernel
theorem dX5_drop_29 : decode cX5_drop 29 = .ok (.iconst 1, 1) := by decide +kernel
theorem dX5_drop_30 : decode cX5_drop 30 = .ok (.goto 4, 3) := by decide +kernel
theorem dX5_drop_33 : decode cX5_drop 33 = .ok (.iconst 0, 1) := by decide +kernel
theorem dX5_drop_34 : decode cX5_drop 34 = .ok (.iadd, 1) := by decide +kernel
theorem dX5_drop_35 : decode cX5_drop 35 = .ok (.istore_n 3, 1) := by decide +kernel
theorem dX5_drop_36 : decode cX5_drop 36 = .ok (.aload_n 0, 1) := by decide +kernel
theorem dX5_drop_37 : decode cX5_drop 37 = .ok (.getfield 38, 3) := by decide +kernel
theorem dX5_drop_40 : decode cX5_drop 40 = .ok (.iload 5, 2) := by decide +kernel
theorem dX5_drop_42 : decode cX5_drop 42 = .ok (.iaload, 1) := by decide +kernel
theorem dX5_drop_43 : decode cX5_drop 43 = .ok (.iload_n 1, 1) := by decide +kernel
theorem dX5_drop_44 : decode cX5_drop 44 = .ok (.if_icmp .ne 12, 3) := by decide +kernel
theorem dX5_drop_47 : decode cX5_drop 47 = .ok (.iload_n 3, 1) := by decide +kernel
theorem dX5_drop_48 : decode cX5_drop 48 = .ok (.iload_n 2, 1) := by decide +kernel
theorem dX5_drop_49 : decode cX5_drop 49 = .ok (.irem, 1) := by decide +kernel
theorem dX5_drop_50 : decode cX5_drop 50 = .ok (.ifCond .ne 6, 3) := by decide +kernel
theorem dX5_drop_53 : decode cX5_drop 53 = .ok (.goto 20, 3) := by decide +kernel
theorem dX5_drop_56 : decode cX5_drop 56 = .ok (.aload_n 0, 1) := by decide +kernel
theorem dX5_drop_57 : decode cX5_drop 57 = .ok (.getfield 41, 3) := by decide +kernel
theorem dX5_drop_60 : decode cX5_drop 60 = .ok (.iload 4, 2) := by decide +kernel
theorem dX5_drop_62 : decode cX5_drop 62 = .ok (.aload_n 0, 1) := by decide +kernel
theorem dX5_drop_63 : decode cX5_drop 63 = .ok (.getfield 38, 3) := by decide +kernel
theorem dX5_drop_66 : decode cX5_drop 66 = .ok (.iload 5, 2) := by decide +kernel
theorem dX5_drop_68 : decode cX5_drop 68 = .ok (.iaload, 1) := by decide +kernel
theorem dX5_drop_69 : decode cX5_drop 69 = .ok (.iastore, 1) := by decide +kernel
theorem dX5_drop_70 : decode cX5_drop 70 = .ok (.iinc 4 1, 3) := by decide +kernel
theorem dX5_drop_73 : decode cX5_drop 73 = .ok (.iinc 5 1, 3) := by decide +kernel
theorem dX5_drop_76 : decode cX5_drop 76 = .ok (.goto (-68), 3) := by decide +kernel
theorem dX5_drop_79 : decode cX5_drop 79 = .ok (.aload_n 0, 1) := by decide +kernel
theorem dX5_drop_80 : decode cX5_drop 80 = .ok (.iload 4, 2) := by decide +kernel
theorem dX5_drop_82 : decode cX5_drop 82 = .ok (.invokevirtual 88, 3) := by decide +kernel
theorem dX5_drop_85 : decode cX5_drop 85 = .ok (.return_, 1) := by decide +kernel
set_option maxRecDepth 20000 in
theorem ggX5_twice_X5_become : GoodIn wsX5_twice wsX5_become := goodIn_r _ [8, 2, 3, 9, 10, 11, 12, 1, 13, 14, 15, 16, 17, 18, 19, 20, 21, 22, 23, 24, 25, 26, 27, 28, 29] (by decide +kernel) (by decide +kernel)
set_option maxRecDepth 20000 in
theorem gX5_twice_X5_become : GoodIn wsX5_twice (wsV RX5 88 RX5 yX5_become wsX5_become) := goodIn_app (goodIn_of _ (by decide +kernel)) ggX5_twice_X5_become
theorem dX5_twice_0 : decode cX5_twice 0 = .ok (.iconst 0, 1) := by decide +kernel
theorem dX5_twice_1 : decode cX5_twice 1 = .ok (.istore_n 3, 1) := by decide +kernel
theorem dX5_twice_2 : decode cX5_twice 2 = .ok (.iconst 0, 1) := by decide +kernel
theorem dX5_twice_3 : decode cX5_twice 3 = .ok (.istore 4, 2) := by decide +kernel
theorem dX5_twice_5 : decode cX5_twice 5 = .ok (.iconst 0, 1) := by decide +kernel
theorem dX5_twice_6 : decode cX5_twice 6 = .ok (.istore 5, 2) := by decide +kernel
theorem dX5_twice_8 : decode cX5_twice 8 = .ok (.iload 5, 2) := by decide +kernel
theorem dX5_twice_10 : decode cX5_twice 10 = .ok (.aload_n 0, 1) := by decide +kernel
theorem dX5_twice_11 : decode cX5_twice 11 = .ok (.getfield 85, 3) := by decide +kernel
theorem dX5_twice_14 : decode cX5_twice 14 = .ok (.if_icmp .ge 93, 3) := by decide +kernel
theorem dX5_twice_17 : decode cX5_twice 17 = .ok (.aload_n 0, 1) := by decide +kernel
theorem dX5_twice_18 : decode cX5_twice 18 = .ok (.getfield 41, 3) := by decide +kernel
theorem dX5_twice_21 : decode cX5_twice 21 = .ok (.iload 4, 2) := by decide +kernel
theorem dX5_twice_23 : decode cX5_twice 23 = .ok (.aload_n 0, 1) := by decide +kernel
theorem dX5_twice_24 : decode cX5_twice 24 = .ok (.getfield 38, 3) := by decide +kernel
theorem dX5_twice_27 : decode cX5_twice 27 = .ok (.iload 5, 2) := by decide +kernel
theorem dX5_twice_29 : decode cX5_twice 29 = .ok (.iaload, 1) := by decide +kernel
theorem dX5_twice_30 : decode cX5_twice 30 = .ok (.iastore, 1) := by decide +kernel
theorem dX5_twice_31 : decode cX5_twice 31 = .ok (.iinc 4 1, 3) := by decide +kernel
theorem dX5_twice_34 : decode cX5_twice 34 = .ok (.iload_n 3, 1) := by decide +kernel
theorem dX5_twice_35 : decode cX5_twice 35 = .ok (.aload_n 0, 1) := by decide +kernel
theorem dX5_twice_36 : decode cX5_twice 36 = .ok (.getfield 38, 3) := by decide +kernel
theorem dX5_twice_39 : decode cX5_twice 39 = .ok (.iload 5, 2) := by decide +kernel
theorem dX5_twice_41 : decode cX5_twice 41 = .ok (.iaload, 1) := by decide +kernel
theorem dX5_twice_42 : decode cX5_twice 42 = .ok (.iload_n 1, 1) := by decide +kernel
theorem dX5_twice_43 : decode cX5_twice 43 = .ok (.if_icmp .ne 7, 3) := by decide +kernel
theorem dX5_twice_46 : decode cX5_twice 46 = .ok (.iconst 1, 1) := by decide +kernel
theorem dX5_twice_47 : decode cX5_twice 47 = .ok (.goto 4, 3) := by decide +kernel
theorem dX5_twice_50 : decode cX5_twice 50 = .ok (.iconst 0, 1) := by decide +kernel
theorem dX5_twice_51 : decode cX5_twice 51 = .ok (.iadd, 1) := by decide +kernel
theorem dX5_twice_52 : decode cX5_twice 52 = .ok (.istore_n 3, 1) := by decide +kernel
theorem dX5_twice_53 : decode cX5_twice 53 = .ok (.aload_n 0, 1) := by decide +kernel
theorem dX5_twice_54 : decode cX5_twice 54 = .ok (.getfield 38, 3) := by decide +kernel
theorem dX5_twice_57 : decode cX5_twice 57 = .ok (.iload 5, 2) := by decide +kernel
theorem dX5_twice_59 : decode cX5_twice 59 = .ok (.iaload, 1) := by decide +kernel
theorem dX5_twice_60 : decode cX5_twice 60 = .ok (.iload_n 1, 1) := by decide +kernel
theorem dX5_twice_61 : decode cX5_twice 61 = .ok (.if_icmp .ne 40, 3) := by decide +kernel
theorem dX5_twice_64 : decode cX5_twice 64 = .ok (.iload_n 3, 1) := by decide +kernel
theorem dX5_twice_65 : decode cX5_twice 65 = .ok (.iload_n 2, 1) := by decide +kernel
theorem dX5_twice_66 : decode cX5_twice 66 = .ok (.irem, 1) := by decide +kernel
theorem dX5_twice_67 : decode cX5_twice 67 = .ok (.ifCond .ne 34, 3) := by decide +kernel
theorem dX5_twice_70 : decode cX5_twice 70 = .ok (.iload 4, 2) := by decide +kernel
theorem dX5_twice_72 : decode cX5_twice 72 = .ok (.aload_n 0, 1) := by decide +kernel
theorem dX5_twice_73 : decode cX5_twice 73 = .ok (.getfield 85, 3) := by decide +kernel
theorem dX5_twice_76 : decode cX5_twice 76 = .ok (.iadd, 1) := by decide +kernel
theorem dX5_twice_77 : decode cX5_twice 77 = .ok (.iload 5, 2) := by decide +kernel
theorem dX5_twice_79 : decode cX5_twice 79 = .ok (.isub, 1) := by decide +kernel
theorem dX5_twice_80 : decode cX5_twice 80 = .ok (.iconst 1, 1) := by decide +kernel
theorem dX5_twice_81 : decode cX5_twice 81 = .ok (.isub, 1) := by decide +kernel
theorem dX5_twice_82 : decode cX5_twice 82 = .ok (.bipush 120, 2) := by decide +kernel
theorem dX5_twice_84 : decode cX5_twice 84 = .ok (.if_icmp .lt 6, 3) := by decide +kernel
theorem dX5_twice_87 : decode cX5_twice 87 = .ok (.goto 14, 3) := by decide +kernel
theorem dX5_twice_90 : decode cX5_twice 90 = .ok (.aload_n 0, 1) := by decide +kernel
theorem dX5_twice_91 : decode cX5_twice 91 = .ok (.getfield 41, 3) := by decide +kernel
theorem dX5_twice_94 : decode cX5_twice 94 = .ok (.iload 4, 2) := by decide +kernel
theorem dX5_twice_96 : decode cX5_twice 96 = .ok (.iload_n 1, 1) := by decide +kernel
theorem dX5_twice_97 : decode cX5_twice 97 = .ok (.iastore, 1) := by decide +kernel
theorem dX5_twice_98 : decode cX5_twice 98 = .ok (.iinc 4 1, 3) := by decide +kernel
theorem dX5_twice_101 : decode cX5_twice 101 = .ok (.iinc 5 1, 3) := by decide +kernel
theorem dX5_twice_104 : decode cX5_twice 104 = .ok (.goto (-96), 3) := by decide +kernel
theorem dX5_twice_107 : decode cX5_twice 107 = .ok (.aload_n 0, 1) := by decide +kernel
theorem dX5_twice_108 : decode cX5_twice 108 = .ok (.iload 4, 2) := by decide +kernel
theorem dX5_twice_110 : decode cX5_twice 110 = .ok (.invokevirtual 88, 3) := by decide +kernel
theorem dX5_twice_113 : decode cX5_twice 113 = .ok (.return_, 1) := by decide +kernel
theorem dX5_skip_0 : decode cX5_skip 0 = .ok (.iconst 0, 1) := by decide +kernel
theorem dX5_skip_1 : decode cX5_skip 1 = .ok (.istore_n 3, 1) := by decide +kernel
theorem dX5_skip_2 : decode cX5_skip 2 = .ok (.iload_n 3, 1) := by decide +kernel
theorem dX5_skip_3 : decode cX5_skip 3 = .ok (.aload_n 0, 1) := by decide +kernel
theorem dX5_skip_4 : decode cX5_skip 4 = .ok (.getfield 85, 3) := by decide +kernel
theorem dX5_skip_7 : decode cX5_skip 7 = .ok (.if_icmp .ge 124, 3) := by decide +kernel
theorem dX5_skip_10 : decode cX5_skip 10 = .ok (.iload_n 3, 1) := by decide +kernel
theorem dX5_skip_11 : decode cX5_skip 11 = .ok (.iconst 1, 1) := by decide +kernel
theorem dX5_skip_12 : decode cX5_skip 12 = .ok (.iadd, 1) := by decide +kernel
theorem dX5_skip_13 : decode cX5_skip 13 = .ok (.istore 4, 2) := by decide +kernel
theorem dX5_skip_15 : decode cX5_skip 15 = .ok (.iload 4, 2) := by decide +kernel
theorem dX5_skip_17 : decode cX5_skip 17 = .ok (.aload_n 0, 1) := by decide +kernel
theorem dX5_skip_18 : decode cX5_skip 18 = .ok (.getfield 85, 3) := by decide +kernel
theorem dX5_skip_21 : decode cX5_skip 21 = .ok (.if_icmp .ge 20, 3) := by decide +kernel
theorem dX5_skip_24 : decode cX5_skip 24 = .ok (.aload_n 0, 1) := by decide +kernel
theorem dX5_skip_25 : decode cX5_skip 25 = .ok (.getfield 38, 3) := by decide +kernel
theorem dX5_skip_28 : decode cX5_skip 28 = .ok (.iload 4, 2) := by decide +kernel
theorem dX5_skip_30 : decode cX5_skip 30 = .ok (.iaload, 1) := by decide +kernel
theorem dX5_skip_31 : decode cX5_skip 31 = .ok (.iload_n 1, 1) := by decide +kernel
theorem dX5_skip_32 : decode cX5_skip 32 = .ok (.if_icmp .eq 9, 3) := by decide +kernel
theorem dX5_skip_35 : decode cX5_skip 35 = .ok (.iinc 4 1, 3) := by decide +kernel
theorem dX5_skip_38 : decode cX5_skip 38 = .ok (.goto (-23), 3) := by decide +kernel
theorem dX5_skip_41 : decode cX5_skip 41 = .ok (.aload_n 0, 1) := by decide +kernel
theorem dX5_skip_42 : decode cX5_skip 42 = .ok (.getfield 38, 3) := by decide +kernel
theorem dX5_skip_45 : decode cX5_skip 45 = .ok (.iload_n 3, 1) := by decide +kernel
theorem dX5_skip_46 : decode cX5_skip 46 = .ok (.iaload, 1) := by decide +kernel
theorem dX5_skip_47 : decode cX5_skip 47 = .ok (.iload_n 1, 1) := by decide +kernel
theorem dX5_skip_48 : decode cX5_skip 48 = .ok (.if_icmp .ne 77, 3) := by decide +kernel
theorem dX5_skip_51 : decode cX5_skip 51 = .ok (.iload 4, 2) := by decide +kernel
theorem dX5_skip_53 : decode cX5_skip 53 = .ok (.aload_n 0, 1) := by decide +kernel
theorem dX5_skip_54 : decode cX5_skip 54 = .ok (.getfield 85, 3) := by decide +kernel
theorem dX5_skip_57 : decode cX5_skip 57 = .ok (.if_icmp .ge 68, 3) := by decide +kernel
theorem dX5_skip_60 : decode cX5_skip 60 = .ok (.iload 4, 2) := by decide +kernel
theorem dX5_skip_62 : decode cX5_skip 62 = .ok (.iload_n 3, 1) := by decide +kernel
theorem dX5_skip_63 : decode cX5_skip 63 = .ok (.iload_n 2, 1) := by decide +kernel
theorem dX5_skip_64 : decode cX5_skip 64 = .ok (.iadd, 1) := by decide +kernel
theorem dX5_skip_65 : decode cX5_skip 65 = .ok (.if_icmp .le 6, 3) := by decide +kernel
theorem dX5_skip_68 : decode cX5_skip 68 = .ok (.goto 57, 3) := by decide +kernel
theorem dX5_skip_71 : decode cX5_skip 71 = .ok (.iload 4, 2) := by decide +kernel
theorem dX5_skip_73 : decode cX5_skip 73 = .ok (.iconst 1, 1) := by decide +kernel
theorem dX5_skip_74 : decode cX5_skip 74 = .ok (.iadd, 1) := by decide +kernel
theorem dX5_skip_75 : decode cX5_skip 75 = .ok (.istore 5, 2) := by decide +kernel
theorem dX5_skip_77 : decode cX5_skip 77 = .ok (.iload 5, 2) := by decide +kernel
theorem dX5_skip_79 : decode cX5_skip 79 = .ok (.aload_n 0, 1) := by decide +kernel
theorem dX5_skip_80 : decode cX5_skip 80 = .ok (.getfield 85, 3) := by decide +kernel
theorem dX5_skip_83 : decode cX5_skip 83 = .ok (.if_icmp .ge 28, 3) := by decide +kernel
theorem dX5_skip_86 : decode cX5_skip 86 = .ok (.aload_n 0, 1) := by decide +kernel
theorem dX5_skip_87 : decode cX5_skip 87 = .ok (.getfield 38, 3) := by decide +kernel
theorem dX5_skip_90 : decode cX5_skip 90 = .ok (.iload_n 3, 1) := by decide +kernel
theorem dX5_skip_91 : decode cX5_skip 91 = .ok (.iload 5, 2) := by decide +kernel
theorem dX5_skip_93 : decode cX5_skip 93 = .ok (.iadd, 1) := by decide +kernel
theorem dX5_skip_94 : decode cX5_skip 94 = .ok (.iload 4, 2) := by decide +kernel
theorem dX5_skip_96 : decode cX5_skip 96 = .ok (.isub, 1) := by decide +kernel
theorem dX5_skip_97 : decode cX5_skip 97 = .ok (.aload_n 0, 1) := by decide +kernel
theorem dX5_skip_98 : decode cX5_skip 98 = .ok (.getfield 38, 3) := by decide +kernel
theorem dX5_skip_101 : decode cX5_skip 101 = .ok (.iload 5, 2) := by decide +kernel
theorem dX5_skip_103 : decode cX5_skip 103 = .ok (.iaload, 1) := by decide +kernel
theorem dX5_skip_104 : decode cX5_skip 104 = .ok (.iastore, 1) := by decide +kernel
theorem dX5_skip_105 : decode cX5_skip 105 = .ok (.iinc 5 1, 3) := by decide +kernel
theorem dX5_skip_108 : decode cX5_skip 108 = .ok (.goto (-31), 3) := by decide +kernel
theorem dX5_skip_111 : decode cX5_skip 111 = .ok (.aload_n 0, 1) := by decide +kernel
theorem dX5_skip_112 : decode cX5_skip 112 = .ok (.dup, 1) := by decide +kernel
theorem dX5_skip_113 : decode cX5_skip 113 = .ok (.getfield 85, 3) := by decide +kernel
theorem dX5_skip_116 : decode cX5_skip 116 = .ok (.iload 4, 2) := by decide +kernel
theorem dX5_skip_118 : decode cX5_skip 118 = .ok (.iload_n 3, 1) := by decide +kernel
theorem dX5_skip_119 : decode cX5_skip 119 = .ok (.isub, 1) := by decide +kernel
theorem dX5_skip_120 : decode cX5_skip 120 = .ok (.isub, 1) := by decide +kernel
theorem dX5_skip_121 : decode cX5_skip 121 = .ok (.putfield 85, 3) := by decide +kernel
theorem dX5_skip_124 : decode cX5_skip 124 = .ok (.return_, 1) := by decide +kernel
theorem dX5_skip_125 : decode cX5_skip 125 = .ok (.iinc 3 1, 3) := by decide +kernel
theorem dX5_skip_128 : decode cX5_skip 128 = .ok (.goto (-126), 3) := by decide +kernel
theorem dX5_skip_131 : decode cX5_skip 131 = .ok (.return_, 1) := by decide +kernel
theorem dX5_swap_0 : decode cX5_swap 0 = .ok (.iconst 0, 1) := by decide +kernel
theorem dX5_swap_1 : decode cX5_swap 1 = .ok (.istore 4, 2) := by decide +kernel
theorem dX5_swap_3 : decode cX5_swap 3 = .ok (.iconst 0, 1) := by decide +kernel
theorem dX5_swap_4 : decode cX5_swap 4 = .ok (.istore 5, 2) := by decide +kernel
theorem dX5_swap_6 : decode cX5_swap 6 = .ok (.iload 5, 2) := by decide +kernel
theorem dX5_swap_8 : decode cX5_swap 8 = .ok (.iconst 1, 1) := by decide +kernel
theorem dX5_swap_9 : decode cX5_swap 9 = .ok (.iadd, 1) := by decide +kernel
theorem dX5_swap_10 : decode cX5_swap 10 = .ok (.aload_n 0, 1) := by decide +kernel
theorem dX5_swap_11 : decode cX5_swap 11 = .ok (.getfield 85, 3) := by decide +kernel
theorem dX5_swap_14 : decode cX5_swap 14 = .ok (.if_icmp .ge 67, 3) := by decide +kernel
theorem dX5_swap_17 : decode cX5_swap 17 = .ok (.aload_n 0, 1) := by decide +kernel
theorem dX5_swap_18 : decode cX5_swap 18 = .ok (.getfield 38, 3) := by decide +kernel
theorem dX5_swap_21 : decode cX5_swap 21 = .ok (.iload 5, 2) := by decide +kernel
theorem dX5_swap_23 : decode cX5_swap 23 = .ok (.iaload, 1) := by decide +kernel
theorem dX5_swap_24 : decode cX5_swap 24 = .ok (.iload_n 1, 1) := by decide +kernel
theorem dX5_swap_25 : decode cX5_swap 25 = .ok (.if_icmp .ne 16, 3) := by decide +kernel
theorem dX5_swap_28 : decode cX5_swap 28 = .ok (.aload_n 0, 1) := by decide +kernel
theorem dX5_swap_29 : decode cX5_swap 29 = .ok (.getfield 38, 3) := by decide +kernel
theorem dX5_swap_32 : decode cX5_swap 32 = .ok (.iload 5, 2) := by decide +kernel
theorem dX5_swap_34 : decode cX5_swap 34 = .ok (.iconst 1, 1) := by decide +kernel
theorem dX5_swap_35 : decode cX5_swap 35 = .ok (.iadd, 1) := by decide +kernel
theorem dX5_swap_36 : decode cX5_swap 36 = .ok (.iaload, 1) := by decide +kernel
theorem dX5_swap_37 : decode cX5_swap 37 = .ok (.iload_n 2, 1) := by decide +kernel
theorem dX5_swap_38 : decode cX5_swap 38 = .ok (.if_icmp .eq 9, 3) := by decide +kernel
theorem dX5_swap_41 : decode cX5_swap 41 = .ok (.iinc 5 1, 3) := by decide +kernel
theorem dX5_swap_44 : decode cX5_swap 44 = .ok (.goto (-38), 3) := by decide +kernel
theorem dX5_swap_47 : decode cX5_swap 47 = .ok (.iinc 4 1, 3) := by decide +kernel
theorem dX5_swap_50 : decode cX5_swap 50 = .ok (.iload 4, 2) := by decide +kernel
theorem dX5_swap_52 : decode cX5_swap 52 = .ok (.iload_n 3, 1) := by decide +kernel
theorem dX5_swap_53 : decode cX5_swap 53 = .ok (.irem, 1) := by decide +kernel
theorem dX5_swap_54 : decode cX5_swap 54 = .ok (.ifCond .ne 21, 3) := by decide +kernel
theorem dX5_swap_57 : decode cX5_swap 57 = .ok (.aload_n 0, 1) := by decide +kernel
theorem dX5_swap_58 : decode cX5_swap 58 = .ok (.getfield 38, 3) := by decide +kernel
theorem dX5_swap_61 : decode cX5_swap 61 = .ok (.iload 5, 2) := by decide +kernel
theorem dX5_swap_63 : decode cX5_swap 63 = .ok (.iload_n 2, 1) := by decide +kernel
theorem dX5_swap_64 : decode cX5_swap 64 = .ok (.iastore, 1) := by decide +kernel
theorem dX5_swap_65 : decode cX5_swap 65 = .ok (.aload_n 0, 1) := by decide +kernel
theorem dX5_swap_66 : decode cX5_swap 66 = .ok (.getfield 38, 3) := by decide +kernel
theorem dX5_swap_69 : decode cX5_swap 69 = .ok (.iload 5, 2) := by decide +kernel
theorem dX5_swap_71 : decode cX5_swap 71 = .ok (.iconst 1, 1) := by decide +kernel
theorem dX5_swap_72 : decode cX5_swap 72 = .ok (.iadd, 1) := by decide +kernel
theorem dX5_swap_73 : decode cX5_swap 73 = .ok (.iload_n 1, 1) := by decide +kernel
theorem dX5_swap_74 : decode cX5_swap 74 = .ok (.iastore, 1) := by decide +kernel
theorem dX5_swap_75 : decode cX5_swap 75 = .ok (.iinc 5 2, 3) := by decide +kernel
theorem dX5_swap_78 : decode cX5_swap 78 = .ok (.goto (-72), 3) := by decide +kernel
theorem dX5_swap_81 : decode cX5_swap 81 = .ok (.return_, 1) := by decide +kernel
set_option maxRecDepth 20000 in
theorem ggX5_copyBy_X5_change : GoodIn wsX5_copyBy wsX5_change := goodIn_r _ [7, 8, 9, 35, 36, 37, 38, 39, 40, 41, 42, 43, 44, 45, 46, 47, 48, 49, 50, 51] (by decide +kernel) (by decide +kernel)
set_option maxRecDepth 20000 in
theorem gX5_copyBy_X5_change : GoodIn wsX5_copyBy (wsV RX5 92 RX5 yX5_change wsX5_change) := goodIn_app (goodIn_of _ (by decide +kernel)) ggX5_copyBy_X5_change
set_option maxRecDepth 20000 in
theorem ggX5_copyBy_X5_drop : GoodIn wsX5_copyBy wsX5_drop := goodIn_r _ [13, 8, 9, 14, 15, 16, 17, 6, 18, 19, 20, 21, 22, 35, 36, 37, 38, 39, 40, 41, 42, 43, 44, 45, 46, 47, 48, 49, 50, 51] (by decide +kernel) (by decide +kernel)
set_option maxRecDepth 20000 in
theorem gX5_copyBy_X5_drop : GoodIn wsX5_copyBy (wsV RX5 96 RX5 yX5_drop wsX5_drop) := goodIn_app (goodIn_of _ (by decide +kernel)) ggX5_copyBy_X5_drop
set_option maxRecDepth 20000 in
theorem ggX5_copyBy_X5_twice : GoodIn wsX5_copyBy wsX5_twice := goodIn_r _ [26, 8, 14, 9, 15, 16, 17, 6, 18, 19, 20, 21, 22, 35, 36, 37, 38, 39, 40, 41, 42, 43, 44, 45, 46, 47, 48, 49, 50, 51] (by decide +kernel) (by decide +kernel)
set_option maxRecDepth 20000 in
theorem gX5_copyBy_X5_twice : GoodIn wsX5_copyBy (wsV RX5 100 RX5 yX5_twice wsX5_twice) := goodIn_app (goodIn_of _ (by decide +kernel)) ggX5_copyBy_X5_twice
set_option maxRecDepth 20000 in
theorem ggX5_copyBy_X5_skip : GoodIn wsX5_copyBy wsX5_skip := goodIn_r _ [30, 8, 9, 35, 36, 37, 38, 39, 40, 41, 42, 43, 44, 45, 46, 47, 48, 49, 50, 51] (by decide +kernel) (by decide +kernel)
set_option maxRecDepth 20000 in
theorem gX5_copyBy_X5_skip : GoodIn wsX5_copyBy (wsV RX5 103 RX5 yX5_skip wsX5_skip) := goodIn_app (goodIn_of _ (by decide +kernel)) ggX5_copyBy_X5_skip
set_option maxRecDepth 20000 in
theorem ggX5_copyBy_X5_swap : GoodIn wsX5_copyBy wsX5_swap := goodIn_r _ [34, 8, 9, 35, 36, 37, 38, 39, 40, 41, 42, 43, 44, 45, 46, 47, 48, 49, 50, 51] (by decide +kernel) (by decide +kernel)
set_option maxRecDepth 20000 in
theorem gX5_copyBy_X5_swap : GoodIn wsX5_copyBy (wsV RX5 106 RX5 yX5_swap wsX5_swap) := goodIn_app (goodIn_of _ (by decide +kernel)) ggX5_copyBy_X5_swap
theorem dX5_copyBy_0 : decode cX5_copyBy 0 = .ok (.iconst 0, 1) := by decide +kernel
theorem dX5_copyBy_1 : decode cX5_copyBy 1 = .ok (.istore_n 2, 1) := by decide +kernel
theorem dX5_copyBy_2 : decode cX5_copyBy 2 = .ok (.iload_n 2, 1) := by decide +kernel
theorem dX5_copyBy_3 : decode cX5_copyBy 3 = .ok (.aload_n 0, 1) := by decide +kernel
theorem dX5_copyBy_4 : decode cX5_copyBy 4 = .ok (.getfield 29, 3) := by decide +kernel
theorem dX5_copyBy_7 : decode cX5_copyBy 7 = .ok (.iload_n 1, 1) := by decide +kernel
theorem dX5_copyBy_8 : decode cX5_copyBy 8 = .ok (.iaload, 1) := by decide +kernel
theorem dX5_copyBy_9 : decode cX5_copyBy 9 = .ok (.if_icmp .ge 140, 3) := by decide +kernel
theorem dX5_copyBy_12 : decode cX5_copyBy 12 = .ok (.iconst 4, 1) := by decide +kernel
theorem dX5_copyBy_13 : decode cX5_copyBy 13 = .ok (.iconst 5, 1) := by decide +kernel
theorem dX5_copyBy_14 : decode cX5_copyBy 14 = .ok (.iload_n 1, 1) := by decide +kernel
theorem dX5_copyBy_15 : decode cX5_copyBy 15 = .ok (.imul, 1) := by decide +kernel
theorem dX5_copyBy_16 : decode cX5_copyBy 16 = .ok (.iload_n 2, 1) := by decide +kernel
theorem dX5_copyBy_17 : decode cX5_copyBy 17 = .ok (.iadd, 1) := by decide +kernel
theorem dX5_copyBy_18 : decode cX5_copyBy 18 = .ok (.imul, 1) := by decide +kernel
theorem dX5_copyBy_19 : decode cX5_copyBy 19 = .ok (.istore_n 3, 1) := by decide +kernel
theorem dX5_copyBy_20 : decode cX5_copyBy 20 = .ok (.aload_n 0, 1) := by decide +kernel
theorem dX5_copyBy_21 : decode cX5_copyBy 21 = .ok (.getfield 32, 3) := by decide +kernel
theorem dX5_copyBy_24 : decode cX5_copyBy 24 = .ok (.iload_n 3, 1) := by decide +kernel
theorem dX5_copyBy_25 : decode cX5_copyBy 25 = .ok (.iaload, 1) := by decide +kernel
theorem dX5_copyBy_26 : decode cX5_copyBy 26 = .ok (.istore 4, 2) := by decide +kernel
theorem dX5_copyBy_28 : decode cX5_copyBy 28 = .ok (.aload_n 0, 1) := by decide +kernel
theorem dX5_copyBy_29 : decode cX5_copyBy 29 = .ok (.getfield 32, 3) := by decide +kernel
theorem dX5_copyBy_32 : decode cX5_copyBy 32 = .ok (.iload_n 3, 1) := by decide +kernel
theorem dX5_copyBy_33 : decode cX5_copyBy 33 = .ok (.iconst 1, 1) := by decide +kernel
theorem dX5_copyBy_34 : decode cX5_copyBy 34 = .ok (.iadd, 1) := by decide +kernel
theorem dX5_copyBy_35 : decode cX5_copyBy 35 = .ok (.iaload, 1) := by decide +kernel
theorem dX5_copyBy_36 : decode cX5_copyBy 36 = .ok (.bipush 97, 2) := by decide +kernel
theorem dX5_copyBy_38 : decode cX5_copyBy 38 = .ok (.iadd, 1) := by decide +kernel
theorem dX5_copyBy_39 : decode cX5_copyBy 39 = .ok (.istore 5, 2) := by decide +kernel
theorem dX5_copyBy_41 : decode cX5_copyBy 41 = .ok (.aload_n 0, 1) := by decide +kernel
theorem dX5_copyBy_42 : decode cX5_copyBy 42 = .ok (.getfield 32, 3) := by decide +kernel
theorem dX5_copyBy_45 : decode cX5_copyBy 45 = .ok (.iload_n 3, 1) := by decide +kernel
theorem dX5_copyBy_46 : decode cX5_copyBy 46 = .ok (.iconst 2, 1) := by decide +kernel
theorem dX5_copyBy_47 : decode cX5_copyBy 47 = .ok (.iadd, 1) := by decide +kernel
theorem dX5_copyBy_48 : decode cX5_copyBy 48 = .ok (.iaload, 1) := by decide +kernel
theorem dX5_copyBy_49 : decode cX5_copyBy 49 = .ok (.bipush 97, 2) := by decide +kernel
theorem dX5_copyBy_51 : decode cX5_copyBy 51 = .ok (.iadd, 1) := by decide +kernel
theorem dX5_copyBy_52 : decode cX5_copyBy 52 = .ok (.istore 6, 2) := by decide +kernel
theorem dX5_copyBy_54 : decode cX5_copyBy 54 = .ok (.aload_n 0, 1) := by decide +kernel
theorem dX5_copyBy_55 : decode cX5_copyBy 55 = .ok (.getfield 32, 3) := by decide +kernel
theorem dX5_copyBy_58 : decode cX5_copyBy 58 = .ok (.iload_n 3, 1) := by decide +kernel
theorem dX5_copyBy_59 : decode cX5_copyBy 59 = .ok (.iconst 3, 1) := by decide +kernel
theorem dX5_copyBy_60 : decode cX5_copyBy 60 = .ok (.iadd, 1) := by decide +kernel
theorem dX5_copyBy_61 : decode cX5_copyBy 61 = .ok (.iaload, 1) := by decide +kernel
theorem dX5_copyBy_62 : decode cX5_copyBy 62 = .ok (.istore 7, 2) := by decide +kernel
theorem dX5_copyBy_64 : decode cX5_copyBy 64 = .ok (.iload 4, 2) := by decide +kernel
theorem dX5_copyBy_66 : decode cX5_copyBy 66 = .ok (.ifCond .ne 16, 3) := by decide +kernel
theorem dX5_copyBy_69 : decode cX5_copyBy 69 = .ok (.aload_n 0, 1) := by decide +kernel
theorem dX5_copyBy_70 : decode cX5_copyBy 70 = .ok (.iload 5, 2) := by decide +kernel
theorem dX5_copyBy_72 : decode cX5_copyBy 72 = .ok (.iload 6, 2) := by decide +kernel
theorem dX5_copyBy_74 : decode cX5_copyBy 74 = .ok (.iload 7, 2) := by decide +kernel
theorem dX5_copyBy_76 : decode cX5_copyBy 76 = .ok (.invokevirtual 92, 3) := by decide +kernel
theorem dX5_copyBy_79 : decode cX5_copyBy 79 = .ok (.goto 64, 3) := by decide +kernel
theorem dX5_copyBy_82 : decode cX5_copyBy 82 = .ok (.iload 4, 2) := by decide +kernel
theorem dX5_copyBy_84 : decode cX5_copyBy 84 = .ok (.iconst 1, 1) := by decide +kernel
theorem dX5_copyBy_85 : decode cX5_copyBy 85 = .ok (.if_icmp .ne 14, 3) := by decide +kernel
theorem dX5_copyBy_88 : decode cX5_copyBy 88 = .ok (.aload_n 0, 1) := by decide +kernel
theorem dX5_copyBy_89 : decode cX5_copyBy 89 = .ok (.iload 5, 2) := by decide +kernel
theorem dX5_copyBy_91 : decode cX5_copyBy 91 = .ok (.iload 7, 2) := by decide +kernel
theorem dX5_copyBy_93 : decode cX5_copyBy 93 = .ok (.invokevirtual 96, 3) := by decide +kernel
theorem dX5_copyBy_96 : decode cX5_copyBy 96 = .ok (.goto 47, 3) := by decide +kernel
theorem dX5_copyBy_99 : decode cX5_copyBy 99 = .ok (.iload 4, 2) := by decide +kernel
theorem dX5_copyBy_101 : decode cX5_copyBy 101 = .ok (.iconst 2, 1) := by decide +kernel
theorem dX5_copyBy_102 : decode cX5_copyBy 102 = .ok (.if_icmp .ne 14, 3) := by decide +kernel
theorem dX5_copyBy_105 : decode cX5_copyBy 105 = .ok (.aload_n 0, 1) := by decide +kernel
theorem dX5_copyBy_106 : decode cX5_copyBy 106 = .ok (.iload 5, 2) := by decide +kernel
theorem dX5_copyBy_108 : decode cX5_copyBy 108 = .ok (.iload 7, 2) := by decide +kernel
theorem dX5_copyBy_110 : decode cX5_copyBy 110 = .ok (.invokevirtual 100, 3) := by decide +kernel
theorem dX5_copyBy_113 : decode cX5_copyBy 113 = .ok (.goto 30, 3) := by decide +kernel
theorem dX5_copyBy_116 : decode cX5_copyBy 116 = .ok (.iload 4, 2) := by decide +kernel
theorem dX5_copyBy_118 : decode cX5_copyBy 118 = .ok (.iconst 3, 1) := by decide +kernel
theorem dX5_copyBy_119 : decode cX5_copyBy 119 = .ok (.if_icmp .ne 14, 3) := by decide +kernel
theorem dX5_copyBy_122 : decode cX5_copyBy 122 = .ok (.aload_n 0, 1) := by decide +kernel
theorem dX5_copyBy_123 : decode cX5_copyBy 123 = .ok (.iload 5, 2) := by decide +kernel
theorem dX5_copyBy_125 : decode cX5_copyBy 125 = .ok (.iload 7, 2) := by decide +kernel
theorem dX5_copyBy_127 : decode cX5_copyBy 127 = .ok (.invokevirtual 103, 3) := by decide +kernel
theorem dX5_copyBy_130 : decode cX5_copyBy 130 = .ok (.goto 13, 3) := by decide +kernel
theorem dX5_copyBy_133 : decode cX5_copyBy 133 = .ok (.aload_n 0, 1) := by decide +kernel
theorem dX5_copyBy_134 : decode cX5_copyBy 134 = .ok (.iload 5, 2) := by decide +kernel
theorem dX5_copyBy_136 : decode cX5_copyBy 136 = .ok (.iload 6, 2) := by decide +kernel
theorem dX5_copyBy_138 : decode cX5_copyBy 138 = .ok (.iload 7, 2) := by decide +kernel
theorem dX5_copyBy_140 : decode cX5_copyBy 140 = .ok (.invokevirtual 106, 3) := by decide +kernel
theorem dX5_copyBy_143 : decode cX5_copyBy 143 = .ok (.iinc 2 1, 3) := by decide +kernel
theorem dX5_copyBy_146 : decode cX5_copyBy 146 = .ok (.goto (-144), 3) := by decide +kernel
theorem dX5_copyBy_149 : decode cX5_copyBy 149 = .ok (.return_, 1) := by decide +kernel
set_option maxRecDepth 20000 in
theorem ggX5_copy_X5_isText : GoodIn wsX5_copy wsX5_isText := goodIn_r _ [10, 3, 11, 12, 9, 13, 70, 71, 72, 73, 74, 75, 76, 77, 78, 79, 80, 81, 82, 83, 84, 85, 86] (by decide +kernel) (by decide +kernel)
set_option maxRecDepth 20000 in
theorem gX5_copy_X5_isText : GoodIn wsX5_copy (wsV RX5 78 RX5 yX5_isText wsX5_isText) := goodIn_app (goodIn_of _ (by decide +kernel)) ggX5_copy_X5_isText
set_option maxRecDepth 20000 in
theorem ggX5_copy_X5_isScribe : GoodIn wsX5_copy wsX5_isScribe := goodIn_r _ [17, 18, 11, 12, 9, 13, 70, 71, 72, 73, 74, 75, 76, 77, 78, 79, 80, 81, 82, 83, 84, 85, 86] (by decide +kernel) (by decide +kernel)
set_option maxRecDepth 20000 in
theorem gX5_copy_X5_isScribe : GoodIn wsX5_copy (wsV RX5 82 RX5 yX5_isScribe wsX5_isScribe) := goodIn_app (goodIn_of _ (by decide +kernel)) ggX5_copy_X5_isScribe
set_option maxRecDepth 20000 in
theorem ggX5_copy_X5_no : GoodIn wsX5_copy wsX5_no := goodIn_r _ [22, 1, 70, 71, 72, 73, 74, 75, 76, 77, 78, 79, 80, 81, 82, 83, 84, 85, 86] (by decide +kernel) (by decide +kernel)
set_option maxRecDepth 20000 in
theorem gX5_copy_X5_no : GoodIn wsX5_copy (wsV RX5 64 RX5 yX5_no wsX5_no) := goodIn_app (goodIn_of _ (by decide +kernel)) ggX5_copy_X5_no
set_option maxRecDepth 20000 in
theorem ggX5_copy_X5_take : GoodIn wsX5_copy wsX5_take := goodIn_r _ [26, 27, 5, 28, 4, 29, 30, 31, 32, 70, 71, 72, 73, 74, 75, 76, 77, 78, 79, 80, 81, 82, 83, 84, 85, 86] (by decide +kernel) (by decide +kernel)
set_option maxRecDepth 20000 in
theorem gX5_copy_X5_take : GoodIn wsX5_copy (wsV RX5 109 RX5 yX5_take wsX5_take) := goodIn_app (goodIn_of _ (by decide +kernel)) ggX5_copy_X5_take
set_option maxRecDepth 20000 in
theorem ggX5_copy_X5_copyBy : GoodIn wsX5_copy wsX5_copyBy := goodIn_r _ [36, 37, 38, 39, 40, 41, 9, 42, 5, 4, 43, 44, 45, 46, 47, 48, 49, 50, 51, 29, 30, 31, 32, 52, 53, 54, 55, 56, 57, 58, 59, 60, 61, 62, 63, 70, 71, 72, 73, 74, 75, 76, 77, 78, 79, 80, 81, 82, 83, 84, 85, 86] (by decide +kernel) (by decide +kernel)
set_option maxRecDepth 20000 in
theorem gX5_copy_X5_copyBy : GoodIn wsX5_copy (wsV RX5 112 RX5 yX5_copyBy wsX5_copyBy) := goodIn_app (goodIn_of _ (by decide +kernel)) ggX5_copy_X5_copyBy
set_option maxRecDepth 20000 in
theorem ggX5_copy_X5_add : GoodIn wsX5_copy wsX5_add := goodIn_r _ [67, 28, 3, 29, 30, 31, 32, 27, 68, 69, 2, 70, 71, 72, 73, 74, 75, 76, 77, 78, 79, 80, 81, 82, 83, 84, 85, 86] (by decide +kernel) (by decide +kernel)
set_option maxRecDepth 20000 in
theorem gX5_copy_X5_add : GoodIn wsX5_copy (wsV RX5 74 RX5 yX5_add wsX5_add) := goodIn_app (goodIn_of _ (by decide +kernel)) ggX5_copy_X5_add
theorem dX5_copy_0 : decode cX5_copy 0 = .ok (.aload_n 0, 1) := by decide +kernel
theorem dX5_copy_1 : decode cX5_copy 1 = .ok (.iconst 0, 1) := by decide +kernel
theorem dX5_copy_2 : decode cX5_copy 2 = .ok (.putfield 47, 3) := by decide +kernel
theorem dX5_copy_5 : decode cX5_copy 5 = .ok (.aload_n 0, 1) := by decide +kernel
theorem dX5_copy_6 : decode cX5_copy 6 = .ok (.iload_n 1, 1) := by decide +kernel
theorem dX5_copy_7 : decode cX5_copy 7 = .ok (.invokevirtual 78, 3) := by decide +kernel
theorem dX5_copy_10 : decode cX5_copy 10 = .ok (.ifCond .eq 11, 3) := by decide +kernel
theorem dX5_copy_13 : decode cX5_copy 13 = .ok (.aload_n 0, 1) := by decide +kernel
theorem dX5_copy_14 : decode cX5_copy 14 = .ok (.iload_n 2, 1) := by decide +kernel
theorem dX5_copy_15 : decode cX5_copy 15 = .ok (.invokevirtual 82, 3) := by decide +kernel
theorem dX5_copy_18 : decode cX5_copy 18 = .ok (.ifCond .ne 9, 3) := by decide +kernel
theorem dX5_copy_21 : decode cX5_copy 21 = .ok (.aload_n 0, 1) := by decide +kernel
theorem dX5_copy_22 : decode cX5_copy 22 = .ok (.iconst 1, 1) := by decide +kernel
theorem dX5_copy_23 : decode cX5_copy 23 = .ok (.invokevirtual 64, 3) := by decide +kernel
theorem dX5_copy_26 : decode cX5_copy 26 = .ok (.ireturn, 1) := by decide +kernel
theorem dX5_copy_27 : decode cX5_copy 27 = .ok (.aload_n 0, 1) := by decide +kernel
theorem dX5_copy_28 : decode cX5_copy 28 = .ok (.getfield 25, 3) := by decide +kernel
theorem dX5_copy_31 : decode cX5_copy 31 = .ok (.iload_n 1, 1) := by decide +kernel
theorem dX5_copy_32 : decode cX5_copy 32 = .ok (.baload, 1) := by decide +kernel
theorem dX5_copy_33 : decode cX5_copy 33 = .ok (.ifCond .eq 12, 3) := by decide +kernel
theorem dX5_copy_36 : decode cX5_copy 36 = .ok (.aload_n 0, 1) := by decide +kernel
theorem dX5_copy_37 : decode cX5_copy 37 = .ok (.getfield 51, 3) := by decide +kernel
theorem dX5_copy_40 : decode cX5_copy 40 = .ok (.bipush 24, 2) := by decide +kernel
theorem dX5_copy_42 : decode cX5_copy 42 = .ok (.if_icmp .ne 9, 3) := by decide +kernel
theorem dX5_copy_45 : decode cX5_copy 45 = .ok (.aload_n 0, 1) := by decide +kernel
theorem dX5_copy_46 : decode cX5_copy 46 = .ok (.iconst 2, 1) := by decide +kernel
theorem dX5_copy_47 : decode cX5_copy 47 = .ok (.invokevirtual 64, 3) := by decide +kernel
theorem dX5_copy_50 : decode cX5_copy 50 = .ok (.ireturn, 1) := by decide +kernel
theorem dX5_copy_51 : decode cX5_copy 51 = .ok (.aload_n 0, 1) := by decide +kernel
theorem dX5_copy_52 : decode cX5_copy 52 = .ok (.iload_n 1, 1) := by decide +kernel
theorem dX5_copy_53 : decode cX5_copy 53 = .ok (.invokevirtual 109, 3) := by decide +kernel
theorem dX5_copy_56 : decode cX5_copy 56 = .ok (.aload_n 0, 1) := by decide +kernel
theorem dX5_copy_57 : decode cX5_copy 57 = .ok (.iload_n 2, 1) := by decide +kernel
theorem dX5_copy_58 : decode cX5_copy 58 = .ok (.invokevirtual 112, 3) := by decide +kernel
theorem dX5_copy_61 : decode cX5_copy 61 = .ok (.aload_n 0, 1) := by decide +kernel
theorem dX5_copy_62 : decode cX5_copy 62 = .ok (.aload_n 0, 1) := by decide +kernel
theorem dX5_copy_63 : decode cX5_copy 63 = .ok (.getfield 38, 3) := by decide +kernel
theorem dX5_copy_66 : decode cX5_copy 66 = .ok (.aload_n 0, 1) := by decide +kernel
theorem dX5_copy_67 : decode cX5_copy 67 = .ok (.getfield 85, 3) := by decide +kernel
theorem dX5_copy_70 : decode cX5_copy 70 = .ok (.iload_n 1, 1) := by decide +kernel
theorem dX5_copy_71 : decode cX5_copy 71 = .ok (.iload_n 2, 1) := by decide +kernel
theorem dX5_copy_72 : decode cX5_copy 72 = .ok (.invokevirtual 74, 3) := by decide +kernel
theorem dX5_copy_75 : decode cX5_copy 75 = .ok (.ireturn, 1) := by decide +kernel
set_option maxRecDepth 20000 in
theorem ggX5_emend_X5_isText : GoodIn wsX5_emend wsX5_isText := goodIn_r _ [14, 15, 16, 17, 13, 18, 23, 24, 25, 26, 27, 28, 29, 30, 31, 32, 33, 34, 35, 36, 37, 38, 39] (by decide +kernel) (by decide +kernel)
set_option maxRecDepth 20000 in
theorem gX5_emend_X5_isText : GoodIn wsX5_emend (wsV RX5 78 RX5 yX5_isText wsX5_isText) := goodIn_app (goodIn_of _ (by decide +kernel)) ggX5_emend_X5_isText
set_option maxRecDepth 20000 in
theorem ggX5_emend_X5_no : GoodIn wsX5_emend wsX5_no := goodIn_r _ [22, 1, 23, 24, 25, 26, 27, 28, 29, 30, 31, 32, 33, 34, 35, 36, 37, 38, 39] (by decide +kernel) (by decide +kernel)
set_option maxRecDepth 20000 in
theorem gX5_emend_X5_no : GoodIn wsX5_emend (wsV RX5 64 RX5 yX5_no wsX5_no) := goodIn_app (goodIn_of _ (by decide +kernel)) ggX5_emend_X5_no
set_option maxRecDepth 20000 in
theorem ggX5_emend_X5_isIn : GoodIn wsX5_emend wsX5_isIn := goodIn_r _ [18] (by decide +kernel) (by decide +kernel)
set_option maxRecDepth 20000 in
theorem gX5_emend_X5_isIn : GoodIn wsX5_emend (va_wsS RX5 54 yX5_isIn wsX5_isIn) := goodIn_app (goodIn_of _ (by decide +kernel)) ggX5_emend_X5_isIn
theorem dX5_emend_0 : decode cX5_emend 0 = .ok (.aload_n 0, 1) := by decide +kernel
theorem dX5_emend_1 : decode cX5_emend 1 = .ok (.iconst 0, 1) := by decide +kernel
theorem dX5_emend_2 : decode cX5_emend 2 = .ok (.putfield 47, 3) := by decide +kernel
theorem dX5_emend_5 : decode cX5_emend 5 = .ok (.aload_n 0, 1) := by decide +kernel
theorem dX5_emend_6 : decode cX5_emend 6 = .ok (.iload_n 1, 1) := by decide +kernel
theorem dX5_emend_7 : decode cX5_emend 7 = .ok (.invokevirtual 78, 3) := by decide +kernel
theorem dX5_emend_10 : decode cX5_emend 10 = .ok (.ifCond .eq 11, 3) := by decide +kernel
theorem dX5_emend_13 : decode cX5_emend 13 = .ok (.aload_n 0, 1) := by decide +kernel
theorem dX5_emend_14 : decode cX5_emend 14 = .ok (.iload_n 2, 1) := by decide +kernel
theorem dX5_emend_15 : decode cX5_emend 15 = .ok (.invokevirtual 78, 3) := by decide +kernel
theorem dX5_emend_18 : decode cX5_emend 18 = .ok (.ifCond .ne 9, 3) := by decide +kernel
theorem dX5_emend_21 : decode cX5_emend 21 = .ok (.aload_n 0, 1) := by decide +kernel
theorem dX5_emend_22 : decode cX5_emend 22 = .ok (.iconst 1, 1) := by decide +kernel
theorem dX5_emend_23 : decode cX5_emend 23 = .ok (.invokevirtual 64, 3) := by decide +kernel
theorem dX5_emend_26 : decode cX5_emend 26 = .ok (.ireturn, 1) := by decide +kernel
theorem dX5_emend_27 : decode cX5_emend 27 = .ok (.iload 4, 2) := by decide +kernel
theorem dX5_emend_29 : decode cX5_emend 29 = .ok (.iconst 1, 1) := by decide +kernel
theorem dX5_emend_30 : decode cX5_emend 30 = .ok (.bipush 120, 2) := by decide +kernel
theorem dX5_emend_32 : decode cX5_emend 32 = .ok (.invokestatic 54, 3) := by decide +kernel
theorem dX5_emend_35 : decode cX5_emend 35 = .ok (.ifCond .eq 29, 3) := by decide +kernel
theorem dX5_emend_38 : decode cX5_emend 38 = .ok (.iload_n 3, 1) := by decide +kernel
theorem dX5_emend_39 : decode cX5_emend 39 = .ok (.ifCond .lt 25, 3) := by decide +kernel
theorem dX5_emend_42 : decode cX5_emend 42 = .ok (.iload_n 3, 1) := by decide +kernel
theorem dX5_emend_43 : decode cX5_emend 43 = .ok (.aload_n 0, 1) := by decide +kernel
theorem dX5_emend_44 : decode cX5_emend 44 = .ok (.getfield 16, 3) := by decide +kernel
theorem dX5_emend_47 : decode cX5_emend 47 = .ok (.iload_n 1, 1) := by decide +kernel
theorem dX5_emend_48 : decode cX5_emend 48 = .ok (.iaload, 1) := by decide +kernel
theorem dX5_emend_49 : decode cX5_emend 49 = .ok (.aload_n 0, 1) := by decide +kernel
theorem dX5_emend_50 : decode cX5_emend 50 = .ok (.getfield 16, 3) := by decide +kernel
theorem dX5_emend_53 : decode cX5_emend 53 = .ok (.iload_n 2, 1) := by decide +kernel
theorem dX5_emend_54 : decode cX5_emend 54 = .ok (.iaload, 1) := by decide +kernel
theorem dX5_emend_55 : decode cX5_emend 55 = .ok (.invokestatic 115, 3) := by decide +kernel
theorem dX5_emend_58 : decode cX5_emend 58 = .ok (.iload 4, 2) := by decide +kernel
theorem dX5_emend_60 : decode cX5_emend 60 = .ok (.isub, 1) := by decide +kernel
theorem dX5_emend_61 : decode cX5_emend 61 = .ok (.if_icmp .le 9, 3) := by decide +kernel
theorem dX5_emend_64 : decode cX5_emend 64 = .ok (.aload_n 0, 1) := by decide +kernel
theorem dX5_emend_65 : decode cX5_emend 65 = .ok (.iconst 2, 1) := by decide +kernel
theorem dX5_emend_66 : decode cX5_emend 66 = .ok (.invokevirtual 64, 3) := by decide +kernel
theorem dX5_emend_69 : decode cX5_emend 69 = .ok (.ireturn, 1) := by decide +kernel
theorem dX5_emend_70 : decode cX5_emend 70 = .ok (.aload_n 0, 1) := by decide +kernel
theorem dX5_emend_71 : decode cX5_emend 71 = .ok (.getfield 25, 3) := by decide +kernel
theorem dX5_emend_74 : decode cX5_emend 74 = .ok (.iload_n 1, 1) := by decide +kernel
theorem dX5_emend_75 : decode cX5_emend 75 = .ok (.baload, 1) := by decide +kernel
theorem dX5_emend_76 : decode cX5_emend 76 = .ok (.ifCond .eq 12, 3) := by decide +kernel
theorem dX5_emend_79 : decode cX5_emend 79 = .ok (.aload_n 0, 1) := by decide +kernel
theorem dX5_emend_80 : decode cX5_emend 80 = .ok (.getfield 25, 3) := by decide +kernel
theorem dX5_emend_83 : decode cX5_emend 83 = .ok (.iload_n 2, 1) := by decide +kernel
theorem dX5_emend_84 : decode cX5_emend 84 = .ok (.baload, 1) := by decide +kernel
theorem dX5_emend_85 : decode cX5_emend 85 = .ok (.ifCond .ne 9, 3) := by decide +kernel
theorem dX5_emend_88 : decode cX5_emend 88 = .ok (.aload_n 0, 1) := by decide +kernel
theorem dX5_emend_89 : decode cX5_emend 89 = .ok (.iconst 3, 1) := by decide +kernel
theorem dX5_emend_90 : decode cX5_emend 90 = .ok (.invokevirtual 64, 3) := by decide +kernel
theorem dX5_emend_93 : decode cX5_emend 93 = .ok (.ireturn, 1) := by decide +kernel
theorem dX5_emend_94 : decode cX5_emend 94 = .ok (.iconst 0, 1) := by decide +kernel
theorem dX5_emend_95 : decode cX5_emend 95 = .ok (.istore 5, 2) := by decide +kernel
theorem dX5_emend_97 : decode cX5_emend 97 = .ok (.iload_n 3, 1) := by decide +kernel
theorem dX5_emend_98 : decode cX5_emend 98 = .ok (.istore 6, 2) := by decide +kernel
theorem dX5_emend_100 : decode cX5_emend 100 = .ok (.iload 6, 2) := by decide +kernel
theorem dX5_emend_102 : decode cX5_emend 102 = .ok (.iload_n 3, 1) := by decide +kernel
theorem dX5_emend_103 : decode cX5_emend 103 = .ok (.iload 4, 2) := by decide +kernel
theorem dX5_emend_105 : decode cX5_emend 105 = .ok (.iadd, 1) := by decide +kernel
theorem dX5_emend_106 : decode cX5_emend 106 = .ok (.if_icmp .ge 70, 3) := by decide +kernel
theorem dX5_emend_109 : decode cX5_emend 109 = .ok (.iload 5, 2) := by decide +kernel
theorem dX5_emend_111 : decode cX5_emend 111 = .ok (.aload_n 0, 1) := by decide +kernel
theorem dX5_emend_112 : decode cX5_emend 112 = .ok (.getfield 13, 3) := by decide +kernel
theorem dX5_emend_115 : decode cX5_emend 115 = .ok (.bipush 120, 2) := by decide +kernel
theorem dX5_emend_117 : decode cX5_emend 117 = .ok (.iload_n 1, 1) := by decide +kernel
theorem dX5_emend_118 : decode cX5_emend 118 = .ok (.imul, 1) := by decide +kernel
theorem dX5_emend_119 : decode cX5_emend 119 = .ok (.iload 6, 2) := by decide +kernel
theorem dX5_emend_121 : decode cX5_emend 121 = .ok (.iadd, 1) := by decide +kernel
theorem dX5_emend_122 : decode cX5_emend 122 = .ok (.iaload, 1) := by decide +kernel
theorem dX5_emend_123 : decode cX5_emend 123 = .ok (.aload_n 0, 1) := by decide +kernel
theorem dX5_emend_124 : decode cX5_emend 124 = .ok (.getfield 13, 3) := by decide +kernel
theorem dX5_emend_127 : decode cX5_emend 127 = .ok (.bipush 120, 2) := by decide +kernel
theorem dX5_emend_129 : decode cX5_emend 129 = .ok (.iload_n 2, 1) := by decide +kernel
theorem dX5_emend_130 : decode cX5_emend 130 = .ok (.imul, 1) := by decide +kernel
theorem dX5_emend_131 : decode cX5_emend 131 = .ok (.iload 6, 2) := by decide +kernel
theorem dX5_emend_133 : decode cX5_emend 133 = .ok (.iadd, 1) := by decide +kernel
theorem dX5_emend_134 : decode cX5_emend 134 = .ok (.iaload, 1) := by decide +kernel
theorem dX5_emend_135 : decode cX5_emend 135 = .ok (.if_icmp .eq 7, 3) := by decide +kernel
theorem dX5_emend_138 : decode cX5_emend 138 = .ok (.iconst 1, 1) := by decide +kernel
theorem dX5_emend_139 : decode cX5_emend 139 = .ok (.goto 4, 3) := by decide +kernel
theorem dX5_emend_142 : decode cX5_emend 142 = .ok (.iconst 0, 1) := by decide +kernel
theorem dX5_emend_143 : decode cX5_emend 143 = .ok (.iadd, 1) := by decide +kernel
theorem dX5_emend_144 : decode cX5_emend 144 = .ok (.istore 5, 2) := by decide +kernel
theorem dX5_emend_146 : decode cX5_emend 146 = .ok (.aload_n 0, 1) := by decide +kernel
theorem dX5_emend_147 : decode cX5_emend 147 = .ok (.getfield 13, 3) := by decide +kernel
theorem dX5_emend_150 : decode cX5_emend 150 = .ok (.bipush 120, 2) := by decide +kernel
theorem dX5_emend_152 : decode cX5_emend 152 = .ok (.iload_n 1, 1) := by decide +kernel
theorem dX5_emend_153 : decode cX5_emend 153 = .ok (.imul, 1) := by decide +kernel
theorem dX5_emend_154 : decode cX5_emend 154 = .ok (.iload 6, 2) := by decide +kernel
theorem dX5_emend_156 : decode cX5_emend 156 = .ok (.iadd, 1) := by decide +kernel
theorem dX5_emend_157 : decode cX5_emend 157 = .ok (.aload_n 0, 1) := by decide +kernel
theorem dX5_emend_158 : decode cX5_emend 158 = .ok (.getfield 13, 3) := by decide +kernel
theorem dX5_emend_161 : decode cX5_emend 161 = .ok (.bipush 120, 2) := by decide +kernel
theorem dX5_emend_163 : decode cX5_emend 163 = .ok (.iload_n 2, 1) := by decide +kernel
theorem dX5_emend_164 : decode cX5_emend 164 = .ok (.imul, 1) := by decide +kernel
theorem dX5_emend_165 : decode cX5_emend 165 = .ok (.iload 6, 2) := by decide +kernel
theorem dX5_emend_167 : decode cX5_emend 167 = .ok (.iadd, 1) := by decide +kernel
theorem dX5_emend_168 : decode cX5_emend 168 = .ok (.iaload, 1) := by decide +kernel
theorem dX5_emend_169 : decode cX5_emend 169 = .ok (.iastore, 1) := by decide +kernel
theorem dX5_emend_170 : decode cX5_emend 170 = .ok (.iinc 6 1, 3) := by decide +kernel
theorem dX5_emend_173 : decode cX5_emend 173 = .ok (.goto (-73), 3) := by decide +kernel
theorem dX5_emend_176 : decode cX5_emend 176 = .ok (.iconst 0, 1) := by decide +kernel
theorem dX5_emend_177 : decode cX5_emend 177 = .ok (.istore 6, 2) := by decide +kernel
theorem dX5_emend_179 : decode cX5_emend 179 = .ok (.iload 6, 2) := by decide +kernel
theorem dX5_emend_181 : decode cX5_emend 181 = .ok (.bipush 24, 2) := by decide +kernel
theorem dX5_emend_183 : decode cX5_emend 183 = .ok (.if_icmp .ge 35, 3) := by decide +kernel
theorem dX5_emend_186 : decode cX5_emend 186 = .ok (.aload_n 0, 1) := by decide +kernel
theorem dX5_emend_187 : decode cX5_emend 187 = .ok (.getfield 35, 3) := by decide +kernel
theorem dX5_emend_190 : decode cX5_emend 190 = .ok (.bipush 24, 2) := by decide +kernel
theorem dX5_emend_192 : decode cX5_emend 192 = .ok (.iload_n 1, 1) := by decide +kernel
theorem dX5_emend_193 : decode cX5_emend 193 = .ok (.imul, 1) := by decide +kernel
theorem dX5_emend_194 : decode cX5_emend 194 = .ok (.iload 6, 2) := by decide +kernel
theorem dX5_emend_196 : decode cX5_emend 196 = .ok (.iadd, 1) := by decide +kernel
theorem dX5_emend_197 : decode cX5_emend 197 = .ok (.iconst (-1), 1) := by decide +kernel
theorem dX5_emend_198 : decode cX5_emend 198 = .ok (.iastore, 1) := by decide +kernel
theorem dX5_emend_199 : decode cX5_emend 199 = .ok (.aload_n 0, 1) := by decide +kernel
theorem dX5_emend_200 : decode cX5_emend 200 = .ok (.getfield 35, 3) := by decide +kernel
theorem dX5_emend_203 : decode cX5_emend 203 = .ok (.bipush 24, 2) := by decide +kernel
theorem dX5_emend_205 : decode cX5_emend 205 = .ok (.iload 6, 2) := by decide +kernel
theorem dX5_emend_207 : decode cX5_emend 207 = .ok (.imul, 1) := by decide +kernel
theorem dX5_emend_208 : decode cX5_emend 208 = .ok (.iload_n 1, 1) := by decide +kernel
theorem dX5_emend_209 : decode cX5_emend 209 = .ok (.iadd, 1) := by decide +kernel
theorem dX5_emend_210 : decode cX5_emend 210 = .ok (.iconst (-1), 1) := by decide +kernel
theorem dX5_emend_211 : decode cX5_emend 211 = .ok (.iastore, 1) := by decide +kernel
theorem dX5_emend_212 : decode cX5_emend 212 = .ok (.iinc 6 1, 3) := by decide +kernel
theorem dX5_emend_215 : decode cX5_emend 215 = .ok (.goto (-36), 3) := by decide +kernel
theorem dX5_emend_218 : decode cX5_emend 218 = .ok (.iload 5, 2) := by decide +kernel
theorem dX5_emend_220 : decode cX5_emend 220 = .ok (.ireturn, 1) := by decide +kernel
theorem dX5_there_0 : decode cX5_there 0 = .ok (.iconst 0, 1) := by decide +kernel
theorem dX5_there_1 : decode cX5_there 1 = .ok (.istore_n 1, 1) := by decide +kernel
theorem dX5_there_2 : decode cX5_there 2 = .ok (.iconst 0, 1) := by decide +kernel
theorem dX5_there_3 : decode cX5_there 3 = .ok (.istore_n 2, 1) := by decide +kernel
theorem dX5_there_4 : decode cX5_there 4 = .ok (.iload_n 2, 1) := by decide +kernel
theorem dX5_there_5 : decode cX5_there 5 = .ok (.aload_n 0, 1) := by decide +kernel
theorem dX5_there_6 : decode cX5_there 6 = .ok (.getfield 51, 3) := by decide +kernel
theorem dX5_there_9 : decode cX5_there 9 = .ok (.if_icmp .ge 26, 3) := by decide +kernel
theorem dX5_there_12 : decode cX5_there 12 = .ok (.iload_n 1, 1) := by decide +kernel
theorem dX5_there_13 : decode cX5_there 13 = .ok (.aload_n 0, 1) := by decide +kernel
theorem dX5_there_14 : decode cX5_there 14 = .ok (.getfield 25, 3) := by decide +kernel
theorem dX5_there_17 : decode cX5_there 17 = .ok (.iload_n 2, 1) := by decide +kernel
theorem dX5_there_18 : decode cX5_there 18 = .ok (.baload, 1) := by decide +kernel
theorem dX5_there_19 : decode cX5_there 19 = .ok (.ifCond .eq 7, 3) := by decide +kernel
theorem dX5_there_22 : decode cX5_there 22 = .ok (.iconst 1, 1) := by decide +kernel
theorem dX5_there_23 : decode cX5_there 23 = .ok (.goto 4, 3) := by decide +kernel
theorem dX5_there_26 : decode cX5_there 26 = .ok (.iconst 0, 1) := by decide +kernel
theorem dX5_there_27 : decode cX5_there 27 = .ok (.iadd, 1) := by decide +kernel
theorem dX5_there_28 : decode cX5_there 28 = .ok (.istore_n 1, 1) := by decide +kernel
theorem dX5_there_29 : decode cX5_there 29 = .ok (.iinc 2 1, 3) := by decide +kernel
theorem dX5_there_32 : decode cX5_there 32 = .ok (.goto (-28), 3) := by decide +kernel
theorem dX5_there_35 : decode cX5_there 35 = .ok (.iload_n 1, 1) := by decide +kernel
theorem dX5_there_36 : decode cX5_there 36 = .ok (.ireturn, 1) := by decide +kernel
set_option maxRecDepth 20000 in
theorem ggX5_lose_X5_isText : GoodIn wsX5_lose wsX5_isText := goodIn_r _ [7, 8, 9, 10, 6, 11, 20, 21, 22, 23, 24, 25, 26, 27, 28, 29, 30, 31, 32, 33, 34, 35, 36] (by decide +kernel) (by decide +kernel)
set_option maxRecDepth 20000 in
theorem gX5_lose_X5_isText : GoodIn wsX5_lose (wsV RX5 78 RX5 yX5_isText wsX5_isText) := goodIn_app (goodIn_of _ (by decide +kernel)) ggX5_lose_X5_isText
set_option maxRecDepth 20000 in
theorem ggX5_lose_X5_no : GoodIn wsX5_lose wsX5_no := goodIn_r _ [15, 1, 20, 21, 22, 23, 24, 25, 26, 27, 28, 29, 30, 31, 32, 33, 34, 35, 36] (by decide +kernel) (by decide +kernel)
set_option maxRecDepth 20000 in
theorem gX5_lose_X5_no : GoodIn wsX5_lose (wsV RX5 64 RX5 yX5_no wsX5_no) := goodIn_app (goodIn_of _ (by decide +kernel)) ggX5_lose_X5_no
set_option maxRecDepth 20000 in
theorem ggX5_lose_X5_there : GoodIn wsX5_lose wsX5_there := goodIn_r _ [19, 8, 2, 20, 21, 22, 23, 24, 25, 26, 27, 28, 29, 30, 31, 32, 33, 34, 35, 36] (by decide +kernel) (by decide +kernel)
set_option maxRecDepth 20000 in
theorem gX5_lose_X5_there : GoodIn wsX5_lose (wsV RX5 121 RX5 yX5_there wsX5_there) := goodIn_app (goodIn_of _ (by decide +kernel)) ggX5_lose_X5_there
theorem dX5_lose_0 : decode cX5_lose 0 = .ok (.aload_n 0, 1) := by decide +kernel
theorem dX5_lose_1 : decode cX5_lose 1 = .ok (.iconst 0, 1) := by decide +kernel
theorem dX5_lose_2 : decode cX5_lose 2 = .ok (.putfield 47, 3) := by decide +kernel
theorem dX5_lose_5 : decode cX5_lose 5 = .ok (.aload_n 0, 1) := by decide +kernel
theorem dX5_lose_6 : decode cX5_lose 6 = .ok (.iload_n 1, 1) := by decide +kernel
theorem dX5_lose_7 : decode cX5_lose 7 = .ok (.invokevirtual 78, 3) := by decide +kernel
theorem dX5_lose_10 : decode cX5_lose 10 = .ok (.ifCond .ne 9, 3) := by decide +kernel
theorem dX5_lose_13 : decode cX5_lose 13 = .ok (.aload_n 0, 1) := by decide +kernel
theorem dX5_lose_14 : decode cX5_lose 14 = .ok (.iconst 1, 1) := by decide +kernel
theorem dX5_lose_15 : decode cX5_lose 15 = .ok (.invokevirtual 64, 3) := by decide +kernel
theorem dX5_lose_18 : decode cX5_lose 18 = .ok (.ireturn, 1) := by decide +kernel
theorem dX5_lose_19 : decode cX5_lose 19 = .ok (.aload_n 0, 1) := by decide +kernel
theorem dX5_lose_20 : decode cX5_lose 20 = .ok (.getfield 25, 3) := by decide +kernel
theorem dX5_lose_23 : decode cX5_lose 23 = .ok (.iload_n 1, 1) := by decide +kernel
theorem dX5_lose_24 : decode cX5_lose 24 = .ok (.baload, 1) := by decide +kernel
theorem dX5_lose_25 : decode cX5_lose 25 = .ok (.ifCond .ne 9, 3) := by decide +kernel
theorem dX5_lose_28 : decode cX5_lose 28 = .ok (.aload_n 0, 1) := by decide +kernel
theorem dX5_lose_29 : decode cX5_lose 29 = .ok (.iconst 2, 1) := by decide +kernel
theorem dX5_lose_30 : decode cX5_lose 30 = .ok (.invokevirtual 64, 3) := by decide +kernel
theorem dX5_lose_33 : decode cX5_lose 33 = .ok (.ireturn, 1) := by decide +kernel
theorem dX5_lose_34 : decode cX5_lose 34 = .ok (.aload_n 0, 1) := by decide +kernel
theorem dX5_lose_35 : decode cX5_lose 35 = .ok (.getfield 25, 3) := by decide +kernel
theorem dX5_lose_38 : decode cX5_lose 38 = .ok (.iload_n 1, 1) := by decide +kernel
theorem dX5_lose_39 : decode cX5_lose 39 = .ok (.iconst 0, 1) := by decide +kernel
theorem dX5_lose_40 : decode cX5_lose 40 = .ok (.bastore, 1) := by decide +kernel
theorem dX5_lose_41 : decode cX5_lose 41 = .ok (.aload_n 0, 1) := by decide +kernel
theorem dX5_lose_42 : decode cX5_lose 42 = .ok (.invokevirtual 121, 3) := by decide +kernel
theorem dX5_lose_45 : decode cX5_lose 45 = .ok (.ireturn, 1) := by decide +kernel
theorem dX5_distanceOf_0 : decode cX5_distanceOf 0 = .ok (.aload_n 0, 1) := by decide +kernel
theorem dX5_distanceOf_1 : decode cX5_distanceOf 1 = .ok (.getfield 16, 3) := by decide +kernel
theorem dX5_distanceOf_4 : decode cX5_distanceOf 4 = .ok (.iload_n 1, 1) := by decide +kernel
theorem dX5_distanceOf_5 : decode cX5_distanceOf 5 = .ok (.iaload, 1) := by decide +kernel
theorem dX5_distanceOf_6 : decode cX5_distanceOf 6 = .ok (.istore_n 2, 1) := by decide +kernel
theorem dX5_distanceOf_7 : decode cX5_distanceOf 7 = .ok (.iconst 0, 1) := by decide +kernel
theorem dX5_distanceOf_8 : decode cX5_distanceOf 8 = .ok (.istore_n 3, 1) := by decide +kernel
theorem dX5_distanceOf_9 : decode cX5_distanceOf 9 = .ok (.iload_n 3, 1) := by decide +kernel
theorem dX5_distanceOf_10 : decode cX5_distanceOf 10 = .ok (.iload_n 2, 1) := by decide +kernel
theorem dX5_distanceOf_11 : decode cX5_distanceOf 11 = .ok (.if_icmp .gt 16, 3) := by decide +kernel
theorem dX5_distanceOf_14 : decode cX5_distanceOf 14 = .ok (.aload_n 0, 1) := by decide +kernel
theorem dX5_distanceOf_15 : decode cX5_distanceOf 15 = .ok (.getfield 44, 3) := by decide +kernel
theorem dX5_distanceOf_18 : decode cX5_distanceOf 18 = .ok (.iload_n 3, 1) := by decide +kernel
theorem dX5_distanceOf_19 : decode cX5_distanceOf 19 = .ok (.iload_n 3, 1) := by decide +kernel
theorem dX5_distanceOf_20 : decode cX5_distanceOf 20 = .ok (.iastore, 1) := by decide +kernel
theorem dX5_distanceOf_21 : decode cX5_distanceOf 21 = .ok (.iinc 3 1, 3) := by decide +kernel
theorem dX5_distanceOf_24 : decode cX5_distanceOf 24 = .ok (.goto (-15), 3) := by decide +kernel
theorem dX5_distanceOf_27 : decode cX5_distanceOf 27 = .ok (.iconst 1, 1) := by decide +kernel
theorem dX5_distanceOf_28 : decode cX5_distanceOf 28 = .ok (.istore_n 3, 1) := by decide +kernel
theorem dX5_distanceOf_29 : decode cX5_distanceOf 29 = .ok (.iload_n 3, 1) := by decide +kernel
theorem dX5_distanceOf_30 : decode cX5_distanceOf 30 = .ok (.aload_n 0, 1) := by decide +kernel
theorem dX5_distanceOf_31 : decode cX5_distanceOf 31 = .ok (.getfield 85, 3) := by decide +kernel
theorem dX5_distanceOf_34 : decode cX5_distanceOf 34 = .ok (.if_icmp .gt 115, 3) := by decide +kernel
theorem dX5_distanceOf_37 : decode cX5_distanceOf 37 = .ok (.aload_n 0, 1) := by decide +kernel
theorem dX5_distanceOf_38 : decode cX5_distanceOf 38 = .ok (.getfield 44, 3) := by decide +kernel
theorem dX5_distanceOf_41 : decode cX5_distanceOf 41 = .ok (.iconst 0, 1) := by decide +kernel
theorem dX5_distanceOf_42 : decode cX5_distanceOf 42 = .ok (.iaload, 1) := by decide +kernel
theorem dX5_distanceOf_43 : decode cX5_distanceOf 43 = .ok (.istore 4, 2) := by decide +kernel
theorem dX5_distanceOf_45 : decode cX5_distanceOf 45 = .ok (.aload_n 0, 1) := by decide +kernel
theorem dX5_distanceOf_46 : decode cX5_distanceOf 46 = .ok (.getfield 44, 3) := by decide +kernel
theorem dX5_distanceOf_49 : decode cX5_distanceOf 49 = .ok (.iconst 0, 1) := by decide +kernel
theorem dX5_distanceOf_50 : decode cX5_distanceOf 50 = .ok (.iload_n 3, 1) := by decide +kernel
theorem dX5_distanceOf_51 : decode cX5_distanceOf 51 = .ok (.iastore, 1) := by decide +kernel
theorem dX5_distanceOf_52 : decode cX5_distanceOf 52 = .ok (.iconst 1, 1) := by decide +kernel
theorem dX5_distanceOf_53 : decode cX5_distanceOf 53 = .ok (.istore 5, 2) := by decide +kernel
theorem dX5_distanceOf_55 : decode cX5_distanceOf 55 = .ok (.iload 5, 2) := by decide +kernel
theorem dX5_distanceOf_57 : decode cX5_distanceOf 57 = .ok (.iload_n 2, 1) := by decide +kernel
theorem dX5_distanceOf_58 : decode cX5_distanceOf 58 = .ok (.if_icmp .gt 85, 3) := by decide +kernel
theorem dX5_distanceOf_61 : decode cX5_distanceOf 61 = .ok (.aload_n 0, 1) := by decide +kernel
theorem dX5_distanceOf_62 : decode cX5_distanceOf 62 = .ok (.getfield 44, 3) := by decide +kernel
theorem dX5_distanceOf_65 : decode cX5_distanceOf 65 = .ok (.iload 5, 2) := by decide +kernel
theorem dX5_distanceOf_67 : decode cX5_distanceOf 67 = .ok (.iaload, 1) := by decide +kernel
theorem dX5_distanceOf_68 : decode cX5_distanceOf 68 = .ok (.istore 6, 2) := by decide +kernel
theorem dX5_distanceOf_70 : decode cX5_distanceOf 70 = .ok (.iload 4, 2) := by decide +kernel
theorem dX5_distanceOf_72 : decode cX5_distanceOf 72 = .ok (.aload_n 0, 1) := by decide +kernel
theorem dX5_distanceOf_73 : decode cX5_distanceOf 73 = .ok (.getfield 38, 3) := by decide +kernel
theorem dX5_distanceOf_76 : decode cX5_distanceOf 76 = .ok (.iload_n 3, 1) := by decide +kernel
theorem dX5_distanceOf_77 : decode cX5_distanceOf 77 = .ok (.iconst 1, 1) := by decide +kernel
theorem dX5_distanceOf_78 : decode cX5_distanceOf 78 = .ok (.isub, 1) := by decide +kernel
theorem dX5_distanceOf_79 : decode cX5_distanceOf 79 = .ok (.iaload, 1) := by decide +kernel
theorem dX5_distanceOf_80 : decode cX5_distanceOf 80 = .ok (.aload_n 0, 1) := by decide +kernel
theorem dX5_distanceOf_81 : decode cX5_distanceOf 81 = .ok (.getfield 13, 3) := by decide +kernel
theorem dX5_distanceOf_84 : decode cX5_distanceOf 84 = .ok (.bipush 120, 2) := by decide +kernel
theorem dX5_distanceOf_86 : decode cX5_distanceOf 86 = .ok (.iload_n 1, 1) := by decide +kernel
theorem dX5_distanceOf_87 : decode cX5_distanceOf 87 = .ok (.imul, 1) := by decide +kernel
theorem dX5_distanceOf_88 : decode cX5_distanceOf 88 = .ok (.iload 5, 2) := by decide +kernel
theorem dX5_distanceOf_90 : decode cX5_distanceOf 90 = .ok (.iadd, 1) := by decide +kernel
theorem dX5_distanceOf_91 : decode cX5_distanceOf 91 = .ok (.iconst 1, 1) := by decide +kernel
theorem dX5_distanceOf_92 : decode cX5_distanceOf 92 = .ok (.isub, 1) := by decide +kernel
theorem dX5_distanceOf_93 : decode cX5_distanceOf 93 = .ok (.iaload, 1) := by decide +kernel
theorem dX5_distanceOf_94 : decode cX5_distanceOf 94 = .ok (.if_icmp .ne 7, 3) := by decide +kernel
theorem dX5_distanceOf_97 : decode cX5_distanceOf 97 = .ok (.iconst 0, 1) := by decide +kernel
theorem dX5_distanceOf_98 : decode cX5_distanceOf 98 = .ok (.goto 4, 3) := by decide +kernel
theorem dX5_distanceOf_101 : decode cX5_distanceOf 101 = .ok (.iconst 1, 1) := by decide +kernel
theorem dX5_distanceOf_102 : decode cX5_distanceOf 102 = .ok (.iadd, 1) := by decide +kernel
theorem dX5_distanceOf_103 : decode cX5_distanceOf 103 = .ok (.istore 7, 2) := by decide +kernel
theorem dX5_distanceOf_105 : decode cX5_distanceOf 105 = .ok (.aload_n 0, 1) := by decide +kernel
theorem dX5_distanceOf_106 : decode cX5_distanceOf 106 = .ok (.getfield 44, 3) := by decide +kernel
theorem dX5_distanceOf_109 : decode cX5_distanceOf 109 = .ok (.iload 5, 2) := by decide +kernel
theorem dX5_distanceOf_111 : decode cX5_distanceOf 111 = .ok (.iload 7, 2) := by decide +kernel
theorem dX5_distanceOf_113 : decode cX5_distanceOf 113 = .ok (.iload 6, 2) := by decide +kernel
theorem dX5_distanceOf_115 : decode cX5_distanceOf 115 = .ok (.aload_n 0, 1) := by decide +kernel
theorem dX5_distanceOf_116 : decode cX5_distanceOf 116 = .ok (.getfield 44, 3) := by decide +kernel
theorem dX5_distanceOf_119 : decode cX5_distanceOf 119 = .ok (.iload 5, 2) := by decide +kernel
theorem dX5_distanceOf_121 : decode cX5_distanceOf 121 = .ok (.iconst 1, 1) := by decide +kernel
theorem dX5_distanceOf_122 : decode cX5_distanceOf 122 = .ok (.isub, 1) := by decide +kernel
theorem dX5_distanceOf_123 : decode cX5_distanceOf 123 = .ok (.iaload, 1) := by decide +kernel
theorem dX5_distanceOf_124 : decode cX5_distanceOf 124 = .ok (.invokestatic 115, 3) := by decide +kernel
theorem dX5_distanceOf_127 : decode cX5_distanceOf 127 = .ok (.iconst 1, 1) := by decide +kernel
theorem dX5_distanceOf_128 : decode cX5_distanceOf 128 = .ok (.iadd, 1) := by decide +kernel
theorem dX5_distanceOf_129 : decode cX5_distanceOf 129 = .ok (.invokestatic 115, 3) := by decide +kernel
theorem dX5_distanceOf_132 : decode cX5_distanceOf 132 = .ok (.iastore, 1) := by decide +kernel
theorem dX5_distanceOf_133 : decode cX5_distanceOf 133 = .ok (.iload 6, 2) := by decide +kernel
theorem dX5_distanceOf_135 : decode cX5_distanceOf 135 = .ok (.istore 4, 2) := by decide +kernel
theorem dX5_distanceOf_137 : decode cX5_distanceOf 137 = .ok (.iinc 5 1, 3) := by decide +kernel
theorem dX5_distanceOf_140 : decode cX5_distanceOf 140 = .ok (.goto (-85), 3) := by decide +kernel
theorem dX5_distanceOf_143 : decode cX5_distanceOf 143 = .ok (.iinc 3 1, 3) := by decide +kernel
theorem dX5_distanceOf_146 : decode cX5_distanceOf 146 = .ok (.goto (-117), 3) := by decide +kernel
theorem dX5_distanceOf_149 : decode cX5_distanceOf 149 = .ok (.aload_n 0, 1) := by decide +kernel
theorem dX5_distanceOf_150 : decode cX5_distanceOf 150 = .ok (.getfield 44, 3) := by decide +kernel
theorem dX5_distanceOf_153 : decode cX5_distanceOf 153 = .ok (.iload_n 2, 1) := by decide +kernel
theorem dX5_distanceOf_154 : decode cX5_distanceOf 154 = .ok (.iaload, 1) := by decide +kernel
theorem dX5_distanceOf_155 : decode cX5_distanceOf 155 = .ok (.ireturn, 1) := by decide +kernel
set_option maxRecDepth 20000 in
theorem ggX5_apart_X5_take : GoodIn wsX5_apart wsX5_take := goodIn_r _ [13, 14, 15, 16, 17, 18, 19, 20, 21, 27, 28, 29, 30, 31, 32, 33, 34, 35, 36, 37, 38, 39, 40, 41, 42, 43] (by decide +kernel) (by decide +kernel)
set_option maxRecDepth 20000 in
theorem gX5_apart_X5_take : GoodIn wsX5_apart (wsV RX5 109 RX5 yX5_take wsX5_take) := goodIn_app (goodIn_of _ (by decide +kernel)) ggX5_apart_X5_take
set_option maxRecDepth 20000 in
theorem ggX5_apart_X5_distanceOf : GoodIn wsX5_apart wsX5_distanceOf := goodIn_r _ [25, 14, 26, 15, 17, 16, 1, 2, 3, 4, 27, 28, 29, 30, 31, 32, 33, 34, 35, 36, 37, 38, 39, 40, 41, 42, 43] (by decide +kernel) (by decide +kernel)
set_option maxRecDepth 20000 in
theorem gX5_apart_X5_distanceOf : GoodIn wsX5_apart (wsV RX5 128 RX5 yX5_distanceOf wsX5_distanceOf) := goodIn_app (goodIn_of _ (by decide +kernel)) ggX5_apart_X5_distanceOf
theorem dX5_apart_0 : decode cX5_apart 0 = .ok (.bipush 24, 2) := by decide +kernel
theorem dX5_apart_2 : decode cX5_apart 2 = .ok (.iload_n 1, 1) := by decide +kernel
theorem dX5_apart_3 : decode cX5_apart 3 = .ok (.iload_n 2, 1) := by decide +kernel
theorem dX5_apart_4 : decode cX5_apart 4 = .ok (.invokestatic 115, 3) := by decide +kernel
theorem dX5_apart_7 : decode cX5_apart 7 = .ok (.imul, 1) := by decide +kernel
theorem dX5_apart_8 : decode cX5_apart 8 = .ok (.iload_n 1, 1) := by decide +kernel
theorem dX5_apart_9 : decode cX5_apart 9 = .ok (.iload_n 2, 1) := by decide +kernel
theorem dX5_apart_10 : decode cX5_apart 10 = .ok (.invokestatic 125, 3) := by decide +kernel
theorem dX5_apart_13 : decode cX5_apart 13 = .ok (.iadd, 1) := by decide +kernel
theorem dX5_apart_14 : decode cX5_apart 14 = .ok (.istore_n 3, 1) := by decide +kernel
theorem dX5_apart_15 : decode cX5_apart 15 = .ok (.aload_n 0, 1) := by decide +kernel
theorem dX5_apart_16 : decode cX5_apart 16 = .ok (.getfield 35, 3) := by decide +kernel
theorem dX5_apart_19 : decode cX5_apart 19 = .ok (.iload_n 3, 1) := by decide +kernel
theorem dX5_apart_20 : decode cX5_apart 20 = .ok (.iaload, 1) := by decide +kernel
theorem dX5_apart_21 : decode cX5_apart 21 = .ok (.iconst (-1), 1) := by decide +kernel
theorem dX5_apart_22 : decode cX5_apart 22 = .ok (.if_icmp .ne 19, 3) := by decide +kernel
theorem dX5_apart_25 : decode cX5_apart 25 = .ok (.aload_n 0, 1) := by decide +kernel
theorem dX5_apart_26 : decode cX5_apart 26 = .ok (.iload_n 1, 1) := by decide +kernel
theorem dX5_apart_27 : decode cX5_apart 27 = .ok (.invokevirtual 109, 3) := by decide +kernel
theorem dX5_apart_30 : decode cX5_apart 30 = .ok (.aload_n 0, 1) := by decide +kernel
theorem dX5_apart_31 : decode cX5_apart 31 = .ok (.getfield 35, 3) := by decide +kernel
theorem dX5_apart_34 : decode cX5_apart 34 = .ok (.iload_n 3, 1) := by decide +kernel
theorem dX5_apart_35 : decode cX5_apart 35 = .ok (.aload_n 0, 1) := by decide +kernel
theorem dX5_apart_36 : decode cX5_apart 36 = .ok (.iload_n 2, 1) := by decide +kernel
theorem dX5_apart_37 : decode cX5_apart 37 = .ok (.invokevirtual 128, 3) := by decide +kernel
theorem dX5_apart_40 : decode cX5_apart 40 = .ok (.iastore, 1) := by decide +kernel
theorem dX5_apart_41 : decode cX5_apart 41 = .ok (.aload_n 0, 1) := by decide +kernel
theorem dX5_apart_42 : decode cX5_apart 42 = .ok (.getfield 35, 3) := by decide +kernel
theorem dX5_apart_45 : decode cX5_apart 45 = .ok (.iload_n 3, 1) := by decide +kernel
theorem dX5_apart_46 : decode cX5_apart 46 = .ok (.iaload, 1) := by decide +kernel
theorem dX5_apart_47 : decode cX5_apart 47 = .ok (.ireturn, 1) := by decide +kernel
theorem dX5_origin_0 : decode cX5_origin 0 = .ok (.iload_n 1, 1) := by decide +kernel
theorem dX5_origin_1 : decode cX5_origin 1 = .ok (.istore_n 2, 1) := by decide +kernel
theorem dX5_origin_2 : decode cX5_origin 2 = .ok (.aload_n 0, 1) := by decide +kernel
theorem dX5_origin_3 : decode cX5_origin 3 = .ok (.getfield 19, 3) := by decide +kernel
theorem dX5_origin_6 : decode cX5_origin 6 = .ok (.iload_n 2, 1) := by decide +kernel
theorem dX5_origin_7 : decode cX5_origin 7 = .ok (.iaload, 1) := by decide +kernel
theorem dX5_origin_8 : decode cX5_origin 8 = .ok (.iconst (-1), 1) := by decide +kernel
theorem dX5_origin_9 : decode cX5_origin 9 = .ok (.if_icmp .eq 13, 3) := by decide +kernel
theorem dX5_origin_12 : decode cX5_origin 12 = .ok (.aload_n 0, 1) := by decide +kernel
theorem dX5_origin_13 : decode cX5_origin 13 = .ok (.getfield 19, 3) := by decide +kernel
theorem dX5_origin_16 : decode cX5_origin 16 = .ok (.iload_n 2, 1) := by decide +kernel
theorem dX5_origin_17 : decode cX5_origin 17 = .ok (.iaload, 1) := by decide +kernel
theorem dX5_origin_18 : decode cX5_origin 18 = .ok (.istore_n 2, 1) := by decide +kernel
theorem dX5_origin_19 : decode cX5_origin 19 = .ok (.goto (-17), 3) := by decide +kernel
theorem dX5_origin_22 : decode cX5_origin 22 = .ok (.iload_n 2, 1) := by decide +kernel
theorem dX5_origin_23 : decode cX5_origin 23 = .ok (.ireturn, 1) := by decide +kernel
theorem dX5_generation_0 : decode cX5_generation 0 = .ok (.iconst 0, 1) := by decide +kernel
theorem dX5_generation_1 : decode cX5_generation 1 = .ok (.istore_n 2, 1) := by decide +kernel
theorem dX5_generation_2 : decode cX5_generation 2 = .ok (.iload_n 1, 1) := by decide +kernel
theorem dX5_generation_3 : decode cX5_generation 3 = .ok (.istore_n 3, 1) := by decide +kernel
theorem dX5_generation_4 : decode cX5_generation 4 = .ok (.aload_n 0, 1) := by decide +kernel
theorem dX5_generation_5 : decode cX5_generation 5 = .ok (.getfield 19, 3) := by decide +kernel
theorem dX5_generation_8 : decode cX5_generation 8 = .ok (.iload_n 3, 1) := by decide +kernel
theorem dX5_generation_9 : decode cX5_generation 9 = .ok (.iaload, 1) := by decide +kernel
theorem dX5_generation_10 : decode cX5_generation 10 = .ok (.iconst (-1), 1) := by decide +kernel
theorem dX5_generation_11 : decode cX5_generation 11 = .ok (.if_icmp .eq 16, 3) := by decide +kernel
theorem dX5_generation_14 : decode cX5_generation 14 = .ok (.iinc 2 1, 3) := by decide +kernel
theorem dX5_generation_17 : decode cX5_generation 17 = .ok (.aload_n 0, 1) := by decide +kernel
theorem dX5_generation_18 : decode cX5_generation 18 = .ok (.getfield 19, 3) := by decide +kernel
theorem dX5_generation_21 : decode cX5_generation 21 = .ok (.iload_n 3, 1) := by decide +kernel
theorem dX5_generation_22 : decode cX5_generation 22 = .ok (.iaload, 1) := by decide +kernel
theorem dX5_generation_23 : decode cX5_generation 23 = .ok (.istore_n 3, 1) := by decide +kernel
theorem dX5_generation_24 : decode cX5_generation 24 = .ok (.goto (-20), 3) := by decide +kernel
theorem dX5_generation_27 : decode cX5_generation 27 = .ok (.iload_n 2, 1) := by decide +kernel
theorem dX5_generation_28 : decode cX5_generation 28 = .ok (.ireturn, 1) := by decide +kernel
theorem dX5_isOf_0 : decode cX5_isOf 0 = .ok (.iload_n 1, 1) := by decide +kernel
theorem dX5_isOf_1 : decode cX5_isOf 1 = .ok (.istore_n 3, 1) := by decide +kernel
theorem dX5_isOf_2 : decode cX5_isOf 2 = .ok (.iload_n 3, 1) := by decide +kernel
theorem dX5_isOf_3 : decode cX5_isOf 3 = .ok (.iconst (-1), 1) := by decide +kernel
theorem dX5_isOf_4 : decode cX5_isOf 4 = .ok (.if_icmp .eq 18, 3) := by decide +kernel
theorem dX5_isOf_7 : decode cX5_isOf 7 = .ok (.iload_n 3, 1) := by decide +kernel
theorem dX5_isOf_8 : decode cX5_isOf 8 = .ok (.iload_n 2, 1) := by decide +kernel
theorem dX5_isOf_9 : decode cX5_isOf 9 = .ok (.if_icmp .eq 13, 3) := by decide +kernel
theorem dX5_isOf_12 : decode cX5_isOf 12 = .ok (.aload_n 0, 1) := by decide +kernel
theorem dX5_isOf_13 : decode cX5_isOf 13 = .ok (.getfield 19, 3) := by decide +kernel
theorem dX5_isOf_16 : decode cX5_isOf 16 = .ok (.iload_n 3, 1) := by decide +kernel
theorem dX5_isOf_17 : decode cX5_isOf 17 = .ok (.iaload, 1) := by decide +kernel
theorem dX5_isOf_18 : decode cX5_isOf 18 = .ok (.istore_n 3, 1) := by decide +kernel
theorem dX5_isOf_19 : decode cX5_isOf 19 = .ok (.goto (-17), 3) := by decide +kernel
theorem dX5_isOf_22 : decode cX5_isOf 22 = .ok (.iload_n 3, 1) := by decide +kernel
theorem dX5_isOf_23 : decode cX5_isOf 23 = .ok (.iload_n 2, 1) := by decide +kernel
theorem dX5_isOf_24 : decode cX5_isOf 24 = .ok (.if_icmp .ne 7, 3) := by decide +kernel
theorem dX5_isOf_27 : decode cX5_isOf 27 = .ok (.iconst 1, 1) := by decide +kernel
theorem dX5_isOf_28 : decode cX5_isOf 28 = .ok (.goto 4, 3) := by decide +kernel
theorem dX5_isOf_31 : decode cX5_isOf 31 = .ok (.iconst 0, 1) := by decide +kernel
theorem dX5_isOf_32 : decode cX5_isOf 32 = .ok (.ireturn, 1) := by decide +kernel
set_option maxRecDepth 20000 in
theorem ggX5_told_X5_isOf : GoodIn wsX5_told wsX5_isOf := goodIn_r _ [10, 2, 47, 48, 49, 50, 51, 52, 53, 54, 55, 56, 57, 58, 59, 60, 61, 62, 63] (by decide +kernel) (by decide +kernel)
set_option maxRecDepth 20000 in
theorem gX5_told_X5_isOf : GoodIn wsX5_told (wsV RX5 131 RX5 yX5_isOf wsX5_isOf) := goodIn_app (goodIn_of _ (by decide +kernel)) ggX5_told_X5_isOf
set_option maxRecDepth 20000 in
theorem ggX5_told_X5_generation : GoodIn wsX5_told wsX5_generation := goodIn_r _ [14, 2, 47, 48, 49, 50, 51, 52, 53, 54, 55, 56, 57, 58, 59, 60, 61, 62, 63] (by decide +kernel) (by decide +kernel)
set_option maxRecDepth 20000 in
theorem gX5_told_X5_generation : GoodIn wsX5_told (wsV RX5 135 RX5 yX5_generation wsX5_generation) := goodIn_app (goodIn_of _ (by decide +kernel)) ggX5_told_X5_generation
set_option maxRecDepth 20000 in
theorem ggX5_told_X5_apart : GoodIn wsX5_told wsX5_apart := goodIn_r _ [18, 19, 20, 21, 22, 23, 24, 25, 26, 27, 28, 29, 9, 30, 3, 31, 32, 33, 34, 35, 36, 37, 38, 39, 40, 41, 42, 47, 48, 49, 50, 51, 52, 53, 54, 55, 56, 57, 58, 59, 60, 61, 62, 63] (by decide +kernel) (by decide +kernel)
set_option maxRecDepth 20000 in
theorem gX5_told_X5_apart : GoodIn wsX5_told (wsV RX5 138 RX5 yX5_apart wsX5_apart) := goodIn_app (goodIn_of _ (by decide +kernel)) ggX5_told_X5_apart
set_option maxRecDepth 20000 in
theorem ggX5_told_X5_origin : GoodIn wsX5_told wsX5_origin := goodIn_r _ [46, 2, 47, 48, 49, 50, 51, 52, 53, 54, 55, 56, 57, 58, 59, 60, 61, 62, 63] (by decide +kernel) (by decide +kernel)
set_option maxRecDepth 20000 in
theorem gX5_told_X5_origin : GoodIn wsX5_told (wsV RX5 141 RX5 yX5_origin wsX5_origin) := goodIn_app (goodIn_of _ (by decide +kernel)) ggX5_told_X5_origin
theorem dX5_told_0 : decode cX5_told 0 = .ok (.iconst 0, 1) := by decide +kernel
theorem dX5_told_1 : decode cX5_told 1 = .ok (.istore_n 3, 1) := by decide +kernel
theorem dX5_told_2 : decode cX5_told 2 = .ok (.iconst 0, 1) := by decide +kernel
theorem dX5_told_3 : decode cX5_told 3 = .ok (.istore 4, 2) := by decide +kernel
theorem dX5_told_5 : decode cX5_told 5 = .ok (.iconst 0, 1) := by decide +kernel
theorem dX5_told_6 : decode cX5_told 6 = .ok (.istore 5, 2) := by decide +kernel
theorem dX5_told_8 : decode cX5_told 8 = .ok (.iload 5, 2) := by decide +kernel
theorem dX5_told_10 : decode cX5_told 10 = .ok (.aload_n 0, 1) := by decide +kernel
theorem dX5_told_11 : decode cX5_told 11 = .ok (.getfield 51, 3) := by decide +kernel
theorem dX5_told_14 : decode cX5_told 14 = .ok (.if_icmp .ge 54, 3) := by decide +kernel
theorem dX5_told_17 : decode cX5_told 17 = .ok (.iload_n 3, 1) := by decide +kernel
theorem dX5_told_18 : decode cX5_told 18 = .ok (.aload_n 0, 1) := by decide +kernel
theorem dX5_told_19 : decode cX5_told 19 = .ok (.getfield 19, 3) := by decide +kernel
theorem dX5_told_22 : decode cX5_told 22 = .ok (.iload 5, 2) := by decide +kernel
theorem dX5_told_24 : decode cX5_told 24 = .ok (.iaload, 1) := by decide +kernel
theorem dX5_told_25 : decode cX5_told 25 = .ok (.iload_n 1, 1) := by decide +kernel
theorem dX5_told_26 : decode cX5_told 26 = .ok (.if_icmp .ne 7, 3) := by decide +kernel
theorem dX5_told_29 : decode cX5_told 29 = .ok (.iconst 1, 1) := by decide +kernel
theorem dX5_told_30 : decode cX5_told 30 = .ok (.goto 4, 3) := by decide +kernel
theorem dX5_told_33 : decode cX5_told 33 = .ok (.iconst 0, 1) := by decide +kernel
theorem dX5_told_34 : decode cX5_told 34 = .ok (.iadd, 1) := by decide +kernel
theorem dX5_told_35 : decode cX5_told 35 = .ok (.istore_n 3, 1) := by decide +kernel
theorem dX5_told_36 : decode cX5_told 36 = .ok (.iload 4, 2) := by decide +kernel
theorem dX5_told_38 : decode cX5_told 38 = .ok (.iload 5, 2) := by decide +kernel
theorem dX5_told_40 : decode cX5_told 40 = .ok (.iload_n 1, 1) := by decide +kernel
theorem dX5_told_41 : decode cX5_told 41 = .ok (.if_icmp .eq 17, 3) := by decide +kernel
theorem dX5_told_44 : decode cX5_told 44 = .ok (.aload_n 0, 1) := by decide +kernel
theorem dX5_told_45 : decode cX5_told 45 = .ok (.iload 5, 2) := by decide +kernel
theorem dX5_told_47 : decode cX5_told 47 = .ok (.iload_n 1, 1) := by decide +kernel
theorem dX5_told_48 : decode cX5_told 48 = .ok (.invokevirtual 131, 3) := by decide +kernel
theorem dX5_told_51 : decode cX5_told 51 = .ok (.ifCond .eq 7, 3) := by decide +kernel
theorem dX5_told_54 : decode cX5_told 54 = .ok (.iconst 1, 1) := by decide +kernel
theorem dX5_told_55 : decode cX5_told 55 = .ok (.goto 4, 3) := by decide +kernel
theorem dX5_told_58 : decode cX5_told 58 = .ok (.iconst 0, 1) := by decide +kernel
theorem dX5_told_59 : decode cX5_told 59 = .ok (.iadd, 1) := by decide +kernel
theorem dX5_told_60 : decode cX5_told 60 = .ok (.istore 4, 2) := by decide +kernel
theorem dX5_told_62 : decode cX5_told 62 = .ok (.iinc 5 1, 3) := by decide +kernel
theorem dX5_told_65 : decode cX5_told 65 = .ok (.goto (-57), 3) := by decide +kernel
theorem dX5_told_68 : decode cX5_told 68 = .ok (.iload_n 2, 1) := by decide +kernel
theorem dX5_told_69 : decode cX5_told 69 = .ok (.tableswitch 120 0 7 #[47, 54, 61, 68, 74, 89, 91, 94], 47) := by decide +kernel
theorem dX5_told_116 : decode cX5_told 116 = .ok (.aload_n 0, 1) := by decide +kernel
theorem dX5_told_117 : decode cX5_told 117 = .ok (.getfield 16, 3) := by decide +kernel
theorem dX5_told_120 : decode cX5_told 120 = .ok (.iload_n 1, 1) := by decide +kernel
theorem dX5_told_121 : decode cX5_told 121 = .ok (.iaload, 1) := by decide +kernel
theorem dX5_told_122 : decode cX5_told 122 = .ok (.ireturn, 1) := by decide +kernel
theorem dX5_told_123 : decode cX5_told 123 = .ok (.aload_n 0, 1) := by decide +kernel
theorem dX5_told_124 : decode cX5_told 124 = .ok (.getfield 19, 3) := by decide +kernel
theorem dX5_told_127 : decode cX5_told 127 = .ok (.iload_n 1, 1) := by decide +kernel
theorem dX5_told_128 : decode cX5_told 128 = .ok (.iaload, 1) := by decide +kernel
theorem dX5_told_129 : decode cX5_told 129 = .ok (.ireturn, 1) := by decide +kernel
theorem dX5_told_130 : decode cX5_told 130 = .ok (.aload_n 0, 1) := by decide +kernel
theorem dX5_told_131 : decode cX5_told 131 = .ok (.getfield 22, 3) := by decide +kernel
theorem dX5_told_134 : decode cX5_told 134 = .ok (.iload_n 1, 1) := by decide +kernel
theorem dX5_told_135 : decode cX5_told 135 = .ok (.iaload, 1) := by decide +kernel
theorem dX5_told_136 : decode cX5_told 136 = .ok (.ireturn, 1) := by decide +kernel
theorem dX5_told_137 : decode cX5_told 137 = .ok (.aload_n 0, 1) := by decide +kernel
theorem dX5_told_138 : decode cX5_told 138 = .ok (.iload_n 1, 1) := by decide +kernel
theorem dX5_told_139 : decode cX5_told 139 = .ok (.invokevirtual 135, 3) := by decide +kernel
theorem dX5_told_142 : decode cX5_told 142 = .ok (.ireturn, 1) := by decide +kernel
theorem dX5_told_143 : decode cX5_told 143 = .ok (.aload_n 0, 1) := by decide +kernel
theorem dX5_told_144 : decode cX5_told 144 = .ok (.getfield 25, 3) := by decide +kernel
theorem dX5_told_147 : decode cX5_told 147 = .ok (.iload_n 1, 1) := by decide +kernel
theorem dX5_told_148 : decode cX5_told 148 = .ok (.baload, 1) := by decide +kernel
theorem dX5_told_149 : decode cX5_told 149 = .ok (.ifCond .eq 7, 3) := by decide +kernel
theorem dX5_told_152 : decode cX5_told 152 = .ok (.iconst 1, 1) := by decide +kernel
theorem dX5_told_153 : decode cX5_told 153 = .ok (.goto 4, 3) := by decide +kernel
theorem dX5_told_156 : decode cX5_told 156 = .ok (.iconst 0, 1) := by decide +kernel
theorem dX5_told_157 : decode cX5_told 157 = .ok (.ireturn, 1) := by decide +kernel
theorem dX5_told_158 : decode cX5_told 158 = .ok (.iload_n 3, 1) := by decide +kernel
theorem dX5_told_159 : decode cX5_told 159 = .ok (.ireturn, 1) := by decide +kernel
theorem dX5_told_160 : decode cX5_told 160 = .ok (.iload 4, 2) := by decide +kernel
theorem dX5_told_162 : decode cX5_told 162 = .ok (.ireturn, 1) := by decide +kernel
theorem dX5_told_163 : decode cX5_told 163 = .ok (.aload_n 0, 1) := by decide +kernel
theorem dX5_told_164 : decode cX5_told 164 = .ok (.getfield 19, 3) := by decide +kernel
theorem dX5_told_167 : decode cX5_told 167 = .ok (.iload_n 1, 1) := by decide +kernel
theorem dX5_told_168 : decode cX5_told 168 = .ok (.iaload, 1) := by decide +kernel
theorem dX5_told_169 : decode cX5_told 169 = .ok (.iconst (-1), 1) := by decide +kernel
theorem dX5_told_170 : decode cX5_told 170 = .ok (.if_icmp .ne 7, 3) := by decide +kernel
theorem dX5_told_173 : decode cX5_told 173 = .ok (.iconst 0, 1) := by decide +kernel
theorem dX5_told_174 : decode cX5_told 174 = .ok (.goto 14, 3) := by decide +kernel
theorem dX5_told_177 : decode cX5_told 177 = .ok (.aload_n 0, 1) := by decide +kernel
theorem dX5_told_178 : decode cX5_told 178 = .ok (.iload_n 1, 1) := by decide +kernel
theorem dX5_told_179 : decode cX5_told 179 = .ok (.aload_n 0, 1) := by decide +kernel
theorem dX5_told_180 : decode cX5_told 180 = .ok (.getfield 19, 3) := by decide +kernel
theorem dX5_told_183 : decode cX5_told 183 = .ok (.iload_n 1, 1) := by decide +kernel
theorem dX5_told_184 : decode cX5_told 184 = .ok (.iaload, 1) := by decide +kernel
theorem dX5_told_185 : decode cX5_told 185 = .ok (.invokevirtual 138, 3) := by decide +kernel
theorem dX5_told_188 : decode cX5_told 188 = .ok (.ireturn, 1) := by decide +kernel
theorem dX5_told_189 : decode cX5_told 189 = .ok (.aload_n 0, 1) := by decide +kernel
theorem dX5_told_190 : decode cX5_told 190 = .ok (.iload_n 1, 1) := by decide +kernel
theorem dX5_told_191 : decode cX5_told 191 = .ok (.aload_n 0, 1) := by decide +kernel
theorem dX5_told_192 : decode cX5_told 192 = .ok (.iload_n 1, 1) := by decide +kernel
theorem dX5_told_193 : decode cX5_told 193 = .ok (.invokevirtual 141, 3) := by decide +kernel
theorem dX5_told_196 : decode cX5_told 196 = .ok (.invokevirtual 138, 3) := by decide +kernel
theorem dX5_told_199 : decode cX5_told 199 = .ok (.ireturn, 1) := by decide +kernel
set_option maxRecDepth 20000 in
theorem ggX5_manuscript_X5_isText : GoodIn wsX5_manuscript wsX5_isText := goodIn_r _ [6, 7, 8, 9, 5, 10, 63, 64, 65, 66, 67, 68, 69, 70, 71, 72, 73, 74, 75, 76, 77, 78, 79] (by decide +kernel) (by decide +kernel)
set_option maxRecDepth 20000 in
theorem gX5_manuscript_X5_isText : GoodIn wsX5_manuscript (wsV RX5 78 RX5 yX5_isText wsX5_isText) := goodIn_app (goodIn_of _ (by decide +kernel)) ggX5_manuscript_X5_isText
set_option maxRecDepth 20000 in
theorem ggX5_manuscript_X5_isIn : GoodIn wsX5_manuscript wsX5_isIn := goodIn_r _ [10] (by decide +kernel) (by decide +kernel)
set_option maxRecDepth 20000 in
theorem gX5_manuscript_X5_isIn : GoodIn wsX5_manuscript (va_wsS RX5 54 yX5_isIn wsX5_isIn) := goodIn_app (goodIn_of _ (by decide +kernel)) ggX5_manuscript_X5_isIn
set_option maxRecDepth 20000 in
theorem ggX5_manuscript_X5_told : GoodIn wsX5_manuscript wsX5_told := goodIn_r _ [14, 7, 15, 16, 17, 18, 19, 20, 21, 5, 22, 23, 24, 25, 26, 27, 28, 29, 30, 31, 32, 33, 34, 35, 36, 37, 38, 39, 40, 41, 42, 43, 44, 45, 46, 47, 48, 49, 50, 51, 52, 53, 54, 55, 56, 57, 58, 63, 64, 65, 66, 67, 68, 69, 70, 71, 72, 73, 74, 75, 76, 77, 78, 79] (by decide +kernel) (by decide +kernel)
set_option maxRecDepth 20000 in
theorem gX5_manuscript_X5_told : GoodIn wsX5_manuscript (wsV RX5 144 RX5 yX5_told wsX5_told) := goodIn_app (goodIn_of _ (by decide +kernel)) ggX5_manuscript_X5_told
set_option maxRecDepth 20000 in
theorem ggX5_manuscript_X5_no : GoodIn wsX5_manuscript wsX5_no := goodIn_r _ [62, 1, 63, 64, 65, 66, 67, 68, 69, 70, 71, 72, 73, 74, 75, 76, 77, 78, 79] (by decide +kernel) (by decide +kernel)
set_option maxRecDepth 20000 in
theorem gX5_manuscript_X5_no : GoodIn wsX5_manuscript (wsV RX5 64 RX5 yX5_no wsX5_no) := goodIn_app (goodIn_of _ (by decide +kernel)) ggX5_manuscript_X5_no
theorem dX5_manuscript_0 : decode cX5_manuscript 0 = .ok (.aload_n 0, 1) := by decide +kernel
theorem dX5_manuscript_1 : decode cX5_manuscript 1 = .ok (.iconst 0, 1) := by decide +kernel
theorem dX5_manuscript_2 : decode cX5_manuscript 2 = .ok (.putfield 47, 3) := by decide +kernel
theorem dX5_manuscript_5 : decode cX5_manuscript 5 = .ok (.aload_n 0, 1) := by decide +kernel
theorem dX5_manuscript_6 : decode cX5_manuscript 6 = .ok (.iload_n 1, 1) := by decide +kernel
theorem dX5_manuscript_7 : decode cX5_manuscript 7 = .ok (.invokevirtual 78, 3) := by decide +kernel
theorem dX5_manuscript_10 : decode cX5_manuscript 10 = .ok (.ifCond .eq 22, 3) := by decide +kernel
theorem dX5_manuscript_13 : decode cX5_manuscript 13 = .ok (.iload_n 2, 1) := by decide +kernel
theorem dX5_manuscript_14 : decode cX5_manuscript 14 = .ok (.iconst 0, 1) := by decide +kernel
theorem dX5_manuscript_15 : decode cX5_manuscript 15 = .ok (.bipush 8, 2) := by decide +kernel
theorem dX5_manuscript_17 : decode cX5_manuscript 17 = .ok (.invokestatic 54, 3) := by decide +kernel
theorem dX5_manuscript_20 : decode cX5_manuscript 20 = .ok (.ifCond .eq 12, 3) := by decide +kernel
theorem dX5_manuscript_23 : decode cX5_manuscript 23 = .ok (.aload_n 0, 1) := by decide +kernel
theorem dX5_manuscript_24 : decode cX5_manuscript 24 = .ok (.iload_n 1, 1) := by decide +kernel
theorem dX5_manuscript_25 : decode cX5_manuscript 25 = .ok (.iload_n 2, 1) := by decide +kernel
theorem dX5_manuscript_26 : decode cX5_manuscript 26 = .ok (.invokevirtual 144, 3) := by decide +kernel
theorem dX5_manuscript_29 : decode cX5_manuscript 29 = .ok (.goto 8, 3) := by decide +kernel
theorem dX5_manuscript_32 : decode cX5_manuscript 32 = .ok (.aload_n 0, 1) := by decide +kernel
theorem dX5_manuscript_33 : decode cX5_manuscript 33 = .ok (.iconst 1, 1) := by decide +kernel
theorem dX5_manuscript_34 : decode cX5_manuscript 34 = .ok (.invokevirtual 64, 3) := by decide +kernel
theorem dX5_manuscript_37 : decode cX5_manuscript 37 = .ok (.ireturn, 1) := by decide +kernel
set_option maxRecDepth 20000 in
theorem ggX5_guessOf_X5_apart : GoodIn wsX5_guessOf wsX5_apart := goodIn_r _ [6, 7, 8, 9, 10, 11, 12, 13, 14, 15, 16, 17, 5, 18, 19, 20, 21, 22, 23, 24, 25, 26, 27, 28, 29, 30, 31, 32, 33, 34, 35, 36, 37, 38, 39, 40, 41, 42, 43, 44, 45, 46, 47, 48] (by decide +kernel) (by decide +kernel)
set_option maxRecDepth 20000 in
theorem gX5_guessOf_X5_apart : GoodIn wsX5_guessOf (wsV RX5 138 RX5 yX5_apart wsX5_apart) := goodIn_app (goodIn_of _ (by decide +kernel)) ggX5_guessOf_X5_apart
theorem dX5_guessOf_0 : decode cX5_guessOf 0 = .ok (.iconst (-1), 1) := by decide +kernel
theorem dX5_guessOf_1 : decode cX5_guessOf 1 = .ok (.istore_n 2, 1) := by decide +kernel
theorem dX5_guessOf_2 : decode cX5_guessOf 2 = .ok (.iconst 0, 1) := by decide +kernel
theorem dX5_guessOf_3 : decode cX5_guessOf 3 = .ok (.istore_n 3, 1) := by decide +kernel
theorem dX5_guessOf_4 : decode cX5_guessOf 4 = .ok (.iload_n 3, 1) := by decide +kernel
theorem dX5_guessOf_5 : decode cX5_guessOf 5 = .ok (.iload_n 1, 1) := by decide +kernel
theorem dX5_guessOf_6 : decode cX5_guessOf 6 = .ok (.if_icmp .ge 49, 3) := by decide +kernel
theorem dX5_guessOf_9 : decode cX5_guessOf 9 = .ok (.aload_n 0, 1) := by decide +kernel
theorem dX5_guessOf_10 : decode cX5_guessOf 10 = .ok (.getfield 25, 3) := by decide +kernel
theorem dX5_guessOf_13 : decode cX5_guessOf 13 = .ok (.iload_n 1, 1) := by decide +kernel
theorem dX5_guessOf_14 : decode cX5_guessOf 14 = .ok (.baload, 1) := by decide +kernel
theorem dX5_guessOf_15 : decode cX5_guessOf 15 = .ok (.ifCond .eq 40, 3) := by decide +kernel
theorem dX5_guessOf_18 : decode cX5_guessOf 18 = .ok (.aload_n 0, 1) := by decide +kernel
theorem dX5_guessOf_19 : decode cX5_guessOf 19 = .ok (.getfield 25, 3) := by decide +kernel
theorem dX5_guessOf_22 : decode cX5_guessOf 22 = .ok (.iload_n 3, 1) := by decide +kernel
theorem dX5_guessOf_23 : decode cX5_guessOf 23 = .ok (.baload, 1) := by decide +kernel
theorem dX5_guessOf_24 : decode cX5_guessOf 24 = .ok (.ifCond .eq 25, 3) := by decide +kernel
theorem dX5_guessOf_27 : decode cX5_guessOf 27 = .ok (.iload_n 2, 1) := by decide +kernel
theorem dX5_guessOf_28 : decode cX5_guessOf 28 = .ok (.iconst (-1), 1) := by decide +kernel
theorem dX5_guessOf_29 : decode cX5_guessOf 29 = .ok (.if_icmp .eq 18, 3) := by decide +kernel
theorem dX5_guessOf_32 : decode cX5_guessOf 32 = .ok (.aload_n 0, 1) := by decide +kernel
theorem dX5_guessOf_33 : decode cX5_guessOf 33 = .ok (.iload_n 1, 1) := by decide +kernel
theorem dX5_guessOf_34 : decode cX5_guessOf 34 = .ok (.iload_n 3, 1) := by decide +kernel
theorem dX5_guessOf_35 : decode cX5_guessOf 35 = .ok (.invokevirtual 138, 3) := by decide +kernel
theorem dX5_guessOf_38 : decode cX5_guessOf 38 = .ok (.aload_n 0, 1) := by decide +kernel
theorem dX5_guessOf_39 : decode cX5_guessOf 39 = .ok (.iload_n 1, 1) := by decide +kernel
theorem dX5_guessOf_40 : decode cX5_guessOf 40 = .ok (.iload_n 2, 1) := by decide +kernel
theorem dX5_guessOf_41 : decode cX5_guessOf 41 = .ok (.invokevirtual 138, 3) := by decide +kernel
theorem dX5_guessOf_44 : decode cX5_guessOf 44 = .ok (.if_icmp .gt 5, 3) := by decide +kernel
theorem dX5_guessOf_47 : decode cX5_guessOf 47 = .ok (.iload_n 3, 1) := by decide +kernel
theorem dX5_guessOf_48 : decode cX5_guessOf 48 = .ok (.istore_n 2, 1) := by decide +kernel
theorem dX5_guessOf_49 : decode cX5_guessOf 49 = .ok (.iinc 3 1, 3) := by decide +kernel
theorem dX5_guessOf_52 : decode cX5_guessOf 52 = .ok (.goto (-48), 3) := by decide +kernel
theorem dX5_guessOf_55 : decode cX5_guessOf 55 = .ok (.iload_n 2, 1) := by decide +kernel
theorem dX5_guessOf_56 : decode cX5_guessOf 56 = .ok (.ireturn, 1) := by decide +kernel
set_option maxRecDepth 20000 in
theorem ggX5_counted_X5_there : GoodIn wsX5_counted wsX5_there := goodIn_r _ [15, 1, 9, 48, 49, 50, 51, 52, 53, 54, 55, 56, 57, 58, 59, 60, 61, 62, 63, 64] (by decide +kernel) (by decide +kernel)
set_option maxRecDepth 20000 in
theorem gX5_counted_X5_there : GoodIn wsX5_counted (wsV RX5 121 RX5 yX5_there wsX5_there) := goodIn_app (goodIn_of _ (by decide +kernel)) ggX5_counted_X5_there
set_option maxRecDepth 20000 in
theorem ggX5_counted_X5_generation : GoodIn wsX5_counted wsX5_generation := goodIn_r _ [19, 8, 48, 49, 50, 51, 52, 53, 54, 55, 56, 57, 58, 59, 60, 61, 62, 63, 64] (by decide +kernel) (by decide +kernel)
set_option maxRecDepth 20000 in
theorem gX5_counted_X5_generation : GoodIn wsX5_counted (wsV RX5 135 RX5 yX5_generation wsX5_generation) := goodIn_app (goodIn_of _ (by decide +kernel)) ggX5_counted_X5_generation
set_option maxRecDepth 20000 in
theorem ggX5_counted_X5_guessOf : GoodIn wsX5_counted wsX5_guessOf := goodIn_r _ [23, 9, 24, 25, 26, 14, 27, 28, 29, 6, 30, 4, 5, 7, 31, 32, 33, 34, 35, 10, 36, 37, 38, 39, 40, 41, 42, 43, 44, 45, 46, 47, 48, 49, 50, 51, 52, 53, 54, 55, 56, 57, 58, 59, 60, 61, 62, 63, 64] (by decide +kernel) (by decide +kernel)
set_option maxRecDepth 20000 in
theorem gX5_counted_X5_guessOf : GoodIn wsX5_counted (wsV RX5 147 RX5 yX5_guessOf wsX5_guessOf) := goodIn_app (goodIn_of _ (by decide +kernel)) ggX5_counted_X5_guessOf
theorem dX5_counted_0 : decode cX5_counted 0 = .ok (.iload_n 1, 1) := by decide +kernel
theorem dX5_counted_1 : decode cX5_counted 1 = .ok (.ifCond .ne 8, 3) := by decide +kernel
theorem dX5_counted_4 : decode cX5_counted 4 = .ok (.aload_n 0, 1) := by decide +kernel
theorem dX5_counted_5 : decode cX5_counted 5 = .ok (.getfield 51, 3) := by decide +kernel
theorem dX5_counted_8 : decode cX5_counted 8 = .ok (.ireturn, 1) := by decide +kernel
theorem dX5_counted_9 : decode cX5_counted 9 = .ok (.iload_n 1, 1) := by decide +kernel
theorem dX5_counted_10 : decode cX5_counted 10 = .ok (.iconst 1, 1) := by decide +kernel
theorem dX5_counted_11 : decode cX5_counted 11 = .ok (.if_icmp .ne 8, 3) := by decide +kernel
theorem dX5_counted_14 : decode cX5_counted 14 = .ok (.aload_n 0, 1) := by decide +kernel
theorem dX5_counted_15 : decode cX5_counted 15 = .ok (.invokevirtual 121, 3) := by decide +kernel
theorem dX5_counted_18 : decode cX5_counted 18 = .ok (.ireturn, 1) := by decide +kernel
theorem dX5_counted_19 : decode cX5_counted 19 = .ok (.iload_n 1, 1) := by decide +kernel
theorem dX5_counted_20 : decode cX5_counted 20 = .ok (.iconst 2, 1) := by decide +kernel
theorem dX5_counted_21 : decode cX5_counted 21 = .ok (.if_icmp .ne 8, 3) := by decide +kernel
theorem dX5_counted_24 : decode cX5_counted 24 = .ok (.aload_n 0, 1) := by decide +kernel
theorem dX5_counted_25 : decode cX5_counted 25 = .ok (.getfield 58, 3) := by decide +kernel
theorem dX5_counted_28 : decode cX5_counted 28 = .ok (.ireturn, 1) := by decide +kernel
theorem dX5_counted_29 : decode cX5_counted 29 = .ok (.iload_n 1, 1) := by decide +kernel
theorem dX5_counted_30 : decode cX5_counted 30 = .ok (.iconst 5, 1) := by decide +kernel
theorem dX5_counted_31 : decode cX5_counted 31 = .ok (.if_icmp .ne 8, 3) := by decide +kernel
theorem dX5_counted_34 : decode cX5_counted 34 = .ok (.aload_n 0, 1) := by decide +kernel
theorem dX5_counted_35 : decode cX5_counted 35 = .ok (.getfield 61, 3) := by decide +kernel
theorem dX5_counted_38 : decode cX5_counted 38 = .ok (.ireturn, 1) := by decide +kernel
theorem dX5_counted_39 : decode cX5_counted 39 = .ok (.iconst 0, 1) := by decide +kernel
theorem dX5_counted_40 : decode cX5_counted 40 = .ok (.istore_n 2, 1) := by decide +kernel
theorem dX5_counted_41 : decode cX5_counted 41 = .ok (.iconst 0, 1) := by decide +kernel
theorem dX5_counted_42 : decode cX5_counted 42 = .ok (.istore_n 3, 1) := by decide +kernel
theorem dX5_counted_43 : decode cX5_counted 43 = .ok (.iconst 0, 1) := by decide +kernel
theorem dX5_counted_44 : decode cX5_counted 44 = .ok (.istore 4, 2) := by decide +kernel
theorem dX5_counted_46 : decode cX5_counted 46 = .ok (.iload 4, 2) := by decide +kernel
theorem dX5_counted_48 : decode cX5_counted 48 = .ok (.aload_n 0, 1) := by decide +kernel
theorem dX5_counted_49 : decode cX5_counted 49 = .ok (.getfield 51, 3) := by decide +kernel
theorem dX5_counted_52 : decode cX5_counted 52 = .ok (.if_icmp .ge 133, 3) := by decide +kernel
theorem dX5_counted_55 : decode cX5_counted 55 = .ok (.iload_n 3, 1) := by decide +kernel
theorem dX5_counted_56 : decode cX5_counted 56 = .ok (.aload_n 0, 1) := by decide +kernel
theorem dX5_counted_57 : decode cX5_counted 57 = .ok (.iload 4, 2) := by decide +kernel
theorem dX5_counted_59 : decode cX5_counted 59 = .ok (.invokevirtual 135, 3) := by decide +kernel
