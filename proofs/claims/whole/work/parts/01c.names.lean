theorem dX0_init_0 : decode cX0_init 0 = .ok (.aload_n 0, 1) := by decide +kernel
theorem dX0_init_1 : decode cX0_init 1 = .ok (.invokespecial 3, 3) := by decide +kernel
theorem dX0_init_4 : decode cX0_init 4 = .ok (.aload_n 0, 1) := by decide +kernel
theorem dX0_init_5 : decode cX0_init 5 = .ok (.iload_n 1, 1) := by decide +kernel
theorem dX0_init_6 : decode cX0_init 6 = .ok (.putfield 9, 3) := by decide +kernel
theorem dX0_init_9 : decode cX0_init 9 = .ok (.aload_n 0, 1) := by decide +kernel
theorem dX0_init_10 : decode cX0_init 10 = .ok (.iload_n 2, 1) := by decide +kernel
theorem dX0_init_11 : decode cX0_init 11 = .ok (.putfield 15, 3) := by decide +kernel
theorem dX0_init_14 : decode cX0_init 14 = .ok (.aload_n 0, 1) := by decide +kernel
theorem dX0_init_15 : decode cX0_init 15 = .ok (.iload_n 3, 1) := by decide +kernel
theorem dX0_init_16 : decode cX0_init 16 = .ok (.putfield 18, 3) := by decide +kernel
theorem dX0_init_19 : decode cX0_init 19 = .ok (.aload_n 0, 1) := by decide +kernel
theorem dX0_init_20 : decode cX0_init 20 = .ok (.iload 4, 2) := by decide +kernel
theorem dX0_init_22 : decode cX0_init 22 = .ok (.putfield 21, 3) := by decide +kernel
theorem dX0_init_25 : decode cX0_init 25 = .ok (.return_, 1) := by decide +kernel
theorem dX0_part_0 : decode cX0_part 0 = .ok (.iload_n 1, 1) := by decide +kernel
theorem dX0_part_1 : decode cX0_part 1 = .ok (.tableswitch 42 0 2 #[27, 32, 37], 27) := by decide +kernel
theorem dX0_part_28 : decode cX0_part 28 = .ok (.aload_n 0, 1) := by decide +kernel
theorem dX0_part_29 : decode cX0_part 29 = .ok (.getfield 9, 3) := by decide +kernel
theorem dX0_part_32 : decode cX0_part 32 = .ok (.ireturn, 1) := by decide +kernel
theorem dX0_part_33 : decode cX0_part 33 = .ok (.aload_n 0, 1) := by decide +kernel
theorem dX0_part_34 : decode cX0_part 34 = .ok (.getfield 15, 3) := by decide +kernel
theorem dX0_part_37 : decode cX0_part 37 = .ok (.ireturn, 1) := by decide +kernel
theorem dX0_part_38 : decode cX0_part 38 = .ok (.aload_n 0, 1) := by decide +kernel
theorem dX0_part_39 : decode cX0_part 39 = .ok (.getfield 18, 3) := by decide +kernel
theorem dX0_part_42 : decode cX0_part 42 = .ok (.ireturn, 1) := by decide +kernel
theorem dX0_part_43 : decode cX0_part 43 = .ok (.aload_n 0, 1) := by decide +kernel
theorem dX0_part_44 : decode cX0_part 44 = .ok (.getfield 21, 3) := by decide +kernel
theorem dX0_part_47 : decode cX0_part 47 = .ok (.ireturn, 1) := by decide +kernel
set_option maxRecDepth 20000 in
theorem ggX0_apply_X0_skipOnce : GoodIn wsX0_apply wsX0_skipOnce := goodIn_r _ [7, 1, 8, 9, 10, 11, 12, 13, 14, 15, 16, 17, 18, 6, 19, 20, 21, 22, 23, 24, 25, 39, 40, 41, 42, 43, 44] (by decide +kernel) (by decide +kernel)
set_option maxRecDepth 20000 in
theorem gX0_apply_X0_skipOnce : GoodIn wsX0_apply (wsV RX0 29 RX0 yX0_skipOnce wsX0_skipOnce) := goodIn_app (goodIn_of _ (by decide +kernel)) ggX0_apply_X0_skipOnce
set_option maxRecDepth 20000 in
theorem ggX0_apply_X0_swapEachNth : GoodIn wsX0_apply wsX0_swapEachNth := goodIn_r _ [29, 1, 20, 30, 8, 21, 22, 23, 24, 12, 25, 14, 15, 9, 10, 11, 13, 39, 40, 41, 42, 43, 44] (by decide +kernel) (by decide +kernel)
set_option maxRecDepth 20000 in
theorem gX0_apply_X0_swapEachNth : GoodIn wsX0_apply (wsV RX0 33 RX0 yX0_swapEachNth wsX0_swapEachNth) := goodIn_app (goodIn_of _ (by decide +kernel)) ggX0_apply_X0_swapEachNth
set_option maxRecDepth 20000 in
theorem ggX0_apply_X0_treatEachNth : GoodIn wsX0_apply wsX0_treatEachNth := goodIn_r _ [34, 1, 8, 20, 21, 35, 36, 37, 6, 38, 2, 30, 9, 10, 11, 12, 13, 14, 15, 39, 40, 41, 42, 43, 44] (by decide +kernel) (by decide +kernel)
set_option maxRecDepth 20000 in
theorem gX0_apply_X0_treatEachNth : GoodIn wsX0_apply (wsV RX0 36 RX0 yX0_treatEachNth wsX0_treatEachNth) := goodIn_app (goodIn_of _ (by decide +kernel)) ggX0_apply_X0_treatEachNth
theorem dX0_apply_0 : decode cX0_apply 0 = .ok (.aload_n 2, 1) := by decide +kernel
theorem dX0_apply_1 : decode cX0_apply 1 = .ok (.iconst 0, 1) := by decide +kernel
theorem dX0_apply_2 : decode cX0_apply 2 = .ok (.putfield 24, 3) := by decide +kernel
theorem dX0_apply_5 : decode cX0_apply 5 = .ok (.aload_n 0, 1) := by decide +kernel
theorem dX0_apply_6 : decode cX0_apply 6 = .ok (.getfield 9, 3) := by decide +kernel
theorem dX0_apply_9 : decode cX0_apply 9 = .ok (.lookupswitch 45 #[(3, 27), (4, 36)], 27) := by decide +kernel
theorem dX0_apply_36 : decode cX0_apply 36 = .ok (.aload_n 0, 1) := by decide +kernel
theorem dX0_apply_37 : decode cX0_apply 37 = .ok (.aload_n 1, 1) := by decide +kernel
theorem dX0_apply_38 : decode cX0_apply 38 = .ok (.aload_n 2, 1) := by decide +kernel
theorem dX0_apply_39 : decode cX0_apply 39 = .ok (.invokevirtual 29, 3) := by decide +kernel
theorem dX0_apply_42 : decode cX0_apply 42 = .ok (.goto 18, 3) := by decide +kernel
theorem dX0_apply_45 : decode cX0_apply 45 = .ok (.aload_n 0, 1) := by decide +kernel
theorem dX0_apply_46 : decode cX0_apply 46 = .ok (.aload_n 1, 1) := by decide +kernel
theorem dX0_apply_47 : decode cX0_apply 47 = .ok (.aload_n 2, 1) := by decide +kernel
theorem dX0_apply_48 : decode cX0_apply 48 = .ok (.invokevirtual 33, 3) := by decide +kernel
theorem dX0_apply_51 : decode cX0_apply 51 = .ok (.goto 9, 3) := by decide +kernel
theorem dX0_apply_54 : decode cX0_apply 54 = .ok (.aload_n 0, 1) := by decide +kernel
theorem dX0_apply_55 : decode cX0_apply 55 = .ok (.aload_n 1, 1) := by decide +kernel
theorem dX0_apply_56 : decode cX0_apply 56 = .ok (.aload_n 2, 1) := by decide +kernel
theorem dX0_apply_57 : decode cX0_apply 57 = .ok (.invokevirtual 36, 3) := by decide +kernel
theorem dX0_apply_60 : decode cX0_apply 60 = .ok (.return_, 1) := by decide +kernel
set_option maxRecDepth 20000 in
theorem ggX0_treatEachNth_X0_treat : GoodIn wsX0_treatEachNth wsX0_treat := goodIn_r _ [9, 1, 10, 11, 12, 13, 14, 15, 16, 17, 18, 19, 20, 21, 22, 23, 24] (by decide +kernel) (by decide +kernel)
set_option maxRecDepth 20000 in
theorem gX0_treatEachNth_X0_treat : GoodIn wsX0_treatEachNth (wsV RX0 43 RX0 yX0_treat wsX0_treat) := goodIn_app (goodIn_of _ (by decide +kernel)) ggX0_treatEachNth_X0_treat
set_option maxRecDepth 20000 in
theorem ggX0_treatEachNth_X3_append : GoodIn wsX0_treatEachNth wsX3_append := goodIn_r _ [16, 17, 18, 19, 20] (by decide +kernel) (by decide +kernel)
set_option maxRecDepth 20000 in
theorem gX0_treatEachNth_X3_append : GoodIn wsX0_treatEachNth (wsV RX0 47 RX3 yX3_append wsX3_append) := goodIn_app (goodIn_of _ (by decide +kernel)) ggX0_treatEachNth_X3_append
theorem dX0_treatEachNth_0 : decode cX0_treatEachNth 0 = .ok (.iconst 0, 1) := by decide +kernel
theorem dX0_treatEachNth_1 : decode cX0_treatEachNth 1 = .ok (.istore_n 3, 1) := by decide +kernel
theorem dX0_treatEachNth_2 : decode cX0_treatEachNth 2 = .ok (.iconst 0, 1) := by decide +kernel
theorem dX0_treatEachNth_3 : decode cX0_treatEachNth 3 = .ok (.istore 4, 2) := by decide +kernel
theorem dX0_treatEachNth_5 : decode cX0_treatEachNth 5 = .ok (.iload 4, 2) := by decide +kernel
theorem dX0_treatEachNth_7 : decode cX0_treatEachNth 7 = .ok (.aload_n 1, 1) := by decide +kernel
theorem dX0_treatEachNth_8 : decode cX0_treatEachNth 8 = .ok (.getfield 24, 3) := by decide +kernel
theorem dX0_treatEachNth_11 : decode cX0_treatEachNth 11 = .ok (.if_icmp .ge 78, 3) := by decide +kernel
theorem dX0_treatEachNth_14 : decode cX0_treatEachNth 14 = .ok (.aload_n 1, 1) := by decide +kernel
theorem dX0_treatEachNth_15 : decode cX0_treatEachNth 15 = .ok (.getfield 39, 3) := by decide +kernel
theorem dX0_treatEachNth_18 : decode cX0_treatEachNth 18 = .ok (.iload 4, 2) := by decide +kernel
theorem dX0_treatEachNth_20 : decode cX0_treatEachNth 20 = .ok (.baload, 1) := by decide +kernel
theorem dX0_treatEachNth_21 : decode cX0_treatEachNth 21 = .ok (.istore 5, 2) := by decide +kernel
theorem dX0_treatEachNth_23 : decode cX0_treatEachNth 23 = .ok (.iload 5, 2) := by decide +kernel
theorem dX0_treatEachNth_25 : decode cX0_treatEachNth 25 = .ok (.bipush 97, 2) := by decide +kernel
theorem dX0_treatEachNth_27 : decode cX0_treatEachNth 27 = .ok (.aload_n 0, 1) := by decide +kernel
theorem dX0_treatEachNth_28 : decode cX0_treatEachNth 28 = .ok (.getfield 15, 3) := by decide +kernel
theorem dX0_treatEachNth_31 : decode cX0_treatEachNth 31 = .ok (.iadd, 1) := by decide +kernel
theorem dX0_treatEachNth_32 : decode cX0_treatEachNth 32 = .ok (.if_icmp .ne 6, 3) := by decide +kernel
theorem dX0_treatEachNth_35 : decode cX0_treatEachNth 35 = .ok (.iinc 3 1, 3) := by decide +kernel
theorem dX0_treatEachNth_38 : decode cX0_treatEachNth 38 = .ok (.iload 5, 2) := by decide +kernel
theorem dX0_treatEachNth_40 : decode cX0_treatEachNth 40 = .ok (.bipush 97, 2) := by decide +kernel
theorem dX0_treatEachNth_42 : decode cX0_treatEachNth 42 = .ok (.aload_n 0, 1) := by decide +kernel
theorem dX0_treatEachNth_43 : decode cX0_treatEachNth 43 = .ok (.getfield 15, 3) := by decide +kernel
theorem dX0_treatEachNth_46 : decode cX0_treatEachNth 46 = .ok (.iadd, 1) := by decide +kernel
theorem dX0_treatEachNth_47 : decode cX0_treatEachNth 47 = .ok (.if_icmp .ne 30, 3) := by decide +kernel
theorem dX0_treatEachNth_50 : decode cX0_treatEachNth 50 = .ok (.iload_n 3, 1) := by decide +kernel
theorem dX0_treatEachNth_51 : decode cX0_treatEachNth 51 = .ok (.aload_n 0, 1) := by decide +kernel
theorem dX0_treatEachNth_52 : decode cX0_treatEachNth 52 = .ok (.getfield 21, 3) := by decide +kernel
theorem dX0_treatEachNth_55 : decode cX0_treatEachNth 55 = .ok (.if_icmp .ne 22, 3) := by decide +kernel
theorem dX0_treatEachNth_58 : decode cX0_treatEachNth 58 = .ok (.iconst 0, 1) := by decide +kernel
theorem dX0_treatEachNth_59 : decode cX0_treatEachNth 59 = .ok (.istore_n 3, 1) := by decide +kernel
theorem dX0_treatEachNth_60 : decode cX0_treatEachNth 60 = .ok (.aload_n 0, 1) := by decide +kernel
theorem dX0_treatEachNth_61 : decode cX0_treatEachNth 61 = .ok (.iload 5, 2) := by decide +kernel
theorem dX0_treatEachNth_63 : decode cX0_treatEachNth 63 = .ok (.aload_n 2, 1) := by decide +kernel
theorem dX0_treatEachNth_64 : decode cX0_treatEachNth 64 = .ok (.aload_n 1, 1) := by decide +kernel
theorem dX0_treatEachNth_65 : decode cX0_treatEachNth 65 = .ok (.getfield 24, 3) := by decide +kernel
theorem dX0_treatEachNth_68 : decode cX0_treatEachNth 68 = .ok (.iload 4, 2) := by decide +kernel
theorem dX0_treatEachNth_70 : decode cX0_treatEachNth 70 = .ok (.isub, 1) := by decide +kernel
theorem dX0_treatEachNth_71 : decode cX0_treatEachNth 71 = .ok (.invokevirtual 43, 3) := by decide +kernel
theorem dX0_treatEachNth_74 : decode cX0_treatEachNth 74 = .ok (.goto 9, 3) := by decide +kernel
theorem dX0_treatEachNth_77 : decode cX0_treatEachNth 77 = .ok (.aload_n 2, 1) := by decide +kernel
theorem dX0_treatEachNth_78 : decode cX0_treatEachNth 78 = .ok (.iload 5, 2) := by decide +kernel
theorem dX0_treatEachNth_80 : decode cX0_treatEachNth 80 = .ok (.invokevirtual 47, 3) := by decide +kernel
theorem dX0_treatEachNth_83 : decode cX0_treatEachNth 83 = .ok (.iinc 4 1, 3) := by decide +kernel
theorem dX0_treatEachNth_86 : decode cX0_treatEachNth 86 = .ok (.goto (-81), 3) := by decide +kernel
theorem dX0_treatEachNth_89 : decode cX0_treatEachNth 89 = .ok (.return_, 1) := by decide +kernel
set_option maxRecDepth 20000 in
theorem ggX0_treat_X3_append : GoodIn wsX0_treat wsX3_append := goodIn_r _ [8, 9, 10, 11, 12] (by decide +kernel) (by decide +kernel)
set_option maxRecDepth 20000 in
theorem gX0_treat_X3_append : GoodIn wsX0_treat (wsV RX0 47 RX3 yX3_append wsX3_append) := goodIn_app (goodIn_of _ (by decide +kernel)) ggX0_treat_X3_append
theorem dX0_treat_0 : decode cX0_treat 0 = .ok (.aload_n 2, 1) := by decide +kernel
theorem dX0_treat_1 : decode cX0_treat 1 = .ok (.getfield 24, 3) := by decide +kernel
theorem dX0_treat_4 : decode cX0_treat 4 = .ok (.iload_n 3, 1) := by decide +kernel
theorem dX0_treat_5 : decode cX0_treat 5 = .ok (.iadd, 1) := by decide +kernel
theorem dX0_treat_6 : decode cX0_treat 6 = .ok (.bipush 120, 2) := by decide +kernel
theorem dX0_treat_8 : decode cX0_treat 8 = .ok (.if_icmp .ge 7, 3) := by decide +kernel
theorem dX0_treat_11 : decode cX0_treat 11 = .ok (.iconst 1, 1) := by decide +kernel
theorem dX0_treat_12 : decode cX0_treat 12 = .ok (.goto 4, 3) := by decide +kernel
theorem dX0_treat_15 : decode cX0_treat 15 = .ok (.iconst 0, 1) := by decide +kernel
theorem dX0_treat_16 : decode cX0_treat 16 = .ok (.istore 4, 2) := by decide +kernel
theorem dX0_treat_18 : decode cX0_treat 18 = .ok (.aload_n 0, 1) := by decide +kernel
theorem dX0_treat_19 : decode cX0_treat 19 = .ok (.getfield 9, 3) := by decide +kernel
theorem dX0_treat_22 : decode cX0_treat 22 = .ok (.ifCond .ne 17, 3) := by decide +kernel
theorem dX0_treat_25 : decode cX0_treat 25 = .ok (.aload_n 2, 1) := by decide +kernel
theorem dX0_treat_26 : decode cX0_treat 26 = .ok (.bipush 97, 2) := by decide +kernel
theorem dX0_treat_28 : decode cX0_treat 28 = .ok (.aload_n 0, 1) := by decide +kernel
theorem dX0_treat_29 : decode cX0_treat 29 = .ok (.getfield 18, 3) := by decide +kernel
theorem dX0_treat_32 : decode cX0_treat 32 = .ok (.iadd, 1) := by decide +kernel
theorem dX0_treat_33 : decode cX0_treat 33 = .ok (.invokevirtual 47, 3) := by decide +kernel
theorem dX0_treat_36 : decode cX0_treat 36 = .ok (.goto 16, 3) := by decide +kernel
theorem dX0_treat_39 : decode cX0_treat 39 = .ok (.aload_n 0, 1) := by decide +kernel
theorem dX0_treat_40 : decode cX0_treat 40 = .ok (.getfield 9, 3) := by decide +kernel
theorem dX0_treat_43 : decode cX0_treat 43 = .ok (.iconst 1, 1) := by decide +kernel
theorem dX0_treat_44 : decode cX0_treat 44 = .ok (.if_icmp .eq 8, 3) := by decide +kernel
theorem dX0_treat_47 : decode cX0_treat 47 = .ok (.aload_n 2, 1) := by decide +kernel
theorem dX0_treat_48 : decode cX0_treat 48 = .ok (.iload_n 1, 1) := by decide +kernel
theorem dX0_treat_49 : decode cX0_treat 49 = .ok (.invokevirtual 47, 3) := by decide +kernel
theorem dX0_treat_52 : decode cX0_treat 52 = .ok (.aload_n 0, 1) := by decide +kernel
theorem dX0_treat_53 : decode cX0_treat 53 = .ok (.getfield 9, 3) := by decide +kernel
theorem dX0_treat_56 : decode cX0_treat 56 = .ok (.iconst 2, 1) := by decide +kernel
theorem dX0_treat_57 : decode cX0_treat 57 = .ok (.if_icmp .ne 13, 3) := by decide +kernel
theorem dX0_treat_60 : decode cX0_treat 60 = .ok (.iload 4, 2) := by decide +kernel
theorem dX0_treat_62 : decode cX0_treat 62 = .ok (.ifCond .eq 8, 3) := by decide +kernel
theorem dX0_treat_65 : decode cX0_treat 65 = .ok (.aload_n 2, 1) := by decide +kernel
theorem dX0_treat_66 : decode cX0_treat 66 = .ok (.iload_n 1, 1) := by decide +kernel
theorem dX0_treat_67 : decode cX0_treat 67 = .ok (.invokevirtual 47, 3) := by decide +kernel
theorem dX0_treat_70 : decode cX0_treat 70 = .ok (.return_, 1) := by decide +kernel
set_option maxRecDepth 20000 in
theorem ggX0_skipOnce_X3_append : GoodIn wsX0_skipOnce wsX3_append := goodIn_r _ [7, 8, 9, 21, 22] (by decide +kernel) (by decide +kernel)
set_option maxRecDepth 20000 in
theorem gX0_skipOnce_X3_append : GoodIn wsX0_skipOnce (wsV RX0 47 RX3 yX3_append wsX3_append) := goodIn_app (goodIn_of _ (by decide +kernel)) ggX0_skipOnce_X3_append
set_option maxRecDepth 20000 in
theorem ggX0_skipOnce_X0_nextWithin : GoodIn wsX0_skipOnce wsX0_nextWithin := goodIn_r _ [14, 15, 16, 17, 18, 19, 6, 20, 8, 9, 23, 24, 25, 26, 21, 22] (by decide +kernel) (by decide +kernel)
set_option maxRecDepth 20000 in
theorem gX0_skipOnce_X0_nextWithin : GoodIn wsX0_skipOnce (wsV RX0 51 RX0 yX0_nextWithin wsX0_nextWithin) := goodIn_app (goodIn_of _ (by decide +kernel)) ggX0_skipOnce_X0_nextWithin
theorem dX0_skipOnce_0 : decode cX0_skipOnce 0 = .ok (.iconst 0, 1) := by decide +kernel
theorem dX0_skipOnce_1 : decode cX0_skipOnce 1 = .ok (.istore_n 3, 1) := by decide +kernel
theorem dX0_skipOnce_2 : decode cX0_skipOnce 2 = .ok (.iconst 0, 1) := by decide +kernel
theorem dX0_skipOnce_3 : decode cX0_skipOnce 3 = .ok (.istore 4, 2) := by decide +kernel
theorem dX0_skipOnce_5 : decode cX0_skipOnce 5 = .ok (.iload 4, 2) := by decide +kernel
theorem dX0_skipOnce_7 : decode cX0_skipOnce 7 = .ok (.aload_n 1, 1) := by decide +kernel
theorem dX0_skipOnce_8 : decode cX0_skipOnce 8 = .ok (.getfield 24, 3) := by decide +kernel
theorem dX0_skipOnce_11 : decode cX0_skipOnce 11 = .ok (.if_icmp .ge 50, 3) := by decide +kernel
theorem dX0_skipOnce_14 : decode cX0_skipOnce 14 = .ok (.aload_n 2, 1) := by decide +kernel
theorem dX0_skipOnce_15 : decode cX0_skipOnce 15 = .ok (.aload_n 1, 1) := by decide +kernel
theorem dX0_skipOnce_16 : decode cX0_skipOnce 16 = .ok (.getfield 39, 3) := by decide +kernel
theorem dX0_skipOnce_19 : decode cX0_skipOnce 19 = .ok (.iload 4, 2) := by decide +kernel
theorem dX0_skipOnce_21 : decode cX0_skipOnce 21 = .ok (.baload, 1) := by decide +kernel
theorem dX0_skipOnce_22 : decode cX0_skipOnce 22 = .ok (.invokevirtual 47, 3) := by decide +kernel
theorem dX0_skipOnce_25 : decode cX0_skipOnce 25 = .ok (.iload_n 3, 1) := by decide +kernel
theorem dX0_skipOnce_26 : decode cX0_skipOnce 26 = .ok (.ifCond .eq 7, 3) := by decide +kernel
theorem dX0_skipOnce_29 : decode cX0_skipOnce 29 = .ok (.iconst (-1), 1) := by decide +kernel
theorem dX0_skipOnce_30 : decode cX0_skipOnce 30 = .ok (.goto 10, 3) := by decide +kernel
theorem dX0_skipOnce_33 : decode cX0_skipOnce 33 = .ok (.aload_n 0, 1) := by decide +kernel
theorem dX0_skipOnce_34 : decode cX0_skipOnce 34 = .ok (.aload_n 1, 1) := by decide +kernel
theorem dX0_skipOnce_35 : decode cX0_skipOnce 35 = .ok (.iload 4, 2) := by decide +kernel
theorem dX0_skipOnce_37 : decode cX0_skipOnce 37 = .ok (.invokevirtual 51, 3) := by decide +kernel
theorem dX0_skipOnce_40 : decode cX0_skipOnce 40 = .ok (.istore 5, 2) := by decide +kernel
theorem dX0_skipOnce_42 : decode cX0_skipOnce 42 = .ok (.iload 5, 2) := by decide +kernel
theorem dX0_skipOnce_44 : decode cX0_skipOnce 44 = .ok (.iload 4, 2) := by decide +kernel
theorem dX0_skipOnce_46 : decode cX0_skipOnce 46 = .ok (.if_icmp .le 9, 3) := by decide +kernel
theorem dX0_skipOnce_49 : decode cX0_skipOnce 49 = .ok (.iload 5, 2) := by decide +kernel
theorem dX0_skipOnce_51 : decode cX0_skipOnce 51 = .ok (.istore 4, 2) := by decide +kernel
theorem dX0_skipOnce_53 : decode cX0_skipOnce 53 = .ok (.iconst 1, 1) := by decide +kernel
theorem dX0_skipOnce_54 : decode cX0_skipOnce 54 = .ok (.istore_n 3, 1) := by decide +kernel
theorem dX0_skipOnce_55 : decode cX0_skipOnce 55 = .ok (.iinc 4 1, 3) := by decide +kernel
theorem dX0_skipOnce_58 : decode cX0_skipOnce 58 = .ok (.goto (-53), 3) := by decide +kernel
theorem dX0_skipOnce_61 : decode cX0_skipOnce 61 = .ok (.return_, 1) := by decide +kernel
set_option maxRecDepth 20000 in
theorem ggX0_nextWithin_X3_has : GoodIn wsX0_nextWithin wsX3_has := goodIn_r _ [7, 8, 9, 14, 15] (by decide +kernel) (by decide +kernel)
set_option maxRecDepth 20000 in
theorem gX0_nextWithin_X3_has : GoodIn wsX0_nextWithin (wsV RX0 55 RX3 yX3_has wsX3_has) := goodIn_app (goodIn_of _ (by decide +kernel)) ggX0_nextWithin_X3_has
theorem dX0_nextWithin_0 : decode cX0_nextWithin 0 = .ok (.aload_n 1, 1) := by decide +kernel
theorem dX0_nextWithin_1 : decode cX0_nextWithin 1 = .ok (.iload_n 2, 1) := by decide +kernel
theorem dX0_nextWithin_2 : decode cX0_nextWithin 2 = .ok (.bipush 97, 2) := by decide +kernel
theorem dX0_nextWithin_4 : decode cX0_nextWithin 4 = .ok (.aload_n 0, 1) := by decide +kernel
theorem dX0_nextWithin_5 : decode cX0_nextWithin 5 = .ok (.getfield 15, 3) := by decide +kernel
theorem dX0_nextWithin_8 : decode cX0_nextWithin 8 = .ok (.iadd, 1) := by decide +kernel
theorem dX0_nextWithin_9 : decode cX0_nextWithin 9 = .ok (.invokevirtual 55, 3) := by decide +kernel
theorem dX0_nextWithin_12 : decode cX0_nextWithin 12 = .ok (.ifCond .eq 40, 3) := by decide +kernel
theorem dX0_nextWithin_15 : decode cX0_nextWithin 15 = .ok (.iload_n 2, 1) := by decide +kernel
theorem dX0_nextWithin_16 : decode cX0_nextWithin 16 = .ok (.iconst 1, 1) := by decide +kernel
theorem dX0_nextWithin_17 : decode cX0_nextWithin 17 = .ok (.iadd, 1) := by decide +kernel
theorem dX0_nextWithin_18 : decode cX0_nextWithin 18 = .ok (.istore_n 3, 1) := by decide +kernel
theorem dX0_nextWithin_19 : decode cX0_nextWithin 19 = .ok (.iload_n 3, 1) := by decide +kernel
theorem dX0_nextWithin_20 : decode cX0_nextWithin 20 = .ok (.iload_n 2, 1) := by decide +kernel
theorem dX0_nextWithin_21 : decode cX0_nextWithin 21 = .ok (.isub, 1) := by decide +kernel
theorem dX0_nextWithin_22 : decode cX0_nextWithin 22 = .ok (.aload_n 0, 1) := by decide +kernel
theorem dX0_nextWithin_23 : decode cX0_nextWithin 23 = .ok (.getfield 21, 3) := by decide +kernel
theorem dX0_nextWithin_26 : decode cX0_nextWithin 26 = .ok (.if_icmp .gt 26, 3) := by decide +kernel
theorem dX0_nextWithin_29 : decode cX0_nextWithin 29 = .ok (.aload_n 1, 1) := by decide +kernel
theorem dX0_nextWithin_30 : decode cX0_nextWithin 30 = .ok (.iload_n 3, 1) := by decide +kernel
theorem dX0_nextWithin_31 : decode cX0_nextWithin 31 = .ok (.bipush 97, 2) := by decide +kernel
theorem dX0_nextWithin_33 : decode cX0_nextWithin 33 = .ok (.aload_n 0, 1) := by decide +kernel
theorem dX0_nextWithin_34 : decode cX0_nextWithin 34 = .ok (.getfield 15, 3) := by decide +kernel
theorem dX0_nextWithin_37 : decode cX0_nextWithin 37 = .ok (.iadd, 1) := by decide +kernel
theorem dX0_nextWithin_38 : decode cX0_nextWithin 38 = .ok (.invokevirtual 55, 3) := by decide +kernel
theorem dX0_nextWithin_41 : decode cX0_nextWithin 41 = .ok (.ifCond .eq 5, 3) := by decide +kernel
theorem dX0_nextWithin_44 : decode cX0_nextWithin 44 = .ok (.iload_n 3, 1) := by decide +kernel
theorem dX0_nextWithin_45 : decode cX0_nextWithin 45 = .ok (.ireturn, 1) := by decide +kernel
theorem dX0_nextWithin_46 : decode cX0_nextWithin 46 = .ok (.iinc 3 1, 3) := by decide +kernel
theorem dX0_nextWithin_49 : decode cX0_nextWithin 49 = .ok (.goto (-30), 3) := by decide +kernel
theorem dX0_nextWithin_52 : decode cX0_nextWithin 52 = .ok (.iconst (-1), 1) := by decide +kernel
theorem dX0_nextWithin_53 : decode cX0_nextWithin 53 = .ok (.ireturn, 1) := by decide +kernel
set_option maxRecDepth 20000 in
theorem ggX0_swapEachNth_X3_has : GoodIn wsX0_swapEachNth wsX3_has := goodIn_r _ [10, 11, 12, 17, 18] (by decide +kernel) (by decide +kernel)
set_option maxRecDepth 20000 in
theorem gX0_swapEachNth_X3_has : GoodIn wsX0_swapEachNth (wsV RX0 55 RX3 yX3_has wsX3_has) := goodIn_app (goodIn_of _ (by decide +kernel)) ggX0_swapEachNth_X3_has
set_option maxRecDepth 20000 in
theorem ggX0_swapEachNth_X3_append : GoodIn wsX0_swapEachNth wsX3_append := goodIn_r _ [16, 11, 12, 17, 18] (by decide +kernel) (by decide +kernel)
set_option maxRecDepth 20000 in
theorem gX0_swapEachNth_X3_append : GoodIn wsX0_swapEachNth (wsV RX0 47 RX3 yX3_append wsX3_append) := goodIn_app (goodIn_of _ (by decide +kernel)) ggX0_swapEachNth_X3_append
theorem dX0_swapEachNth_0 : decode cX0_swapEachNth 0 = .ok (.iconst 0, 1) := by decide +kernel
theorem dX0_swapEachNth_1 : decode cX0_swapEachNth 1 = .ok (.istore_n 3, 1) := by decide +kernel
theorem dX0_swapEachNth_2 : decode cX0_swapEachNth 2 = .ok (.iconst 0, 1) := by decide +kernel
theorem dX0_swapEachNth_3 : decode cX0_swapEachNth 3 = .ok (.istore 4, 2) := by decide +kernel
theorem dX0_swapEachNth_5 : decode cX0_swapEachNth 5 = .ok (.iload 4, 2) := by decide +kernel
theorem dX0_swapEachNth_7 : decode cX0_swapEachNth 7 = .ok (.aload_n 1, 1) := by decide +kernel
theorem dX0_swapEachNth_8 : decode cX0_swapEachNth 8 = .ok (.getfield 24, 3) := by decide +kernel
theorem dX0_swapEachNth_11 : decode cX0_swapEachNth 11 = .ok (.if_icmp .ge 129, 3) := by decide +kernel
theorem dX0_swapEachNth_14 : decode cX0_swapEachNth 14 = .ok (.aload_n 1, 1) := by decide +kernel
theorem dX0_swapEachNth_15 : decode cX0_swapEachNth 15 = .ok (.iload 4, 2) := by decide +kernel
theorem dX0_swapEachNth_17 : decode cX0_swapEachNth 17 = .ok (.bipush 97, 2) := by decide +kernel
theorem dX0_swapEachNth_19 : decode cX0_swapEachNth 19 = .ok (.aload_n 0, 1) := by decide +kernel
theorem dX0_swapEachNth_20 : decode cX0_swapEachNth 20 = .ok (.getfield 15, 3) := by decide +kernel
theorem dX0_swapEachNth_23 : decode cX0_swapEachNth 23 = .ok (.iadd, 1) := by decide +kernel
theorem dX0_swapEachNth_24 : decode cX0_swapEachNth 24 = .ok (.invokevirtual 55, 3) := by decide +kernel
theorem dX0_swapEachNth_27 : decode cX0_swapEachNth 27 = .ok (.ifCond .eq 21, 3) := by decide +kernel
theorem dX0_swapEachNth_30 : decode cX0_swapEachNth 30 = .ok (.aload_n 1, 1) := by decide +kernel
theorem dX0_swapEachNth_31 : decode cX0_swapEachNth 31 = .ok (.iload 4, 2) := by decide +kernel
theorem dX0_swapEachNth_33 : decode cX0_swapEachNth 33 = .ok (.iconst 1, 1) := by decide +kernel
theorem dX0_swapEachNth_34 : decode cX0_swapEachNth 34 = .ok (.iadd, 1) := by decide +kernel
theorem dX0_swapEachNth_35 : decode cX0_swapEachNth 35 = .ok (.bipush 97, 2) := by decide +kernel
theorem dX0_swapEachNth_37 : decode cX0_swapEachNth 37 = .ok (.aload_n 0, 1) := by decide +kernel
theorem dX0_swapEachNth_38 : decode cX0_swapEachNth 38 = .ok (.getfield 18, 3) := by decide +kernel
theorem dX0_swapEachNth_41 : decode cX0_swapEachNth 41 = .ok (.iadd, 1) := by decide +kernel
theorem dX0_swapEachNth_42 : decode cX0_swapEachNth 42 = .ok (.invokevirtual 55, 3) := by decide +kernel
theorem dX0_swapEachNth_45 : decode cX0_swapEachNth 45 = .ok (.ifCond .ne 17, 3) := by decide +kernel
theorem dX0_swapEachNth_48 : decode cX0_swapEachNth 48 = .ok (.aload_n 2, 1) := by decide +kernel
theorem dX0_swapEachNth_49 : decode cX0_swapEachNth 49 = .ok (.aload_n 1, 1) := by decide +kernel
theorem dX0_swapEachNth_50 : decode cX0_swapEachNth 50 = .ok (.getfield 39, 3) := by decide +kernel
theorem dX0_swapEachNth_53 : decode cX0_swapEachNth 53 = .ok (.iload 4, 2) := by decide +kernel
theorem dX0_swapEachNth_55 : decode cX0_swapEachNth 55 = .ok (.baload, 1) := by decide +kernel
theorem dX0_swapEachNth_56 : decode cX0_swapEachNth 56 = .ok (.invokevirtual 47, 3) := by decide +kernel
theorem dX0_swapEachNth_59 : decode cX0_swapEachNth 59 = .ok (.goto 75, 3) := by decide +kernel
theorem dX0_swapEachNth_62 : decode cX0_swapEachNth 62 = .ok (.iinc 4 1, 3) := by decide +kernel
theorem dX0_swapEachNth_65 : decode cX0_swapEachNth 65 = .ok (.iinc 3 1, 3) := by decide +kernel
theorem dX0_swapEachNth_68 : decode cX0_swapEachNth 68 = .ok (.aload_n 2, 1) := by decide +kernel
theorem dX0_swapEachNth_69 : decode cX0_swapEachNth 69 = .ok (.bipush 97, 2) := by decide +kernel
theorem dX0_swapEachNth_71 : decode cX0_swapEachNth 71 = .ok (.iload_n 3, 1) := by decide +kernel
theorem dX0_swapEachNth_72 : decode cX0_swapEachNth 72 = .ok (.aload_n 0, 1) := by decide +kernel
theorem dX0_swapEachNth_73 : decode cX0_swapEachNth 73 = .ok (.getfield 21, 3) := by decide +kernel
theorem dX0_swapEachNth_76 : decode cX0_swapEachNth 76 = .ok (.if_icmp .ne 10, 3) := by decide +kernel
theorem dX0_swapEachNth_79 : decode cX0_swapEachNth 79 = .ok (.aload_n 0, 1) := by decide +kernel
theorem dX0_swapEachNth_80 : decode cX0_swapEachNth 80 = .ok (.getfield 18, 3) := by decide +kernel
theorem dX0_swapEachNth_83 : decode cX0_swapEachNth 83 = .ok (.goto 7, 3) := by decide +kernel
theorem dX0_swapEachNth_86 : decode cX0_swapEachNth 86 = .ok (.aload_n 0, 1) := by decide +kernel
theorem dX0_swapEachNth_87 : decode cX0_swapEachNth 87 = .ok (.getfield 15, 3) := by decide +kernel
theorem dX0_swapEachNth_90 : decode cX0_swapEachNth 90 = .ok (.iadd, 1) := by decide +kernel
theorem dX0_swapEachNth_91 : decode cX0_swapEachNth 91 = .ok (.invokevirtual 47, 3) := by decide +kernel
theorem dX0_swapEachNth_94 : decode cX0_swapEachNth 94 = .ok (.aload_n 2, 1) := by decide +kernel
theorem dX0_swapEachNth_95 : decode cX0_swapEachNth 95 = .ok (.bipush 97, 2) := by decide +kernel
theorem dX0_swapEachNth_97 : decode cX0_swapEachNth 97 = .ok (.iload_n 3, 1) := by decide +kernel
theorem dX0_swapEachNth_98 : decode cX0_swapEachNth 98 = .ok (.aload_n 0, 1) := by decide +kernel
theorem dX0_swapEachNth_99 : decode cX0_swapEachNth 99 = .ok (.getfield 21, 3) := by decide +kernel
theorem dX0_swapEachNth_102 : decode cX0_swapEachNth 102 = .ok (.if_icmp .ne 10, 3) := by decide +kernel
theorem dX0_swapEachNth_105 : decode cX0_swapEachNth 105 = .ok (.aload_n 0, 1) := by decide +kernel
theorem dX0_swapEachNth_106 : decode cX0_swapEachNth 106 = .ok (.getfield 15, 3) := by decide +kernel
theorem dX0_swapEachNth_109 : decode cX0_swapEachNth 109 = .ok (.goto 7, 3) := by decide +kernel
theorem dX0_swapEachNth_112 : decode cX0_swapEachNth 112 = .ok (.aload_n 0, 1) := by decide +kernel
theorem dX0_swapEachNth_113 : decode cX0_swapEachNth 113 = .ok (.getfield 18, 3) := by decide +kernel
theorem dX0_swapEachNth_116 : decode cX0_swapEachNth 116 = .ok (.iadd, 1) := by decide +kernel
theorem dX0_swapEachNth_117 : decode cX0_swapEachNth 117 = .ok (.invokevirtual 47, 3) := by decide +kernel
theorem dX0_swapEachNth_120 : decode cX0_swapEachNth 120 = .ok (.iload_n 3, 1) := by decide +kernel
theorem dX0_swapEachNth_121 : decode cX0_swapEachNth 121 = .ok (.aload_n 0, 1) := by decide +kernel
theorem dX0_swapEachNth_122 : decode cX0_swapEachNth 122 = .ok (.getfield 21, 3) := by decide +kernel
theorem dX0_swapEachNth_125 : decode cX0_swapEachNth 125 = .ok (.if_icmp .ne 7, 3) := by decide +kernel
theorem dX0_swapEachNth_128 : decode cX0_swapEachNth 128 = .ok (.iconst 0, 1) := by decide +kernel
theorem dX0_swapEachNth_129 : decode cX0_swapEachNth 129 = .ok (.goto 4, 3) := by decide +kernel
theorem dX0_swapEachNth_132 : decode cX0_swapEachNth 132 = .ok (.iload_n 3, 1) := by decide +kernel
theorem dX0_swapEachNth_133 : decode cX0_swapEachNth 133 = .ok (.istore_n 3, 1) := by decide +kernel
theorem dX0_swapEachNth_134 : decode cX0_swapEachNth 134 = .ok (.iinc 4 1, 3) := by decide +kernel
theorem dX0_swapEachNth_137 : decode cX0_swapEachNth 137 = .ok (.goto (-132), 3) := by decide +kernel
theorem dX0_swapEachNth_140 : decode cX0_swapEachNth 140 = .ok (.return_, 1) := by decide +kernel
set_option maxRecDepth 20000 in
theorem ggX1_init_X3_init : GoodIn wsX1_init wsX3_init := goodIn_r _ [14, 15, 2, 3, 16, 17, 18, 27, 28] (by decide +kernel) (by decide +kernel)
set_option maxRecDepth 20000 in
theorem gX1_init_X3_init_n9 : GoodIn wsX1_init (wsX3_init) := ggX1_init_X3_init
set_option maxRecDepth 20000 in
theorem ggX1_init_X3_become : GoodIn wsX1_init wsX3_become := goodIn_r _ [22, 17, 18, 23, 24, 25, 26, 27, 28] (by decide +kernel) (by decide +kernel)
set_option maxRecDepth 20000 in
theorem gX1_init_X3_become : GoodIn wsX1_init (wsV RX1 34 RX3 yX3_become wsX3_become) := goodIn_app (goodIn_of _ (by decide +kernel)) ggX1_init_X3_become
theorem dX1_init_0 : decode cX1_init 0 = .ok (.aload_n 0, 1) := by decide +kernel
theorem dX1_init_1 : decode cX1_init 1 = .ok (.invokespecial 1, 3) := by decide +kernel
theorem dX1_init_4 : decode cX1_init 4 = .ok (.aload_n 0, 1) := by decide +kernel
theorem dX1_init_5 : decode cX1_init 5 = .ok (.new 7, 3) := by decide +kernel
theorem dX1_init_8 : decode cX1_init 8 = .ok (.dup, 1) := by decide +kernel
theorem dX1_init_9 : decode cX1_init 9 = .ok (.invokespecial 9, 3) := by decide +kernel
theorem dX1_init_12 : decode cX1_init 12 = .ok (.putfield 10, 3) := by decide +kernel
theorem dX1_init_15 : decode cX1_init 15 = .ok (.aload_n 0, 1) := by decide +kernel
theorem dX1_init_16 : decode cX1_init 16 = .ok (.iconst 1, 1) := by decide +kernel
theorem dX1_init_17 : decode cX1_init 17 = .ok (.putfield 16, 3) := by decide +kernel
theorem dX1_init_20 : decode cX1_init 20 = .ok (.aload_n 0, 1) := by decide +kernel
theorem dX1_init_21 : decode cX1_init 21 = .ok (.iload_n 1, 1) := by decide +kernel
theorem dX1_init_22 : decode cX1_init 22 = .ok (.putfield 20, 3) := by decide +kernel
theorem dX1_init_25 : decode cX1_init 25 = .ok (.aload_n 0, 1) := by decide +kernel
theorem dX1_init_26 : decode cX1_init 26 = .ok (.aload_n 2, 1) := by decide +kernel
theorem dX1_init_27 : decode cX1_init 27 = .ok (.putfield 24, 3) := by decide +kernel
theorem dX1_init_30 : decode cX1_init 30 = .ok (.aload_n 0, 1) := by decide +kernel
theorem dX1_init_31 : decode cX1_init 31 = .ok (.iload_n 3, 1) := by decide +kernel
theorem dX1_init_32 : decode cX1_init 32 = .ok (.putfield 28, 3) := by decide +kernel
theorem dX1_init_35 : decode cX1_init 35 = .ok (.aload_n 0, 1) := by decide +kernel
theorem dX1_init_36 : decode cX1_init 36 = .ok (.aload_n 2, 1) := by decide +kernel
theorem dX1_init_37 : decode cX1_init 37 = .ok (.ifnonnull 7, 3) := by decide +kernel
theorem dX1_init_40 : decode cX1_init 40 = .ok (.iconst 0, 1) := by decide +kernel
theorem dX1_init_41 : decode cX1_init 41 = .ok (.goto 9, 3) := by decide +kernel
theorem dX1_init_44 : decode cX1_init 44 = .ok (.aload_n 2, 1) := by decide +kernel
theorem dX1_init_45 : decode cX1_init 45 = .ok (.getfield 31, 3) := by decide +kernel
theorem dX1_init_48 : decode cX1_init 48 = .ok (.iconst 1, 1) := by decide +kernel
theorem dX1_init_49 : decode cX1_init 49 = .ok (.iadd, 1) := by decide +kernel
theorem dX1_init_50 : decode cX1_init 50 = .ok (.putfield 31, 3) := by decide +kernel
theorem dX1_init_53 : decode cX1_init 53 = .ok (.aload_n 0, 1) := by decide +kernel
theorem dX1_init_54 : decode cX1_init 54 = .ok (.getfield 10, 3) := by decide +kernel
theorem dX1_init_57 : decode cX1_init 57 = .ok (.aload 4, 2) := by decide +kernel
theorem dX1_init_59 : decode cX1_init 59 = .ok (.invokevirtual 34, 3) := by decide +kernel
theorem dX1_init_62 : decode cX1_init 62 = .ok (.return_, 1) := by decide +kernel
theorem dX1_origin_0 : decode cX1_origin 0 = .ok (.aload_n 0, 1) := by decide +kernel
theorem dX1_origin_1 : decode cX1_origin 1 = .ok (.astore_n 1, 1) := by decide +kernel
theorem dX1_origin_2 : decode cX1_origin 2 = .ok (.aload_n 1, 1) := by decide +kernel
theorem dX1_origin_3 : decode cX1_origin 3 = .ok (.getfield 24, 3) := by decide +kernel
theorem dX1_origin_6 : decode cX1_origin 6 = .ok (.ifnull 11, 3) := by decide +kernel
theorem dX1_origin_9 : decode cX1_origin 9 = .ok (.aload_n 1, 1) := by decide +kernel
theorem dX1_origin_10 : decode cX1_origin 10 = .ok (.getfield 24, 3) := by decide +kernel
theorem dX1_origin_13 : decode cX1_origin 13 = .ok (.astore_n 1, 1) := by decide +kernel
theorem dX1_origin_14 : decode cX1_origin 14 = .ok (.goto (-12), 3) := by decide +kernel
theorem dX1_origin_17 : decode cX1_origin 17 = .ok (.aload_n 1, 1) := by decide +kernel
theorem dX1_origin_18 : decode cX1_origin 18 = .ok (.areturn, 1) := by decide +kernel
theorem dX1_descendsFrom_0 : decode cX1_descendsFrom 0 = .ok (.aload_n 0, 1) := by decide +kernel
theorem dX1_descendsFrom_1 : decode cX1_descendsFrom 1 = .ok (.getfield 24, 3) := by decide +kernel
theorem dX1_descendsFrom_4 : decode cX1_descendsFrom 4 = .ok (.astore_n 2, 1) := by decide +kernel
theorem dX1_descendsFrom_5 : decode cX1_descendsFrom 5 = .ok (.aload_n 2, 1) := by decide +kernel
theorem dX1_descendsFrom_6 : decode cX1_descendsFrom 6 = .ok (.ifnull 18, 3) := by decide +kernel
theorem dX1_descendsFrom_9 : decode cX1_descendsFrom 9 = .ok (.aload_n 2, 1) := by decide +kernel
theorem dX1_descendsFrom_10 : decode cX1_descendsFrom 10 = .ok (.aload_n 1, 1) := by decide +kernel
theorem dX1_descendsFrom_11 : decode cX1_descendsFrom 11 = .ok (.if_acmp .ne 5, 3) := by decide +kernel
theorem dX1_descendsFrom_14 : decode cX1_descendsFrom 14 = .ok (.iconst 1, 1) := by decide +kernel
theorem dX1_descendsFrom_15 : decode cX1_descendsFrom 15 = .ok (.ireturn, 1) := by decide +kernel
theorem dX1_descendsFrom_16 : decode cX1_descendsFrom 16 = .ok (.aload_n 2, 1) := by decide +kernel
theorem dX1_descendsFrom_17 : decode cX1_descendsFrom 17 = .ok (.getfield 24, 3) := by decide +kernel
theorem dX1_descendsFrom_20 : decode cX1_descendsFrom 20 = .ok (.astore_n 2, 1) := by decide +kernel
theorem dX1_descendsFrom_21 : decode cX1_descendsFrom 21 = .ok (.goto (-16), 3) := by decide +kernel
theorem dX1_descendsFrom_24 : decode cX1_descendsFrom 24 = .ok (.iconst 0, 1) := by decide +kernel
theorem dX1_descendsFrom_25 : decode cX1_descendsFrom 25 = .ok (.ireturn, 1) := by decide +kernel
set_option maxRecDepth 20000 in
theorem ggX2_init_Jx4a65c_init_da8c8 : GoodIn wsX2_init wsJx4a65c_init_da8c8 := goodIn_r _ [10, 11, 12, 13, 14, 15, 16, 17, 18, 19, 20, 21, 22, 2, 3, 23, 24, 25] (by decide +kernel) (by decide +kernel)
set_option maxRecDepth 20000 in
theorem gX2_init_Jx4a65c_init_da8c8 : GoodIn wsX2_init (wsJx4a65c_init_da8c8) := ggX2_init_Jx4a65c_init_da8c8
theorem dX2_init_0 : decode cX2_init 0 = .ok (.aload_n 0, 1) := by decide +kernel
theorem dX2_init_1 : decode cX2_init 1 = .ok (.invokespecial 1, 3) := by decide +kernel
theorem dX2_init_4 : decode cX2_init 4 = .ok (.aload_n 0, 1) := by decide +kernel
theorem dX2_init_5 : decode cX2_init 5 = .ok (.new 7, 3) := by decide +kernel
theorem dX2_init_8 : decode cX2_init 8 = .ok (.dup, 1) := by decide +kernel
theorem dX2_init_9 : decode cX2_init 9 = .ok (.invokespecial 9, 3) := by decide +kernel
theorem dX2_init_12 : decode cX2_init 12 = .ok (.putfield 10, 3) := by decide +kernel
theorem dX2_init_15 : decode cX2_init 15 = .ok (.return_, 1) := by decide +kernel
theorem dX3_init_0 : decode cX3_init 0 = .ok (.aload_n 0, 1) := by decide +kernel
theorem dX3_init_1 : decode cX3_init 1 = .ok (.invokespecial 3, 3) := by decide +kernel
theorem dX3_init_4 : decode cX3_init 4 = .ok (.aload_n 0, 1) := by decide +kernel
theorem dX3_init_5 : decode cX3_init 5 = .ok (.bipush 120, 2) := by decide +kernel
theorem dX3_init_7 : decode cX3_init 7 = .ok (.newarray .byte, 2) := by decide +kernel
theorem dX3_init_9 : decode cX3_init 9 = .ok (.putfield 9, 3) := by decide +kernel
theorem dX3_init_12 : decode cX3_init 12 = .ok (.aload_n 0, 1) := by decide +kernel
theorem dX3_init_13 : decode cX3_init 13 = .ok (.iconst 0, 1) := by decide +kernel
theorem dX3_init_14 : decode cX3_init 14 = .ok (.putfield 15, 3) := by decide +kernel
theorem dX3_init_17 : decode cX3_init 17 = .ok (.return_, 1) := by decide +kernel
theorem dX3_append_0 : decode cX3_append 0 = .ok (.aload_n 0, 1) := by decide +kernel
theorem dX3_append_1 : decode cX3_append 1 = .ok (.getfield 15, 3) := by decide +kernel
theorem dX3_append_4 : decode cX3_append 4 = .ok (.aload_n 0, 1) := by decide +kernel
theorem dX3_append_5 : decode cX3_append 5 = .ok (.getfield 9, 3) := by decide +kernel
theorem dX3_append_8 : decode cX3_append 8 = .ok (.arraylength, 1) := by decide +kernel
theorem dX3_append_9 : decode cX3_append 9 = .ok (.if_icmp .ge 24, 3) := by decide +kernel
theorem dX3_append_12 : decode cX3_append 12 = .ok (.aload_n 0, 1) := by decide +kernel
theorem dX3_append_13 : decode cX3_append 13 = .ok (.getfield 9, 3) := by decide +kernel
theorem dX3_append_16 : decode cX3_append 16 = .ok (.aload_n 0, 1) := by decide +kernel
theorem dX3_append_17 : decode cX3_append 17 = .ok (.getfield 15, 3) := by decide +kernel
theorem dX3_append_20 : decode cX3_append 20 = .ok (.iload_n 1, 1) := by decide +kernel
theorem dX3_append_21 : decode cX3_append 21 = .ok (.i2b, 1) := by decide +kernel
theorem dX3_append_22 : decode cX3_append 22 = .ok (.bastore, 1) := by decide +kernel
theorem dX3_append_23 : decode cX3_append 23 = .ok (.aload_n 0, 1) := by decide +kernel
theorem dX3_append_24 : decode cX3_append 24 = .ok (.dup, 1) := by decide +kernel
theorem dX3_append_25 : decode cX3_append 25 = .ok (.getfield 15, 3) := by decide +kernel
theorem dX3_append_28 : decode cX3_append 28 = .ok (.iconst 1, 1) := by decide +kernel
theorem dX3_append_29 : decode cX3_append 29 = .ok (.iadd, 1) := by decide +kernel
theorem dX3_append_30 : decode cX3_append 30 = .ok (.putfield 15, 3) := by decide +kernel
theorem dX3_append_33 : decode cX3_append 33 = .ok (.return_, 1) := by decide +kernel
theorem dX3_become_0 : decode cX3_become 0 = .ok (.aload_n 1, 1) := by decide +kernel
theorem dX3_become_1 : decode cX3_become 1 = .ok (.getfield 9, 3) := by decide +kernel
theorem dX3_become_4 : decode cX3_become 4 = .ok (.iconst 0, 1) := by decide +kernel
theorem dX3_become_5 : decode cX3_become 5 = .ok (.aload_n 0, 1) := by decide +kernel
theorem dX3_become_6 : decode cX3_become 6 = .ok (.getfield 9, 3) := by decide +kernel
theorem dX3_become_9 : decode cX3_become 9 = .ok (.iconst 0, 1) := by decide +kernel
theorem dX3_become_10 : decode cX3_become 10 = .ok (.aload_n 1, 1) := by decide +kernel
theorem dX3_become_11 : decode cX3_become 11 = .ok (.getfield 15, 3) := by decide +kernel
theorem dX3_become_14 : decode cX3_become 14 = .ok (.invokestatic 19, 3) := by decide +kernel
theorem dX3_become_17 : decode cX3_become 17 = .ok (.aload_n 0, 1) := by decide +kernel
theorem dX3_become_18 : decode cX3_become 18 = .ok (.aload_n 1, 1) := by decide +kernel
theorem dX3_become_19 : decode cX3_become 19 = .ok (.getfield 15, 3) := by decide +kernel
theorem dX3_become_22 : decode cX3_become 22 = .ok (.putfield 15, 3) := by decide +kernel
theorem dX3_become_25 : decode cX3_become 25 = .ok (.return_, 1) := by decide +kernel
theorem dX3_has_0 : decode cX3_has 0 = .ok (.iload_n 1, 1) := by decide +kernel
theorem dX3_has_1 : decode cX3_has 1 = .ok (.ifCond .lt 25, 3) := by decide +kernel
theorem dX3_has_4 : decode cX3_has 4 = .ok (.iload_n 1, 1) := by decide +kernel
theorem dX3_has_5 : decode cX3_has 5 = .ok (.aload_n 0, 1) := by decide +kernel
theorem dX3_has_6 : decode cX3_has 6 = .ok (.getfield 15, 3) := by decide +kernel
theorem dX3_has_9 : decode cX3_has 9 = .ok (.if_icmp .ge 17, 3) := by decide +kernel
theorem dX3_has_12 : decode cX3_has 12 = .ok (.aload_n 0, 1) := by decide +kernel
theorem dX3_has_13 : decode cX3_has 13 = .ok (.getfield 9, 3) := by decide +kernel
theorem dX3_has_16 : decode cX3_has 16 = .ok (.iload_n 1, 1) := by decide +kernel
theorem dX3_has_17 : decode cX3_has 17 = .ok (.baload, 1) := by decide +kernel
theorem dX3_has_18 : decode cX3_has 18 = .ok (.iload_n 2, 1) := by decide +kernel
theorem dX3_has_19 : decode cX3_has 19 = .ok (.if_icmp .ne 7, 3) := by decide +kernel
theorem dX3_has_22 : decode cX3_has 22 = .ok (.iconst 1, 1) := by decide +kernel
theorem dX3_has_23 : decode cX3_has 23 = .ok (.goto 4, 3) := by decide +kernel
theorem dX3_has_26 : decode cX3_has 26 = .ok (.iconst 0, 1) := by decide +kernel
theorem dX3_has_27 : decode cX3_has 27 = .ok (.ireturn, 1) := by decide +kernel
theorem dX3_takeFrom_0 : decode cX3_takeFrom 0 = .ok (.iconst 0, 1) := by decide +kernel
theorem dX3_takeFrom_1 : decode cX3_takeFrom 1 = .ok (.istore 4, 2) := by decide +kernel
theorem dX3_takeFrom_3 : decode cX3_takeFrom 3 = .ok (.iload_n 2, 1) := by decide +kernel
theorem dX3_takeFrom_4 : decode cX3_takeFrom 4 = .ok (.istore 5, 2) := by decide +kernel
theorem dX3_takeFrom_6 : decode cX3_takeFrom 6 = .ok (.iload 5, 2) := by decide +kernel
theorem dX3_takeFrom_8 : decode cX3_takeFrom 8 = .ok (.iload_n 2, 1) := by decide +kernel
theorem dX3_takeFrom_9 : decode cX3_takeFrom 9 = .ok (.isub, 1) := by decide +kernel
theorem dX3_takeFrom_10 : decode cX3_takeFrom 10 = .ok (.iload_n 3, 1) := by decide +kernel
theorem dX3_takeFrom_11 : decode cX3_takeFrom 11 = .ok (.if_icmp .ge 61, 3) := by decide +kernel
theorem dX3_takeFrom_14 : decode cX3_takeFrom 14 = .ok (.iload 5, 2) := by decide +kernel
theorem dX3_takeFrom_16 : decode cX3_takeFrom 16 = .ok (.aload_n 0, 1) := by decide +kernel
theorem dX3_takeFrom_17 : decode cX3_takeFrom 17 = .ok (.getfield 15, 3) := by decide +kernel
theorem dX3_takeFrom_20 : decode cX3_takeFrom 20 = .ok (.if_icmp .ge 52, 3) := by decide +kernel
theorem dX3_takeFrom_23 : decode cX3_takeFrom 23 = .ok (.iload 5, 2) := by decide +kernel
theorem dX3_takeFrom_25 : decode cX3_takeFrom 25 = .ok (.aload_n 1, 1) := by decide +kernel
theorem dX3_takeFrom_26 : decode cX3_takeFrom 26 = .ok (.getfield 15, 3) := by decide +kernel
theorem dX3_takeFrom_29 : decode cX3_takeFrom 29 = .ok (.if_icmp .ge 43, 3) := by decide +kernel
theorem dX3_takeFrom_32 : decode cX3_takeFrom 32 = .ok (.aload_n 0, 1) := by decide +kernel
theorem dX3_takeFrom_33 : decode cX3_takeFrom 33 = .ok (.getfield 9, 3) := by decide +kernel
theorem dX3_takeFrom_36 : decode cX3_takeFrom 36 = .ok (.iload 5, 2) := by decide +kernel
theorem dX3_takeFrom_38 : decode cX3_takeFrom 38 = .ok (.baload, 1) := by decide +kernel
theorem dX3_takeFrom_39 : decode cX3_takeFrom 39 = .ok (.aload_n 1, 1) := by decide +kernel
theorem dX3_takeFrom_40 : decode cX3_takeFrom 40 = .ok (.getfield 9, 3) := by decide +kernel
theorem dX3_takeFrom_43 : decode cX3_takeFrom 43 = .ok (.iload 5, 2) := by decide +kernel
theorem dX3_takeFrom_45 : decode cX3_takeFrom 45 = .ok (.baload, 1) := by decide +kernel
theorem dX3_takeFrom_46 : decode cX3_takeFrom 46 = .ok (.if_icmp .eq 20, 3) := by decide +kernel
theorem dX3_takeFrom_49 : decode cX3_takeFrom 49 = .ok (.aload_n 0, 1) := by decide +kernel
theorem dX3_takeFrom_50 : decode cX3_takeFrom 50 = .ok (.getfield 9, 3) := by decide +kernel
theorem dX3_takeFrom_53 : decode cX3_takeFrom 53 = .ok (.iload 5, 2) := by decide +kernel
theorem dX3_takeFrom_55 : decode cX3_takeFrom 55 = .ok (.aload_n 1, 1) := by decide +kernel
theorem dX3_takeFrom_56 : decode cX3_takeFrom 56 = .ok (.getfield 9, 3) := by decide +kernel
theorem dX3_takeFrom_59 : decode cX3_takeFrom 59 = .ok (.iload 5, 2) := by decide +kernel
theorem dX3_takeFrom_61 : decode cX3_takeFrom 61 = .ok (.baload, 1) := by decide +kernel
theorem dX3_takeFrom_62 : decode cX3_takeFrom 62 = .ok (.bastore, 1) := by decide +kernel
theorem dX3_takeFrom_63 : decode cX3_takeFrom 63 = .ok (.iinc 4 1, 3) := by decide +kernel
theorem dX3_takeFrom_66 : decode cX3_takeFrom 66 = .ok (.iinc 5 1, 3) := by decide +kernel
theorem dX3_takeFrom_69 : decode cX3_takeFrom 69 = .ok (.goto (-63), 3) := by decide +kernel
theorem dX3_takeFrom_72 : decode cX3_takeFrom 72 = .ok (.iload 4, 2) := by decide +kernel
theorem dX3_takeFrom_74 : decode cX3_takeFrom 74 = .ok (.ireturn, 1) := by decide +kernel
set_option maxRecDepth 20000 in
theorem ggX4_init_Jx4a65c_init_da8c8 : GoodIn wsX4_init wsJx4a65c_init_da8c8 := goodIn_r _ [24, 25, 26, 27, 28, 29, 30, 31, 32, 33, 34, 35, 36, 2, 3, 53, 54, 55] (by decide +kernel) (by decide +kernel)
set_option maxRecDepth 20000 in
theorem gX4_init_Jx4a65c_init_da8c8 : GoodIn wsX4_init (wsJx4a65c_init_da8c8) := ggX4_init_Jx4a65c_init_da8c8
set_option maxRecDepth 20000 in
theorem ggX4_init_X3_init : GoodIn wsX4_init wsX3_init := goodIn_r _ [38, 39, 2, 3, 40, 41, 42, 56, 57] (by decide +kernel) (by decide +kernel)
set_option maxRecDepth 20000 in
theorem gX4_init_X3_init_n34 : GoodIn wsX4_init (wsX3_init) := ggX4_init_X3_init
theorem dX4_init_0 : decode cX4_init 0 = .ok (.aload_n 0, 1) := by decide +kernel
theorem dX4_init_1 : decode cX4_init 1 = .ok (.invokespecial 1, 3) := by decide +kernel
theorem dX4_init_4 : decode cX4_init 4 = .ok (.aload_n 0, 1) := by decide +kernel
theorem dX4_init_5 : decode cX4_init 5 = .ok (.bipush 60, 2) := by decide +kernel
theorem dX4_init_7 : decode cX4_init 7 = .ok (.newarray .int, 2) := by decide +kernel
theorem dX4_init_9 : decode cX4_init 9 = .ok (.putfield 9, 3) := by decide +kernel
theorem dX4_init_12 : decode cX4_init 12 = .ok (.aload_n 0, 1) := by decide +kernel
theorem dX4_init_13 : decode cX4_init 13 = .ok (.iconst 0, 1) := by decide +kernel
theorem dX4_init_14 : decode cX4_init 14 = .ok (.putfield 13, 3) := by decide +kernel
theorem dX4_init_17 : decode cX4_init 17 = .ok (.aload_n 0, 1) := by decide +kernel
theorem dX4_init_18 : decode cX4_init 18 = .ok (.new 17, 3) := by decide +kernel
theorem dX4_init_21 : decode cX4_init 21 = .ok (.dup, 1) := by decide +kernel
theorem dX4_init_22 : decode cX4_init 22 = .ok (.invokespecial 19, 3) := by decide +kernel
theorem dX4_init_25 : decode cX4_init 25 = .ok (.putfield 20, 3) := by decide +kernel
theorem dX4_init_28 : decode cX4_init 28 = .ok (.aload_n 0, 1) := by decide +kernel
theorem dX4_init_29 : decode cX4_init 29 = .ok (.new 17, 3) := by decide +kernel
theorem dX4_init_32 : decode cX4_init 32 = .ok (.dup, 1) := by decide +kernel
theorem dX4_init_33 : decode cX4_init 33 = .ok (.invokespecial 19, 3) := by decide +kernel
theorem dX4_init_36 : decode cX4_init 36 = .ok (.putfield 24, 3) := by decide +kernel
theorem dX4_init_39 : decode cX4_init 39 = .ok (.aload_n 0, 1) := by decide +kernel
theorem dX4_init_40 : decode cX4_init 40 = .ok (.bipush 24, 2) := by decide +kernel
theorem dX4_init_42 : decode cX4_init 42 = .ok (.bipush 24, 2) := by decide +kernel
theorem dX4_init_44 : decode cX4_init 44 = .ok (.multianewarray 27 2, 4) := by decide +kernel
theorem dX4_init_48 : decode cX4_init 48 = .ok (.putfield 29, 3) := by decide +kernel
theorem dX4_init_51 : decode cX4_init 51 = .ok (.aload_n 0, 1) := by decide +kernel
theorem dX4_init_52 : decode cX4_init 52 = .ok (.new 32, 3) := by decide +kernel
theorem dX4_init_55 : decode cX4_init 55 = .ok (.dup, 1) := by decide +kernel
theorem dX4_init_56 : decode cX4_init 56 = .ok (.invokespecial 34, 3) := by decide +kernel
theorem dX4_init_59 : decode cX4_init 59 = .ok (.putfield 35, 3) := by decide +kernel
theorem dX4_init_62 : decode cX4_init 62 = .ok (.aload_n 0, 1) := by decide +kernel
theorem dX4_init_63 : decode cX4_init 63 = .ok (.new 32, 3) := by decide +kernel
theorem dX4_init_66 : decode cX4_init 66 = .ok (.dup, 1) := by decide +kernel
theorem dX4_init_67 : decode cX4_init 67 = .ok (.invokespecial 34, 3) := by decide +kernel
theorem dX4_init_70 : decode cX4_init 70 = .ok (.putfield 39, 3) := by decide +kernel
theorem dX4_init_73 : decode cX4_init 73 = .ok (.aload_n 0, 1) := by decide +kernel
theorem dX4_init_74 : decode cX4_init 74 = .ok (.new 32, 3) := by decide +kernel
theorem dX4_init_77 : decode cX4_init 77 = .ok (.dup, 1) := by decide +kernel
theorem dX4_init_78 : decode cX4_init 78 = .ok (.invokespecial 34, 3) := by decide +kernel
theorem dX4_init_81 : decode cX4_init 81 = .ok (.putfield 42, 3) := by decide +kernel
theorem dX4_init_84 : decode cX4_init 84 = .ok (.aload_n 0, 1) := by decide +kernel
theorem dX4_init_85 : decode cX4_init 85 = .ok (.bipush 121, 2) := by decide +kernel
theorem dX4_init_87 : decode cX4_init 87 = .ok (.newarray .int, 2) := by decide +kernel
theorem dX4_init_89 : decode cX4_init 89 = .ok (.putfield 45, 3) := by decide +kernel
theorem dX4_init_92 : decode cX4_init 92 = .ok (.aload_n 0, 1) := by decide +kernel
theorem dX4_init_93 : decode cX4_init 93 = .ok (.bipush 121, 2) := by decide +kernel
theorem dX4_init_95 : decode cX4_init 95 = .ok (.newarray .int, 2) := by decide +kernel
theorem dX4_init_97 : decode cX4_init 97 = .ok (.putfield 48, 3) := by decide +kernel
theorem dX4_init_100 : decode cX4_init 100 = .ok (.return_, 1) := by decide +kernel
set_option maxRecDepth 20000 in
theorem ggX4_feed_X4_feedNumber : GoodIn wsX4_feed wsX4_feedNumber := goodIn_r _ [8, 3, 9, 10, 11, 12, 13, 14, 15, 16, 17, 18, 19] (by decide +kernel) (by decide +kernel)
set_option maxRecDepth 20000 in
theorem gX4_feed_X4_feedNumber : GoodIn wsX4_feed (wsV RX4 58 RX4 yX4_feedNumber wsX4_feedNumber) := goodIn_app (goodIn_of _ (by decide +kernel)) ggX4_feed_X4_feedNumber
theorem dX4_feed_0 : decode cX4_feed 0 = .ok (.aload_n 0, 1) := by decide +kernel
theorem dX4_feed_1 : decode cX4_feed 1 = .ok (.getfield 13, 3) := by decide +kernel
theorem dX4_feed_4 : decode cX4_feed 4 = .ok (.bipush 40, 2) := by decide +kernel
theorem dX4_feed_6 : decode cX4_feed 6 = .ok (.if_icmp .le 13, 3) := by decide +kernel
theorem dX4_feed_9 : decode cX4_feed 9 = .ok (.new 51, 3) := by decide +kernel
theorem dX4_feed_12 : decode cX4_feed 12 = .ok (.dup, 1) := by decide +kernel
theorem dX4_feed_13 : decode cX4_feed 13 = .ok (.ldc 53, 2) := by decide +kernel
theorem dX4_feed_15 : decode cX4_feed 15 = .ok (.invokespecial 55, 3) := by decide +kernel
theorem dX4_feed_18 : decode cX4_feed 18 = .ok (.athrow, 1) := by decide +kernel
theorem dX4_feed_19 : decode cX4_feed 19 = .ok (.aload_n 0, 1) := by decide +kernel
theorem dX4_feed_20 : decode cX4_feed 20 = .ok (.iload_n 1, 1) := by decide +kernel
theorem dX4_feed_21 : decode cX4_feed 21 = .ok (.invokevirtual 58, 3) := by decide +kernel
theorem dX4_feed_24 : decode cX4_feed 24 = .ok (.aload_n 0, 1) := by decide +kernel
theorem dX4_feed_25 : decode cX4_feed 25 = .ok (.iload_n 2, 1) := by decide +kernel
theorem dX4_feed_26 : decode cX4_feed 26 = .ok (.invokevirtual 58, 3) := by decide +kernel
theorem dX4_feed_29 : decode cX4_feed 29 = .ok (.aload_n 0, 1) := by decide +kernel
theorem dX4_feed_30 : decode cX4_feed 30 = .ok (.iload_n 3, 1) := by decide +kernel
theorem dX4_feed_31 : decode cX4_feed 31 = .ok (.invokevirtual 58, 3) := by decide +kernel
theorem dX4_feed_34 : decode cX4_feed 34 = .ok (.aload_n 0, 1) := by decide +kernel
theorem dX4_feed_35 : decode cX4_feed 35 = .ok (.iload 4, 2) := by decide +kernel
theorem dX4_feed_37 : decode cX4_feed 37 = .ok (.invokevirtual 58, 3) := by decide +kernel
theorem dX4_feed_40 : decode cX4_feed 40 = .ok (.aload_n 0, 1) := by decide +kernel
theorem dX4_feed_41 : decode cX4_feed 41 = .ok (.iload 5, 2) := by decide +kernel
theorem dX4_feed_43 : decode cX4_feed 43 = .ok (.invokevirtual 58, 3) := by decide +kernel
theorem dX4_feed_46 : decode cX4_feed 46 = .ok (.aload_n 0, 1) := by decide +kernel
theorem dX4_feed_47 : decode cX4_feed 47 = .ok (.getfield 13, 3) := by decide +kernel
theorem dX4_feed_50 : decode cX4_feed 50 = .ok (.ireturn, 1) := by decide +kernel
theorem dX4_trim_0 : decode cX4_trim 0 = .ok (.iload_n 1, 1) := by decide +kernel
theorem dX4_trim_1 : decode cX4_trim 1 = .ok (.ifCond .lt 11, 3) := by decide +kernel
theorem dX4_trim_4 : decode cX4_trim 4 = .ok (.iload_n 1, 1) := by decide +kernel
theorem dX4_trim_5 : decode cX4_trim 5 = .ok (.aload_n 0, 1) := by decide +kernel
theorem dX4_trim_6 : decode cX4_trim 6 = .ok (.getfield 13, 3) := by decide +kernel
theorem dX4_trim_9 : decode cX4_trim 9 = .ok (.if_icmp .le 13, 3) := by decide +kernel
theorem dX4_trim_12 : decode cX4_trim 12 = .ok (.new 62, 3) := by decide +kernel
theorem dX4_trim_15 : decode cX4_trim 15 = .ok (.dup, 1) := by decide +kernel
theorem dX4_trim_16 : decode cX4_trim 16 = .ok (.ldc 64, 2) := by decide +kernel
theorem dX4_trim_18 : decode cX4_trim 18 = .ok (.invokespecial 66, 3) := by decide +kernel
theorem dX4_trim_21 : decode cX4_trim 21 = .ok (.athrow, 1) := by decide +kernel
theorem dX4_trim_22 : decode cX4_trim 22 = .ok (.aload_n 0, 1) := by decide +kernel
theorem dX4_trim_23 : decode cX4_trim 23 = .ok (.iload_n 1, 1) := by decide +kernel
theorem dX4_trim_24 : decode cX4_trim 24 = .ok (.putfield 13, 3) := by decide +kernel
theorem dX4_trim_27 : decode cX4_trim 27 = .ok (.iload_n 1, 1) := by decide +kernel
theorem dX4_trim_28 : decode cX4_trim 28 = .ok (.ireturn, 1) := by decide +kernel
set_option maxRecDepth 20000 in
theorem ggX4_write_Jx4a65c_size_8abf5 : GoodIn wsX4_write wsJx4a65c_size_8abf5 := goodIn_r _ [9, 10, 132, 133, 134] (by decide +kernel) (by decide +kernel)
set_option maxRecDepth 20000 in
theorem gX4_write_Jx4a65c_size_8abf5 : GoodIn wsX4_write (wsV RX4 67 RJx4a65c yJx4a65c_size_8abf5 wsJx4a65c_size_8abf5) := goodIn_app (goodIn_of _ (by decide +kernel)) ggX4_write_Jx4a65c_size_8abf5
set_option maxRecDepth 20000 in
theorem ggX4_write_X4_tapeIsText : GoodIn wsX4_write wsX4_tapeIsText := goodIn_r _ [15, 4, 16, 17, 18, 14, 19, 122, 123, 124, 125, 126, 127, 128, 129, 130, 131] (by decide +kernel) (by decide +kernel)
set_option maxRecDepth 20000 in
theorem gX4_write_X4_tapeIsText : GoodIn wsX4_write (wsV RX4 73 RX4 yX4_tapeIsText wsX4_tapeIsText) := goodIn_app (goodIn_of _ (by decide +kernel)) ggX4_write_X4_tapeIsText
set_option maxRecDepth 20000 in
theorem ggX4_write_X4_draftFromTape : GoodIn wsX4_write wsX4_draftFromTape := goodIn_r _ [23, 24, 25, 4, 16, 26, 27, 28, 29, 30, 31, 32, 122, 123, 124, 125, 126, 127, 128, 129, 130, 131, 135, 136] (by decide +kernel) (by decide +kernel)
set_option maxRecDepth 20000 in
theorem gX4_write_X4_draftFromTape : GoodIn wsX4_write (wsV RX4 77 RX4 yX4_draftFromTape wsX4_draftFromTape) := goodIn_app (goodIn_of _ (by decide +kernel)) ggX4_write_X4_draftFromTape
set_option maxRecDepth 20000 in
theorem ggX4_write_X4_keepDraft : GoodIn wsX4_write wsX4_keepDraft := goodIn_r _ [36, 3, 37, 38, 39, 24, 5, 6, 7, 8, 9, 10, 40, 41, 42, 43, 44, 45, 46, 47, 29, 48, 49, 50, 51, 52, 53, 54, 55, 56, 57, 32, 31, 58, 59, 60, 61, 62, 63, 64, 65, 66, 67, 68, 69, 70, 71, 72, 73, 74, 75, 76, 77, 78, 79, 80, 81, 82, 83, 84, 85, 86, 87, 88, 89, 90, 91, 92, 93, 94, 95, 96, 97, 98, 99, 100, 101, 102, 103, 104, 105, 106, 107, 108, 109, 110, 111, 112, 113, 114, 115, 116, 117, 118, 119, 14, 120, 121, 122, 123, 124, 125, 126, 127, 128, 129, 130, 131, 137, 138, 139, 140, 141, 142, 132, 133, 134, 135, 136] (by decide +kernel) (by decide +kernel)
set_option maxRecDepth 20000 in
theorem gX4_write_X4_keepDraft : GoodIn wsX4_write (wsV RX4 80 RX4 yX4_keepDraft wsX4_keepDraft) := goodIn_app (goodIn_of _ (by decide +kernel)) ggX4_write_X4_keepDraft
theorem dX4_write_0 : decode cX4_write 0 = .ok (.aload_n 0, 1) := by decide +kernel
theorem dX4_write_1 : decode cX4_write 1 = .ok (.getfield 20, 3) := by decide +kernel
theorem dX4_write_4 : decode cX4_write 4 = .ok (.invokevirtual 67, 3) := by decide +kernel
theorem dX4_write_7 : decode cX4_write 7 = .ok (.bipush 24, 2) := by decide +kernel
theorem dX4_write_9 : decode cX4_write 9 = .ok (.if_icmp .lt 13, 3) := by decide +kernel
theorem dX4_write_12 : decode cX4_write 12 = .ok (.new 51, 3) := by decide +kernel
theorem dX4_write_15 : decode cX4_write 15 = .ok (.dup, 1) := by decide +kernel
theorem dX4_write_16 : decode cX4_write 16 = .ok (.ldc 71, 2) := by decide +kernel
theorem dX4_write_18 : decode cX4_write 18 = .ok (.invokespecial 55, 3) := by decide +kernel
theorem dX4_write_21 : decode cX4_write 21 = .ok (.athrow, 1) := by decide +kernel
theorem dX4_write_22 : decode cX4_write 22 = .ok (.aload_n 0, 1) := by decide +kernel
theorem dX4_write_23 : decode cX4_write 23 = .ok (.invokevirtual 73, 3) := by decide +kernel
theorem dX4_write_26 : decode cX4_write 26 = .ok (.istore_n 1, 1) := by decide +kernel
theorem dX4_write_27 : decode cX4_write 27 = .ok (.iload_n 1, 1) := by decide +kernel
theorem dX4_write_28 : decode cX4_write 28 = .ok (.ifCond .eq 7, 3) := by decide +kernel
theorem dX4_write_31 : decode cX4_write 31 = .ok (.aload_n 0, 1) := by decide +kernel
theorem dX4_write_32 : decode cX4_write 32 = .ok (.invokevirtual 77, 3) := by decide +kernel
theorem dX4_write_35 : decode cX4_write 35 = .ok (.aload_n 0, 1) := by decide +kernel
theorem dX4_write_36 : decode cX4_write 36 = .ok (.iconst 0, 1) := by decide +kernel
theorem dX4_write_37 : decode cX4_write 37 = .ok (.putfield 13, 3) := by decide +kernel
theorem dX4_write_40 : decode cX4_write 40 = .ok (.iload_n 1, 1) := by decide +kernel
theorem dX4_write_41 : decode cX4_write 41 = .ok (.ifCond .eq 12, 3) := by decide +kernel
theorem dX4_write_44 : decode cX4_write 44 = .ok (.aload_n 0, 1) := by decide +kernel
theorem dX4_write_45 : decode cX4_write 45 = .ok (.aconst_null, 1) := by decide +kernel
theorem dX4_write_46 : decode cX4_write 46 = .ok (.iconst (-1), 1) := by decide +kernel
theorem dX4_write_47 : decode cX4_write 47 = .ok (.invokevirtual 80, 3) := by decide +kernel
theorem dX4_write_50 : decode cX4_write 50 = .ok (.goto 4, 3) := by decide +kernel
theorem dX4_write_53 : decode cX4_write 53 = .ok (.iconst (-1), 1) := by decide +kernel
theorem dX4_write_54 : decode cX4_write 54 = .ok (.ireturn, 1) := by decide +kernel
set_option maxRecDepth 20000 in
theorem ggX4_letter_X4_manuscriptOf : GoodIn wsX4_letter wsX4_manuscriptOf := goodIn_ca (goodIn_r _ [10, 1, 2, 11, 12, 13, 14, 15, 16, 17, 18, 19, 20, 21, 22, 23, 24, 25, 26, 27, 28, 29, 30, 31, 32, 33, 34, 35, 44, 45, 46, 47, 48, 49, 50, 51, 52, 53, 54, 55, 56] (by decide +kernel) (by decide +kernel)) (goodIn_sub (fun _ h => List.mem_cons_of_mem _ (List.mem_append_right _ h)) (by decide +kernel))
set_option maxRecDepth 20000 in
theorem gX4_letter_X4_manuscriptOf : GoodIn wsX4_letter (wsV RX4 84 RX4 yX4_manuscriptOf wsX4_manuscriptOf) := goodIn_app (goodIn_of _ (by decide +kernel)) ggX4_letter_X4_manuscriptOf
theorem dX4_letter_0 : decode cX4_letter 0 = .ok (.aload_n 0, 1) := by decide +kernel
theorem dX4_letter_1 : decode cX4_letter 1 = .ok (.iload_n 1, 1) := by decide +kernel
theorem dX4_letter_2 : decode cX4_letter 2 = .ok (.invokevirtual 84, 3) := by decide +kernel
theorem dX4_letter_5 : decode cX4_letter 5 = .ok (.getfield 88, 3) := by decide +kernel
theorem dX4_letter_8 : decode cX4_letter 8 = .ok (.astore_n 3, 1) := by decide +kernel
theorem dX4_letter_9 : decode cX4_letter 9 = .ok (.iload_n 2, 1) := by decide +kernel
theorem dX4_letter_10 : decode cX4_letter 10 = .ok (.ifCond .lt 11, 3) := by decide +kernel
theorem dX4_letter_13 : decode cX4_letter 13 = .ok (.iload_n 2, 1) := by decide +kernel
theorem dX4_letter_14 : decode cX4_letter 14 = .ok (.aload_n 3, 1) := by decide +kernel
theorem dX4_letter_15 : decode cX4_letter 15 = .ok (.getfield 93, 3) := by decide +kernel
theorem dX4_letter_18 : decode cX4_letter 18 = .ok (.if_icmp .lt 13, 3) := by decide +kernel
theorem dX4_letter_21 : decode cX4_letter 21 = .ok (.new 96, 3) := by decide +kernel
theorem dX4_letter_24 : decode cX4_letter 24 = .ok (.dup, 1) := by decide +kernel
theorem dX4_letter_25 : decode cX4_letter 25 = .ok (.ldc 98, 2) := by decide +kernel
theorem dX4_letter_27 : decode cX4_letter 27 = .ok (.invokespecial 100, 3) := by decide +kernel
theorem dX4_letter_30 : decode cX4_letter 30 = .ok (.athrow, 1) := by decide +kernel
theorem dX4_letter_31 : decode cX4_letter 31 = .ok (.aload_n 3, 1) := by decide +kernel
theorem dX4_letter_32 : decode cX4_letter 32 = .ok (.getfield 101, 3) := by decide +kernel
theorem dX4_letter_35 : decode cX4_letter 35 = .ok (.iload_n 2, 1) := by decide +kernel
theorem dX4_letter_36 : decode cX4_letter 36 = .ok (.baload, 1) := by decide +kernel
theorem dX4_letter_37 : decode cX4_letter 37 = .ok (.ireturn, 1) := by decide +kernel
set_option maxRecDepth 20000 in
theorem ggX4_addScribe_Jx4a65c_size_8abf5 : GoodIn wsX4_addScribe wsJx4a65c_size_8abf5 := goodIn_r _ [11, 12, 99, 100, 101] (by decide +kernel) (by decide +kernel)
set_option maxRecDepth 20000 in
theorem gX4_addScribe_Jx4a65c_size_8abf5 : GoodIn wsX4_addScribe (wsV RX4 67 RJx4a65c yJx4a65c_size_8abf5 wsJx4a65c_size_8abf5) := goodIn_app (goodIn_of _ (by decide +kernel)) ggX4_addScribe_Jx4a65c_size_8abf5
set_option maxRecDepth 20000 in
theorem ggX4_addScribe_X2_init : GoodIn wsX4_addScribe wsX2_init := goodIn_r _ [14, 15, 16, 17, 18, 19, 10, 20, 21, 22, 23, 24, 25, 26, 27, 28, 29, 30, 31, 32, 33, 34, 35, 99, 100, 101, 98] (by decide +kernel) (by decide +kernel)
set_option maxRecDepth 20000 in
theorem gX4_addScribe_X2_init_n109 : GoodIn wsX4_addScribe (wsX2_init) := ggX4_addScribe_X2_init
set_option maxRecDepth 20000 in
theorem ggX4_addScribe_Jx4a65c_add_9ea2d : GoodIn wsX4_addScribe wsJx4a65c_add_9ea2d := goodIn_r _ [39, 40, 41, 25, 12, 42, 43, 44, 10, 45, 46, 47, 48, 49, 50, 51, 52, 53, 24, 54, 55, 56, 57, 58, 59, 60, 61, 62, 63, 64, 65, 66, 67, 68, 69, 70, 71, 72, 73, 74, 75, 76, 77, 78, 79, 80, 81, 82, 83, 84, 85, 86, 87, 99, 100, 101] (by decide +kernel) (by decide +kernel)
set_option maxRecDepth 20000 in
theorem gX4_addScribe_Jx4a65c_add_9ea2d : GoodIn wsX4_addScribe (wsV RX4 110 RJx4a65c yJx4a65c_add_9ea2d wsJx4a65c_add_9ea2d) := goodIn_app (goodIn_of _ (by decide +kernel)) ggX4_addScribe_Jx4a65c_add_9ea2d
theorem dX4_addScribe_0 : decode cX4_addScribe 0 = .ok (.aload_n 0, 1) := by decide +kernel
theorem dX4_addScribe_1 : decode cX4_addScribe 1 = .ok (.getfield 24, 3) := by decide +kernel
theorem dX4_addScribe_4 : decode cX4_addScribe 4 = .ok (.invokevirtual 67, 3) := by decide +kernel
theorem dX4_addScribe_7 : decode cX4_addScribe 7 = .ok (.bipush 8, 2) := by decide +kernel
theorem dX4_addScribe_9 : decode cX4_addScribe 9 = .ok (.if_icmp .lt 13, 3) := by decide +kernel
theorem dX4_addScribe_12 : decode cX4_addScribe 12 = .ok (.new 51, 3) := by decide +kernel
theorem dX4_addScribe_15 : decode cX4_addScribe 15 = .ok (.dup, 1) := by decide +kernel
theorem dX4_addScribe_16 : decode cX4_addScribe 16 = .ok (.ldc 105, 2) := by decide +kernel
theorem dX4_addScribe_18 : decode cX4_addScribe 18 = .ok (.invokespecial 55, 3) := by decide +kernel
theorem dX4_addScribe_21 : decode cX4_addScribe 21 = .ok (.athrow, 1) := by decide +kernel
theorem dX4_addScribe_22 : decode cX4_addScribe 22 = .ok (.aload_n 0, 1) := by decide +kernel
theorem dX4_addScribe_23 : decode cX4_addScribe 23 = .ok (.getfield 24, 3) := by decide +kernel
theorem dX4_addScribe_26 : decode cX4_addScribe 26 = .ok (.new 107, 3) := by decide +kernel
theorem dX4_addScribe_29 : decode cX4_addScribe 29 = .ok (.dup, 1) := by decide +kernel
theorem dX4_addScribe_30 : decode cX4_addScribe 30 = .ok (.invokespecial 109, 3) := by decide +kernel
theorem dX4_addScribe_33 : decode cX4_addScribe 33 = .ok (.invokevirtual 110, 3) := by decide +kernel
theorem dX4_addScribe_36 : decode cX4_addScribe 36 = .ok (.pop, 1) := by decide +kernel
theorem dX4_addScribe_37 : decode cX4_addScribe 37 = .ok (.aload_n 0, 1) := by decide +kernel
theorem dX4_addScribe_38 : decode cX4_addScribe 38 = .ok (.getfield 24, 3) := by decide +kernel
theorem dX4_addScribe_41 : decode cX4_addScribe 41 = .ok (.invokevirtual 67, 3) := by decide +kernel
theorem dX4_addScribe_44 : decode cX4_addScribe 44 = .ok (.iconst 1, 1) := by decide +kernel
theorem dX4_addScribe_45 : decode cX4_addScribe 45 = .ok (.isub, 1) := by decide +kernel
theorem dX4_addScribe_46 : decode cX4_addScribe 46 = .ok (.ireturn, 1) := by decide +kernel
set_option maxRecDepth 20000 in
theorem ggX4_addHabit_X4_scribeOf : GoodIn wsX4_addHabit wsX4_scribeOf := goodIn_ca (goodIn_r _ [13, 14, 15, 16, 17, 18, 19, 20, 21, 22, 23, 24, 25, 26, 27, 28, 29, 30, 31, 32, 33, 34, 35, 36, 37, 38, 39, 40, 112, 113, 114, 115, 116, 117, 118, 119, 120, 121, 122, 123, 124] (by decide +kernel) (by decide +kernel)) (goodIn_sub (fun _ h => List.mem_cons_of_mem _ (List.mem_append_right _ h)) (by decide +kernel))
set_option maxRecDepth 20000 in
theorem gX4_addHabit_X4_scribeOf : GoodIn wsX4_addHabit (wsV RX4 114 RX4 yX4_scribeOf wsX4_scribeOf) := goodIn_app (goodIn_of _ (by decide +kernel)) ggX4_addHabit_X4_scribeOf
set_option maxRecDepth 20000 in
theorem ggX4_addHabit_X4_isLetter : GoodIn wsX4_addHabit wsX4_isLetter := goodIn_r _ [43] (by decide +kernel) (by decide +kernel)
set_option maxRecDepth 20000 in
theorem gX4_addHabit_X4_isLetter : GoodIn wsX4_addHabit (va_wsS RX4 120 yX4_isLetter wsX4_isLetter) := goodIn_app (goodIn_of _ (by decide +kernel)) ggX4_addHabit_X4_isLetter
set_option maxRecDepth 20000 in
theorem ggX4_addHabit_Jx4a65c_size_8abf5 : GoodIn wsX4_addHabit wsJx4a65c_size_8abf5 := goodIn_r _ [22, 23, 122, 123, 124] (by decide +kernel) (by decide +kernel)
set_option maxRecDepth 20000 in
theorem gX4_addHabit_Jx4a65c_size_8abf5 : GoodIn wsX4_addHabit (wsV RX4 67 RJx4a65c yJx4a65c_size_8abf5 wsJx4a65c_size_8abf5) := goodIn_app (goodIn_of _ (by decide +kernel)) ggX4_addHabit_Jx4a65c_size_8abf5
set_option maxRecDepth 20000 in
theorem ggX4_addHabit_X0_init : GoodIn wsX4_addHabit wsX0_init := goodIn_r _ [46, 47, 48, 49, 50, 51, 52, 53, 108, 109, 110, 111] (by decide +kernel) (by decide +kernel)
set_option maxRecDepth 20000 in
theorem gX4_addHabit_X0_init : GoodIn wsX4_addHabit (wsX0_init) := ggX4_addHabit_X0_init
set_option maxRecDepth 20000 in
theorem ggX4_addHabit_Jx4a65c_add_9ea2d : GoodIn wsX4_addHabit wsJx4a65c_add_9ea2d := goodIn_r _ [57, 58, 59, 40, 23, 60, 61, 62, 21, 63, 64, 65, 66, 67, 68, 69, 70, 71, 72, 73, 74, 75, 76, 77, 78, 79, 80, 81, 82, 83, 84, 85, 86, 87, 88, 89, 90, 91, 92, 93, 94, 95, 96, 97, 98, 99, 100, 101, 102, 103, 104, 105, 106, 122, 123, 124] (by decide +kernel) (by decide +kernel)
set_option maxRecDepth 20000 in
theorem gX4_addHabit_Jx4a65c_add_9ea2d : GoodIn wsX4_addHabit (wsV RX4 110 RJx4a65c yJx4a65c_add_9ea2d wsJx4a65c_add_9ea2d) := goodIn_app (goodIn_of _ (by decide +kernel)) ggX4_addHabit_Jx4a65c_add_9ea2d
theorem dX4_addHabit_0 : decode cX4_addHabit 0 = .ok (.aload_n 0, 1) := by decide +kernel
theorem dX4_addHabit_1 : decode cX4_addHabit 1 = .ok (.iload_n 1, 1) := by decide +kernel
theorem dX4_addHabit_2 : decode cX4_addHabit 2 = .ok (.invokevirtual 114, 3) := by decide +kernel
theorem dX4_addHabit_5 : decode cX4_addHabit 5 = .ok (.astore 6, 2) := by decide +kernel
theorem dX4_addHabit_7 : decode cX4_addHabit 7 = .ok (.iload_n 2, 1) := by decide +kernel
theorem dX4_addHabit_8 : decode cX4_addHabit 8 = .ok (.ifCond .lt 8, 3) := by decide +kernel
theorem dX4_addHabit_11 : decode cX4_addHabit 11 = .ok (.iload_n 2, 1) := by decide +kernel
theorem dX4_addHabit_12 : decode cX4_addHabit 12 = .ok (.iconst 4, 1) := by decide +kernel
theorem dX4_addHabit_13 : decode cX4_addHabit 13 = .ok (.if_icmp .le 13, 3) := by decide +kernel
theorem dX4_addHabit_16 : decode cX4_addHabit 16 = .ok (.new 62, 3) := by decide +kernel
theorem dX4_addHabit_19 : decode cX4_addHabit 19 = .ok (.dup, 1) := by decide +kernel
theorem dX4_addHabit_20 : decode cX4_addHabit 20 = .ok (.ldc 118, 2) := by decide +kernel
theorem dX4_addHabit_22 : decode cX4_addHabit 22 = .ok (.invokespecial 66, 3) := by decide +kernel
theorem dX4_addHabit_25 : decode cX4_addHabit 25 = .ok (.athrow, 1) := by decide +kernel
theorem dX4_addHabit_26 : decode cX4_addHabit 26 = .ok (.iload_n 3, 1) := by decide +kernel
theorem dX4_addHabit_27 : decode cX4_addHabit 27 = .ok (.invokestatic 120, 3) := by decide +kernel
theorem dX4_addHabit_30 : decode cX4_addHabit 30 = .ok (.ifCond .eq 11, 3) := by decide +kernel
theorem dX4_addHabit_33 : decode cX4_addHabit 33 = .ok (.iload 4, 2) := by decide +kernel
theorem dX4_addHabit_35 : decode cX4_addHabit 35 = .ok (.invokestatic 120, 3) := by decide +kernel
theorem dX4_addHabit_38 : decode cX4_addHabit 38 = .ok (.ifCond .ne 13, 3) := by decide +kernel
theorem dX4_addHabit_41 : decode cX4_addHabit 41 = .ok (.new 62, 3) := by decide +kernel
theorem dX4_addHabit_44 : decode cX4_addHabit 44 = .ok (.dup, 1) := by decide +kernel
theorem dX4_addHabit_45 : decode cX4_addHabit 45 = .ok (.ldc 124, 2) := by decide +kernel
theorem dX4_addHabit_47 : decode cX4_addHabit 47 = .ok (.invokespecial 66, 3) := by decide +kernel
theorem dX4_addHabit_50 : decode cX4_addHabit 50 = .ok (.athrow, 1) := by decide +kernel
theorem dX4_addHabit_51 : decode cX4_addHabit 51 = .ok (.iload 5, 2) := by decide +kernel
theorem dX4_addHabit_53 : decode cX4_addHabit 53 = .ok (.iconst 1, 1) := by decide +kernel
theorem dX4_addHabit_54 : decode cX4_addHabit 54 = .ok (.if_icmp .lt 10, 3) := by decide +kernel
theorem dX4_addHabit_57 : decode cX4_addHabit 57 = .ok (.iload 5, 2) := by decide +kernel
theorem dX4_addHabit_59 : decode cX4_addHabit 59 = .ok (.bipush 9, 2) := by decide +kernel
theorem dX4_addHabit_61 : decode cX4_addHabit 61 = .ok (.if_icmp .le 13, 3) := by decide +kernel
theorem dX4_addHabit_64 : decode cX4_addHabit 64 = .ok (.new 62, 3) := by decide +kernel
theorem dX4_addHabit_67 : decode cX4_addHabit 67 = .ok (.dup, 1) := by decide +kernel
theorem dX4_addHabit_68 : decode cX4_addHabit 68 = .ok (.ldc 126, 2) := by decide +kernel
theorem dX4_addHabit_70 : decode cX4_addHabit 70 = .ok (.invokespecial 66, 3) := by decide +kernel
theorem dX4_addHabit_73 : decode cX4_addHabit 73 = .ok (.athrow, 1) := by decide +kernel
theorem dX4_addHabit_74 : decode cX4_addHabit 74 = .ok (.aload 6, 2) := by decide +kernel
theorem dX4_addHabit_76 : decode cX4_addHabit 76 = .ok (.getfield 128, 3) := by decide +kernel
theorem dX4_addHabit_79 : decode cX4_addHabit 79 = .ok (.invokevirtual 67, 3) := by decide +kernel
theorem dX4_addHabit_82 : decode cX4_addHabit 82 = .ok (.iconst 5, 1) := by decide +kernel
theorem dX4_addHabit_83 : decode cX4_addHabit 83 = .ok (.if_icmp .lt 13, 3) := by decide +kernel
theorem dX4_addHabit_86 : decode cX4_addHabit 86 = .ok (.new 51, 3) := by decide +kernel
theorem dX4_addHabit_89 : decode cX4_addHabit 89 = .ok (.dup, 1) := by decide +kernel
theorem dX4_addHabit_90 : decode cX4_addHabit 90 = .ok (.ldc 131, 2) := by decide +kernel
theorem dX4_addHabit_92 : decode cX4_addHabit 92 = .ok (.invokespecial 55, 3) := by decide +kernel
theorem dX4_addHabit_95 : decode cX4_addHabit 95 = .ok (.athrow, 1) := by decide +kernel
theorem dX4_addHabit_96 : decode cX4_addHabit 96 = .ok (.aload 6, 2) := by decide +kernel
theorem dX4_addHabit_98 : decode cX4_addHabit 98 = .ok (.getfield 128, 3) := by decide +kernel
theorem dX4_addHabit_101 : decode cX4_addHabit 101 = .ok (.new 133, 3) := by decide +kernel
theorem dX4_addHabit_104 : decode cX4_addHabit 104 = .ok (.dup, 1) := by decide +kernel
theorem dX4_addHabit_105 : decode cX4_addHabit 105 = .ok (.iload_n 2, 1) := by decide +kernel
theorem dX4_addHabit_106 : decode cX4_addHabit 106 = .ok (.iload_n 3, 1) := by decide +kernel
theorem dX4_addHabit_107 : decode cX4_addHabit 107 = .ok (.iload 4, 2) := by decide +kernel
theorem dX4_addHabit_109 : decode cX4_addHabit 109 = .ok (.iload 5, 2) := by decide +kernel
theorem dX4_addHabit_111 : decode cX4_addHabit 111 = .ok (.invokespecial 135, 3) := by decide +kernel
theorem dX4_addHabit_114 : decode cX4_addHabit 114 = .ok (.invokevirtual 110, 3) := by decide +kernel
theorem dX4_addHabit_117 : decode cX4_addHabit 117 = .ok (.pop, 1) := by decide +kernel
theorem dX4_addHabit_118 : decode cX4_addHabit 118 = .ok (.aload 6, 2) := by decide +kernel
theorem dX4_addHabit_120 : decode cX4_addHabit 120 = .ok (.getfield 128, 3) := by decide +kernel
theorem dX4_addHabit_123 : decode cX4_addHabit 123 = .ok (.invokevirtual 67, 3) := by decide +kernel
theorem dX4_addHabit_126 : decode cX4_addHabit 126 = .ok (.ireturn, 1) := by decide +kernel
set_option maxRecDepth 20000 in
theorem ggX4_dropHabit_X4_scribeOf : GoodIn wsX4_dropHabit wsX4_scribeOf := goodIn_ca (goodIn_r _ [8, 1, 2, 9, 10, 11, 12, 13, 14, 15, 16, 17, 18, 19, 20, 21, 22, 23, 24, 25, 26, 27, 28, 29, 30, 31, 32, 33, 49, 50, 51, 52, 53, 54, 55, 56, 57, 58, 59, 60, 61] (by decide +kernel) (by decide +kernel)) (goodIn_sub (fun _ h => List.mem_cons_of_mem _ (List.mem_append_right _ h)) (by decide +kernel))
set_option maxRecDepth 20000 in
theorem gX4_dropHabit_X4_scribeOf : GoodIn wsX4_dropHabit (wsV RX4 114 RX4 yX4_scribeOf wsX4_scribeOf) := goodIn_app (goodIn_of _ (by decide +kernel)) ggX4_dropHabit_X4_scribeOf
set_option maxRecDepth 20000 in
theorem ggX4_dropHabit_Jx4a65c_size_8abf5 : GoodIn wsX4_dropHabit wsJx4a65c_size_8abf5 := goodIn_r _ [15, 16, 59, 60, 61] (by decide +kernel) (by decide +kernel)
set_option maxRecDepth 20000 in
theorem gX4_dropHabit_Jx4a65c_size_8abf5 : GoodIn wsX4_dropHabit (wsV RX4 67 RJx4a65c yJx4a65c_size_8abf5 wsJx4a65c_size_8abf5) := goodIn_app (goodIn_of _ (by decide +kernel)) ggX4_dropHabit_Jx4a65c_size_8abf5
set_option maxRecDepth 20000 in
theorem ggX4_dropHabit_Jx4a65c_remove_915e3 : GoodIn wsX4_dropHabit wsJx4a65c_remove_915e3 := goodIn_r _ [37, 16, 33, 21, 22, 23, 24, 25, 26, 27, 28, 38, 39, 40, 14, 41, 42, 43, 44, 45, 46, 47, 59, 60, 61] (by decide +kernel) (by decide +kernel)
set_option maxRecDepth 20000 in
theorem gX4_dropHabit_Jx4a65c_remove_915e3 : GoodIn wsX4_dropHabit (wsV RX4 140 RJx4a65c yJx4a65c_remove_915e3 wsJx4a65c_remove_915e3) := goodIn_app (goodIn_of _ (by decide +kernel)) ggX4_dropHabit_Jx4a65c_remove_915e3
theorem dX4_dropHabit_0 : decode cX4_dropHabit 0 = .ok (.aload_n 0, 1) := by decide +kernel
theorem dX4_dropHabit_1 : decode cX4_dropHabit 1 = .ok (.iload_n 1, 1) := by decide +kernel
theorem dX4_dropHabit_2 : decode cX4_dropHabit 2 = .ok (.invokevirtual 114, 3) := by decide +kernel
theorem dX4_dropHabit_5 : decode cX4_dropHabit 5 = .ok (.astore_n 3, 1) := by decide +kernel
theorem dX4_dropHabit_6 : decode cX4_dropHabit 6 = .ok (.iload_n 2, 1) := by decide +kernel
theorem dX4_dropHabit_7 : decode cX4_dropHabit 7 = .ok (.ifCond .lt 14, 3) := by decide +kernel
theorem dX4_dropHabit_10 : decode cX4_dropHabit 10 = .ok (.iload_n 2, 1) := by decide +kernel
theorem dX4_dropHabit_11 : decode cX4_dropHabit 11 = .ok (.aload_n 3, 1) := by decide +kernel
theorem dX4_dropHabit_12 : decode cX4_dropHabit 12 = .ok (.getfield 128, 3) := by decide +kernel
theorem dX4_dropHabit_15 : decode cX4_dropHabit 15 = .ok (.invokevirtual 67, 3) := by decide +kernel
theorem dX4_dropHabit_18 : decode cX4_dropHabit 18 = .ok (.if_icmp .lt 13, 3) := by decide +kernel
theorem dX4_dropHabit_21 : decode cX4_dropHabit 21 = .ok (.new 96, 3) := by decide +kernel
theorem dX4_dropHabit_24 : decode cX4_dropHabit 24 = .ok (.dup, 1) := by decide +kernel
theorem dX4_dropHabit_25 : decode cX4_dropHabit 25 = .ok (.ldc 138, 2) := by decide +kernel
theorem dX4_dropHabit_27 : decode cX4_dropHabit 27 = .ok (.invokespecial 100, 3) := by decide +kernel
theorem dX4_dropHabit_30 : decode cX4_dropHabit 30 = .ok (.athrow, 1) := by decide +kernel
theorem dX4_dropHabit_31 : decode cX4_dropHabit 31 = .ok (.aload_n 3, 1) := by decide +kernel
theorem dX4_dropHabit_32 : decode cX4_dropHabit 32 = .ok (.getfield 128, 3) := by decide +kernel
theorem dX4_dropHabit_35 : decode cX4_dropHabit 35 = .ok (.iload_n 2, 1) := by decide +kernel
theorem dX4_dropHabit_36 : decode cX4_dropHabit 36 = .ok (.invokevirtual 140, 3) := by decide +kernel
theorem dX4_dropHabit_39 : decode cX4_dropHabit 39 = .ok (.pop, 1) := by decide +kernel
theorem dX4_dropHabit_40 : decode cX4_dropHabit 40 = .ok (.aload_n 3, 1) := by decide +kernel
theorem dX4_dropHabit_41 : decode cX4_dropHabit 41 = .ok (.getfield 128, 3) := by decide +kernel
theorem dX4_dropHabit_44 : decode cX4_dropHabit 44 = .ok (.invokevirtual 67, 3) := by decide +kernel
theorem dX4_dropHabit_47 : decode cX4_dropHabit 47 = .ok (.ireturn, 1) := by decide +kernel
set_option maxRecDepth 20000 in
theorem ggX4_habit_X4_scribeOf : GoodIn wsX4_habit wsX4_scribeOf := goodIn_ca (goodIn_r _ [9, 1, 2, 10, 11, 12, 13, 14, 15, 16, 17, 18, 19, 20, 21, 22, 23, 24, 25, 26, 27, 28, 29, 30, 31, 32, 33, 34, 45, 46, 47, 48, 49, 50, 51, 52, 53, 54, 55, 56, 57] (by decide +kernel) (by decide +kernel)) (goodIn_sub (fun _ h => List.mem_cons_of_mem _ (List.mem_append_right _ h)) (by decide +kernel))
set_option maxRecDepth 20000 in
theorem gX4_habit_X4_scribeOf : GoodIn wsX4_habit (wsV RX4 114 RX4 yX4_scribeOf wsX4_scribeOf) := goodIn_app (goodIn_of _ (by decide +kernel)) ggX4_habit_X4_scribeOf
set_option maxRecDepth 20000 in
theorem ggX4_habit_Jx4a65c_size_8abf5 : GoodIn wsX4_habit wsJx4a65c_size_8abf5 := goodIn_r _ [16, 17, 55, 56, 57] (by decide +kernel) (by decide +kernel)
set_option maxRecDepth 20000 in
theorem gX4_habit_Jx4a65c_size_8abf5 : GoodIn wsX4_habit (wsV RX4 67 RJx4a65c yJx4a65c_size_8abf5 wsJx4a65c_size_8abf5) := goodIn_app (goodIn_of _ (by decide +kernel)) ggX4_habit_Jx4a65c_size_8abf5
set_option maxRecDepth 20000 in
theorem ggX4_habit_Jx4a65c_get_915e3 : GoodIn wsX4_habit wsJx4a65c_get_915e3 := goodIn_r _ [21, 17, 22, 23, 24, 25, 26, 27, 28, 29, 30, 31, 32, 15, 33, 34, 55, 56, 57] (by decide +kernel) (by decide +kernel)
set_option maxRecDepth 20000 in
theorem gX4_habit_Jx4a65c_get_915e3 : GoodIn wsX4_habit (wsV RX4 146 RJx4a65c yJx4a65c_get_915e3 wsJx4a65c_get_915e3) := goodIn_app (goodIn_of _ (by decide +kernel)) ggX4_habit_Jx4a65c_get_915e3
set_option maxRecDepth 20000 in
theorem ggX4_habit_X0_part : GoodIn wsX4_habit wsX0_part := goodIn_r _ [39, 40, 41, 42, 43, 58, 59, 60, 61] (by decide +kernel) (by decide +kernel)
set_option maxRecDepth 20000 in
theorem gX4_habit_X0_part : GoodIn wsX4_habit (wsV RX4 149 RX0 yX0_part wsX0_part) := goodIn_app (goodIn_of _ (by decide +kernel)) ggX4_habit_X0_part
theorem dX4_habit_0 : decode cX4_habit 0 = .ok (.aload_n 0, 1) := by decide +kernel
theorem dX4_habit_1 : decode cX4_habit 1 = .ok (.iload_n 1, 1) := by decide +kernel
theorem dX4_habit_2 : decode cX4_habit 2 = .ok (.invokevirtual 114, 3) := by decide +kernel
theorem dX4_habit_5 : decode cX4_habit 5 = .ok (.astore 4, 2) := by decide +kernel
theorem dX4_habit_7 : decode cX4_habit 7 = .ok (.iload_n 2, 1) := by decide +kernel
theorem dX4_habit_8 : decode cX4_habit 8 = .ok (.ifCond .lt 15, 3) := by decide +kernel
theorem dX4_habit_11 : decode cX4_habit 11 = .ok (.iload_n 2, 1) := by decide +kernel
theorem dX4_habit_12 : decode cX4_habit 12 = .ok (.aload 4, 2) := by decide +kernel
theorem dX4_habit_14 : decode cX4_habit 14 = .ok (.getfield 128, 3) := by decide +kernel
theorem dX4_habit_17 : decode cX4_habit 17 = .ok (.invokevirtual 67, 3) := by decide +kernel
theorem dX4_habit_20 : decode cX4_habit 20 = .ok (.if_icmp .lt 13, 3) := by decide +kernel
theorem dX4_habit_23 : decode cX4_habit 23 = .ok (.new 96, 3) := by decide +kernel
theorem dX4_habit_26 : decode cX4_habit 26 = .ok (.dup, 1) := by decide +kernel
theorem dX4_habit_27 : decode cX4_habit 27 = .ok (.ldc 138, 2) := by decide +kernel
theorem dX4_habit_29 : decode cX4_habit 29 = .ok (.invokespecial 100, 3) := by decide +kernel
theorem dX4_habit_32 : decode cX4_habit 32 = .ok (.athrow, 1) := by decide +kernel
theorem dX4_habit_33 : decode cX4_habit 33 = .ok (.iload_n 3, 1) := by decide +kernel
theorem dX4_habit_34 : decode cX4_habit 34 = .ok (.ifCond .lt 8, 3) := by decide +kernel
theorem dX4_habit_37 : decode cX4_habit 37 = .ok (.iload_n 3, 1) := by decide +kernel
theorem dX4_habit_38 : decode cX4_habit 38 = .ok (.iconst 4, 1) := by decide +kernel
theorem dX4_habit_39 : decode cX4_habit 39 = .ok (.if_icmp .lt 13, 3) := by decide +kernel
theorem dX4_habit_42 : decode cX4_habit 42 = .ok (.new 96, 3) := by decide +kernel
theorem dX4_habit_45 : decode cX4_habit 45 = .ok (.dup, 1) := by decide +kernel
theorem dX4_habit_46 : decode cX4_habit 46 = .ok (.ldc 144, 2) := by decide +kernel
theorem dX4_habit_48 : decode cX4_habit 48 = .ok (.invokespecial 100, 3) := by decide +kernel
theorem dX4_habit_51 : decode cX4_habit 51 = .ok (.athrow, 1) := by decide +kernel
theorem dX4_habit_52 : decode cX4_habit 52 = .ok (.aload 4, 2) := by decide +kernel
theorem dX4_habit_54 : decode cX4_habit 54 = .ok (.getfield 128, 3) := by decide +kernel
theorem dX4_habit_57 : decode cX4_habit 57 = .ok (.iload_n 2, 1) := by decide +kernel
theorem dX4_habit_58 : decode cX4_habit 58 = .ok (.invokevirtual 146, 3) := by decide +kernel
theorem dX4_habit_61 : decode cX4_habit 61 = .ok (.checkcast 133, 3) := by decide +kernel
theorem dX4_habit_64 : decode cX4_habit 64 = .ok (.iload_n 3, 1) := by decide +kernel
theorem dX4_habit_65 : decode cX4_habit 65 = .ok (.invokevirtual 149, 3) := by decide +kernel
theorem dX4_habit_68 : decode cX4_habit 68 = .ok (.ireturn, 1) := by decide +kernel
set_option maxRecDepth 20000 in
theorem ggX4_copy_X4_manuscriptOf : GoodIn wsX4_copy wsX4_manuscriptOf := goodIn_ca (goodIn_r _ [9, 10, 11, 4, 12, 13, 14, 15, 16, 17, 18, 19, 20, 21, 22, 23, 24, 25, 26, 27, 28, 29, 30, 31, 32, 33, 34, 35, 188, 189, 190, 191, 192, 193, 194, 195, 196, 197, 198, 199, 200] (by decide +kernel) (by decide +kernel)) (goodIn_sub (fun _ h => List.mem_cons_of_mem _ (List.mem_append_right _ h)) (by decide +kernel))
set_option maxRecDepth 20000 in
theorem gX4_copy_X4_manuscriptOf : GoodIn wsX4_copy (wsV RX4 84 RX4 yX4_manuscriptOf wsX4_manuscriptOf) := goodIn_app (goodIn_of _ (by decide +kernel)) ggX4_copy_X4_manuscriptOf
set_option maxRecDepth 20000 in
theorem ggX4_copy_X4_scribeOf : GoodIn wsX4_copy wsX4_scribeOf := goodIn_ca (goodIn_r _ [39, 10, 11, 40, 41, 13, 14, 15, 16, 17, 18, 19, 20, 21, 22, 23, 24, 25, 26, 27, 28, 29, 30, 31, 32, 33, 34, 35, 188, 189, 190, 191, 192, 193, 194, 195, 196, 197, 198, 199, 200] (by decide +kernel) (by decide +kernel)) (goodIn_sub (fun _ h => List.mem_cons_of_mem _ (List.mem_append_right _ h)) (by decide +kernel))
set_option maxRecDepth 20000 in
theorem gX4_copy_X4_scribeOf : GoodIn wsX4_copy (wsV RX4 114 RX4 yX4_scribeOf wsX4_scribeOf) := goodIn_app (goodIn_of _ (by decide +kernel)) ggX4_copy_X4_scribeOf
set_option maxRecDepth 20000 in
theorem ggX4_copy_Jx4a65c_size_8abf5 : GoodIn wsX4_copy wsJx4a65c_size_8abf5 := goodIn_r _ [17, 18, 198, 199, 200] (by decide +kernel) (by decide +kernel)
set_option maxRecDepth 20000 in
theorem gX4_copy_Jx4a65c_size_8abf5 : GoodIn wsX4_copy (wsV RX4 67 RJx4a65c yJx4a65c_size_8abf5 wsJx4a65c_size_8abf5) := goodIn_app (goodIn_of _ (by decide +kernel)) ggX4_copy_Jx4a65c_size_8abf5
set_option maxRecDepth 20000 in
theorem ggX4_copy_X4_draftCopy : GoodIn wsX4_copy wsX4_draftCopy := goodIn_r _ [45, 46, 47, 48, 49, 50, 51, 52, 53, 54, 55, 56, 57, 58, 59, 60, 61, 13, 14, 15, 16, 17, 18, 19, 20, 21, 22, 23, 24, 25, 26, 27, 28, 29, 30, 31, 32, 33, 34, 35, 62, 63, 64, 65, 66, 67, 68, 69, 70, 71, 72, 73, 74, 75, 76, 77, 78, 79, 80, 81, 82, 83, 84, 85, 86, 87, 88, 89, 90, 91, 92, 93, 94, 95, 96, 97, 98, 99, 100, 188, 189, 190, 191, 192, 193, 194, 195, 196, 197, 182, 183, 184, 185, 186, 187, 201, 202, 203, 198, 199, 200, 204, 205, 206, 207] (by decide +kernel) (by decide +kernel)
set_option maxRecDepth 20000 in
theorem gX4_copy_X4_draftCopy : GoodIn wsX4_copy (wsV RX4 159 RX4 yX4_draftCopy wsX4_draftCopy) := goodIn_app (goodIn_of _ (by decide +kernel)) ggX4_copy_X4_draftCopy
set_option maxRecDepth 20000 in
theorem ggX4_copy_X4_keepDraft : GoodIn wsX4_copy wsX4_keepDraft := goodIn_r _ [104, 4, 105, 106, 107, 46, 13, 14, 15, 16, 17, 18, 108, 109, 110, 111, 112, 113, 114, 115, 54, 116, 117, 118, 119, 120, 121, 122, 123, 124, 125, 56, 57, 126, 52, 53, 55, 58, 59, 60, 61, 127, 128, 129, 130, 131, 132, 35, 133, 134, 135, 136, 137, 138, 139, 140, 141, 142, 143, 144, 145, 146, 147, 148, 149, 150, 151, 152, 153, 154, 155, 156, 157, 158, 159, 160, 161, 162, 163, 164, 165, 166, 167, 168, 169, 170, 171, 172, 173, 174, 175, 176, 177, 178, 179, 8, 180, 181, 188, 189, 190, 191, 192, 193, 194, 195, 196, 197, 182, 183, 184, 185, 186, 187, 198, 199, 200, 202, 203] (by decide +kernel) (by decide +kernel)
set_option maxRecDepth 20000 in
theorem gX4_copy_X4_keepDraft : GoodIn wsX4_copy (wsV RX4 80 RX4 yX4_keepDraft wsX4_keepDraft) := goodIn_app (goodIn_of _ (by decide +kernel)) ggX4_copy_X4_keepDraft
theorem dX4_copy_0 : decode cX4_copy 0 = .ok (.aload_n 0, 1) := by decide +kernel
theorem dX4_copy_1 : decode cX4_copy 1 = .ok (.iload_n 1, 1) := by decide +kernel
theorem dX4_copy_2 : decode cX4_copy 2 = .ok (.invokevirtual 84, 3) := by decide +kernel
theorem dX4_copy_5 : decode cX4_copy 5 = .ok (.astore_n 3, 1) := by decide +kernel
theorem dX4_copy_6 : decode cX4_copy 6 = .ok (.aload_n 0, 1) := by decide +kernel
theorem dX4_copy_7 : decode cX4_copy 7 = .ok (.iload_n 2, 1) := by decide +kernel
theorem dX4_copy_8 : decode cX4_copy 8 = .ok (.invokevirtual 114, 3) := by decide +kernel
theorem dX4_copy_11 : decode cX4_copy 11 = .ok (.astore 4, 2) := by decide +kernel
theorem dX4_copy_13 : decode cX4_copy 13 = .ok (.aload_n 3, 1) := by decide +kernel
theorem dX4_copy_14 : decode cX4_copy 14 = .ok (.getfield 153, 3) := by decide +kernel
theorem dX4_copy_17 : decode cX4_copy 17 = .ok (.ifCond .ne 13, 3) := by decide +kernel
theorem dX4_copy_20 : decode cX4_copy 20 = .ok (.new 51, 3) := by decide +kernel
theorem dX4_copy_23 : decode cX4_copy 23 = .ok (.dup, 1) := by decide +kernel
theorem dX4_copy_24 : decode cX4_copy 24 = .ok (.ldc 157, 2) := by decide +kernel
theorem dX4_copy_26 : decode cX4_copy 26 = .ok (.invokespecial 55, 3) := by decide +kernel
theorem dX4_copy_29 : decode cX4_copy 29 = .ok (.athrow, 1) := by decide +kernel
theorem dX4_copy_30 : decode cX4_copy 30 = .ok (.aload_n 0, 1) := by decide +kernel
theorem dX4_copy_31 : decode cX4_copy 31 = .ok (.getfield 20, 3) := by decide +kernel
theorem dX4_copy_34 : decode cX4_copy 34 = .ok (.invokevirtual 67, 3) := by decide +kernel
theorem dX4_copy_37 : decode cX4_copy 37 = .ok (.bipush 24, 2) := by decide +kernel
theorem dX4_copy_39 : decode cX4_copy 39 = .ok (.if_icmp .lt 13, 3) := by decide +kernel
theorem dX4_copy_42 : decode cX4_copy 42 = .ok (.new 51, 3) := by decide +kernel
theorem dX4_copy_45 : decode cX4_copy 45 = .ok (.dup, 1) := by decide +kernel
theorem dX4_copy_46 : decode cX4_copy 46 = .ok (.ldc 71, 2) := by decide +kernel
theorem dX4_copy_48 : decode cX4_copy 48 = .ok (.invokespecial 55, 3) := by decide +kernel
theorem dX4_copy_51 : decode cX4_copy 51 = .ok (.athrow, 1) := by decide +kernel
theorem dX4_copy_52 : decode cX4_copy 52 = .ok (.aload_n 0, 1) := by decide +kernel
theorem dX4_copy_53 : decode cX4_copy 53 = .ok (.aload_n 3, 1) := by decide +kernel
theorem dX4_copy_54 : decode cX4_copy 54 = .ok (.aload 4, 2) := by decide +kernel
theorem dX4_copy_56 : decode cX4_copy 56 = .ok (.iconst 1, 1) := by decide +kernel
theorem dX4_copy_57 : decode cX4_copy 57 = .ok (.invokevirtual 159, 3) := by decide +kernel
theorem dX4_copy_60 : decode cX4_copy 60 = .ok (.aload_n 0, 1) := by decide +kernel
theorem dX4_copy_61 : decode cX4_copy 61 = .ok (.aload_n 3, 1) := by decide +kernel
theorem dX4_copy_62 : decode cX4_copy 62 = .ok (.iload_n 2, 1) := by decide +kernel
theorem dX4_copy_63 : decode cX4_copy 63 = .ok (.invokevirtual 80, 3) := by decide +kernel
theorem dX4_copy_66 : decode cX4_copy 66 = .ok (.ireturn, 1) := by decide +kernel
set_option maxRecDepth 20000 in
theorem ggX4_emend_X4_manuscriptOf : GoodIn wsX4_emend wsX4_manuscriptOf := goodIn_ca (goodIn_r _ [12, 13, 14, 15, 16, 17, 18, 19, 20, 21, 22, 23, 24, 25, 26, 27, 28, 29, 30, 31, 32, 33, 34, 35, 36, 37, 38, 39, 60, 61, 62, 63, 64, 65, 66, 67, 68, 69, 70, 71, 72] (by decide +kernel) (by decide +kernel)) (goodIn_sub (fun _ h => List.mem_cons_of_mem _ (List.mem_append_right _ h)) (by decide +kernel))
set_option maxRecDepth 20000 in
theorem gX4_emend_X4_manuscriptOf : GoodIn wsX4_emend (wsV RX4 84 RX4 yX4_manuscriptOf wsX4_manuscriptOf) := goodIn_app (goodIn_of _ (by decide +kernel)) ggX4_emend_X4_manuscriptOf
set_option maxRecDepth 20000 in
theorem ggX4_emend_X4_forgetMeasures : GoodIn wsX4_emend wsX4_forgetMeasures := goodIn_r _ [43, 44, 60, 61, 62, 63, 64, 65, 66, 67, 68, 69] (by decide +kernel) (by decide +kernel)
set_option maxRecDepth 20000 in
theorem gX4_emend_X4_forgetMeasures : GoodIn wsX4_emend (wsV RX4 169 RX4 yX4_forgetMeasures wsX4_forgetMeasures) := goodIn_app (goodIn_of _ (by decide +kernel)) ggX4_emend_X4_forgetMeasures
set_option maxRecDepth 20000 in
theorem ggX4_emend_X3_takeFrom : GoodIn wsX4_emend wsX3_takeFrom := goodIn_r _ [49, 50, 51, 58, 59] (by decide +kernel) (by decide +kernel)
set_option maxRecDepth 20000 in
theorem gX4_emend_X3_takeFrom : GoodIn wsX4_emend (wsV RX4 172 RX3 yX3_takeFrom wsX3_takeFrom) := goodIn_app (goodIn_of _ (by decide +kernel)) ggX4_emend_X3_takeFrom
theorem dX4_emend_0 : decode cX4_emend 0 = .ok (.aload_n 0, 1) := by decide +kernel
theorem dX4_emend_1 : decode cX4_emend 1 = .ok (.iload_n 1, 1) := by decide +kernel
theorem dX4_emend_2 : decode cX4_emend 2 = .ok (.invokevirtual 84, 3) := by decide +kernel
theorem dX4_emend_5 : decode cX4_emend 5 = .ok (.astore 5, 2) := by decide +kernel
theorem dX4_emend_7 : decode cX4_emend 7 = .ok (.aload_n 0, 1) := by decide +kernel
theorem dX4_emend_8 : decode cX4_emend 8 = .ok (.iload_n 2, 1) := by decide +kernel
theorem dX4_emend_9 : decode cX4_emend 9 = .ok (.invokevirtual 84, 3) := by decide +kernel
theorem dX4_emend_12 : decode cX4_emend 12 = .ok (.astore 6, 2) := by decide +kernel
theorem dX4_emend_14 : decode cX4_emend 14 = .ok (.iload 4, 2) := by decide +kernel
theorem dX4_emend_16 : decode cX4_emend 16 = .ok (.iconst 1, 1) := by decide +kernel
theorem dX4_emend_17 : decode cX4_emend 17 = .ok (.if_icmp .lt 10, 3) := by decide +kernel
theorem dX4_emend_20 : decode cX4_emend 20 = .ok (.iload 4, 2) := by decide +kernel
theorem dX4_emend_22 : decode cX4_emend 22 = .ok (.bipush 120, 2) := by decide +kernel
theorem dX4_emend_24 : decode cX4_emend 24 = .ok (.if_icmp .le 13, 3) := by decide +kernel
theorem dX4_emend_27 : decode cX4_emend 27 = .ok (.new 62, 3) := by decide +kernel
theorem dX4_emend_30 : decode cX4_emend 30 = .ok (.dup, 1) := by decide +kernel
theorem dX4_emend_31 : decode cX4_emend 31 = .ok (.ldc 163, 2) := by decide +kernel
theorem dX4_emend_33 : decode cX4_emend 33 = .ok (.invokespecial 66, 3) := by decide +kernel
theorem dX4_emend_36 : decode cX4_emend 36 = .ok (.athrow, 1) := by decide +kernel
theorem dX4_emend_37 : decode cX4_emend 37 = .ok (.iload_n 3, 1) := by decide +kernel
theorem dX4_emend_38 : decode cX4_emend 38 = .ok (.ifCond .lt 33, 3) := by decide +kernel
theorem dX4_emend_41 : decode cX4_emend 41 = .ok (.iload_n 3, 1) := by decide +kernel
theorem dX4_emend_42 : decode cX4_emend 42 = .ok (.aload 5, 2) := by decide +kernel
theorem dX4_emend_44 : decode cX4_emend 44 = .ok (.getfield 88, 3) := by decide +kernel
theorem dX4_emend_47 : decode cX4_emend 47 = .ok (.getfield 93, 3) := by decide +kernel
theorem dX4_emend_50 : decode cX4_emend 50 = .ok (.iload 4, 2) := by decide +kernel
theorem dX4_emend_52 : decode cX4_emend 52 = .ok (.isub, 1) := by decide +kernel
theorem dX4_emend_53 : decode cX4_emend 53 = .ok (.if_icmp .gt 18, 3) := by decide +kernel
theorem dX4_emend_56 : decode cX4_emend 56 = .ok (.iload_n 3, 1) := by decide +kernel
theorem dX4_emend_57 : decode cX4_emend 57 = .ok (.aload 6, 2) := by decide +kernel
theorem dX4_emend_59 : decode cX4_emend 59 = .ok (.getfield 88, 3) := by decide +kernel
theorem dX4_emend_62 : decode cX4_emend 62 = .ok (.getfield 93, 3) := by decide +kernel
theorem dX4_emend_65 : decode cX4_emend 65 = .ok (.iload 4, 2) := by decide +kernel
theorem dX4_emend_67 : decode cX4_emend 67 = .ok (.isub, 1) := by decide +kernel
theorem dX4_emend_68 : decode cX4_emend 68 = .ok (.if_icmp .le 13, 3) := by decide +kernel
theorem dX4_emend_71 : decode cX4_emend 71 = .ok (.new 62, 3) := by decide +kernel
theorem dX4_emend_74 : decode cX4_emend 74 = .ok (.dup, 1) := by decide +kernel
theorem dX4_emend_75 : decode cX4_emend 75 = .ok (.ldc 165, 2) := by decide +kernel
theorem dX4_emend_77 : decode cX4_emend 77 = .ok (.invokespecial 66, 3) := by decide +kernel
theorem dX4_emend_80 : decode cX4_emend 80 = .ok (.athrow, 1) := by decide +kernel
theorem dX4_emend_81 : decode cX4_emend 81 = .ok (.aload 5, 2) := by decide +kernel
theorem dX4_emend_83 : decode cX4_emend 83 = .ok (.getfield 153, 3) := by decide +kernel
theorem dX4_emend_86 : decode cX4_emend 86 = .ok (.ifCond .eq 11, 3) := by decide +kernel
theorem dX4_emend_89 : decode cX4_emend 89 = .ok (.aload 6, 2) := by decide +kernel
theorem dX4_emend_91 : decode cX4_emend 91 = .ok (.getfield 153, 3) := by decide +kernel
theorem dX4_emend_94 : decode cX4_emend 94 = .ok (.ifCond .ne 13, 3) := by decide +kernel
theorem dX4_emend_97 : decode cX4_emend 97 = .ok (.new 51, 3) := by decide +kernel
theorem dX4_emend_100 : decode cX4_emend 100 = .ok (.dup, 1) := by decide +kernel
theorem dX4_emend_101 : decode cX4_emend 101 = .ok (.ldc 167, 2) := by decide +kernel
theorem dX4_emend_103 : decode cX4_emend 103 = .ok (.invokespecial 55, 3) := by decide +kernel
theorem dX4_emend_106 : decode cX4_emend 106 = .ok (.athrow, 1) := by decide +kernel
theorem dX4_emend_107 : decode cX4_emend 107 = .ok (.aload_n 0, 1) := by decide +kernel
theorem dX4_emend_108 : decode cX4_emend 108 = .ok (.iload_n 1, 1) := by decide +kernel
theorem dX4_emend_109 : decode cX4_emend 109 = .ok (.invokevirtual 169, 3) := by decide +kernel
theorem dX4_emend_112 : decode cX4_emend 112 = .ok (.aload 5, 2) := by decide +kernel
theorem dX4_emend_114 : decode cX4_emend 114 = .ok (.getfield 88, 3) := by decide +kernel
theorem dX4_emend_117 : decode cX4_emend 117 = .ok (.aload 6, 2) := by decide +kernel
theorem dX4_emend_119 : decode cX4_emend 119 = .ok (.getfield 88, 3) := by decide +kernel
theorem dX4_emend_122 : decode cX4_emend 122 = .ok (.iload_n 3, 1) := by decide +kernel
theorem dX4_emend_123 : decode cX4_emend 123 = .ok (.iload 4, 2) := by decide +kernel
theorem dX4_emend_125 : decode cX4_emend 125 = .ok (.invokevirtual 172, 3) := by decide +kernel
theorem dX4_emend_128 : decode cX4_emend 128 = .ok (.ireturn, 1) := by decide +kernel
set_option maxRecDepth 20000 in
theorem ggX4_lose_X4_manuscriptOf : GoodIn wsX4_lose wsX4_manuscriptOf := goodIn_ca (goodIn_r _ [8, 9, 10, 11, 12, 13, 14, 15, 16, 17, 18, 19, 20, 21, 22, 23, 24, 25, 26, 27, 28, 29, 30, 31, 32, 33, 34, 35, 46, 47, 48, 49, 50, 51, 52, 53, 54, 55, 56, 57, 58] (by decide +kernel) (by decide +kernel)) (goodIn_sub (fun _ h => List.mem_cons_of_mem _ (List.mem_append_right _ h)) (by decide +kernel))
set_option maxRecDepth 20000 in
theorem gX4_lose_X4_manuscriptOf : GoodIn wsX4_lose (wsV RX4 84 RX4 yX4_manuscriptOf wsX4_manuscriptOf) := goodIn_app (goodIn_of _ (by decide +kernel)) ggX4_lose_X4_manuscriptOf
set_option maxRecDepth 20000 in
theorem ggX4_lose_X4_thoseThere : GoodIn wsX4_lose wsX4_thoseThere := goodIn_r _ [39, 11, 12, 3, 13, 14, 15, 16, 17, 18, 19, 20, 21, 22, 23, 24, 25, 26, 27, 28, 29, 30, 31, 32, 33, 34, 35, 46, 47, 48, 49, 50, 51, 52, 53, 54, 55, 40, 41, 42, 43, 44, 45, 56, 57, 58] (by decide +kernel) (by decide +kernel)
set_option maxRecDepth 20000 in
theorem gX4_lose_X4_thoseThere : GoodIn wsX4_lose (wsV RX4 178 RX4 yX4_thoseThere wsX4_thoseThere) := goodIn_app (goodIn_of _ (by decide +kernel)) ggX4_lose_X4_thoseThere
theorem dX4_lose_0 : decode cX4_lose 0 = .ok (.aload_n 0, 1) := by decide +kernel
theorem dX4_lose_1 : decode cX4_lose 1 = .ok (.iload_n 1, 1) := by decide +kernel
theorem dX4_lose_2 : decode cX4_lose 2 = .ok (.invokevirtual 84, 3) := by decide +kernel
theorem dX4_lose_5 : decode cX4_lose 5 = .ok (.astore_n 2, 1) := by decide +kernel
theorem dX4_lose_6 : decode cX4_lose 6 = .ok (.aload_n 2, 1) := by decide +kernel
theorem dX4_lose_7 : decode cX4_lose 7 = .ok (.getfield 153, 3) := by decide +kernel
theorem dX4_lose_10 : decode cX4_lose 10 = .ok (.ifCond .ne 13, 3) := by decide +kernel
theorem dX4_lose_13 : decode cX4_lose 13 = .ok (.new 51, 3) := by decide +kernel
theorem dX4_lose_16 : decode cX4_lose 16 = .ok (.dup, 1) := by decide +kernel
theorem dX4_lose_17 : decode cX4_lose 17 = .ok (.ldc 176, 2) := by decide +kernel
theorem dX4_lose_19 : decode cX4_lose 19 = .ok (.invokespecial 55, 3) := by decide +kernel
theorem dX4_lose_22 : decode cX4_lose 22 = .ok (.athrow, 1) := by decide +kernel
theorem dX4_lose_23 : decode cX4_lose 23 = .ok (.aload_n 2, 1) := by decide +kernel
theorem dX4_lose_24 : decode cX4_lose 24 = .ok (.iconst 0, 1) := by decide +kernel
theorem dX4_lose_25 : decode cX4_lose 25 = .ok (.putfield 153, 3) := by decide +kernel
theorem dX4_lose_28 : decode cX4_lose 28 = .ok (.aload_n 0, 1) := by decide +kernel
theorem dX4_lose_29 : decode cX4_lose 29 = .ok (.invokevirtual 178, 3) := by decide +kernel
theorem dX4_lose_32 : decode cX4_lose 32 = .ok (.ireturn, 1) := by decide +kernel
set_option maxRecDepth 20000 in
theorem ggX4_manuscript_X4_manuscriptOf : GoodIn wsX4_manuscript wsX4_manuscriptOf := goodIn_ca (goodIn_r _ [7, 1, 2, 8, 9, 10, 11, 12, 13, 14, 15, 16, 17, 18, 19, 20, 21, 22, 23, 24, 25, 26, 27, 28, 29, 30, 31, 32, 87, 88, 89, 90, 91, 92, 93, 94, 95, 96, 97, 98, 99] (by decide +kernel) (by decide +kernel)) (goodIn_sub (fun _ h => List.mem_cons_of_mem _ (List.mem_append_right _ h)) (by decide +kernel))
set_option maxRecDepth 20000 in
theorem gX4_manuscript_X4_manuscriptOf : GoodIn wsX4_manuscript (wsV RX4 84 RX4 yX4_manuscriptOf wsX4_manuscriptOf) := goodIn_app (goodIn_of _ (by decide +kernel)) ggX4_manuscript_X4_manuscriptOf
set_option maxRecDepth 20000 in
theorem ggX4_manuscript_X4_fact : GoodIn wsX4_manuscript wsX4_fact := goodIn_r _ [36, 37, 38, 39, 40, 41, 42, 43, 44, 45, 46, 6, 47, 8, 9, 10, 11, 12, 13, 14, 15, 16, 17, 18, 19, 20, 21, 22, 23, 24, 25, 26, 27, 28, 29, 30, 31, 32, 48, 49, 50, 51, 52, 53, 54, 55, 56, 57, 58, 59, 60, 61, 62, 63, 64, 65, 66, 67, 68, 69, 70, 71, 72, 73, 74, 75, 76, 77, 78, 79, 80, 81, 82, 83, 84, 85, 86, 100, 101, 102, 103, 104, 105, 106, 107, 87, 88, 89, 90, 91, 92, 93, 94, 95, 96, 97, 98, 99] (by decide +kernel) (by decide +kernel)
set_option maxRecDepth 20000 in
theorem gX4_manuscript_X4_fact : GoodIn wsX4_manuscript (wsV RX4 183 RX4 yX4_fact wsX4_fact) := goodIn_app (goodIn_of _ (by decide +kernel)) ggX4_manuscript_X4_fact
theorem dX4_manuscript_0 : decode cX4_manuscript 0 = .ok (.aload_n 0, 1) := by decide +kernel
theorem dX4_manuscript_1 : decode cX4_manuscript 1 = .ok (.iload_n 1, 1) := by decide +kernel
theorem dX4_manuscript_2 : decode cX4_manuscript 2 = .ok (.invokevirtual 84, 3) := by decide +kernel
theorem dX4_manuscript_5 : decode cX4_manuscript 5 = .ok (.astore_n 3, 1) := by decide +kernel
theorem dX4_manuscript_6 : decode cX4_manuscript 6 = .ok (.iload_n 2, 1) := by decide +kernel
theorem dX4_manuscript_7 : decode cX4_manuscript 7 = .ok (.ifCond .lt 9, 3) := by decide +kernel
theorem dX4_manuscript_10 : decode cX4_manuscript 10 = .ok (.iload_n 2, 1) := by decide +kernel
theorem dX4_manuscript_11 : decode cX4_manuscript 11 = .ok (.bipush 9, 2) := by decide +kernel
theorem dX4_manuscript_13 : decode cX4_manuscript 13 = .ok (.if_icmp .lt 13, 3) := by decide +kernel
theorem dX4_manuscript_16 : decode cX4_manuscript 16 = .ok (.new 96, 3) := by decide +kernel
theorem dX4_manuscript_19 : decode cX4_manuscript 19 = .ok (.dup, 1) := by decide +kernel
theorem dX4_manuscript_20 : decode cX4_manuscript 20 = .ok (.ldc 181, 2) := by decide +kernel
theorem dX4_manuscript_22 : decode cX4_manuscript 22 = .ok (.invokespecial 100, 3) := by decide +kernel
theorem dX4_manuscript_25 : decode cX4_manuscript 25 = .ok (.athrow, 1) := by decide +kernel
theorem dX4_manuscript_26 : decode cX4_manuscript 26 = .ok (.aload_n 0, 1) := by decide +kernel
theorem dX4_manuscript_27 : decode cX4_manuscript 27 = .ok (.aload_n 3, 1) := by decide +kernel
theorem dX4_manuscript_28 : decode cX4_manuscript 28 = .ok (.iload_n 2, 1) := by decide +kernel
theorem dX4_manuscript_29 : decode cX4_manuscript 29 = .ok (.invokevirtual 183, 3) := by decide +kernel
theorem dX4_manuscript_32 : decode cX4_manuscript 32 = .ok (.ireturn, 1) := by decide +kernel
set_option maxRecDepth 20000 in
theorem ggX4_count_X4_counted : GoodIn wsX4_count wsX4_counted := goodIn_r _ [7, 8, 9, 10, 11, 12, 13, 14, 15, 16, 17, 18, 19, 6, 20, 21, 22, 23, 24, 25, 26, 27, 28, 29, 30, 31, 32, 33, 34, 35, 36, 37, 38, 39, 40, 41, 42, 43, 44, 45, 46, 47, 48, 49, 50, 51, 52, 53, 54, 55, 56, 57, 58, 59, 60, 61, 62, 63, 64, 65, 66, 67, 68, 69, 70, 71, 72, 73, 74, 75, 76, 77, 78, 79, 80, 81, 82, 83, 84, 85, 86, 87, 88, 89, 90, 91, 92, 93, 94, 95, 96, 97, 98, 99, 100, 101, 102, 103, 104, 105, 106, 107, 108, 109, 110, 111, 112, 113] (by decide +kernel) (by decide +kernel)
set_option maxRecDepth 20000 in
theorem gX4_count_X4_counted : GoodIn wsX4_count (wsV RX4 188 RX4 yX4_counted wsX4_counted) := goodIn_app (goodIn_of _ (by decide +kernel)) ggX4_count_X4_counted
theorem dX4_count_0 : decode cX4_count 0 = .ok (.iload_n 1, 1) := by decide +kernel
theorem dX4_count_1 : decode cX4_count 1 = .ok (.ifCond .lt 9, 3) := by decide +kernel
theorem dX4_count_4 : decode cX4_count 4 = .ok (.iload_n 1, 1) := by decide +kernel
theorem dX4_count_5 : decode cX4_count 5 = .ok (.bipush 8, 2) := by decide +kernel
theorem dX4_count_7 : decode cX4_count 7 = .ok (.if_icmp .lt 13, 3) := by decide +kernel
theorem dX4_count_10 : decode cX4_count 10 = .ok (.new 96, 3) := by decide +kernel
theorem dX4_count_13 : decode cX4_count 13 = .ok (.dup, 1) := by decide +kernel
theorem dX4_count_14 : decode cX4_count 14 = .ok (.ldc 186, 2) := by decide +kernel
theorem dX4_count_16 : decode cX4_count 16 = .ok (.invokespecial 100, 3) := by decide +kernel
theorem dX4_count_19 : decode cX4_count 19 = .ok (.athrow, 1) := by decide +kernel
theorem dX4_count_20 : decode cX4_count 20 = .ok (.aload_n 0, 1) := by decide +kernel
theorem dX4_count_21 : decode cX4_count 21 = .ok (.iload_n 1, 1) := by decide +kernel
theorem dX4_count_22 : decode cX4_count 22 = .ok (.invokevirtual 188, 3) := by decide +kernel
theorem dX4_count_25 : decode cX4_count 25 = .ok (.ireturn, 1) := by decide +kernel
set_option maxRecDepth 20000 in
theorem ggX4_distance_X4_manuscriptOf : GoodIn wsX4_distance wsX4_manuscriptOf := goodIn_ca (goodIn_r _ [5, 6, 7, 8, 9, 10, 11, 12, 13, 14, 15, 16, 17, 18, 19, 20, 21, 22, 23, 24, 25, 26, 27, 28, 29, 30, 31, 32, 61, 62, 63, 64, 65, 66, 67, 68, 69, 70, 71, 72, 73] (by decide +kernel) (by decide +kernel)) (goodIn_sub (fun _ h => List.mem_cons_of_mem _ (List.mem_append_right _ h)) (by decide +kernel))
set_option maxRecDepth 20000 in
theorem gX4_distance_X4_manuscriptOf : GoodIn wsX4_distance (wsV RX4 84 RX4 yX4_manuscriptOf wsX4_manuscriptOf) := goodIn_app (goodIn_of _ (by decide +kernel)) ggX4_distance_X4_manuscriptOf
set_option maxRecDepth 20000 in
theorem ggX4_distance_X4_measure : GoodIn wsX4_distance wsX4_measure := goodIn_r _ [36, 37, 38, 39, 40, 41, 42, 4, 43, 44, 45, 46, 47, 48, 49, 50, 51, 52, 53, 54, 55, 56, 57, 58, 59, 60, 61, 62, 63, 64, 65, 66, 67, 68, 69, 70, 74, 75, 76, 77, 78, 79, 80, 81] (by decide +kernel) (by decide +kernel)
set_option maxRecDepth 20000 in
theorem gX4_distance_X4_measure : GoodIn wsX4_distance (wsV RX4 191 RX4 yX4_measure wsX4_measure) := goodIn_app (goodIn_of _ (by decide +kernel)) ggX4_distance_X4_measure
theorem dX4_distance_0 : decode cX4_distance 0 = .ok (.aload_n 0, 1) := by decide +kernel
theorem dX4_distance_1 : decode cX4_distance 1 = .ok (.aload_n 0, 1) := by decide +kernel
theorem dX4_distance_2 : decode cX4_distance 2 = .ok (.iload_n 1, 1) := by decide +kernel
theorem dX4_distance_3 : decode cX4_distance 3 = .ok (.invokevirtual 84, 3) := by decide +kernel
theorem dX4_distance_6 : decode cX4_distance 6 = .ok (.aload_n 0, 1) := by decide +kernel
theorem dX4_distance_7 : decode cX4_distance 7 = .ok (.iload_n 2, 1) := by decide +kernel
theorem dX4_distance_8 : decode cX4_distance 8 = .ok (.invokevirtual 84, 3) := by decide +kernel
theorem dX4_distance_11 : decode cX4_distance 11 = .ok (.invokevirtual 191, 3) := by decide +kernel
theorem dX4_distance_14 : decode cX4_distance 14 = .ok (.ireturn, 1) := by decide +kernel
set_option maxRecDepth 20000 in
theorem ggX4_common_X4_manuscriptOf : GoodIn wsX4_common wsX4_manuscriptOf := goodIn_ca (goodIn_r _ [7, 8, 9, 10, 11, 12, 13, 14, 15, 16, 17, 18, 19, 20, 21, 22, 23, 24, 25, 26, 27, 28, 29, 30, 31, 32, 33, 34, 47, 48, 49, 50, 51, 52, 53, 54, 55, 56, 57, 58, 59] (by decide +kernel) (by decide +kernel)) (goodIn_sub (fun _ h => List.mem_cons_of_mem _ (List.mem_append_right _ h)) (by decide +kernel))
set_option maxRecDepth 20000 in
theorem gX4_common_X4_manuscriptOf : GoodIn wsX4_common (wsV RX4 84 RX4 yX4_manuscriptOf wsX4_manuscriptOf) := goodIn_app (goodIn_of _ (by decide +kernel)) ggX4_common_X4_manuscriptOf
set_option maxRecDepth 20000 in
theorem ggX4_common_X1_descendsFrom : GoodIn wsX4_common wsX1_descendsFrom := goodIn_r _ [39, 40, 41, 42, 43, 44, 45, 46] (by decide +kernel) (by decide +kernel)
set_option maxRecDepth 20000 in
theorem gX4_common_X1_descendsFrom : GoodIn wsX4_common (wsV RX4 195 RX1 yX1_descendsFrom wsX1_descendsFrom) := goodIn_app (goodIn_of _ (by decide +kernel)) ggX4_common_X1_descendsFrom
theorem dX4_common_0 : decode cX4_common 0 = .ok (.aload_n 0, 1) := by decide +kernel
theorem dX4_common_1 : decode cX4_common 1 = .ok (.iload_n 1, 1) := by decide +kernel
theorem dX4_common_2 : decode cX4_common 2 = .ok (.invokevirtual 84, 3) := by decide +kernel
theorem dX4_common_5 : decode cX4_common 5 = .ok (.astore_n 3, 1) := by decide +kernel
theorem dX4_common_6 : decode cX4_common 6 = .ok (.aload_n 0, 1) := by decide +kernel
theorem dX4_common_7 : decode cX4_common 7 = .ok (.iload_n 2, 1) := by decide +kernel
theorem dX4_common_8 : decode cX4_common 8 = .ok (.invokevirtual 84, 3) := by decide +kernel
theorem dX4_common_11 : decode cX4_common 11 = .ok (.astore 4, 2) := by decide +kernel
theorem dX4_common_13 : decode cX4_common 13 = .ok (.aload_n 3, 1) := by decide +kernel
theorem dX4_common_14 : decode cX4_common 14 = .ok (.astore 5, 2) := by decide +kernel
theorem dX4_common_16 : decode cX4_common 16 = .ok (.aload 5, 2) := by decide +kernel
theorem dX4_common_18 : decode cX4_common 18 = .ok (.ifnull 36, 3) := by decide +kernel
theorem dX4_common_21 : decode cX4_common 21 = .ok (.aload 5, 2) := by decide +kernel
theorem dX4_common_23 : decode cX4_common 23 = .ok (.aload 4, 2) := by decide +kernel
theorem dX4_common_25 : decode cX4_common 25 = .ok (.if_acmp .eq 13, 3) := by decide +kernel
theorem dX4_common_28 : decode cX4_common 28 = .ok (.aload 4, 2) := by decide +kernel
theorem dX4_common_30 : decode cX4_common 30 = .ok (.aload 5, 2) := by decide +kernel
theorem dX4_common_32 : decode cX4_common 32 = .ok (.invokevirtual 195, 3) := by decide +kernel
theorem dX4_common_35 : decode cX4_common 35 = .ok (.ifCond .eq 9, 3) := by decide +kernel
theorem dX4_common_38 : decode cX4_common 38 = .ok (.aload 5, 2) := by decide +kernel
theorem dX4_common_40 : decode cX4_common 40 = .ok (.getfield 199, 3) := by decide +kernel
theorem dX4_common_43 : decode cX4_common 43 = .ok (.ireturn, 1) := by decide +kernel
theorem dX4_common_44 : decode cX4_common 44 = .ok (.aload 5, 2) := by decide +kernel
theorem dX4_common_46 : decode cX4_common 46 = .ok (.getfield 202, 3) := by decide +kernel
theorem dX4_common_49 : decode cX4_common 49 = .ok (.astore 5, 2) := by decide +kernel
theorem dX4_common_51 : decode cX4_common 51 = .ok (.goto (-35), 3) := by decide +kernel
theorem dX4_common_54 : decode cX4_common 54 = .ok (.iconst (-1), 1) := by decide +kernel
theorem dX4_common_55 : decode cX4_common 55 = .ok (.ireturn, 1) := by decide +kernel
set_option maxRecDepth 20000 in
theorem ggX4_guess_X4_manuscriptOf : GoodIn wsX4_guess wsX4_manuscriptOf := goodIn_ca (goodIn_r _ [5, 6, 7, 8, 9, 10, 11, 12, 13, 14, 15, 16, 17, 18, 19, 20, 21, 22, 23, 24, 25, 26, 27, 28, 29, 30, 31, 32, 66, 67, 68, 69, 70, 71, 72, 73, 74, 75, 76, 77, 78] (by decide +kernel) (by decide +kernel)) (goodIn_sub (fun _ h => List.mem_cons_of_mem _ (List.mem_append_right _ h)) (by decide +kernel))
set_option maxRecDepth 20000 in
theorem gX4_guess_X4_manuscriptOf : GoodIn wsX4_guess (wsV RX4 84 RX4 yX4_manuscriptOf wsX4_manuscriptOf) := goodIn_app (goodIn_of _ (by decide +kernel)) ggX4_guess_X4_manuscriptOf
set_option maxRecDepth 20000 in
theorem ggX4_guess_X4_guessed : GoodIn wsX4_guess wsX4_guessed := goodIn_r _ [36, 37, 38, 8, 9, 10, 11, 12, 13, 14, 15, 16, 17, 18, 19, 20, 21, 22, 23, 24, 25, 26, 27, 28, 29, 30, 31, 32, 39, 40, 41, 4, 42, 43, 44, 45, 46, 47, 48, 49, 50, 51, 52, 53, 54, 55, 56, 57, 58, 59, 60, 61, 62, 63, 64, 65, 79, 80, 81, 82, 83, 84, 66, 67, 68, 69, 70, 71, 72, 73, 74, 75, 76, 77, 78, 85, 86] (by decide +kernel) (by decide +kernel)
set_option maxRecDepth 20000 in
theorem gX4_guess_X4_guessed : GoodIn wsX4_guess (wsV RX4 206 RX4 yX4_guessed wsX4_guessed) := goodIn_app (goodIn_of _ (by decide +kernel)) ggX4_guess_X4_guessed
theorem dX4_guess_0 : decode cX4_guess 0 = .ok (.aload_n 0, 1) := by decide +kernel
theorem dX4_guess_1 : decode cX4_guess 1 = .ok (.aload_n 0, 1) := by decide +kernel
theorem dX4_guess_2 : decode cX4_guess 2 = .ok (.iload_n 1, 1) := by decide +kernel
theorem dX4_guess_3 : decode cX4_guess 3 = .ok (.invokevirtual 84, 3) := by decide +kernel
theorem dX4_guess_6 : decode cX4_guess 6 = .ok (.invokevirtual 206, 3) := by decide +kernel
theorem dX4_guess_9 : decode cX4_guess 9 = .ok (.ireturn, 1) := by decide +kernel
set_option maxRecDepth 20000 in
theorem ggX4_find_X4_manuscriptOf : GoodIn wsX4_find wsX4_manuscriptOf := goodIn_ca (goodIn_r _ [9, 10, 11, 12, 13, 14, 15, 16, 17, 18, 19, 20, 21, 22, 23, 24, 25, 26, 27, 28, 29, 30, 31, 32, 33, 34, 35, 36, 55, 56, 57, 58, 59, 60, 61, 62, 63, 64, 65, 66, 67] (by decide +kernel) (by decide +kernel)) (goodIn_sub (fun _ h => List.mem_cons_of_mem _ (List.mem_append_right _ h)) (by decide +kernel))
set_option maxRecDepth 20000 in
theorem gX4_find_X4_manuscriptOf : GoodIn wsX4_find (wsV RX4 84 RX4 yX4_manuscriptOf wsX4_manuscriptOf) := goodIn_app (goodIn_of _ (by decide +kernel)) ggX4_find_X4_manuscriptOf
set_option maxRecDepth 20000 in
theorem ggX4_find_X4_isLetter : GoodIn wsX4_find wsX4_isLetter := goodIn_r _ [39] (by decide +kernel) (by decide +kernel)
set_option maxRecDepth 20000 in
theorem gX4_find_X4_isLetter : GoodIn wsX4_find (va_wsS RX4 120 yX4_isLetter wsX4_isLetter) := goodIn_app (goodIn_of _ (by decide +kernel)) ggX4_find_X4_isLetter
set_option maxRecDepth 20000 in
theorem ggX4_find_X3_has : GoodIn wsX4_find wsX3_has := goodIn_r _ [44, 45, 46, 53, 54] (by decide +kernel) (by decide +kernel)
set_option maxRecDepth 20000 in
theorem gX4_find_X3_has : GoodIn wsX4_find (wsV RX4 210 RX3 yX3_has wsX3_has) := goodIn_app (goodIn_of _ (by decide +kernel)) ggX4_find_X3_has
theorem dX4_find_0 : decode cX4_find 0 = .ok (.aload_n 0, 1) := by decide +kernel
theorem dX4_find_1 : decode cX4_find 1 = .ok (.iload_n 1, 1) := by decide +kernel
theorem dX4_find_2 : decode cX4_find 2 = .ok (.invokevirtual 84, 3) := by decide +kernel
theorem dX4_find_5 : decode cX4_find 5 = .ok (.getfield 88, 3) := by decide +kernel
theorem dX4_find_8 : decode cX4_find 8 = .ok (.astore 5, 2) := by decide +kernel
theorem dX4_find_10 : decode cX4_find 10 = .ok (.iload_n 2, 1) := by decide +kernel
theorem dX4_find_11 : decode cX4_find 11 = .ok (.ifCond .ge 13, 3) := by decide +kernel
theorem dX4_find_14 : decode cX4_find 14 = .ok (.new 62, 3) := by decide +kernel
theorem dX4_find_17 : decode cX4_find 17 = .ok (.dup, 1) := by decide +kernel
theorem dX4_find_18 : decode cX4_find 18 = .ok (.ldc 98, 2) := by decide +kernel
theorem dX4_find_20 : decode cX4_find 20 = .ok (.invokespecial 66, 3) := by decide +kernel
theorem dX4_find_23 : decode cX4_find 23 = .ok (.athrow, 1) := by decide +kernel
theorem dX4_find_24 : decode cX4_find 24 = .ok (.iload_n 3, 1) := by decide +kernel
theorem dX4_find_25 : decode cX4_find 25 = .ok (.invokestatic 120, 3) := by decide +kernel
theorem dX4_find_28 : decode cX4_find 28 = .ok (.ifCond .eq 17, 3) := by decide +kernel
theorem dX4_find_31 : decode cX4_find 31 = .ok (.iload 4, 2) := by decide +kernel
theorem dX4_find_33 : decode cX4_find 33 = .ok (.iconst (-1), 1) := by decide +kernel
theorem dX4_find_34 : decode cX4_find 34 = .ok (.if_icmp .eq 21, 3) := by decide +kernel
theorem dX4_find_37 : decode cX4_find 37 = .ok (.iload 4, 2) := by decide +kernel
theorem dX4_find_39 : decode cX4_find 39 = .ok (.invokestatic 120, 3) := by decide +kernel
theorem dX4_find_42 : decode cX4_find 42 = .ok (.ifCond .ne 13, 3) := by decide +kernel
theorem dX4_find_45 : decode cX4_find 45 = .ok (.new 62, 3) := by decide +kernel
theorem dX4_find_48 : decode cX4_find 48 = .ok (.dup, 1) := by decide +kernel
theorem dX4_find_49 : decode cX4_find 49 = .ok (.ldc 124, 2) := by decide +kernel
theorem dX4_find_51 : decode cX4_find 51 = .ok (.invokespecial 66, 3) := by decide +kernel
theorem dX4_find_54 : decode cX4_find 54 = .ok (.athrow, 1) := by decide +kernel
theorem dX4_find_55 : decode cX4_find 55 = .ok (.iload_n 2, 1) := by decide +kernel
theorem dX4_find_56 : decode cX4_find 56 = .ok (.istore 6, 2) := by decide +kernel
theorem dX4_find_58 : decode cX4_find 58 = .ok (.iload 6, 2) := by decide +kernel
theorem dX4_find_60 : decode cX4_find 60 = .ok (.aload 5, 2) := by decide +kernel
theorem dX4_find_62 : decode cX4_find 62 = .ok (.getfield 93, 3) := by decide +kernel
theorem dX4_find_65 : decode cX4_find 65 = .ok (.if_icmp .ge 49, 3) := by decide +kernel
theorem dX4_find_68 : decode cX4_find 68 = .ok (.aload 5, 2) := by decide +kernel
theorem dX4_find_70 : decode cX4_find 70 = .ok (.iload 6, 2) := by decide +kernel
theorem dX4_find_72 : decode cX4_find 72 = .ok (.bipush 97, 2) := by decide +kernel
theorem dX4_find_74 : decode cX4_find 74 = .ok (.iload_n 3, 1) := by decide +kernel
theorem dX4_find_75 : decode cX4_find 75 = .ok (.iadd, 1) := by decide +kernel
theorem dX4_find_76 : decode cX4_find 76 = .ok (.invokevirtual 210, 3) := by decide +kernel
theorem dX4_find_79 : decode cX4_find 79 = .ok (.ifCond .eq 29, 3) := by decide +kernel
theorem dX4_find_82 : decode cX4_find 82 = .ok (.iload 4, 2) := by decide +kernel
theorem dX4_find_84 : decode cX4_find 84 = .ok (.iconst (-1), 1) := by decide +kernel
theorem dX4_find_85 : decode cX4_find 85 = .ok (.if_icmp .eq 20, 3) := by decide +kernel
theorem dX4_find_88 : decode cX4_find 88 = .ok (.aload 5, 2) := by decide +kernel
theorem dX4_find_90 : decode cX4_find 90 = .ok (.iload 6, 2) := by decide +kernel
theorem dX4_find_92 : decode cX4_find 92 = .ok (.iconst 1, 1) := by decide +kernel
theorem dX4_find_93 : decode cX4_find 93 = .ok (.iadd, 1) := by decide +kernel
theorem dX4_find_94 : decode cX4_find 94 = .ok (.bipush 97, 2) := by decide +kernel
theorem dX4_find_96 : decode cX4_find 96 = .ok (.iload 4, 2) := by decide +kernel
theorem dX4_find_98 : decode cX4_find 98 = .ok (.iadd, 1) := by decide +kernel
theorem dX4_find_99 : decode cX4_find 99 = .ok (.invokevirtual 210, 3) := by decide +kernel
theorem dX4_find_102 : decode cX4_find 102 = .ok (.ifCond .eq 6, 3) := by decide +kernel
theorem dX4_find_105 : decode cX4_find 105 = .ok (.iload 6, 2) := by decide +kernel
theorem dX4_find_107 : decode cX4_find 107 = .ok (.ireturn, 1) := by decide +kernel
theorem dX4_find_108 : decode cX4_find 108 = .ok (.iinc 6 1, 3) := by decide +kernel
theorem dX4_find_111 : decode cX4_find 111 = .ok (.goto (-53), 3) := by decide +kernel
theorem dX4_find_114 : decode cX4_find 114 = .ok (.iconst (-1), 1) := by decide +kernel
theorem dX4_find_115 : decode cX4_find 115 = .ok (.ireturn, 1) := by decide +kernel
set_option maxRecDepth 20000 in
theorem ggX4_voteLength_X4_lengthOfMost : GoodIn wsX4_voteLength wsX4_lengthOfMost := goodIn_r _ [5, 6, 7, 8, 9, 10, 11, 12, 13, 14, 15, 16, 17, 18, 19, 20, 21, 22, 23, 24, 25, 26, 27, 28, 29, 30, 31, 32, 33, 34, 35, 36, 37, 38, 39, 40, 41, 4, 42, 43, 44, 45, 46, 47, 48, 49, 50, 51, 52, 53, 54, 55, 56, 57, 58, 59, 60, 61, 62, 63] (by decide +kernel) (by decide +kernel)
set_option maxRecDepth 20000 in
theorem gX4_voteLength_X4_lengthOfMost : GoodIn wsX4_voteLength (wsV RX4 214 RX4 yX4_lengthOfMost wsX4_lengthOfMost) := goodIn_app (goodIn_of _ (by decide +kernel)) ggX4_voteLength_X4_lengthOfMost
theorem dX4_voteLength_0 : decode cX4_voteLength 0 = .ok (.aload_n 0, 1) := by decide +kernel
theorem dX4_voteLength_1 : decode cX4_voteLength 1 = .ok (.invokevirtual 214, 3) := by decide +kernel
theorem dX4_voteLength_4 : decode cX4_voteLength 4 = .ok (.ireturn, 1) := by decide +kernel
set_option maxRecDepth 20000 in
theorem ggX4_vote_X4_lengthOfMost : GoodIn wsX4_vote wsX4_lengthOfMost := goodIn_r _ [7, 8, 9, 10, 11, 12, 13, 14, 15, 16, 17, 18, 19, 20, 21, 22, 23, 24, 25, 26, 27, 28, 29, 30, 31, 32, 33, 34, 35, 36, 37, 38, 39, 40, 41, 42, 43, 6, 44, 53, 54, 55, 56, 57, 58, 59, 60, 61, 62, 63, 64, 65, 66, 67, 68, 69, 70, 71, 72, 73] (by decide +kernel) (by decide +kernel)
set_option maxRecDepth 20000 in
theorem gX4_vote_X4_lengthOfMost : GoodIn wsX4_vote (wsV RX4 214 RX4 yX4_lengthOfMost wsX4_lengthOfMost) := goodIn_app (goodIn_of _ (by decide +kernel)) ggX4_vote_X4_lengthOfMost
set_option maxRecDepth 20000 in
theorem ggX4_vote_X4_letterOfMost : GoodIn wsX4_vote wsX4_letterOfMost := goodIn_r _ [48, 8, 9, 10, 11, 12, 13, 49, 14, 15, 16, 17, 18, 19, 20, 21, 22, 23, 24, 25, 26, 27, 28, 29, 30, 31, 32, 33, 34, 35, 36, 37, 38, 39, 40, 50, 51, 6, 52, 41, 42, 43, 44, 53, 54, 55, 56, 57, 58, 59, 60, 61, 62, 63, 64, 65, 66, 67, 68, 69, 70, 71, 72, 73] (by decide +kernel) (by decide +kernel)
set_option maxRecDepth 20000 in
theorem gX4_vote_X4_letterOfMost : GoodIn wsX4_vote (wsV RX4 219 RX4 yX4_letterOfMost wsX4_letterOfMost) := goodIn_app (goodIn_of _ (by decide +kernel)) ggX4_vote_X4_letterOfMost
theorem dX4_vote_0 : decode cX4_vote 0 = .ok (.aload_n 0, 1) := by decide +kernel
theorem dX4_vote_1 : decode cX4_vote 1 = .ok (.invokevirtual 214, 3) := by decide +kernel
theorem dX4_vote_4 : decode cX4_vote 4 = .ok (.istore_n 2, 1) := by decide +kernel
theorem dX4_vote_5 : decode cX4_vote 5 = .ok (.iload_n 1, 1) := by decide +kernel
theorem dX4_vote_6 : decode cX4_vote 6 = .ok (.ifCond .lt 8, 3) := by decide +kernel
theorem dX4_vote_9 : decode cX4_vote 9 = .ok (.iload_n 1, 1) := by decide +kernel
theorem dX4_vote_10 : decode cX4_vote 10 = .ok (.iload_n 2, 1) := by decide +kernel
theorem dX4_vote_11 : decode cX4_vote 11 = .ok (.if_icmp .lt 13, 3) := by decide +kernel
theorem dX4_vote_14 : decode cX4_vote 14 = .ok (.new 96, 3) := by decide +kernel
theorem dX4_vote_17 : decode cX4_vote 17 = .ok (.dup, 1) := by decide +kernel
theorem dX4_vote_18 : decode cX4_vote 18 = .ok (.ldc 217, 2) := by decide +kernel
theorem dX4_vote_20 : decode cX4_vote 20 = .ok (.invokespecial 100, 3) := by decide +kernel
theorem dX4_vote_23 : decode cX4_vote 23 = .ok (.athrow, 1) := by decide +kernel
theorem dX4_vote_24 : decode cX4_vote 24 = .ok (.aload_n 0, 1) := by decide +kernel
theorem dX4_vote_25 : decode cX4_vote 25 = .ok (.iload_n 1, 1) := by decide +kernel
theorem dX4_vote_26 : decode cX4_vote 26 = .ok (.iload_n 2, 1) := by decide +kernel
theorem dX4_vote_27 : decode cX4_vote 27 = .ok (.invokevirtual 219, 3) := by decide +kernel
theorem dX4_vote_30 : decode cX4_vote 30 = .ok (.ireturn, 1) := by decide +kernel
set_option maxRecDepth 20000 in
theorem ggX4_voteDistance_X4_manuscriptOf : GoodIn wsX4_voteDistance wsX4_manuscriptOf := goodIn_ca (goodIn_r _ [7, 8, 9, 10, 11, 12, 13, 14, 15, 16, 17, 18, 19, 20, 21, 22, 23, 24, 25, 26, 27, 28, 29, 30, 31, 32, 33, 34, 94, 95, 96, 97, 98, 99, 100, 101, 102, 103, 104, 105, 106] (by decide +kernel) (by decide +kernel)) (goodIn_sub (fun _ h => List.mem_cons_of_mem _ (List.mem_append_right _ h)) (by decide +kernel))
set_option maxRecDepth 20000 in
theorem gX4_voteDistance_X4_manuscriptOf : GoodIn wsX4_voteDistance (wsV RX4 84 RX4 yX4_manuscriptOf wsX4_manuscriptOf) := goodIn_app (goodIn_of _ (by decide +kernel)) ggX4_voteDistance_X4_manuscriptOf
set_option maxRecDepth 20000 in
theorem ggX4_voteDistance_X4_voteText : GoodIn wsX4_voteDistance wsX4_voteText := goodIn_r _ [38, 2, 39, 40, 41, 42, 6, 43, 44, 10, 11, 45, 1, 46, 47, 48, 49, 12, 13, 14, 15, 16, 17, 18, 19, 20, 21, 22, 23, 24, 25, 26, 27, 28, 29, 30, 31, 32, 33, 34, 50, 51, 52, 53, 54, 55, 56, 57, 58, 59, 60, 61, 62, 63, 64, 65, 66, 67, 68, 94, 95, 96, 97, 98, 99, 100, 101, 102, 103, 107, 108, 88, 89, 90, 91, 92, 93, 104, 105, 106] (by decide +kernel) (by decide +kernel)
set_option maxRecDepth 20000 in
theorem gX4_voteDistance_X4_voteText : GoodIn wsX4_voteDistance (wsV RX4 223 RX4 yX4_voteText wsX4_voteText) := goodIn_app (goodIn_of _ (by decide +kernel)) ggX4_voteDistance_X4_voteText
set_option maxRecDepth 20000 in
theorem ggX4_voteDistance_X4_steps : GoodIn wsX4_voteDistance wsX4_steps := goodIn_r _ [72, 39, 73, 58, 74, 75, 6, 76, 77, 78, 79, 80, 81, 82, 83, 84, 85, 86, 87, 107, 108, 94, 95, 96, 97, 98, 99, 100, 101, 102, 103] (by decide +kernel) (by decide +kernel)
set_option maxRecDepth 20000 in
theorem gX4_voteDistance_X4_steps : GoodIn wsX4_voteDistance (wsV RX4 226 RX4 yX4_steps wsX4_steps) := goodIn_app (goodIn_of _ (by decide +kernel)) ggX4_voteDistance_X4_steps
theorem dX4_voteDistance_0 : decode cX4_voteDistance 0 = .ok (.aload_n 0, 1) := by decide +kernel
theorem dX4_voteDistance_1 : decode cX4_voteDistance 1 = .ok (.iload_n 1, 1) := by decide +kernel
theorem dX4_voteDistance_2 : decode cX4_voteDistance 2 = .ok (.invokevirtual 84, 3) := by decide +kernel
theorem dX4_voteDistance_5 : decode cX4_voteDistance 5 = .ok (.astore_n 2, 1) := by decide +kernel
theorem dX4_voteDistance_6 : decode cX4_voteDistance 6 = .ok (.aload_n 0, 1) := by decide +kernel
theorem dX4_voteDistance_7 : decode cX4_voteDistance 7 = .ok (.invokevirtual 223, 3) := by decide +kernel
theorem dX4_voteDistance_10 : decode cX4_voteDistance 10 = .ok (.aload_n 0, 1) := by decide +kernel
theorem dX4_voteDistance_11 : decode cX4_voteDistance 11 = .ok (.aload_n 2, 1) := by decide +kernel
theorem dX4_voteDistance_12 : decode cX4_voteDistance 12 = .ok (.getfield 88, 3) := by decide +kernel
theorem dX4_voteDistance_15 : decode cX4_voteDistance 15 = .ok (.aload_n 0, 1) := by decide +kernel
theorem dX4_voteDistance_16 : decode cX4_voteDistance 16 = .ok (.getfield 42, 3) := by decide +kernel
theorem dX4_voteDistance_19 : decode cX4_voteDistance 19 = .ok (.invokevirtual 226, 3) := by decide +kernel
theorem dX4_voteDistance_22 : decode cX4_voteDistance 22 = .ok (.ireturn, 1) := by decide +kernel
set_option maxRecDepth 20000 in
theorem ggX4_trial_X4_manuscriptOf : GoodIn wsX4_trial wsX4_manuscriptOf := goodIn_ca (goodIn_r _ [15, 1, 2, 16, 17, 18, 19, 20, 21, 22, 23, 24, 25, 26, 27, 28, 29, 30, 31, 32, 33, 34, 35, 36, 37, 38, 39, 40, 130, 131, 132, 133, 134, 135, 136, 137, 138, 139, 142, 143, 144] (by decide +kernel) (by decide +kernel)) (goodIn_sub (fun _ h => List.mem_cons_of_mem _ (List.mem_append_left _ (List.mem_append_left _ (List.mem_append_right _ h)))) (by decide +kernel))
set_option maxRecDepth 20000 in
theorem gX4_trial_X4_manuscriptOf : GoodIn wsX4_trial (wsV RX4 84 RX4 yX4_manuscriptOf wsX4_manuscriptOf) := goodIn_app (goodIn_of _ (by decide +kernel)) ggX4_trial_X4_manuscriptOf
set_option maxRecDepth 20000 in
theorem ggX4_trial_X4_scribeOf : GoodIn wsX4_trial wsX4_scribeOf := goodIn_ca (goodIn_r _ [44, 1, 2, 45, 46, 18, 19, 20, 21, 22, 23, 24, 25, 26, 27, 28, 29, 30, 31, 32, 33, 34, 35, 36, 37, 38, 39, 40, 130, 131, 132, 133, 134, 135, 136, 137, 138, 139, 142, 143, 144] (by decide +kernel) (by decide +kernel)) (goodIn_sub (fun _ h => List.mem_cons_of_mem _ (List.mem_append_left _ (List.mem_append_left _ (List.mem_append_right _ h)))) (by decide +kernel))
set_option maxRecDepth 20000 in
theorem gX4_trial_X4_scribeOf : GoodIn wsX4_trial (wsV RX4 114 RX4 yX4_scribeOf wsX4_scribeOf) := goodIn_app (goodIn_of _ (by decide +kernel)) ggX4_trial_X4_scribeOf
set_option maxRecDepth 20000 in
theorem ggX4_trial_X4_draftCopy : GoodIn wsX4_trial wsX4_draftCopy := goodIn_r _ [50, 8, 10, 51, 52, 53, 54, 55, 56, 57, 58, 59, 60, 61, 62, 63, 64, 18, 19, 20, 21, 22, 23, 24, 25, 26, 27, 28, 29, 30, 31, 32, 33, 34, 35, 36, 37, 38, 39, 40, 65, 66, 67, 68, 69, 70, 71, 72, 73, 74, 75, 76, 77, 78, 79, 80, 81, 82, 83, 84, 85, 86, 87, 88, 89, 90, 91, 92, 93, 94, 95, 96, 97, 98, 99, 100, 101, 102, 103, 130, 131, 132, 133, 134, 135, 136, 137, 138, 139, 124, 125, 126, 127, 128, 129, 145, 140, 141, 142, 143, 144, 146, 147, 148, 149] (by decide +kernel) (by decide +kernel)
set_option maxRecDepth 20000 in
theorem gX4_trial_X4_draftCopy : GoodIn wsX4_trial (wsV RX4 159 RX4 yX4_draftCopy wsX4_draftCopy) := goodIn_app (goodIn_of _ (by decide +kernel)) ggX4_trial_X4_draftCopy
set_option maxRecDepth 20000 in
theorem ggX4_trial_X4_steps : GoodIn wsX4_trial wsX4_steps := goodIn_r _ [107, 9, 108, 109, 110, 111, 14, 112, 113, 114, 115, 116, 117, 118, 119, 120, 121, 122, 123, 140, 141, 130, 131, 132, 133, 134, 135, 136, 137, 138, 139] (by decide +kernel) (by decide +kernel)
set_option maxRecDepth 20000 in
theorem gX4_trial_X4_steps : GoodIn wsX4_trial (wsV RX4 226 RX4 yX4_steps wsX4_steps) := goodIn_app (goodIn_of _ (by decide +kernel)) ggX4_trial_X4_steps
theorem dX4_trial_0 : decode cX4_trial 0 = .ok (.aload_n 0, 1) := by decide +kernel
theorem dX4_trial_1 : decode cX4_trial 1 = .ok (.iload_n 1, 1) := by decide +kernel
theorem dX4_trial_2 : decode cX4_trial 2 = .ok (.invokevirtual 84, 3) := by decide +kernel
theorem dX4_trial_5 : decode cX4_trial 5 = .ok (.astore 5, 2) := by decide +kernel
theorem dX4_trial_7 : decode cX4_trial 7 = .ok (.aload_n 0, 1) := by decide +kernel
theorem dX4_trial_8 : decode cX4_trial 8 = .ok (.iload_n 2, 1) := by decide +kernel
theorem dX4_trial_9 : decode cX4_trial 9 = .ok (.invokevirtual 114, 3) := by decide +kernel
theorem dX4_trial_12 : decode cX4_trial 12 = .ok (.astore 6, 2) := by decide +kernel
theorem dX4_trial_14 : decode cX4_trial 14 = .ok (.iload 4, 2) := by decide +kernel
theorem dX4_trial_16 : decode cX4_trial 16 = .ok (.ifCond .lt 9, 3) := by decide +kernel
theorem dX4_trial_19 : decode cX4_trial 19 = .ok (.iload 4, 2) := by decide +kernel
theorem dX4_trial_21 : decode cX4_trial 21 = .ok (.iconst 1, 1) := by decide +kernel
theorem dX4_trial_22 : decode cX4_trial 22 = .ok (.if_icmp .le 13, 3) := by decide +kernel
theorem dX4_trial_25 : decode cX4_trial 25 = .ok (.new 96, 3) := by decide +kernel
theorem dX4_trial_28 : decode cX4_trial 28 = .ok (.dup, 1) := by decide +kernel
theorem dX4_trial_29 : decode cX4_trial 29 = .ok (.ldc 230, 2) := by decide +kernel
theorem dX4_trial_31 : decode cX4_trial 31 = .ok (.invokespecial 100, 3) := by decide +kernel
theorem dX4_trial_34 : decode cX4_trial 34 = .ok (.athrow, 1) := by decide +kernel
theorem dX4_trial_35 : decode cX4_trial 35 = .ok (.iload_n 3, 1) := by decide +kernel
theorem dX4_trial_36 : decode cX4_trial 36 = .ok (.iconst 1, 1) := by decide +kernel
theorem dX4_trial_37 : decode cX4_trial 37 = .ok (.if_icmp .lt 9, 3) := by decide +kernel
theorem dX4_trial_40 : decode cX4_trial 40 = .ok (.iload_n 3, 1) := by decide +kernel
theorem dX4_trial_41 : decode cX4_trial 41 = .ok (.bipush 20, 2) := by decide +kernel
theorem dX4_trial_43 : decode cX4_trial 43 = .ok (.if_icmp .le 13, 3) := by decide +kernel
theorem dX4_trial_46 : decode cX4_trial 46 = .ok (.new 62, 3) := by decide +kernel
theorem dX4_trial_49 : decode cX4_trial 49 = .ok (.dup, 1) := by decide +kernel
theorem dX4_trial_50 : decode cX4_trial 50 = .ok (.ldc 232, 2) := by decide +kernel
theorem dX4_trial_52 : decode cX4_trial 52 = .ok (.invokespecial 66, 3) := by decide +kernel
theorem dX4_trial_55 : decode cX4_trial 55 = .ok (.athrow, 1) := by decide +kernel
theorem dX4_trial_56 : decode cX4_trial 56 = .ok (.aload 5, 2) := by decide +kernel
theorem dX4_trial_58 : decode cX4_trial 58 = .ok (.getfield 153, 3) := by decide +kernel
theorem dX4_trial_61 : decode cX4_trial 61 = .ok (.ifCond .ne 13, 3) := by decide +kernel
theorem dX4_trial_64 : decode cX4_trial 64 = .ok (.new 51, 3) := by decide +kernel
theorem dX4_trial_67 : decode cX4_trial 67 = .ok (.dup, 1) := by decide +kernel
theorem dX4_trial_68 : decode cX4_trial 68 = .ok (.ldc 157, 2) := by decide +kernel
theorem dX4_trial_70 : decode cX4_trial 70 = .ok (.invokespecial 55, 3) := by decide +kernel
theorem dX4_trial_73 : decode cX4_trial 73 = .ok (.athrow, 1) := by decide +kernel
theorem dX4_trial_74 : decode cX4_trial 74 = .ok (.aload_n 0, 1) := by decide +kernel
theorem dX4_trial_75 : decode cX4_trial 75 = .ok (.aload 5, 2) := by decide +kernel
theorem dX4_trial_77 : decode cX4_trial 77 = .ok (.aload 6, 2) := by decide +kernel
theorem dX4_trial_79 : decode cX4_trial 79 = .ok (.iload_n 3, 1) := by decide +kernel
theorem dX4_trial_80 : decode cX4_trial 80 = .ok (.invokevirtual 159, 3) := by decide +kernel
theorem dX4_trial_83 : decode cX4_trial 83 = .ok (.iload 4, 2) := by decide +kernel
theorem dX4_trial_85 : decode cX4_trial 85 = .ok (.ifCond .ne 13, 3) := by decide +kernel
theorem dX4_trial_88 : decode cX4_trial 88 = .ok (.aload_n 0, 1) := by decide +kernel
theorem dX4_trial_89 : decode cX4_trial 89 = .ok (.getfield 35, 3) := by decide +kernel
theorem dX4_trial_92 : decode cX4_trial 92 = .ok (.getfield 93, 3) := by decide +kernel
theorem dX4_trial_95 : decode cX4_trial 95 = .ok (.goto 16, 3) := by decide +kernel
theorem dX4_trial_98 : decode cX4_trial 98 = .ok (.aload_n 0, 1) := by decide +kernel
theorem dX4_trial_99 : decode cX4_trial 99 = .ok (.aload_n 0, 1) := by decide +kernel
theorem dX4_trial_100 : decode cX4_trial 100 = .ok (.getfield 35, 3) := by decide +kernel
theorem dX4_trial_103 : decode cX4_trial 103 = .ok (.aload 5, 2) := by decide +kernel
theorem dX4_trial_105 : decode cX4_trial 105 = .ok (.getfield 88, 3) := by decide +kernel
theorem dX4_trial_108 : decode cX4_trial 108 = .ok (.invokevirtual 226, 3) := by decide +kernel
theorem dX4_trial_111 : decode cX4_trial 111 = .ok (.ireturn, 1) := by decide +kernel
set_option maxRecDepth 20000 in
theorem ggX4_advise_X4_manuscriptOf : GoodIn wsX4_advise wsX4_manuscriptOf := goodIn_ca (goodIn_r _ [12, 13, 14, 15, 16, 17, 18, 19, 20, 21, 22, 23, 24, 25, 26, 27, 28, 29, 30, 31, 32, 33, 34, 35, 36, 37, 38, 39, 124, 125, 126, 127, 128, 129, 130, 131, 132, 133, 134, 135, 136] (by decide +kernel) (by decide +kernel)) (goodIn_sub (fun _ h => List.mem_cons_of_mem _ (List.mem_append_right _ h)) (by decide +kernel))
set_option maxRecDepth 20000 in
theorem gX4_advise_X4_manuscriptOf : GoodIn wsX4_advise (wsV RX4 84 RX4 yX4_manuscriptOf wsX4_manuscriptOf) := goodIn_app (goodIn_of _ (by decide +kernel)) ggX4_advise_X4_manuscriptOf
set_option maxRecDepth 20000 in
theorem ggX4_advise_Jx4a65c_size_8abf5 : GoodIn wsX4_advise wsJx4a65c_size_8abf5 := goodIn_r _ [21, 22, 134, 135, 136] (by decide +kernel) (by decide +kernel)
set_option maxRecDepth 20000 in
theorem gX4_advise_Jx4a65c_size_8abf5 : GoodIn wsX4_advise (wsV RX4 67 RJx4a65c yJx4a65c_size_8abf5 wsJx4a65c_size_8abf5) := goodIn_app (goodIn_of _ (by decide +kernel)) ggX4_advise_Jx4a65c_size_8abf5
set_option maxRecDepth 20000 in
theorem ggX4_advise_Jx4a65c_get_915e3 : GoodIn wsX4_advise wsJx4a65c_get_915e3 := goodIn_r _ [26, 22, 27, 28, 29, 30, 31, 32, 33, 34, 35, 36, 37, 20, 38, 39, 134, 135, 136] (by decide +kernel) (by decide +kernel)
set_option maxRecDepth 20000 in
theorem gX4_advise_Jx4a65c_get_915e3 : GoodIn wsX4_advise (wsV RX4 146 RJx4a65c yJx4a65c_get_915e3 wsJx4a65c_get_915e3) := goodIn_app (goodIn_of _ (by decide +kernel)) ggX4_advise_Jx4a65c_get_915e3
set_option maxRecDepth 20000 in
theorem ggX4_advise_X4_draftCopy : GoodIn wsX4_advise wsX4_draftCopy := goodIn_r _ [43, 6, 7, 44, 45, 46, 47, 48, 49, 50, 51, 52, 53, 54, 55, 56, 57, 17, 18, 19, 20, 21, 22, 23, 24, 25, 26, 27, 28, 29, 30, 31, 32, 33, 34, 35, 36, 37, 38, 39, 58, 59, 60, 61, 62, 63, 64, 65, 66, 67, 68, 69, 70, 71, 72, 73, 74, 75, 76, 77, 78, 79, 80, 81, 82, 83, 84, 85, 86, 87, 88, 89, 90, 91, 92, 93, 94, 95, 96, 124, 125, 126, 127, 128, 129, 130, 131, 132, 133, 118, 119, 120, 121, 122, 123, 137, 138, 139, 134, 135, 136, 140, 141, 142, 143] (by decide +kernel) (by decide +kernel)
set_option maxRecDepth 20000 in
theorem gX4_advise_X4_draftCopy : GoodIn wsX4_advise (wsV RX4 159 RX4 yX4_draftCopy wsX4_draftCopy) := goodIn_app (goodIn_of _ (by decide +kernel)) ggX4_advise_X4_draftCopy
set_option maxRecDepth 20000 in
theorem ggX4_advise_X4_steps : GoodIn wsX4_advise wsX4_steps := goodIn_r _ [100, 101, 102, 103, 104, 105, 11, 106, 107, 108, 109, 110, 111, 112, 113, 114, 115, 116, 117, 138, 139, 124, 125, 126, 127, 128, 129, 130, 131, 132, 133] (by decide +kernel) (by decide +kernel)
set_option maxRecDepth 20000 in
theorem gX4_advise_X4_steps : GoodIn wsX4_advise (wsV RX4 226 RX4 yX4_steps wsX4_steps) := goodIn_app (goodIn_of _ (by decide +kernel)) ggX4_advise_X4_steps
theorem dX4_advise_0 : decode cX4_advise 0 = .ok (.aload_n 0, 1) := by decide +kernel
theorem dX4_advise_1 : decode cX4_advise 1 = .ok (.iload_n 1, 1) := by decide +kernel
theorem dX4_advise_2 : decode cX4_advise 2 = .ok (.invokevirtual 84, 3) := by decide +kernel
theorem dX4_advise_5 : decode cX4_advise 5 = .ok (.astore_n 2, 1) := by decide +kernel
theorem dX4_advise_6 : decode cX4_advise 6 = .ok (.aload_n 2, 1) := by decide +kernel
theorem dX4_advise_7 : decode cX4_advise 7 = .ok (.getfield 153, 3) := by decide +kernel
theorem dX4_advise_10 : decode cX4_advise 10 = .ok (.ifCond .ne 13, 3) := by decide +kernel
theorem dX4_advise_13 : decode cX4_advise 13 = .ok (.new 51, 3) := by decide +kernel
theorem dX4_advise_16 : decode cX4_advise 16 = .ok (.dup, 1) := by decide +kernel
theorem dX4_advise_17 : decode cX4_advise 17 = .ok (.ldc 157, 2) := by decide +kernel
theorem dX4_advise_19 : decode cX4_advise 19 = .ok (.invokespecial 55, 3) := by decide +kernel
theorem dX4_advise_22 : decode cX4_advise 22 = .ok (.athrow, 1) := by decide +kernel
theorem dX4_advise_23 : decode cX4_advise 23 = .ok (.iconst (-1), 1) := by decide +kernel
theorem dX4_advise_24 : decode cX4_advise 24 = .ok (.istore_n 3, 1) := by decide +kernel
theorem dX4_advise_25 : decode cX4_advise 25 = .ok (.bipush 121, 2) := by decide +kernel
theorem dX4_advise_27 : decode cX4_advise 27 = .ok (.istore 4, 2) := by decide +kernel
theorem dX4_advise_29 : decode cX4_advise 29 = .ok (.iconst 0, 1) := by decide +kernel
theorem dX4_advise_30 : decode cX4_advise 30 = .ok (.istore 5, 2) := by decide +kernel
theorem dX4_advise_32 : decode cX4_advise 32 = .ok (.iload 5, 2) := by decide +kernel
theorem dX4_advise_34 : decode cX4_advise 34 = .ok (.aload_n 0, 1) := by decide +kernel
theorem dX4_advise_35 : decode cX4_advise 35 = .ok (.getfield 24, 3) := by decide +kernel
theorem dX4_advise_38 : decode cX4_advise 38 = .ok (.invokevirtual 67, 3) := by decide +kernel
theorem dX4_advise_41 : decode cX4_advise 41 = .ok (.if_icmp .ge 55, 3) := by decide +kernel
theorem dX4_advise_44 : decode cX4_advise 44 = .ok (.aload_n 0, 1) := by decide +kernel
theorem dX4_advise_45 : decode cX4_advise 45 = .ok (.aload_n 2, 1) := by decide +kernel
theorem dX4_advise_46 : decode cX4_advise 46 = .ok (.aload_n 0, 1) := by decide +kernel
theorem dX4_advise_47 : decode cX4_advise 47 = .ok (.getfield 24, 3) := by decide +kernel
theorem dX4_advise_50 : decode cX4_advise 50 = .ok (.iload 5, 2) := by decide +kernel
theorem dX4_advise_52 : decode cX4_advise 52 = .ok (.invokevirtual 146, 3) := by decide +kernel
theorem dX4_advise_55 : decode cX4_advise 55 = .ok (.checkcast 107, 3) := by decide +kernel
theorem dX4_advise_58 : decode cX4_advise 58 = .ok (.iconst 1, 1) := by decide +kernel
theorem dX4_advise_59 : decode cX4_advise 59 = .ok (.invokevirtual 159, 3) := by decide +kernel
theorem dX4_advise_62 : decode cX4_advise 62 = .ok (.aload_n 0, 1) := by decide +kernel
theorem dX4_advise_63 : decode cX4_advise 63 = .ok (.aload_n 0, 1) := by decide +kernel
theorem dX4_advise_64 : decode cX4_advise 64 = .ok (.getfield 35, 3) := by decide +kernel
theorem dX4_advise_67 : decode cX4_advise 67 = .ok (.aload_n 2, 1) := by decide +kernel
theorem dX4_advise_68 : decode cX4_advise 68 = .ok (.getfield 88, 3) := by decide +kernel
theorem dX4_advise_71 : decode cX4_advise 71 = .ok (.invokevirtual 226, 3) := by decide +kernel
theorem dX4_advise_74 : decode cX4_advise 74 = .ok (.istore 6, 2) := by decide +kernel
theorem dX4_advise_76 : decode cX4_advise 76 = .ok (.iload 6, 2) := by decide +kernel
theorem dX4_advise_78 : decode cX4_advise 78 = .ok (.iload 4, 2) := by decide +kernel
theorem dX4_advise_80 : decode cX4_advise 80 = .ok (.if_icmp .ge 10, 3) := by decide +kernel
theorem dX4_advise_83 : decode cX4_advise 83 = .ok (.iload 6, 2) := by decide +kernel
theorem dX4_advise_85 : decode cX4_advise 85 = .ok (.istore 4, 2) := by decide +kernel
theorem dX4_advise_87 : decode cX4_advise 87 = .ok (.iload 5, 2) := by decide +kernel
theorem dX4_advise_89 : decode cX4_advise 89 = .ok (.istore_n 3, 1) := by decide +kernel
theorem dX4_advise_90 : decode cX4_advise 90 = .ok (.iinc 5 1, 3) := by decide +kernel
theorem dX4_advise_93 : decode cX4_advise 93 = .ok (.goto (-61), 3) := by decide +kernel
theorem dX4_advise_96 : decode cX4_advise 96 = .ok (.iload_n 3, 1) := by decide +kernel
theorem dX4_advise_97 : decode cX4_advise 97 = .ok (.ireturn, 1) := by decide +kernel
set_option maxRecDepth 20000 in
theorem ggX4_decay_Jx4a65c_size_8abf5 : GoodIn wsX4_decay wsJx4a65c_size_8abf5 := goodIn_r _ [8, 9, 78, 79, 80] (by decide +kernel) (by decide +kernel)
set_option maxRecDepth 20000 in
theorem gX4_decay_Jx4a65c_size_8abf5 : GoodIn wsX4_decay (wsV RX4 67 RJx4a65c yJx4a65c_size_8abf5 wsJx4a65c_size_8abf5) := goodIn_app (goodIn_of _ (by decide +kernel)) ggX4_decay_Jx4a65c_size_8abf5
set_option maxRecDepth 20000 in
theorem ggX4_decay_Jx4a65c_get_915e3 : GoodIn wsX4_decay wsJx4a65c_get_915e3 := goodIn_r _ [13, 9, 14, 15, 16, 17, 18, 19, 20, 21, 22, 23, 24, 7, 25, 26, 78, 79, 80] (by decide +kernel) (by decide +kernel)
set_option maxRecDepth 20000 in
theorem gX4_decay_Jx4a65c_get_915e3 : GoodIn wsX4_decay (wsV RX4 146 RJx4a65c yJx4a65c_get_915e3 wsJx4a65c_get_915e3) := goodIn_app (goodIn_of _ (by decide +kernel)) ggX4_decay_Jx4a65c_get_915e3
set_option maxRecDepth 20000 in
theorem ggX4_decay_X1_origin : GoodIn wsX4_decay wsX1_origin := goodIn_r _ [31, 32, 72, 73, 74, 75, 76, 77] (by decide +kernel) (by decide +kernel)
set_option maxRecDepth 20000 in
theorem gX4_decay_X1_origin : GoodIn wsX4_decay (wsV RX4 234 RX1 yX1_origin wsX1_origin) := goodIn_app (goodIn_of _ (by decide +kernel)) ggX4_decay_X1_origin
set_option maxRecDepth 20000 in
theorem ggX4_decay_X4_measure : GoodIn wsX4_decay wsX4_measure := goodIn_r _ [37, 38, 39, 40, 41, 42, 43, 36, 44, 45, 46, 47, 48, 49, 50, 51, 52, 53, 54, 55, 56, 57, 58, 59, 60, 61, 62, 63, 64, 65, 66, 67, 68, 69, 70, 71, 72, 73, 74, 75, 76, 77, 81, 82] (by decide +kernel) (by decide +kernel)
set_option maxRecDepth 20000 in
theorem gX4_decay_X4_measure : GoodIn wsX4_decay (wsV RX4 191 RX4 yX4_measure wsX4_measure) := goodIn_app (goodIn_of _ (by decide +kernel)) ggX4_decay_X4_measure
theorem dX4_decay_0 : decode cX4_decay 0 = .ok (.iconst 0, 1) := by decide +kernel
theorem dX4_decay_1 : decode cX4_decay 1 = .ok (.istore_n 1, 1) := by decide +kernel
theorem dX4_decay_2 : decode cX4_decay 2 = .ok (.iconst 0, 1) := by decide +kernel
theorem dX4_decay_3 : decode cX4_decay 3 = .ok (.istore_n 2, 1) := by decide +kernel
theorem dX4_decay_4 : decode cX4_decay 4 = .ok (.iconst 0, 1) := by decide +kernel
theorem dX4_decay_5 : decode cX4_decay 5 = .ok (.istore_n 3, 1) := by decide +kernel
theorem dX4_decay_6 : decode cX4_decay 6 = .ok (.iload_n 3, 1) := by decide +kernel
theorem dX4_decay_7 : decode cX4_decay 7 = .ok (.aload_n 0, 1) := by decide +kernel
theorem dX4_decay_8 : decode cX4_decay 8 = .ok (.getfield 20, 3) := by decide +kernel
theorem dX4_decay_11 : decode cX4_decay 11 = .ok (.invokevirtual 67, 3) := by decide +kernel
theorem dX4_decay_14 : decode cX4_decay 14 = .ok (.if_icmp .ge 47, 3) := by decide +kernel
theorem dX4_decay_17 : decode cX4_decay 17 = .ok (.aload_n 0, 1) := by decide +kernel
theorem dX4_decay_18 : decode cX4_decay 18 = .ok (.getfield 20, 3) := by decide +kernel
theorem dX4_decay_21 : decode cX4_decay 21 = .ok (.iload_n 3, 1) := by decide +kernel
theorem dX4_decay_22 : decode cX4_decay 22 = .ok (.invokevirtual 146, 3) := by decide +kernel
theorem dX4_decay_25 : decode cX4_decay 25 = .ok (.checkcast 89, 3) := by decide +kernel
theorem dX4_decay_28 : decode cX4_decay 28 = .ok (.astore 4, 2) := by decide +kernel
theorem dX4_decay_30 : decode cX4_decay 30 = .ok (.aload 4, 2) := by decide +kernel
theorem dX4_decay_32 : decode cX4_decay 32 = .ok (.getfield 153, 3) := by decide +kernel
theorem dX4_decay_35 : decode cX4_decay 35 = .ok (.ifCond .eq 20, 3) := by decide +kernel
theorem dX4_decay_38 : decode cX4_decay 38 = .ok (.iload_n 1, 1) := by decide +kernel
theorem dX4_decay_39 : decode cX4_decay 39 = .ok (.aload_n 0, 1) := by decide +kernel
theorem dX4_decay_40 : decode cX4_decay 40 = .ok (.aload 4, 2) := by decide +kernel
theorem dX4_decay_42 : decode cX4_decay 42 = .ok (.aload 4, 2) := by decide +kernel
theorem dX4_decay_44 : decode cX4_decay 44 = .ok (.invokevirtual 234, 3) := by decide +kernel
theorem dX4_decay_47 : decode cX4_decay 47 = .ok (.invokevirtual 191, 3) := by decide +kernel
theorem dX4_decay_50 : decode cX4_decay 50 = .ok (.iadd, 1) := by decide +kernel
theorem dX4_decay_51 : decode cX4_decay 51 = .ok (.istore_n 1, 1) := by decide +kernel
theorem dX4_decay_52 : decode cX4_decay 52 = .ok (.iinc 2 1, 3) := by decide +kernel
theorem dX4_decay_55 : decode cX4_decay 55 = .ok (.iinc 3 1, 3) := by decide +kernel
theorem dX4_decay_58 : decode cX4_decay 58 = .ok (.goto (-52), 3) := by decide +kernel
theorem dX4_decay_61 : decode cX4_decay 61 = .ok (.iload_n 2, 1) := by decide +kernel
theorem dX4_decay_62 : decode cX4_decay 62 = .ok (.ifCond .ne 7, 3) := by decide +kernel
theorem dX4_decay_65 : decode cX4_decay 65 = .ok (.dconst 0, 1) := by decide +kernel
theorem dX4_decay_66 : decode cX4_decay 66 = .ok (.goto 8, 3) := by decide +kernel
theorem dX4_decay_69 : decode cX4_decay 69 = .ok (.iload_n 1, 1) := by decide +kernel
theorem dX4_decay_70 : decode cX4_decay 70 = .ok (.i2d, 1) := by decide +kernel
theorem dX4_decay_71 : decode cX4_decay 71 = .ok (.iload_n 2, 1) := by decide +kernel
theorem dX4_decay_72 : decode cX4_decay 72 = .ok (.i2d, 1) := by decide +kernel
theorem dX4_decay_73 : decode cX4_decay 73 = .ok (.ddiv, 1) := by decide +kernel
theorem dX4_decay_74 : decode cX4_decay 74 = .ok (.dreturn, 1) := by decide +kernel
set_option maxRecDepth 20000 in
theorem ggX4_digest_X4_counted : GoodIn wsX4_digest wsX4_counted := goodIn_r _ [12, 4, 2, 13, 14, 15, 16, 17, 18, 19, 20, 21, 22, 11, 23, 5, 24, 25, 26, 27, 28, 29, 30, 31, 32, 33, 34, 35, 36, 37, 38, 39, 40, 41, 42, 43, 44, 45, 46, 47, 48, 49, 50, 51, 52, 53, 54, 55, 56, 57, 58, 59, 60, 7, 61, 62, 63, 64, 65, 66, 67, 68, 69, 70, 71, 72, 73, 74, 75, 76, 77, 78, 79, 80, 81, 82, 83, 84, 85, 86, 87, 88, 89, 90, 91, 92, 93, 173, 174, 175, 176, 177, 178, 179, 180, 181, 182, 185, 186, 187, 188, 189, 190, 191, 192, 193, 183, 184] (by decide +kernel) (by decide +kernel)
set_option maxRecDepth 20000 in
theorem gX4_digest_X4_counted : GoodIn wsX4_digest (wsV RX4 188 RX4 yX4_counted wsX4_counted) := goodIn_app (goodIn_of _ (by decide +kernel)) ggX4_digest_X4_counted
set_option maxRecDepth 20000 in
theorem ggX4_digest_X4_mixed : GoodIn wsX4_digest wsX4_mixed := goodIn_r _ [96, 97] (by decide +kernel) (by decide +kernel)
set_option maxRecDepth 20000 in
theorem gX4_digest_X4_mixed : GoodIn wsX4_digest (va_wsS RX4 240 yX4_mixed wsX4_mixed) := goodIn_app (goodIn_of _ (by decide +kernel)) ggX4_digest_X4_mixed
set_option maxRecDepth 20000 in
theorem ggX4_digest_Jx4a65c_size_8abf5 : GoodIn wsX4_digest wsJx4a65c_size_8abf5 := goodIn_r _ [18, 19, 185, 186, 187] (by decide +kernel) (by decide +kernel)
set_option maxRecDepth 20000 in
theorem gX4_digest_Jx4a65c_size_8abf5 : GoodIn wsX4_digest (wsV RX4 67 RJx4a65c yJx4a65c_size_8abf5 wsJx4a65c_size_8abf5) := goodIn_app (goodIn_of _ (by decide +kernel)) ggX4_digest_Jx4a65c_size_8abf5
set_option maxRecDepth 20000 in
theorem ggX4_digest_Jx4a65c_get_915e3 : GoodIn wsX4_digest wsJx4a65c_get_915e3 := goodIn_r _ [28, 19, 29, 30, 31, 32, 33, 34, 35, 36, 37, 38, 39, 17, 40, 41, 185, 186, 187] (by decide +kernel) (by decide +kernel)
set_option maxRecDepth 20000 in
theorem gX4_digest_Jx4a65c_get_915e3 : GoodIn wsX4_digest (wsV RX4 146 RJx4a65c yJx4a65c_get_915e3 wsJx4a65c_get_915e3) := goodIn_app (goodIn_of _ (by decide +kernel)) ggX4_digest_Jx4a65c_get_915e3
set_option maxRecDepth 20000 in
theorem ggX4_digest_X4_scribeMixed : GoodIn wsX4_digest wsX4_scribeMixed := goodIn_r _ [100, 101, 102, 14, 15, 16, 17, 18, 19, 94, 95, 11, 96, 97, 25, 26, 27, 28, 29, 30, 31, 32, 33, 34, 35, 36, 37, 38, 39, 40, 41, 103, 104, 105, 106, 107, 108, 109, 110, 111, 194, 185, 186, 187, 195, 196, 197, 198] (by decide +kernel) (by decide +kernel)
set_option maxRecDepth 20000 in
theorem gX4_digest_X4_scribeMixed : GoodIn wsX4_digest (va_wsS RX4 244 yX4_scribeMixed wsX4_scribeMixed) := goodIn_app (goodIn_of _ (by decide +kernel)) ggX4_digest_X4_scribeMixed
set_option maxRecDepth 20000 in
theorem ggX4_digest_X4_manuscriptMixed : GoodIn wsX4_digest wsX4_manuscriptMixed := goodIn_r _ [115, 60, 116, 117, 118, 11, 119, 7, 46, 65, 120, 51, 24, 121, 122, 123, 124, 4, 5, 14, 15, 16, 17, 18, 19, 25, 26, 27, 28, 29, 30, 31, 32, 33, 34, 35, 36, 37, 38, 39, 40, 41, 125, 126, 127, 128, 129, 130, 131, 132, 133, 134, 70, 71, 72, 73, 74, 75, 76, 77, 78, 79, 80, 81, 82, 83, 84, 85, 54, 86, 87, 88, 89, 90, 91, 92, 93, 135, 136, 137, 138, 94, 95, 96, 97, 66, 67, 68, 69, 139, 140, 141, 188, 189, 190, 191, 192, 193, 183, 184, 173, 174, 175, 176, 177, 178, 179, 180, 181, 182, 185, 186, 187] (by decide +kernel) (by decide +kernel)
set_option maxRecDepth 20000 in
theorem gX4_digest_X4_manuscriptMixed : GoodIn wsX4_digest (wsV RX4 248 RX4 yX4_manuscriptMixed wsX4_manuscriptMixed) := goodIn_app (goodIn_of _ (by decide +kernel)) ggX4_digest_X4_manuscriptMixed
set_option maxRecDepth 20000 in
theorem ggX4_digest_X4_voteText : GoodIn wsX4_digest wsX4_voteText := goodIn_r _ [145, 6, 7, 146, 147, 148, 11, 149, 150, 4, 5, 24, 60, 151, 152, 153, 154, 14, 15, 16, 17, 18, 19, 25, 26, 27, 28, 29, 30, 31, 32, 33, 34, 35, 36, 37, 38, 39, 40, 41, 155, 156, 157, 158, 159, 160, 161, 162, 80, 163, 164, 165, 166, 167, 168, 169, 170, 171, 172, 173, 174, 175, 176, 177, 178, 179, 180, 181, 182, 183, 184, 188, 189, 190, 191, 192, 193, 185, 186, 187] (by decide +kernel) (by decide +kernel)
set_option maxRecDepth 20000 in
theorem gX4_digest_X4_voteText : GoodIn wsX4_digest (wsV RX4 223 RX4 yX4_voteText wsX4_voteText) := goodIn_app (goodIn_of _ (by decide +kernel)) ggX4_digest_X4_voteText
set_option maxRecDepth 20000 in
theorem ggX4_digest_X4_textMixed : GoodIn wsX4_digest wsX4_textMixed := goodIn_r _ [141, 7, 80, 94, 95, 11, 96, 97, 183, 184] (by decide +kernel) (by decide +kernel)
set_option maxRecDepth 20000 in
theorem gX4_digest_X4_textMixed : GoodIn wsX4_digest (va_wsS RX4 252 yX4_textMixed wsX4_textMixed) := goodIn_app (goodIn_of _ (by decide +kernel)) ggX4_digest_X4_textMixed
theorem dX4_digest_0 : decode cX4_digest 0 = .ok (.ldc2_w 238, 3) := by decide +kernel
theorem dX4_digest_3 : decode cX4_digest 3 = .ok (.lstore_n 1, 1) := by decide +kernel
theorem dX4_digest_4 : decode cX4_digest 4 = .ok (.iconst 0, 1) := by decide +kernel
theorem dX4_digest_5 : decode cX4_digest 5 = .ok (.istore_n 3, 1) := by decide +kernel
