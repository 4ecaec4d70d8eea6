theorem dX4_digest_6 : decode cX4_digest 6 = .ok (.iload_n 3, 1) := by decide +kernel
theorem dX4_digest_7 : decode cX4_digest 7 = .ok (.bipush 8, 2) := by decide +kernel
theorem dX4_digest_9 : decode cX4_digest 9 = .ok (.if_icmp .ge 19, 3) := by decide +kernel
theorem dX4_digest_12 : decode cX4_digest 12 = .ok (.lload_n 1, 1) := by decide +kernel
theorem dX4_digest_13 : decode cX4_digest 13 = .ok (.aload_n 0, 1) := by decide +kernel
theorem dX4_digest_14 : decode cX4_digest 14 = .ok (.iload_n 3, 1) := by decide +kernel
theorem dX4_digest_15 : decode cX4_digest 15 = .ok (.invokevirtual 188, 3) := by decide +kernel
theorem dX4_digest_18 : decode cX4_digest 18 = .ok (.invokestatic 240, 3) := by decide +kernel
theorem dX4_digest_21 : decode cX4_digest 21 = .ok (.lstore_n 1, 1) := by decide +kernel
theorem dX4_digest_22 : decode cX4_digest 22 = .ok (.iinc 3 1, 3) := by decide +kernel
theorem dX4_digest_25 : decode cX4_digest 25 = .ok (.goto (-19), 3) := by decide +kernel
theorem dX4_digest_28 : decode cX4_digest 28 = .ok (.iconst 0, 1) := by decide +kernel
theorem dX4_digest_29 : decode cX4_digest 29 = .ok (.istore_n 3, 1) := by decide +kernel
theorem dX4_digest_30 : decode cX4_digest 30 = .ok (.iload_n 3, 1) := by decide +kernel
theorem dX4_digest_31 : decode cX4_digest 31 = .ok (.aload_n 0, 1) := by decide +kernel
theorem dX4_digest_32 : decode cX4_digest 32 = .ok (.getfield 24, 3) := by decide +kernel
theorem dX4_digest_35 : decode cX4_digest 35 = .ok (.invokevirtual 67, 3) := by decide +kernel
theorem dX4_digest_38 : decode cX4_digest 38 = .ok (.if_icmp .ge 25, 3) := by decide +kernel
theorem dX4_digest_41 : decode cX4_digest 41 = .ok (.lload_n 1, 1) := by decide +kernel
theorem dX4_digest_42 : decode cX4_digest 42 = .ok (.aload_n 0, 1) := by decide +kernel
theorem dX4_digest_43 : decode cX4_digest 43 = .ok (.getfield 24, 3) := by decide +kernel
theorem dX4_digest_46 : decode cX4_digest 46 = .ok (.iload_n 3, 1) := by decide +kernel
theorem dX4_digest_47 : decode cX4_digest 47 = .ok (.invokevirtual 146, 3) := by decide +kernel
theorem dX4_digest_50 : decode cX4_digest 50 = .ok (.checkcast 107, 3) := by decide +kernel
theorem dX4_digest_53 : decode cX4_digest 53 = .ok (.invokestatic 244, 3) := by decide +kernel
theorem dX4_digest_56 : decode cX4_digest 56 = .ok (.lstore_n 1, 1) := by decide +kernel
theorem dX4_digest_57 : decode cX4_digest 57 = .ok (.iinc 3 1, 3) := by decide +kernel
theorem dX4_digest_60 : decode cX4_digest 60 = .ok (.goto (-30), 3) := by decide +kernel
theorem dX4_digest_63 : decode cX4_digest 63 = .ok (.iconst 0, 1) := by decide +kernel
theorem dX4_digest_64 : decode cX4_digest 64 = .ok (.istore_n 3, 1) := by decide +kernel
theorem dX4_digest_65 : decode cX4_digest 65 = .ok (.iload_n 3, 1) := by decide +kernel
theorem dX4_digest_66 : decode cX4_digest 66 = .ok (.aload_n 0, 1) := by decide +kernel
theorem dX4_digest_67 : decode cX4_digest 67 = .ok (.getfield 20, 3) := by decide +kernel
theorem dX4_digest_70 : decode cX4_digest 70 = .ok (.invokevirtual 67, 3) := by decide +kernel
theorem dX4_digest_73 : decode cX4_digest 73 = .ok (.if_icmp .ge 26, 3) := by decide +kernel
theorem dX4_digest_76 : decode cX4_digest 76 = .ok (.aload_n 0, 1) := by decide +kernel
theorem dX4_digest_77 : decode cX4_digest 77 = .ok (.lload_n 1, 1) := by decide +kernel
theorem dX4_digest_78 : decode cX4_digest 78 = .ok (.aload_n 0, 1) := by decide +kernel
theorem dX4_digest_79 : decode cX4_digest 79 = .ok (.getfield 20, 3) := by decide +kernel
theorem dX4_digest_82 : decode cX4_digest 82 = .ok (.iload_n 3, 1) := by decide +kernel
theorem dX4_digest_83 : decode cX4_digest 83 = .ok (.invokevirtual 146, 3) := by decide +kernel
theorem dX4_digest_86 : decode cX4_digest 86 = .ok (.checkcast 89, 3) := by decide +kernel
theorem dX4_digest_89 : decode cX4_digest 89 = .ok (.invokevirtual 248, 3) := by decide +kernel
theorem dX4_digest_92 : decode cX4_digest 92 = .ok (.lstore_n 1, 1) := by decide +kernel
theorem dX4_digest_93 : decode cX4_digest 93 = .ok (.iinc 3 1, 3) := by decide +kernel
theorem dX4_digest_96 : decode cX4_digest 96 = .ok (.goto (-31), 3) := by decide +kernel
theorem dX4_digest_99 : decode cX4_digest 99 = .ok (.aload_n 0, 1) := by decide +kernel
theorem dX4_digest_100 : decode cX4_digest 100 = .ok (.invokevirtual 223, 3) := by decide +kernel
theorem dX4_digest_103 : decode cX4_digest 103 = .ok (.lload_n 1, 1) := by decide +kernel
theorem dX4_digest_104 : decode cX4_digest 104 = .ok (.aload_n 0, 1) := by decide +kernel
theorem dX4_digest_105 : decode cX4_digest 105 = .ok (.getfield 42, 3) := by decide +kernel
theorem dX4_digest_108 : decode cX4_digest 108 = .ok (.getfield 93, 3) := by decide +kernel
theorem dX4_digest_111 : decode cX4_digest 111 = .ok (.invokestatic 240, 3) := by decide +kernel
theorem dX4_digest_114 : decode cX4_digest 114 = .ok (.lstore_n 1, 1) := by decide +kernel
theorem dX4_digest_115 : decode cX4_digest 115 = .ok (.lload_n 1, 1) := by decide +kernel
theorem dX4_digest_116 : decode cX4_digest 116 = .ok (.aload_n 0, 1) := by decide +kernel
theorem dX4_digest_117 : decode cX4_digest 117 = .ok (.getfield 42, 3) := by decide +kernel
theorem dX4_digest_120 : decode cX4_digest 120 = .ok (.invokestatic 252, 3) := by decide +kernel
theorem dX4_digest_123 : decode cX4_digest 123 = .ok (.lreturn, 1) := by decide +kernel
set_option maxRecDepth 20000 in
theorem ggX4_manuscriptOf_Jx4a65c_size_8abf5 : GoodIn wsX4_manuscriptOf wsJx4a65c_size_8abf5 := goodIn_r _ [9, 10, 38, 39, 40] (by decide +kernel) (by decide +kernel)
set_option maxRecDepth 20000 in
theorem gX4_manuscriptOf_Jx4a65c_size_8abf5 : GoodIn wsX4_manuscriptOf (wsV RX4 67 RJx4a65c yJx4a65c_size_8abf5 wsJx4a65c_size_8abf5) := goodIn_app (goodIn_of _ (by decide +kernel)) ggX4_manuscriptOf_Jx4a65c_size_8abf5
set_option maxRecDepth 20000 in
theorem ggX4_manuscriptOf_Jx4a65c_get_915e3 : GoodIn wsX4_manuscriptOf wsJx4a65c_get_915e3 := goodIn_r _ [14, 10, 15, 16, 17, 18, 19, 20, 21, 22, 23, 24, 25, 8, 26, 27, 38, 39, 40] (by decide +kernel) (by decide +kernel)
set_option maxRecDepth 20000 in
theorem gX4_manuscriptOf_Jx4a65c_get_915e3 : GoodIn wsX4_manuscriptOf (wsV RX4 146 RJx4a65c yJx4a65c_get_915e3 wsJx4a65c_get_915e3) := goodIn_app (goodIn_of _ (by decide +kernel)) ggX4_manuscriptOf_Jx4a65c_get_915e3
theorem dX4_manuscriptOf_0 : decode cX4_manuscriptOf 0 = .ok (.iload_n 1, 1) := by decide +kernel
theorem dX4_manuscriptOf_1 : decode cX4_manuscriptOf 1 = .ok (.ifCond .lt 14, 3) := by decide +kernel
theorem dX4_manuscriptOf_4 : decode cX4_manuscriptOf 4 = .ok (.iload_n 1, 1) := by decide +kernel
theorem dX4_manuscriptOf_5 : decode cX4_manuscriptOf 5 = .ok (.aload_n 0, 1) := by decide +kernel
theorem dX4_manuscriptOf_6 : decode cX4_manuscriptOf 6 = .ok (.getfield 20, 3) := by decide +kernel
theorem dX4_manuscriptOf_9 : decode cX4_manuscriptOf 9 = .ok (.invokevirtual 67, 3) := by decide +kernel
theorem dX4_manuscriptOf_12 : decode cX4_manuscriptOf 12 = .ok (.if_icmp .lt 14, 3) := by decide +kernel
theorem dX4_manuscriptOf_15 : decode cX4_manuscriptOf 15 = .ok (.new 96, 3) := by decide +kernel
theorem dX4_manuscriptOf_18 : decode cX4_manuscriptOf 18 = .ok (.dup, 1) := by decide +kernel
theorem dX4_manuscriptOf_19 : decode cX4_manuscriptOf 19 = .ok (.ldc_w 256, 3) := by decide +kernel
theorem dX4_manuscriptOf_22 : decode cX4_manuscriptOf 22 = .ok (.invokespecial 100, 3) := by decide +kernel
theorem dX4_manuscriptOf_25 : decode cX4_manuscriptOf 25 = .ok (.athrow, 1) := by decide +kernel
theorem dX4_manuscriptOf_26 : decode cX4_manuscriptOf 26 = .ok (.aload_n 0, 1) := by decide +kernel
theorem dX4_manuscriptOf_27 : decode cX4_manuscriptOf 27 = .ok (.getfield 20, 3) := by decide +kernel
theorem dX4_manuscriptOf_30 : decode cX4_manuscriptOf 30 = .ok (.iload_n 1, 1) := by decide +kernel
theorem dX4_manuscriptOf_31 : decode cX4_manuscriptOf 31 = .ok (.invokevirtual 146, 3) := by decide +kernel
theorem dX4_manuscriptOf_34 : decode cX4_manuscriptOf 34 = .ok (.checkcast 89, 3) := by decide +kernel
theorem dX4_manuscriptOf_37 : decode cX4_manuscriptOf 37 = .ok (.areturn, 1) := by decide +kernel
set_option maxRecDepth 20000 in
theorem ggX4_scribeOf_Jx4a65c_size_8abf5 : GoodIn wsX4_scribeOf wsJx4a65c_size_8abf5 := goodIn_r _ [9, 10, 38, 39, 40] (by decide +kernel) (by decide +kernel)
set_option maxRecDepth 20000 in
theorem gX4_scribeOf_Jx4a65c_size_8abf5 : GoodIn wsX4_scribeOf (wsV RX4 67 RJx4a65c yJx4a65c_size_8abf5 wsJx4a65c_size_8abf5) := goodIn_app (goodIn_of _ (by decide +kernel)) ggX4_scribeOf_Jx4a65c_size_8abf5
set_option maxRecDepth 20000 in
theorem ggX4_scribeOf_Jx4a65c_get_915e3 : GoodIn wsX4_scribeOf wsJx4a65c_get_915e3 := goodIn_r _ [14, 10, 15, 16, 17, 18, 19, 20, 21, 22, 23, 24, 25, 8, 26, 27, 38, 39, 40] (by decide +kernel) (by decide +kernel)
set_option maxRecDepth 20000 in
theorem gX4_scribeOf_Jx4a65c_get_915e3 : GoodIn wsX4_scribeOf (wsV RX4 146 RJx4a65c yJx4a65c_get_915e3 wsJx4a65c_get_915e3) := goodIn_app (goodIn_of _ (by decide +kernel)) ggX4_scribeOf_Jx4a65c_get_915e3
theorem dX4_scribeOf_0 : decode cX4_scribeOf 0 = .ok (.iload_n 1, 1) := by decide +kernel
theorem dX4_scribeOf_1 : decode cX4_scribeOf 1 = .ok (.ifCond .lt 14, 3) := by decide +kernel
theorem dX4_scribeOf_4 : decode cX4_scribeOf 4 = .ok (.iload_n 1, 1) := by decide +kernel
theorem dX4_scribeOf_5 : decode cX4_scribeOf 5 = .ok (.aload_n 0, 1) := by decide +kernel
theorem dX4_scribeOf_6 : decode cX4_scribeOf 6 = .ok (.getfield 24, 3) := by decide +kernel
theorem dX4_scribeOf_9 : decode cX4_scribeOf 9 = .ok (.invokevirtual 67, 3) := by decide +kernel
theorem dX4_scribeOf_12 : decode cX4_scribeOf 12 = .ok (.if_icmp .lt 14, 3) := by decide +kernel
theorem dX4_scribeOf_15 : decode cX4_scribeOf 15 = .ok (.new 96, 3) := by decide +kernel
theorem dX4_scribeOf_18 : decode cX4_scribeOf 18 = .ok (.dup, 1) := by decide +kernel
theorem dX4_scribeOf_19 : decode cX4_scribeOf 19 = .ok (.ldc_w 258, 3) := by decide +kernel
theorem dX4_scribeOf_22 : decode cX4_scribeOf 22 = .ok (.invokespecial 100, 3) := by decide +kernel
theorem dX4_scribeOf_25 : decode cX4_scribeOf 25 = .ok (.athrow, 1) := by decide +kernel
theorem dX4_scribeOf_26 : decode cX4_scribeOf 26 = .ok (.aload_n 0, 1) := by decide +kernel
theorem dX4_scribeOf_27 : decode cX4_scribeOf 27 = .ok (.getfield 24, 3) := by decide +kernel
theorem dX4_scribeOf_30 : decode cX4_scribeOf 30 = .ok (.iload_n 1, 1) := by decide +kernel
theorem dX4_scribeOf_31 : decode cX4_scribeOf 31 = .ok (.invokevirtual 146, 3) := by decide +kernel
theorem dX4_scribeOf_34 : decode cX4_scribeOf 34 = .ok (.checkcast 107, 3) := by decide +kernel
theorem dX4_scribeOf_37 : decode cX4_scribeOf 37 = .ok (.areturn, 1) := by decide +kernel
theorem dX4_isLetter_0 : decode cX4_isLetter 0 = .ok (.iload_n 0, 1) := by decide +kernel
theorem dX4_isLetter_1 : decode cX4_isLetter 1 = .ok (.ifCond .lt 13, 3) := by decide +kernel
theorem dX4_isLetter_4 : decode cX4_isLetter 4 = .ok (.iload_n 0, 1) := by decide +kernel
theorem dX4_isLetter_5 : decode cX4_isLetter 5 = .ok (.bipush 26, 2) := by decide +kernel
theorem dX4_isLetter_7 : decode cX4_isLetter 7 = .ok (.if_icmp .ge 7, 3) := by decide +kernel
theorem dX4_isLetter_10 : decode cX4_isLetter 10 = .ok (.iconst 1, 1) := by decide +kernel
theorem dX4_isLetter_11 : decode cX4_isLetter 11 = .ok (.goto 4, 3) := by decide +kernel
theorem dX4_isLetter_14 : decode cX4_isLetter 14 = .ok (.iconst 0, 1) := by decide +kernel
theorem dX4_isLetter_15 : decode cX4_isLetter 15 = .ok (.ireturn, 1) := by decide +kernel
theorem dX4_feedNumber_0 : decode cX4_feedNumber 0 = .ok (.bipush 24, 2) := by decide +kernel
theorem dX4_feedNumber_2 : decode cX4_feedNumber 2 = .ok (.istore_n 2, 1) := by decide +kernel
theorem dX4_feedNumber_3 : decode cX4_feedNumber 3 = .ok (.iload_n 2, 1) := by decide +kernel
theorem dX4_feedNumber_4 : decode cX4_feedNumber 4 = .ok (.ifCond .lt 47, 3) := by decide +kernel
theorem dX4_feedNumber_7 : decode cX4_feedNumber 7 = .ok (.aload_n 0, 1) := by decide +kernel
theorem dX4_feedNumber_8 : decode cX4_feedNumber 8 = .ok (.getfield 13, 3) := by decide +kernel
theorem dX4_feedNumber_11 : decode cX4_feedNumber 11 = .ok (.aload_n 0, 1) := by decide +kernel
theorem dX4_feedNumber_12 : decode cX4_feedNumber 12 = .ok (.getfield 9, 3) := by decide +kernel
theorem dX4_feedNumber_15 : decode cX4_feedNumber 15 = .ok (.arraylength, 1) := by decide +kernel
theorem dX4_feedNumber_16 : decode cX4_feedNumber 16 = .ok (.if_icmp .ge 29, 3) := by decide +kernel
theorem dX4_feedNumber_19 : decode cX4_feedNumber 19 = .ok (.aload_n 0, 1) := by decide +kernel
theorem dX4_feedNumber_20 : decode cX4_feedNumber 20 = .ok (.getfield 9, 3) := by decide +kernel
theorem dX4_feedNumber_23 : decode cX4_feedNumber 23 = .ok (.aload_n 0, 1) := by decide +kernel
theorem dX4_feedNumber_24 : decode cX4_feedNumber 24 = .ok (.getfield 13, 3) := by decide +kernel
theorem dX4_feedNumber_27 : decode cX4_feedNumber 27 = .ok (.iload_n 1, 1) := by decide +kernel
theorem dX4_feedNumber_28 : decode cX4_feedNumber 28 = .ok (.iload_n 2, 1) := by decide +kernel
theorem dX4_feedNumber_29 : decode cX4_feedNumber 29 = .ok (.iushr, 1) := by decide +kernel
theorem dX4_feedNumber_30 : decode cX4_feedNumber 30 = .ok (.sipush 255, 3) := by decide +kernel
theorem dX4_feedNumber_33 : decode cX4_feedNumber 33 = .ok (.iand, 1) := by decide +kernel
theorem dX4_feedNumber_34 : decode cX4_feedNumber 34 = .ok (.iastore, 1) := by decide +kernel
theorem dX4_feedNumber_35 : decode cX4_feedNumber 35 = .ok (.aload_n 0, 1) := by decide +kernel
theorem dX4_feedNumber_36 : decode cX4_feedNumber 36 = .ok (.dup, 1) := by decide +kernel
theorem dX4_feedNumber_37 : decode cX4_feedNumber 37 = .ok (.getfield 13, 3) := by decide +kernel
theorem dX4_feedNumber_40 : decode cX4_feedNumber 40 = .ok (.iconst 1, 1) := by decide +kernel
theorem dX4_feedNumber_41 : decode cX4_feedNumber 41 = .ok (.iadd, 1) := by decide +kernel
theorem dX4_feedNumber_42 : decode cX4_feedNumber 42 = .ok (.putfield 13, 3) := by decide +kernel
theorem dX4_feedNumber_45 : decode cX4_feedNumber 45 = .ok (.iinc 2 (-8), 3) := by decide +kernel
theorem dX4_feedNumber_48 : decode cX4_feedNumber 48 = .ok (.goto (-45), 3) := by decide +kernel
theorem dX4_feedNumber_51 : decode cX4_feedNumber 51 = .ok (.return_, 1) := by decide +kernel
set_option maxRecDepth 20000 in
theorem ggX4_tapeIsText_X4_isLetter : GoodIn wsX4_tapeIsText wsX4_isLetter := goodIn_r _ [6] (by decide +kernel) (by decide +kernel)
set_option maxRecDepth 20000 in
theorem gX4_tapeIsText_X4_isLetter : GoodIn wsX4_tapeIsText (va_wsS RX4 120 yX4_isLetter wsX4_isLetter) := goodIn_app (goodIn_of _ (by decide +kernel)) ggX4_tapeIsText_X4_isLetter
theorem dX4_tapeIsText_0 : decode cX4_tapeIsText 0 = .ok (.iconst 0, 1) := by decide +kernel
theorem dX4_tapeIsText_1 : decode cX4_tapeIsText 1 = .ok (.istore_n 1, 1) := by decide +kernel
theorem dX4_tapeIsText_2 : decode cX4_tapeIsText 2 = .ok (.iload_n 1, 1) := by decide +kernel
theorem dX4_tapeIsText_3 : decode cX4_tapeIsText 3 = .ok (.aload_n 0, 1) := by decide +kernel
theorem dX4_tapeIsText_4 : decode cX4_tapeIsText 4 = .ok (.getfield 13, 3) := by decide +kernel
theorem dX4_tapeIsText_7 : decode cX4_tapeIsText 7 = .ok (.if_icmp .ge 26, 3) := by decide +kernel
theorem dX4_tapeIsText_10 : decode cX4_tapeIsText 10 = .ok (.aload_n 0, 1) := by decide +kernel
theorem dX4_tapeIsText_11 : decode cX4_tapeIsText 11 = .ok (.getfield 9, 3) := by decide +kernel
theorem dX4_tapeIsText_14 : decode cX4_tapeIsText 14 = .ok (.iload_n 1, 1) := by decide +kernel
theorem dX4_tapeIsText_15 : decode cX4_tapeIsText 15 = .ok (.iaload, 1) := by decide +kernel
theorem dX4_tapeIsText_16 : decode cX4_tapeIsText 16 = .ok (.bipush 97, 2) := by decide +kernel
theorem dX4_tapeIsText_18 : decode cX4_tapeIsText 18 = .ok (.isub, 1) := by decide +kernel
theorem dX4_tapeIsText_19 : decode cX4_tapeIsText 19 = .ok (.invokestatic 120, 3) := by decide +kernel
theorem dX4_tapeIsText_22 : decode cX4_tapeIsText 22 = .ok (.ifCond .ne 5, 3) := by decide +kernel
theorem dX4_tapeIsText_25 : decode cX4_tapeIsText 25 = .ok (.iconst 0, 1) := by decide +kernel
theorem dX4_tapeIsText_26 : decode cX4_tapeIsText 26 = .ok (.ireturn, 1) := by decide +kernel
theorem dX4_tapeIsText_27 : decode cX4_tapeIsText 27 = .ok (.iinc 1 1, 3) := by decide +kernel
theorem dX4_tapeIsText_30 : decode cX4_tapeIsText 30 = .ok (.goto (-28), 3) := by decide +kernel
theorem dX4_tapeIsText_33 : decode cX4_tapeIsText 33 = .ok (.aload_n 0, 1) := by decide +kernel
theorem dX4_tapeIsText_34 : decode cX4_tapeIsText 34 = .ok (.getfield 13, 3) := by decide +kernel
theorem dX4_tapeIsText_37 : decode cX4_tapeIsText 37 = .ok (.ifCond .le 7, 3) := by decide +kernel
theorem dX4_tapeIsText_40 : decode cX4_tapeIsText 40 = .ok (.iconst 1, 1) := by decide +kernel
theorem dX4_tapeIsText_41 : decode cX4_tapeIsText 41 = .ok (.goto 4, 3) := by decide +kernel
theorem dX4_tapeIsText_44 : decode cX4_tapeIsText 44 = .ok (.iconst 0, 1) := by decide +kernel
theorem dX4_tapeIsText_45 : decode cX4_tapeIsText 45 = .ok (.ireturn, 1) := by decide +kernel
set_option maxRecDepth 20000 in
theorem ggX4_draftFromTape_X3_append : GoodIn wsX4_draftFromTape wsX3_append := goodIn_r _ [9, 10, 11, 22, 23] (by decide +kernel) (by decide +kernel)
set_option maxRecDepth 20000 in
theorem gX4_draftFromTape_X3_append : GoodIn wsX4_draftFromTape (wsV RX4 260 RX3 yX3_append wsX3_append) := goodIn_app (goodIn_of _ (by decide +kernel)) ggX4_draftFromTape_X3_append
theorem dX4_draftFromTape_0 : decode cX4_draftFromTape 0 = .ok (.aload_n 0, 1) := by decide +kernel
theorem dX4_draftFromTape_1 : decode cX4_draftFromTape 1 = .ok (.getfield 35, 3) := by decide +kernel
theorem dX4_draftFromTape_4 : decode cX4_draftFromTape 4 = .ok (.iconst 0, 1) := by decide +kernel
theorem dX4_draftFromTape_5 : decode cX4_draftFromTape 5 = .ok (.putfield 93, 3) := by decide +kernel
theorem dX4_draftFromTape_8 : decode cX4_draftFromTape 8 = .ok (.iconst 0, 1) := by decide +kernel
theorem dX4_draftFromTape_9 : decode cX4_draftFromTape 9 = .ok (.istore_n 1, 1) := by decide +kernel
theorem dX4_draftFromTape_10 : decode cX4_draftFromTape 10 = .ok (.iload_n 1, 1) := by decide +kernel
theorem dX4_draftFromTape_11 : decode cX4_draftFromTape 11 = .ok (.aload_n 0, 1) := by decide +kernel
theorem dX4_draftFromTape_12 : decode cX4_draftFromTape 12 = .ok (.getfield 13, 3) := by decide +kernel
theorem dX4_draftFromTape_15 : decode cX4_draftFromTape 15 = .ok (.if_icmp .ge 22, 3) := by decide +kernel
theorem dX4_draftFromTape_18 : decode cX4_draftFromTape 18 = .ok (.aload_n 0, 1) := by decide +kernel
theorem dX4_draftFromTape_19 : decode cX4_draftFromTape 19 = .ok (.getfield 35, 3) := by decide +kernel
theorem dX4_draftFromTape_22 : decode cX4_draftFromTape 22 = .ok (.aload_n 0, 1) := by decide +kernel
theorem dX4_draftFromTape_23 : decode cX4_draftFromTape 23 = .ok (.getfield 9, 3) := by decide +kernel
theorem dX4_draftFromTape_26 : decode cX4_draftFromTape 26 = .ok (.iload_n 1, 1) := by decide +kernel
theorem dX4_draftFromTape_27 : decode cX4_draftFromTape 27 = .ok (.iaload, 1) := by decide +kernel
theorem dX4_draftFromTape_28 : decode cX4_draftFromTape 28 = .ok (.invokevirtual 260, 3) := by decide +kernel
theorem dX4_draftFromTape_31 : decode cX4_draftFromTape 31 = .ok (.iinc 1 1, 3) := by decide +kernel
theorem dX4_draftFromTape_34 : decode cX4_draftFromTape 34 = .ok (.goto (-24), 3) := by decide +kernel
theorem dX4_draftFromTape_37 : decode cX4_draftFromTape 37 = .ok (.return_, 1) := by decide +kernel
set_option maxRecDepth 20000 in
theorem ggX4_draftCopy_X3_become : GoodIn wsX4_draftCopy wsX3_become := goodIn_r _ [10, 11, 12, 13, 14, 15, 16, 96, 97] (by decide +kernel) (by decide +kernel)
set_option maxRecDepth 20000 in
theorem gX4_draftCopy_X3_become : GoodIn wsX4_draftCopy (wsV RX4 263 RX3 yX3_become wsX3_become) := goodIn_app (goodIn_of _ (by decide +kernel)) ggX4_draftCopy_X3_become
set_option maxRecDepth 20000 in
theorem ggX4_draftCopy_Jx4a65c_size_8abf5 : GoodIn wsX4_draftCopy wsJx4a65c_size_8abf5 := goodIn_r _ [21, 22, 98, 99, 100] (by decide +kernel) (by decide +kernel)
set_option maxRecDepth 20000 in
theorem gX4_draftCopy_Jx4a65c_size_8abf5 : GoodIn wsX4_draftCopy (wsV RX4 67 RJx4a65c yJx4a65c_size_8abf5 wsJx4a65c_size_8abf5) := goodIn_app (goodIn_of _ (by decide +kernel)) ggX4_draftCopy_Jx4a65c_size_8abf5
set_option maxRecDepth 20000 in
theorem ggX4_draftCopy_Jx4a65c_get_915e3 : GoodIn wsX4_draftCopy wsJx4a65c_get_915e3 := goodIn_r _ [26, 22, 27, 28, 29, 30, 31, 32, 33, 34, 35, 36, 37, 20, 38, 39, 98, 99, 100] (by decide +kernel) (by decide +kernel)
set_option maxRecDepth 20000 in
theorem gX4_draftCopy_Jx4a65c_get_915e3 : GoodIn wsX4_draftCopy (wsV RX4 146 RJx4a65c yJx4a65c_get_915e3 wsJx4a65c_get_915e3) := goodIn_app (goodIn_of _ (by decide +kernel)) ggX4_draftCopy_Jx4a65c_get_915e3
set_option maxRecDepth 20000 in
theorem ggX4_draftCopy_X0_apply : GoodIn wsX4_draftCopy wsX0_apply := goodIn_r _ [44, 45, 46, 47, 48, 49, 43, 50, 51, 52, 53, 54, 9, 55, 12, 11, 56, 57, 58, 59, 60, 61, 62, 63, 64, 65, 66, 67, 68, 69, 70, 71, 72, 73, 74, 75, 76, 77, 78, 96, 97, 101, 102, 103, 104] (by decide +kernel) (by decide +kernel)
set_option maxRecDepth 20000 in
theorem gX4_draftCopy_X0_apply : GoodIn wsX4_draftCopy (wsV RX4 267 RX0 yX0_apply wsX0_apply) := goodIn_app (goodIn_of _ (by decide +kernel)) ggX4_draftCopy_X0_apply
theorem dX4_draftCopy_0 : decode cX4_draftCopy 0 = .ok (.aload_n 0, 1) := by decide +kernel
theorem dX4_draftCopy_1 : decode cX4_draftCopy 1 = .ok (.getfield 35, 3) := by decide +kernel
theorem dX4_draftCopy_4 : decode cX4_draftCopy 4 = .ok (.aload_n 1, 1) := by decide +kernel
theorem dX4_draftCopy_5 : decode cX4_draftCopy 5 = .ok (.getfield 88, 3) := by decide +kernel
theorem dX4_draftCopy_8 : decode cX4_draftCopy 8 = .ok (.invokevirtual 263, 3) := by decide +kernel
theorem dX4_draftCopy_11 : decode cX4_draftCopy 11 = .ok (.iconst 0, 1) := by decide +kernel
theorem dX4_draftCopy_12 : decode cX4_draftCopy 12 = .ok (.istore 4, 2) := by decide +kernel
theorem dX4_draftCopy_14 : decode cX4_draftCopy 14 = .ok (.iload 4, 2) := by decide +kernel
theorem dX4_draftCopy_16 : decode cX4_draftCopy 16 = .ok (.iload_n 3, 1) := by decide +kernel
theorem dX4_draftCopy_17 : decode cX4_draftCopy 17 = .ok (.if_icmp .ge 64, 3) := by decide +kernel
theorem dX4_draftCopy_20 : decode cX4_draftCopy 20 = .ok (.iconst 0, 1) := by decide +kernel
theorem dX4_draftCopy_21 : decode cX4_draftCopy 21 = .ok (.istore 5, 2) := by decide +kernel
theorem dX4_draftCopy_23 : decode cX4_draftCopy 23 = .ok (.iload 5, 2) := by decide +kernel
theorem dX4_draftCopy_25 : decode cX4_draftCopy 25 = .ok (.aload_n 2, 1) := by decide +kernel
theorem dX4_draftCopy_26 : decode cX4_draftCopy 26 = .ok (.getfield 128, 3) := by decide +kernel
theorem dX4_draftCopy_29 : decode cX4_draftCopy 29 = .ok (.invokevirtual 67, 3) := by decide +kernel
theorem dX4_draftCopy_32 : decode cX4_draftCopy 32 = .ok (.if_icmp .ge 43, 3) := by decide +kernel
theorem dX4_draftCopy_35 : decode cX4_draftCopy 35 = .ok (.aload_n 2, 1) := by decide +kernel
theorem dX4_draftCopy_36 : decode cX4_draftCopy 36 = .ok (.getfield 128, 3) := by decide +kernel
theorem dX4_draftCopy_39 : decode cX4_draftCopy 39 = .ok (.iload 5, 2) := by decide +kernel
theorem dX4_draftCopy_41 : decode cX4_draftCopy 41 = .ok (.invokevirtual 146, 3) := by decide +kernel
theorem dX4_draftCopy_44 : decode cX4_draftCopy 44 = .ok (.checkcast 133, 3) := by decide +kernel
theorem dX4_draftCopy_47 : decode cX4_draftCopy 47 = .ok (.aload_n 0, 1) := by decide +kernel
theorem dX4_draftCopy_48 : decode cX4_draftCopy 48 = .ok (.getfield 35, 3) := by decide +kernel
theorem dX4_draftCopy_51 : decode cX4_draftCopy 51 = .ok (.aload_n 0, 1) := by decide +kernel
theorem dX4_draftCopy_52 : decode cX4_draftCopy 52 = .ok (.getfield 39, 3) := by decide +kernel
theorem dX4_draftCopy_55 : decode cX4_draftCopy 55 = .ok (.invokevirtual 267, 3) := by decide +kernel
theorem dX4_draftCopy_58 : decode cX4_draftCopy 58 = .ok (.aload_n 0, 1) := by decide +kernel
theorem dX4_draftCopy_59 : decode cX4_draftCopy 59 = .ok (.getfield 35, 3) := by decide +kernel
theorem dX4_draftCopy_62 : decode cX4_draftCopy 62 = .ok (.aload_n 0, 1) := by decide +kernel
theorem dX4_draftCopy_63 : decode cX4_draftCopy 63 = .ok (.getfield 39, 3) := by decide +kernel
theorem dX4_draftCopy_66 : decode cX4_draftCopy 66 = .ok (.invokevirtual 263, 3) := by decide +kernel
theorem dX4_draftCopy_69 : decode cX4_draftCopy 69 = .ok (.iinc 5 1, 3) := by decide +kernel
theorem dX4_draftCopy_72 : decode cX4_draftCopy 72 = .ok (.goto (-49), 3) := by decide +kernel
theorem dX4_draftCopy_75 : decode cX4_draftCopy 75 = .ok (.iinc 4 1, 3) := by decide +kernel
theorem dX4_draftCopy_78 : decode cX4_draftCopy 78 = .ok (.goto (-64), 3) := by decide +kernel
theorem dX4_draftCopy_81 : decode cX4_draftCopy 81 = .ok (.return_, 1) := by decide +kernel
set_option maxRecDepth 20000 in
theorem ggX4_keepDraft_Jx4a65c_size_8abf5 : GoodIn wsX4_keepDraft wsJx4a65c_size_8abf5 := goodIn_r _ [10, 11, 114, 115, 116] (by decide +kernel) (by decide +kernel)
set_option maxRecDepth 20000 in
theorem gX4_keepDraft_Jx4a65c_size_8abf5 : GoodIn wsX4_keepDraft (wsV RX4 67 RJx4a65c yJx4a65c_size_8abf5 wsJx4a65c_size_8abf5) := goodIn_app (goodIn_of _ (by decide +kernel)) ggX4_keepDraft_Jx4a65c_size_8abf5
set_option maxRecDepth 20000 in
theorem ggX4_keepDraft_X1_init : GoodIn wsX4_keepDraft wsX1_init := goodIn_r _ [14, 15, 16, 17, 18, 19, 20, 21, 22, 23, 24, 25, 26, 27, 28, 29, 30, 31, 32, 33, 34, 35, 36, 37, 38, 39, 40, 117, 118, 108, 109, 110, 111, 112, 113] (by decide +kernel) (by decide +kernel)
set_option maxRecDepth 20000 in
theorem gX4_keepDraft_X1_init : GoodIn wsX4_keepDraft (wsX1_init) := ggX4_keepDraft_X1_init
set_option maxRecDepth 20000 in
theorem ggX4_keepDraft_Jx4a65c_add_9ea2d : GoodIn wsX4_keepDraft wsJx4a65c_add_9ea2d := goodIn_r _ [44, 45, 46, 47, 11, 48, 49, 50, 9, 51, 52, 53, 54, 55, 56, 57, 58, 59, 60, 61, 62, 63, 64, 65, 66, 67, 68, 69, 70, 71, 72, 73, 74, 75, 76, 77, 78, 79, 80, 81, 82, 83, 84, 85, 86, 87, 88, 89, 90, 91, 38, 39, 40, 114, 115, 116] (by decide +kernel) (by decide +kernel)
set_option maxRecDepth 20000 in
theorem gX4_keepDraft_Jx4a65c_add_9ea2d : GoodIn wsX4_keepDraft (wsV RX4 110 RJx4a65c yJx4a65c_add_9ea2d wsJx4a65c_add_9ea2d) := goodIn_app (goodIn_of _ (by decide +kernel)) ggX4_keepDraft_Jx4a65c_add_9ea2d
set_option maxRecDepth 20000 in
theorem ggX4_keepDraft_X4_forgetMeasures : GoodIn wsX4_keepDraft wsX4_forgetMeasures := goodIn_r _ [96, 97, 98, 99, 100, 101, 102, 103, 104, 105, 106, 107] (by decide +kernel) (by decide +kernel)
set_option maxRecDepth 20000 in
theorem gX4_keepDraft_X4_forgetMeasures : GoodIn wsX4_keepDraft (wsV RX4 169 RX4 yX4_forgetMeasures wsX4_forgetMeasures) := goodIn_app (goodIn_of _ (by decide +kernel)) ggX4_keepDraft_X4_forgetMeasures
theorem dX4_keepDraft_0 : decode cX4_keepDraft 0 = .ok (.aload_n 0, 1) := by decide +kernel
theorem dX4_keepDraft_1 : decode cX4_keepDraft 1 = .ok (.getfield 20, 3) := by decide +kernel
theorem dX4_keepDraft_4 : decode cX4_keepDraft 4 = .ok (.invokevirtual 67, 3) := by decide +kernel
theorem dX4_keepDraft_7 : decode cX4_keepDraft 7 = .ok (.istore_n 3, 1) := by decide +kernel
theorem dX4_keepDraft_8 : decode cX4_keepDraft 8 = .ok (.aload_n 0, 1) := by decide +kernel
theorem dX4_keepDraft_9 : decode cX4_keepDraft 9 = .ok (.getfield 20, 3) := by decide +kernel
theorem dX4_keepDraft_12 : decode cX4_keepDraft 12 = .ok (.new 89, 3) := by decide +kernel
theorem dX4_keepDraft_15 : decode cX4_keepDraft 15 = .ok (.dup, 1) := by decide +kernel
theorem dX4_keepDraft_16 : decode cX4_keepDraft 16 = .ok (.iload_n 3, 1) := by decide +kernel
theorem dX4_keepDraft_17 : decode cX4_keepDraft 17 = .ok (.aload_n 1, 1) := by decide +kernel
theorem dX4_keepDraft_18 : decode cX4_keepDraft 18 = .ok (.iload_n 2, 1) := by decide +kernel
theorem dX4_keepDraft_19 : decode cX4_keepDraft 19 = .ok (.aload_n 0, 1) := by decide +kernel
theorem dX4_keepDraft_20 : decode cX4_keepDraft 20 = .ok (.getfield 35, 3) := by decide +kernel
theorem dX4_keepDraft_23 : decode cX4_keepDraft 23 = .ok (.invokespecial 271, 3) := by decide +kernel
theorem dX4_keepDraft_26 : decode cX4_keepDraft 26 = .ok (.invokevirtual 110, 3) := by decide +kernel
theorem dX4_keepDraft_29 : decode cX4_keepDraft 29 = .ok (.pop, 1) := by decide +kernel
theorem dX4_keepDraft_30 : decode cX4_keepDraft 30 = .ok (.aload_n 0, 1) := by decide +kernel
theorem dX4_keepDraft_31 : decode cX4_keepDraft 31 = .ok (.iload_n 3, 1) := by decide +kernel
theorem dX4_keepDraft_32 : decode cX4_keepDraft 32 = .ok (.invokevirtual 169, 3) := by decide +kernel
theorem dX4_keepDraft_35 : decode cX4_keepDraft 35 = .ok (.iload_n 3, 1) := by decide +kernel
theorem dX4_keepDraft_36 : decode cX4_keepDraft 36 = .ok (.ireturn, 1) := by decide +kernel
set_option maxRecDepth 20000 in
theorem ggX4_fact_X4_copiesOf : GoodIn wsX4_fact wsX4_copiesOf := goodIn_r _ [12, 13, 14, 3, 15, 16, 17, 18, 19, 20, 21, 22, 23, 24, 25, 26, 27, 28, 29, 30, 31, 32, 33, 34, 35, 36, 37, 85, 86, 87, 88, 89, 90, 91, 92, 93, 94, 77, 78, 79, 80, 81, 82, 95, 96, 97] (by decide +kernel) (by decide +kernel)
set_option maxRecDepth 20000 in
theorem gX4_fact_X4_copiesOf : GoodIn wsX4_fact (wsV RX4 280 RX4 yX4_copiesOf wsX4_copiesOf) := goodIn_app (goodIn_of _ (by decide +kernel)) ggX4_fact_X4_copiesOf
set_option maxRecDepth 20000 in
theorem ggX4_fact_X4_descendantsOf : GoodIn wsX4_fact wsX4_descendantsOf := goodIn_r _ [41, 13, 14, 15, 16, 17, 18, 19, 20, 21, 22, 23, 24, 25, 26, 27, 28, 29, 30, 31, 32, 33, 34, 35, 36, 37, 42, 43, 44, 45, 46, 47, 85, 86, 87, 88, 89, 90, 91, 92, 93, 94, 95, 96, 97, 77, 78, 79, 80, 81, 82] (by decide +kernel) (by decide +kernel)
set_option maxRecDepth 20000 in
theorem gX4_fact_X4_descendantsOf : GoodIn wsX4_fact (wsV RX4 283 RX4 yX4_descendantsOf wsX4_descendantsOf) := goodIn_app (goodIn_of _ (by decide +kernel)) ggX4_fact_X4_descendantsOf
set_option maxRecDepth 20000 in
theorem ggX4_fact_X4_measure : GoodIn wsX4_fact wsX4_measure := goodIn_r _ [51, 52, 4, 1, 53, 54, 55, 11, 56, 2, 57, 58, 59, 60, 61, 62, 63, 64, 65, 66, 67, 68, 69, 70, 71, 72, 85, 86, 87, 88, 89, 90, 91, 92, 93, 94, 77, 78, 79, 80, 81, 82, 83, 84] (by decide +kernel) (by decide +kernel)
set_option maxRecDepth 20000 in
theorem gX4_fact_X4_measure : GoodIn wsX4_fact (wsV RX4 191 RX4 yX4_measure wsX4_measure) := goodIn_app (goodIn_of _ (by decide +kernel)) ggX4_fact_X4_measure
set_option maxRecDepth 20000 in
theorem ggX4_fact_X1_origin : GoodIn wsX4_fact wsX1_origin := goodIn_r _ [76, 47, 77, 78, 79, 80, 81, 82] (by decide +kernel) (by decide +kernel)
set_option maxRecDepth 20000 in
theorem gX4_fact_X1_origin : GoodIn wsX4_fact (wsV RX4 234 RX1 yX1_origin wsX1_origin) := goodIn_app (goodIn_of _ (by decide +kernel)) ggX4_fact_X1_origin
theorem dX4_fact_0 : decode cX4_fact 0 = .ok (.iload_n 2, 1) := by decide +kernel
theorem dX4_fact_1 : decode cX4_fact 1 = .ok (.tableswitch 130 0 7 #[47, 55, 74, 79, 84, 97, 103, 109], 47) := by decide +kernel
theorem dX4_fact_48 : decode cX4_fact 48 = .ok (.aload_n 1, 1) := by decide +kernel
theorem dX4_fact_49 : decode cX4_fact 49 = .ok (.getfield 88, 3) := by decide +kernel
theorem dX4_fact_52 : decode cX4_fact 52 = .ok (.getfield 93, 3) := by decide +kernel
theorem dX4_fact_55 : decode cX4_fact 55 = .ok (.ireturn, 1) := by decide +kernel
theorem dX4_fact_56 : decode cX4_fact 56 = .ok (.aload_n 1, 1) := by decide +kernel
theorem dX4_fact_57 : decode cX4_fact 57 = .ok (.getfield 202, 3) := by decide +kernel
theorem dX4_fact_60 : decode cX4_fact 60 = .ok (.ifnonnull 7, 3) := by decide +kernel
theorem dX4_fact_63 : decode cX4_fact 63 = .ok (.iconst (-1), 1) := by decide +kernel
theorem dX4_fact_64 : decode cX4_fact 64 = .ok (.goto 10, 3) := by decide +kernel
theorem dX4_fact_67 : decode cX4_fact 67 = .ok (.aload_n 1, 1) := by decide +kernel
theorem dX4_fact_68 : decode cX4_fact 68 = .ok (.getfield 202, 3) := by decide +kernel
theorem dX4_fact_71 : decode cX4_fact 71 = .ok (.getfield 199, 3) := by decide +kernel
theorem dX4_fact_74 : decode cX4_fact 74 = .ok (.ireturn, 1) := by decide +kernel
theorem dX4_fact_75 : decode cX4_fact 75 = .ok (.aload_n 1, 1) := by decide +kernel
theorem dX4_fact_76 : decode cX4_fact 76 = .ok (.getfield 274, 3) := by decide +kernel
theorem dX4_fact_79 : decode cX4_fact 79 = .ok (.ireturn, 1) := by decide +kernel
theorem dX4_fact_80 : decode cX4_fact 80 = .ok (.aload_n 1, 1) := by decide +kernel
theorem dX4_fact_81 : decode cX4_fact 81 = .ok (.getfield 277, 3) := by decide +kernel
theorem dX4_fact_84 : decode cX4_fact 84 = .ok (.ireturn, 1) := by decide +kernel
theorem dX4_fact_85 : decode cX4_fact 85 = .ok (.aload_n 1, 1) := by decide +kernel
theorem dX4_fact_86 : decode cX4_fact 86 = .ok (.getfield 153, 3) := by decide +kernel
theorem dX4_fact_89 : decode cX4_fact 89 = .ok (.ifCond .eq 7, 3) := by decide +kernel
theorem dX4_fact_92 : decode cX4_fact 92 = .ok (.iconst 1, 1) := by decide +kernel
theorem dX4_fact_93 : decode cX4_fact 93 = .ok (.goto 4, 3) := by decide +kernel
theorem dX4_fact_96 : decode cX4_fact 96 = .ok (.iconst 0, 1) := by decide +kernel
theorem dX4_fact_97 : decode cX4_fact 97 = .ok (.ireturn, 1) := by decide +kernel
theorem dX4_fact_98 : decode cX4_fact 98 = .ok (.aload_n 0, 1) := by decide +kernel
theorem dX4_fact_99 : decode cX4_fact 99 = .ok (.aload_n 1, 1) := by decide +kernel
theorem dX4_fact_100 : decode cX4_fact 100 = .ok (.invokevirtual 280, 3) := by decide +kernel
theorem dX4_fact_103 : decode cX4_fact 103 = .ok (.ireturn, 1) := by decide +kernel
theorem dX4_fact_104 : decode cX4_fact 104 = .ok (.aload_n 0, 1) := by decide +kernel
theorem dX4_fact_105 : decode cX4_fact 105 = .ok (.aload_n 1, 1) := by decide +kernel
theorem dX4_fact_106 : decode cX4_fact 106 = .ok (.invokevirtual 283, 3) := by decide +kernel
theorem dX4_fact_109 : decode cX4_fact 109 = .ok (.ireturn, 1) := by decide +kernel
theorem dX4_fact_110 : decode cX4_fact 110 = .ok (.aload_n 1, 1) := by decide +kernel
theorem dX4_fact_111 : decode cX4_fact 111 = .ok (.getfield 202, 3) := by decide +kernel
theorem dX4_fact_114 : decode cX4_fact 114 = .ok (.ifnonnull 7, 3) := by decide +kernel
theorem dX4_fact_117 : decode cX4_fact 117 = .ok (.iconst 0, 1) := by decide +kernel
theorem dX4_fact_118 : decode cX4_fact 118 = .ok (.goto 12, 3) := by decide +kernel
theorem dX4_fact_121 : decode cX4_fact 121 = .ok (.aload_n 0, 1) := by decide +kernel
theorem dX4_fact_122 : decode cX4_fact 122 = .ok (.aload_n 1, 1) := by decide +kernel
theorem dX4_fact_123 : decode cX4_fact 123 = .ok (.aload_n 1, 1) := by decide +kernel
theorem dX4_fact_124 : decode cX4_fact 124 = .ok (.getfield 202, 3) := by decide +kernel
theorem dX4_fact_127 : decode cX4_fact 127 = .ok (.invokevirtual 191, 3) := by decide +kernel
theorem dX4_fact_130 : decode cX4_fact 130 = .ok (.ireturn, 1) := by decide +kernel
theorem dX4_fact_131 : decode cX4_fact 131 = .ok (.aload_n 0, 1) := by decide +kernel
theorem dX4_fact_132 : decode cX4_fact 132 = .ok (.aload_n 1, 1) := by decide +kernel
theorem dX4_fact_133 : decode cX4_fact 133 = .ok (.aload_n 1, 1) := by decide +kernel
theorem dX4_fact_134 : decode cX4_fact 134 = .ok (.invokevirtual 234, 3) := by decide +kernel
theorem dX4_fact_137 : decode cX4_fact 137 = .ok (.invokevirtual 191, 3) := by decide +kernel
theorem dX4_fact_140 : decode cX4_fact 140 = .ok (.ireturn, 1) := by decide +kernel
set_option maxRecDepth 20000 in
theorem ggX4_copiesOf_Jx4a65c_size_8abf5 : GoodIn wsX4_copiesOf wsJx4a65c_size_8abf5 := goodIn_r _ [8, 9, 43, 44, 45] (by decide +kernel) (by decide +kernel)
set_option maxRecDepth 20000 in
theorem gX4_copiesOf_Jx4a65c_size_8abf5 : GoodIn wsX4_copiesOf (wsV RX4 67 RJx4a65c yJx4a65c_size_8abf5 wsJx4a65c_size_8abf5) := goodIn_app (goodIn_of _ (by decide +kernel)) ggX4_copiesOf_Jx4a65c_size_8abf5
set_option maxRecDepth 20000 in
theorem ggX4_copiesOf_Jx4a65c_get_915e3 : GoodIn wsX4_copiesOf wsJx4a65c_get_915e3 := goodIn_r _ [13, 9, 14, 15, 16, 17, 18, 19, 20, 21, 22, 23, 24, 7, 25, 26, 43, 44, 45] (by decide +kernel) (by decide +kernel)
set_option maxRecDepth 20000 in
theorem gX4_copiesOf_Jx4a65c_get_915e3 : GoodIn wsX4_copiesOf (wsV RX4 146 RJx4a65c yJx4a65c_get_915e3 wsJx4a65c_get_915e3) := goodIn_app (goodIn_of _ (by decide +kernel)) ggX4_copiesOf_Jx4a65c_get_915e3
theorem dX4_copiesOf_0 : decode cX4_copiesOf 0 = .ok (.iconst 0, 1) := by decide +kernel
theorem dX4_copiesOf_1 : decode cX4_copiesOf 1 = .ok (.istore_n 2, 1) := by decide +kernel
theorem dX4_copiesOf_2 : decode cX4_copiesOf 2 = .ok (.iconst 0, 1) := by decide +kernel
theorem dX4_copiesOf_3 : decode cX4_copiesOf 3 = .ok (.istore_n 3, 1) := by decide +kernel
theorem dX4_copiesOf_4 : decode cX4_copiesOf 4 = .ok (.iload_n 3, 1) := by decide +kernel
theorem dX4_copiesOf_5 : decode cX4_copiesOf 5 = .ok (.aload_n 0, 1) := by decide +kernel
theorem dX4_copiesOf_6 : decode cX4_copiesOf 6 = .ok (.getfield 20, 3) := by decide +kernel
theorem dX4_copiesOf_9 : decode cX4_copiesOf 9 = .ok (.invokevirtual 67, 3) := by decide +kernel
theorem dX4_copiesOf_12 : decode cX4_copiesOf 12 = .ok (.if_icmp .ge 30, 3) := by decide +kernel
theorem dX4_copiesOf_15 : decode cX4_copiesOf 15 = .ok (.aload_n 0, 1) := by decide +kernel
theorem dX4_copiesOf_16 : decode cX4_copiesOf 16 = .ok (.getfield 20, 3) := by decide +kernel
theorem dX4_copiesOf_19 : decode cX4_copiesOf 19 = .ok (.iload_n 3, 1) := by decide +kernel
theorem dX4_copiesOf_20 : decode cX4_copiesOf 20 = .ok (.invokevirtual 146, 3) := by decide +kernel
theorem dX4_copiesOf_23 : decode cX4_copiesOf 23 = .ok (.checkcast 89, 3) := by decide +kernel
theorem dX4_copiesOf_26 : decode cX4_copiesOf 26 = .ok (.getfield 202, 3) := by decide +kernel
theorem dX4_copiesOf_29 : decode cX4_copiesOf 29 = .ok (.aload_n 1, 1) := by decide +kernel
theorem dX4_copiesOf_30 : decode cX4_copiesOf 30 = .ok (.if_acmp .ne 6, 3) := by decide +kernel
theorem dX4_copiesOf_33 : decode cX4_copiesOf 33 = .ok (.iinc 2 1, 3) := by decide +kernel
theorem dX4_copiesOf_36 : decode cX4_copiesOf 36 = .ok (.iinc 3 1, 3) := by decide +kernel
theorem dX4_copiesOf_39 : decode cX4_copiesOf 39 = .ok (.goto (-35), 3) := by decide +kernel
theorem dX4_copiesOf_42 : decode cX4_copiesOf 42 = .ok (.iload_n 2, 1) := by decide +kernel
theorem dX4_copiesOf_43 : decode cX4_copiesOf 43 = .ok (.ireturn, 1) := by decide +kernel
set_option maxRecDepth 20000 in
theorem ggX4_descendantsOf_Jx4a65c_size_8abf5 : GoodIn wsX4_descendantsOf wsJx4a65c_size_8abf5 := goodIn_r _ [7, 8, 42, 43, 44] (by decide +kernel) (by decide +kernel)
set_option maxRecDepth 20000 in
theorem gX4_descendantsOf_Jx4a65c_size_8abf5 : GoodIn wsX4_descendantsOf (wsV RX4 67 RJx4a65c yJx4a65c_size_8abf5 wsJx4a65c_size_8abf5) := goodIn_app (goodIn_of _ (by decide +kernel)) ggX4_descendantsOf_Jx4a65c_size_8abf5
set_option maxRecDepth 20000 in
theorem ggX4_descendantsOf_Jx4a65c_get_915e3 : GoodIn wsX4_descendantsOf wsJx4a65c_get_915e3 := goodIn_r _ [12, 8, 13, 14, 15, 16, 17, 18, 19, 20, 21, 22, 23, 6, 24, 25, 42, 43, 44] (by decide +kernel) (by decide +kernel)
set_option maxRecDepth 20000 in
theorem gX4_descendantsOf_Jx4a65c_get_915e3 : GoodIn wsX4_descendantsOf (wsV RX4 146 RJx4a65c yJx4a65c_get_915e3 wsJx4a65c_get_915e3) := goodIn_app (goodIn_of _ (by decide +kernel)) ggX4_descendantsOf_Jx4a65c_get_915e3
set_option maxRecDepth 20000 in
theorem ggX4_descendantsOf_X1_descendsFrom : GoodIn wsX4_descendantsOf wsX1_descendsFrom := goodIn_r _ [30, 31, 45, 46, 47, 48, 49, 50] (by decide +kernel) (by decide +kernel)
set_option maxRecDepth 20000 in
theorem gX4_descendantsOf_X1_descendsFrom : GoodIn wsX4_descendantsOf (wsV RX4 195 RX1 yX1_descendsFrom wsX1_descendsFrom) := goodIn_app (goodIn_of _ (by decide +kernel)) ggX4_descendantsOf_X1_descendsFrom
theorem dX4_descendantsOf_0 : decode cX4_descendantsOf 0 = .ok (.iconst 0, 1) := by decide +kernel
theorem dX4_descendantsOf_1 : decode cX4_descendantsOf 1 = .ok (.istore_n 2, 1) := by decide +kernel
theorem dX4_descendantsOf_2 : decode cX4_descendantsOf 2 = .ok (.iconst 0, 1) := by decide +kernel
theorem dX4_descendantsOf_3 : decode cX4_descendantsOf 3 = .ok (.istore_n 3, 1) := by decide +kernel
theorem dX4_descendantsOf_4 : decode cX4_descendantsOf 4 = .ok (.iload_n 3, 1) := by decide +kernel
theorem dX4_descendantsOf_5 : decode cX4_descendantsOf 5 = .ok (.aload_n 0, 1) := by decide +kernel
theorem dX4_descendantsOf_6 : decode cX4_descendantsOf 6 = .ok (.getfield 20, 3) := by decide +kernel
theorem dX4_descendantsOf_9 : decode cX4_descendantsOf 9 = .ok (.invokevirtual 67, 3) := by decide +kernel
theorem dX4_descendantsOf_12 : decode cX4_descendantsOf 12 = .ok (.if_icmp .ge 30, 3) := by decide +kernel
theorem dX4_descendantsOf_15 : decode cX4_descendantsOf 15 = .ok (.aload_n 0, 1) := by decide +kernel
theorem dX4_descendantsOf_16 : decode cX4_descendantsOf 16 = .ok (.getfield 20, 3) := by decide +kernel
theorem dX4_descendantsOf_19 : decode cX4_descendantsOf 19 = .ok (.iload_n 3, 1) := by decide +kernel
theorem dX4_descendantsOf_20 : decode cX4_descendantsOf 20 = .ok (.invokevirtual 146, 3) := by decide +kernel
theorem dX4_descendantsOf_23 : decode cX4_descendantsOf 23 = .ok (.checkcast 89, 3) := by decide +kernel
theorem dX4_descendantsOf_26 : decode cX4_descendantsOf 26 = .ok (.aload_n 1, 1) := by decide +kernel
theorem dX4_descendantsOf_27 : decode cX4_descendantsOf 27 = .ok (.invokevirtual 195, 3) := by decide +kernel
theorem dX4_descendantsOf_30 : decode cX4_descendantsOf 30 = .ok (.ifCond .eq 6, 3) := by decide +kernel
theorem dX4_descendantsOf_33 : decode cX4_descendantsOf 33 = .ok (.iinc 2 1, 3) := by decide +kernel
theorem dX4_descendantsOf_36 : decode cX4_descendantsOf 36 = .ok (.iinc 3 1, 3) := by decide +kernel
theorem dX4_descendantsOf_39 : decode cX4_descendantsOf 39 = .ok (.goto (-35), 3) := by decide +kernel
theorem dX4_descendantsOf_42 : decode cX4_descendantsOf 42 = .ok (.iload_n 2, 1) := by decide +kernel
theorem dX4_descendantsOf_43 : decode cX4_descendantsOf 43 = .ok (.ireturn, 1) := by decide +kernel
set_option maxRecDepth 20000 in
theorem ggX4_counted_Jx4a65c_size_8abf5 : GoodIn wsX4_counted wsJx4a65c_size_8abf5 := goodIn_r _ [8, 9, 97, 98, 99] (by decide +kernel) (by decide +kernel)
set_option maxRecDepth 20000 in
theorem gX4_counted_Jx4a65c_size_8abf5 : GoodIn wsX4_counted (wsV RX4 67 RJx4a65c yJx4a65c_size_8abf5 wsJx4a65c_size_8abf5) := goodIn_app (goodIn_of _ (by decide +kernel)) ggX4_counted_Jx4a65c_size_8abf5
set_option maxRecDepth 20000 in
theorem ggX4_counted_X4_thoseThere : GoodIn wsX4_counted wsX4_thoseThere := goodIn_r _ [14, 1, 15, 16, 4, 5, 6, 7, 8, 9, 17, 18, 19, 20, 21, 22, 23, 24, 25, 26, 27, 28, 29, 30, 31, 32, 33, 87, 88, 89, 90, 91, 92, 93, 94, 95, 96, 100, 101, 102, 103, 104, 105, 97, 98, 99] (by decide +kernel) (by decide +kernel)
set_option maxRecDepth 20000 in
theorem gX4_counted_X4_thoseThere : GoodIn wsX4_counted (wsV RX4 178 RX4 yX4_thoseThere wsX4_thoseThere) := goodIn_app (goodIn_of _ (by decide +kernel)) ggX4_counted_X4_thoseThere
set_option maxRecDepth 20000 in
theorem ggX4_counted_X4_origins : GoodIn wsX4_counted wsX4_origins := goodIn_r _ [37, 1, 15, 38, 4, 5, 6, 7, 8, 9, 17, 18, 19, 20, 21, 22, 23, 24, 25, 26, 27, 28, 29, 30, 31, 32, 33, 87, 88, 89, 90, 91, 92, 93, 94, 95, 96, 100, 101, 102, 103, 104, 105, 97, 98, 99] (by decide +kernel) (by decide +kernel)
set_option maxRecDepth 20000 in
theorem gX4_counted_X4_origins : GoodIn wsX4_counted (wsV RX4 286 RX4 yX4_origins wsX4_origins) := goodIn_app (goodIn_of _ (by decide +kernel)) ggX4_counted_X4_origins
set_option maxRecDepth 20000 in
theorem ggX4_counted_X4_greatestGeneration : GoodIn wsX4_counted wsX4_greatestGeneration := goodIn_r _ [42, 1, 15, 43, 44, 45, 46, 47, 4, 5, 6, 7, 8, 9, 17, 18, 19, 20, 21, 22, 23, 24, 25, 26, 27, 28, 29, 30, 31, 32, 33, 87, 88, 89, 90, 91, 92, 93, 94, 95, 96, 100, 101, 102, 103, 104, 105, 97, 98, 99] (by decide +kernel) (by decide +kernel)
set_option maxRecDepth 20000 in
theorem gX4_counted_X4_greatestGeneration : GoodIn wsX4_counted (wsV RX4 289 RX4 yX4_greatestGeneration wsX4_greatestGeneration) := goodIn_app (goodIn_of _ (by decide +kernel)) ggX4_counted_X4_greatestGeneration
set_option maxRecDepth 20000 in
theorem ggX4_counted_X4_lettersThere : GoodIn wsX4_counted wsX4_lettersThere := goodIn_r _ [51, 1, 15, 16, 52, 53, 4, 5, 6, 7, 8, 9, 17, 18, 19, 20, 21, 22, 23, 24, 25, 26, 27, 28, 29, 30, 31, 32, 33, 87, 88, 89, 90, 91, 92, 93, 94, 95, 96, 100, 101, 102, 103, 104, 105, 106, 107, 97, 98, 99] (by decide +kernel) (by decide +kernel)
set_option maxRecDepth 20000 in
theorem gX4_counted_X4_lettersThere : GoodIn wsX4_counted (wsV RX4 292 RX4 yX4_lettersThere wsX4_lettersThere) := goodIn_app (goodIn_of _ (by decide +kernel)) ggX4_counted_X4_lettersThere
set_option maxRecDepth 20000 in
theorem ggX4_counted_X4_guessedRight : GoodIn wsX4_counted wsX4_guessedRight := goodIn_r _ [57, 1, 15, 16, 38, 58, 4, 5, 6, 7, 8, 9, 17, 18, 19, 20, 21, 22, 23, 24, 25, 26, 27, 28, 29, 30, 31, 32, 33, 59, 60, 61, 13, 62, 63, 64, 65, 66, 67, 52, 68, 69, 70, 71, 53, 72, 73, 74, 75, 76, 77, 78, 46, 79, 80, 81, 82, 83, 84, 85, 86, 87, 88, 89, 90, 91, 92, 93, 94, 95, 96, 100, 101, 102, 103, 104, 105, 97, 98, 99, 106, 107] (by decide +kernel) (by decide +kernel)
set_option maxRecDepth 20000 in
theorem gX4_counted_X4_guessedRight : GoodIn wsX4_counted (wsV RX4 295 RX4 yX4_guessedRight wsX4_guessedRight) := goodIn_app (goodIn_of _ (by decide +kernel)) ggX4_counted_X4_guessedRight
theorem dX4_counted_0 : decode cX4_counted 0 = .ok (.iload_n 1, 1) := by decide +kernel
theorem dX4_counted_1 : decode cX4_counted 1 = .ok (.tableswitch 84 0 6 #[43, 51, 56, 64, 69, 74, 79], 43) := by decide +kernel
theorem dX4_counted_44 : decode cX4_counted 44 = .ok (.aload_n 0, 1) := by decide +kernel
theorem dX4_counted_45 : decode cX4_counted 45 = .ok (.getfield 20, 3) := by decide +kernel
theorem dX4_counted_48 : decode cX4_counted 48 = .ok (.invokevirtual 67, 3) := by decide +kernel
theorem dX4_counted_51 : decode cX4_counted 51 = .ok (.ireturn, 1) := by decide +kernel
theorem dX4_counted_52 : decode cX4_counted 52 = .ok (.aload_n 0, 1) := by decide +kernel
theorem dX4_counted_53 : decode cX4_counted 53 = .ok (.invokevirtual 178, 3) := by decide +kernel
theorem dX4_counted_56 : decode cX4_counted 56 = .ok (.ireturn, 1) := by decide +kernel
theorem dX4_counted_57 : decode cX4_counted 57 = .ok (.aload_n 0, 1) := by decide +kernel
theorem dX4_counted_58 : decode cX4_counted 58 = .ok (.getfield 24, 3) := by decide +kernel
theorem dX4_counted_61 : decode cX4_counted 61 = .ok (.invokevirtual 67, 3) := by decide +kernel
theorem dX4_counted_64 : decode cX4_counted 64 = .ok (.ireturn, 1) := by decide +kernel
theorem dX4_counted_65 : decode cX4_counted 65 = .ok (.aload_n 0, 1) := by decide +kernel
theorem dX4_counted_66 : decode cX4_counted 66 = .ok (.invokevirtual 286, 3) := by decide +kernel
theorem dX4_counted_69 : decode cX4_counted 69 = .ok (.ireturn, 1) := by decide +kernel
theorem dX4_counted_70 : decode cX4_counted 70 = .ok (.aload_n 0, 1) := by decide +kernel
theorem dX4_counted_71 : decode cX4_counted 71 = .ok (.invokevirtual 289, 3) := by decide +kernel
theorem dX4_counted_74 : decode cX4_counted 74 = .ok (.ireturn, 1) := by decide +kernel
theorem dX4_counted_75 : decode cX4_counted 75 = .ok (.aload_n 0, 1) := by decide +kernel
theorem dX4_counted_76 : decode cX4_counted 76 = .ok (.getfield 13, 3) := by decide +kernel
theorem dX4_counted_79 : decode cX4_counted 79 = .ok (.ireturn, 1) := by decide +kernel
theorem dX4_counted_80 : decode cX4_counted 80 = .ok (.aload_n 0, 1) := by decide +kernel
theorem dX4_counted_81 : decode cX4_counted 81 = .ok (.invokevirtual 292, 3) := by decide +kernel
theorem dX4_counted_84 : decode cX4_counted 84 = .ok (.ireturn, 1) := by decide +kernel
theorem dX4_counted_85 : decode cX4_counted 85 = .ok (.aload_n 0, 1) := by decide +kernel
theorem dX4_counted_86 : decode cX4_counted 86 = .ok (.invokevirtual 295, 3) := by decide +kernel
theorem dX4_counted_89 : decode cX4_counted 89 = .ok (.ireturn, 1) := by decide +kernel
set_option maxRecDepth 20000 in
theorem ggX4_thoseThere_Jx4a65c_size_8abf5 : GoodIn wsX4_thoseThere wsJx4a65c_size_8abf5 := goodIn_r _ [8, 9, 43, 44, 45] (by decide +kernel) (by decide +kernel)
set_option maxRecDepth 20000 in
theorem gX4_thoseThere_Jx4a65c_size_8abf5 : GoodIn wsX4_thoseThere (wsV RX4 67 RJx4a65c yJx4a65c_size_8abf5 wsJx4a65c_size_8abf5) := goodIn_app (goodIn_of _ (by decide +kernel)) ggX4_thoseThere_Jx4a65c_size_8abf5
set_option maxRecDepth 20000 in
theorem ggX4_thoseThere_Jx4a65c_get_915e3 : GoodIn wsX4_thoseThere wsJx4a65c_get_915e3 := goodIn_r _ [13, 9, 14, 15, 16, 17, 18, 19, 20, 21, 22, 23, 24, 7, 25, 26, 43, 44, 45] (by decide +kernel) (by decide +kernel)
set_option maxRecDepth 20000 in
theorem gX4_thoseThere_Jx4a65c_get_915e3 : GoodIn wsX4_thoseThere (wsV RX4 146 RJx4a65c yJx4a65c_get_915e3 wsJx4a65c_get_915e3) := goodIn_app (goodIn_of _ (by decide +kernel)) ggX4_thoseThere_Jx4a65c_get_915e3
theorem dX4_thoseThere_0 : decode cX4_thoseThere 0 = .ok (.iconst 0, 1) := by decide +kernel
theorem dX4_thoseThere_1 : decode cX4_thoseThere 1 = .ok (.istore_n 1, 1) := by decide +kernel
theorem dX4_thoseThere_2 : decode cX4_thoseThere 2 = .ok (.iconst 0, 1) := by decide +kernel
theorem dX4_thoseThere_3 : decode cX4_thoseThere 3 = .ok (.istore_n 2, 1) := by decide +kernel
theorem dX4_thoseThere_4 : decode cX4_thoseThere 4 = .ok (.iload_n 2, 1) := by decide +kernel
theorem dX4_thoseThere_5 : decode cX4_thoseThere 5 = .ok (.aload_n 0, 1) := by decide +kernel
theorem dX4_thoseThere_6 : decode cX4_thoseThere 6 = .ok (.getfield 20, 3) := by decide +kernel
theorem dX4_thoseThere_9 : decode cX4_thoseThere 9 = .ok (.invokevirtual 67, 3) := by decide +kernel
theorem dX4_thoseThere_12 : decode cX4_thoseThere 12 = .ok (.if_icmp .ge 29, 3) := by decide +kernel
theorem dX4_thoseThere_15 : decode cX4_thoseThere 15 = .ok (.aload_n 0, 1) := by decide +kernel
theorem dX4_thoseThere_16 : decode cX4_thoseThere 16 = .ok (.getfield 20, 3) := by decide +kernel
theorem dX4_thoseThere_19 : decode cX4_thoseThere 19 = .ok (.iload_n 2, 1) := by decide +kernel
theorem dX4_thoseThere_20 : decode cX4_thoseThere 20 = .ok (.invokevirtual 146, 3) := by decide +kernel
theorem dX4_thoseThere_23 : decode cX4_thoseThere 23 = .ok (.checkcast 89, 3) := by decide +kernel
theorem dX4_thoseThere_26 : decode cX4_thoseThere 26 = .ok (.getfield 153, 3) := by decide +kernel
theorem dX4_thoseThere_29 : decode cX4_thoseThere 29 = .ok (.ifCond .eq 6, 3) := by decide +kernel
theorem dX4_thoseThere_32 : decode cX4_thoseThere 32 = .ok (.iinc 1 1, 3) := by decide +kernel
theorem dX4_thoseThere_35 : decode cX4_thoseThere 35 = .ok (.iinc 2 1, 3) := by decide +kernel
theorem dX4_thoseThere_38 : decode cX4_thoseThere 38 = .ok (.goto (-34), 3) := by decide +kernel
theorem dX4_thoseThere_41 : decode cX4_thoseThere 41 = .ok (.iload_n 1, 1) := by decide +kernel
theorem dX4_thoseThere_42 : decode cX4_thoseThere 42 = .ok (.ireturn, 1) := by decide +kernel
set_option maxRecDepth 20000 in
theorem ggX4_origins_Jx4a65c_size_8abf5 : GoodIn wsX4_origins wsJx4a65c_size_8abf5 := goodIn_r _ [8, 9, 43, 44, 45] (by decide +kernel) (by decide +kernel)
set_option maxRecDepth 20000 in
theorem gX4_origins_Jx4a65c_size_8abf5 : GoodIn wsX4_origins (wsV RX4 67 RJx4a65c yJx4a65c_size_8abf5 wsJx4a65c_size_8abf5) := goodIn_app (goodIn_of _ (by decide +kernel)) ggX4_origins_Jx4a65c_size_8abf5
set_option maxRecDepth 20000 in
theorem ggX4_origins_Jx4a65c_get_915e3 : GoodIn wsX4_origins wsJx4a65c_get_915e3 := goodIn_r _ [13, 9, 14, 15, 16, 17, 18, 19, 20, 21, 22, 23, 24, 7, 25, 26, 43, 44, 45] (by decide +kernel) (by decide +kernel)
set_option maxRecDepth 20000 in
theorem gX4_origins_Jx4a65c_get_915e3 : GoodIn wsX4_origins (wsV RX4 146 RJx4a65c yJx4a65c_get_915e3 wsJx4a65c_get_915e3) := goodIn_app (goodIn_of _ (by decide +kernel)) ggX4_origins_Jx4a65c_get_915e3
theorem dX4_origins_0 : decode cX4_origins 0 = .ok (.iconst 0, 1) := by decide +kernel
theorem dX4_origins_1 : decode cX4_origins 1 = .ok (.istore_n 1, 1) := by decide +kernel
theorem dX4_origins_2 : decode cX4_origins 2 = .ok (.iconst 0, 1) := by decide +kernel
theorem dX4_origins_3 : decode cX4_origins 3 = .ok (.istore_n 2, 1) := by decide +kernel
theorem dX4_origins_4 : decode cX4_origins 4 = .ok (.iload_n 2, 1) := by decide +kernel
theorem dX4_origins_5 : decode cX4_origins 5 = .ok (.aload_n 0, 1) := by decide +kernel
theorem dX4_origins_6 : decode cX4_origins 6 = .ok (.getfield 20, 3) := by decide +kernel
theorem dX4_origins_9 : decode cX4_origins 9 = .ok (.invokevirtual 67, 3) := by decide +kernel
theorem dX4_origins_12 : decode cX4_origins 12 = .ok (.if_icmp .ge 29, 3) := by decide +kernel
theorem dX4_origins_15 : decode cX4_origins 15 = .ok (.aload_n 0, 1) := by decide +kernel
theorem dX4_origins_16 : decode cX4_origins 16 = .ok (.getfield 20, 3) := by decide +kernel
theorem dX4_origins_19 : decode cX4_origins 19 = .ok (.iload_n 2, 1) := by decide +kernel
theorem dX4_origins_20 : decode cX4_origins 20 = .ok (.invokevirtual 146, 3) := by decide +kernel
theorem dX4_origins_23 : decode cX4_origins 23 = .ok (.checkcast 89, 3) := by decide +kernel
theorem dX4_origins_26 : decode cX4_origins 26 = .ok (.getfield 202, 3) := by decide +kernel
theorem dX4_origins_29 : decode cX4_origins 29 = .ok (.ifnonnull 6, 3) := by decide +kernel
theorem dX4_origins_32 : decode cX4_origins 32 = .ok (.iinc 1 1, 3) := by decide +kernel
theorem dX4_origins_35 : decode cX4_origins 35 = .ok (.iinc 2 1, 3) := by decide +kernel
theorem dX4_origins_38 : decode cX4_origins 38 = .ok (.goto (-34), 3) := by decide +kernel
theorem dX4_origins_41 : decode cX4_origins 41 = .ok (.iload_n 1, 1) := by decide +kernel
theorem dX4_origins_42 : decode cX4_origins 42 = .ok (.ireturn, 1) := by decide +kernel
set_option maxRecDepth 20000 in
theorem ggX4_greatestGeneration_Jx4a65c_size_8abf5 : GoodIn wsX4_greatestGeneration wsJx4a65c_size_8abf5 := goodIn_r _ [12, 13, 47, 48, 49] (by decide +kernel) (by decide +kernel)
set_option maxRecDepth 20000 in
theorem gX4_greatestGeneration_Jx4a65c_size_8abf5 : GoodIn wsX4_greatestGeneration (wsV RX4 67 RJx4a65c yJx4a65c_size_8abf5 wsJx4a65c_size_8abf5) := goodIn_app (goodIn_of _ (by decide +kernel)) ggX4_greatestGeneration_Jx4a65c_size_8abf5
set_option maxRecDepth 20000 in
theorem ggX4_greatestGeneration_Jx4a65c_get_915e3 : GoodIn wsX4_greatestGeneration wsJx4a65c_get_915e3 := goodIn_r _ [17, 13, 18, 19, 20, 21, 22, 23, 24, 25, 26, 27, 28, 11, 29, 30, 47, 48, 49] (by decide +kernel) (by decide +kernel)
set_option maxRecDepth 20000 in
theorem gX4_greatestGeneration_Jx4a65c_get_915e3 : GoodIn wsX4_greatestGeneration (wsV RX4 146 RJx4a65c yJx4a65c_get_915e3 wsJx4a65c_get_915e3) := goodIn_app (goodIn_of _ (by decide +kernel)) ggX4_greatestGeneration_Jx4a65c_get_915e3
theorem dX4_greatestGeneration_0 : decode cX4_greatestGeneration 0 = .ok (.iconst 0, 1) := by decide +kernel
theorem dX4_greatestGeneration_1 : decode cX4_greatestGeneration 1 = .ok (.istore_n 1, 1) := by decide +kernel
theorem dX4_greatestGeneration_2 : decode cX4_greatestGeneration 2 = .ok (.iconst 0, 1) := by decide +kernel
theorem dX4_greatestGeneration_3 : decode cX4_greatestGeneration 3 = .ok (.istore_n 2, 1) := by decide +kernel
theorem dX4_greatestGeneration_4 : decode cX4_greatestGeneration 4 = .ok (.iload_n 2, 1) := by decide +kernel
theorem dX4_greatestGeneration_5 : decode cX4_greatestGeneration 5 = .ok (.aload_n 0, 1) := by decide +kernel
theorem dX4_greatestGeneration_6 : decode cX4_greatestGeneration 6 = .ok (.getfield 20, 3) := by decide +kernel
theorem dX4_greatestGeneration_9 : decode cX4_greatestGeneration 9 = .ok (.invokevirtual 67, 3) := by decide +kernel
theorem dX4_greatestGeneration_12 : decode cX4_greatestGeneration 12 = .ok (.if_icmp .ge 28, 3) := by decide +kernel
theorem dX4_greatestGeneration_15 : decode cX4_greatestGeneration 15 = .ok (.iload_n 1, 1) := by decide +kernel
theorem dX4_greatestGeneration_16 : decode cX4_greatestGeneration 16 = .ok (.aload_n 0, 1) := by decide +kernel
theorem dX4_greatestGeneration_17 : decode cX4_greatestGeneration 17 = .ok (.getfield 20, 3) := by decide +kernel
theorem dX4_greatestGeneration_20 : decode cX4_greatestGeneration 20 = .ok (.iload_n 2, 1) := by decide +kernel
theorem dX4_greatestGeneration_21 : decode cX4_greatestGeneration 21 = .ok (.invokevirtual 146, 3) := by decide +kernel
theorem dX4_greatestGeneration_24 : decode cX4_greatestGeneration 24 = .ok (.checkcast 89, 3) := by decide +kernel
theorem dX4_greatestGeneration_27 : decode cX4_greatestGeneration 27 = .ok (.getfield 277, 3) := by decide +kernel
theorem dX4_greatestGeneration_30 : decode cX4_greatestGeneration 30 = .ok (.invokestatic 298, 3) := by decide +kernel
theorem dX4_greatestGeneration_33 : decode cX4_greatestGeneration 33 = .ok (.istore_n 1, 1) := by decide +kernel
theorem dX4_greatestGeneration_34 : decode cX4_greatestGeneration 34 = .ok (.iinc 2 1, 3) := by decide +kernel
theorem dX4_greatestGeneration_37 : decode cX4_greatestGeneration 37 = .ok (.goto (-33), 3) := by decide +kernel
theorem dX4_greatestGeneration_40 : decode cX4_greatestGeneration 40 = .ok (.iload_n 1, 1) := by decide +kernel
theorem dX4_greatestGeneration_41 : decode cX4_greatestGeneration 41 = .ok (.ireturn, 1) := by decide +kernel
set_option maxRecDepth 20000 in
theorem ggX4_lettersThere_Jx4a65c_size_8abf5 : GoodIn wsX4_lettersThere wsJx4a65c_size_8abf5 := goodIn_r _ [10, 11, 47, 48, 49] (by decide +kernel) (by decide +kernel)
set_option maxRecDepth 20000 in
theorem gX4_lettersThere_Jx4a65c_size_8abf5 : GoodIn wsX4_lettersThere (wsV RX4 67 RJx4a65c yJx4a65c_size_8abf5 wsJx4a65c_size_8abf5) := goodIn_app (goodIn_of _ (by decide +kernel)) ggX4_lettersThere_Jx4a65c_size_8abf5
set_option maxRecDepth 20000 in
theorem ggX4_lettersThere_Jx4a65c_get_915e3 : GoodIn wsX4_lettersThere wsJx4a65c_get_915e3 := goodIn_r _ [15, 11, 16, 17, 18, 19, 20, 21, 22, 23, 24, 25, 26, 9, 27, 28, 47, 48, 49] (by decide +kernel) (by decide +kernel)
set_option maxRecDepth 20000 in
theorem gX4_lettersThere_Jx4a65c_get_915e3 : GoodIn wsX4_lettersThere (wsV RX4 146 RJx4a65c yJx4a65c_get_915e3 wsJx4a65c_get_915e3) := goodIn_app (goodIn_of _ (by decide +kernel)) ggX4_lettersThere_Jx4a65c_get_915e3
theorem dX4_lettersThere_0 : decode cX4_lettersThere 0 = .ok (.iconst 0, 1) := by decide +kernel
theorem dX4_lettersThere_1 : decode cX4_lettersThere 1 = .ok (.istore_n 1, 1) := by decide +kernel
theorem dX4_lettersThere_2 : decode cX4_lettersThere 2 = .ok (.iconst 0, 1) := by decide +kernel
theorem dX4_lettersThere_3 : decode cX4_lettersThere 3 = .ok (.istore_n 2, 1) := by decide +kernel
theorem dX4_lettersThere_4 : decode cX4_lettersThere 4 = .ok (.iload_n 2, 1) := by decide +kernel
theorem dX4_lettersThere_5 : decode cX4_lettersThere 5 = .ok (.aload_n 0, 1) := by decide +kernel
theorem dX4_lettersThere_6 : decode cX4_lettersThere 6 = .ok (.getfield 20, 3) := by decide +kernel
theorem dX4_lettersThere_9 : decode cX4_lettersThere 9 = .ok (.invokevirtual 67, 3) := by decide +kernel
theorem dX4_lettersThere_12 : decode cX4_lettersThere 12 = .ok (.if_icmp .ge 38, 3) := by decide +kernel
theorem dX4_lettersThere_15 : decode cX4_lettersThere 15 = .ok (.aload_n 0, 1) := by decide +kernel
theorem dX4_lettersThere_16 : decode cX4_lettersThere 16 = .ok (.getfield 20, 3) := by decide +kernel
theorem dX4_lettersThere_19 : decode cX4_lettersThere 19 = .ok (.iload_n 2, 1) := by decide +kernel
theorem dX4_lettersThere_20 : decode cX4_lettersThere 20 = .ok (.invokevirtual 146, 3) := by decide +kernel
theorem dX4_lettersThere_23 : decode cX4_lettersThere 23 = .ok (.checkcast 89, 3) := by decide +kernel
theorem dX4_lettersThere_26 : decode cX4_lettersThere 26 = .ok (.astore_n 3, 1) := by decide +kernel
theorem dX4_lettersThere_27 : decode cX4_lettersThere 27 = .ok (.aload_n 3, 1) := by decide +kernel
theorem dX4_lettersThere_28 : decode cX4_lettersThere 28 = .ok (.getfield 153, 3) := by decide +kernel
theorem dX4_lettersThere_31 : decode cX4_lettersThere 31 = .ok (.ifCond .eq 13, 3) := by decide +kernel
theorem dX4_lettersThere_34 : decode cX4_lettersThere 34 = .ok (.iload_n 1, 1) := by decide +kernel
theorem dX4_lettersThere_35 : decode cX4_lettersThere 35 = .ok (.aload_n 3, 1) := by decide +kernel
theorem dX4_lettersThere_36 : decode cX4_lettersThere 36 = .ok (.getfield 88, 3) := by decide +kernel
theorem dX4_lettersThere_39 : decode cX4_lettersThere 39 = .ok (.getfield 93, 3) := by decide +kernel
theorem dX4_lettersThere_42 : decode cX4_lettersThere 42 = .ok (.iadd, 1) := by decide +kernel
theorem dX4_lettersThere_43 : decode cX4_lettersThere 43 = .ok (.istore_n 1, 1) := by decide +kernel
theorem dX4_lettersThere_44 : decode cX4_lettersThere 44 = .ok (.iinc 2 1, 3) := by decide +kernel
theorem dX4_lettersThere_47 : decode cX4_lettersThere 47 = .ok (.goto (-43), 3) := by decide +kernel
theorem dX4_lettersThere_50 : decode cX4_lettersThere 50 = .ok (.iload_n 1, 1) := by decide +kernel
theorem dX4_lettersThere_51 : decode cX4_lettersThere 51 = .ok (.ireturn, 1) := by decide +kernel
set_option maxRecDepth 20000 in
theorem ggX4_guessedRight_Jx4a65c_size_8abf5 : GoodIn wsX4_guessedRight wsJx4a65c_size_8abf5 := goodIn_r _ [10, 11, 77, 78, 79] (by decide +kernel) (by decide +kernel)
set_option maxRecDepth 20000 in
theorem gX4_guessedRight_Jx4a65c_size_8abf5 : GoodIn wsX4_guessedRight (wsV RX4 67 RJx4a65c yJx4a65c_size_8abf5 wsJx4a65c_size_8abf5) := goodIn_app (goodIn_of _ (by decide +kernel)) ggX4_guessedRight_Jx4a65c_size_8abf5
set_option maxRecDepth 20000 in
theorem ggX4_guessedRight_Jx4a65c_get_915e3 : GoodIn wsX4_guessedRight wsJx4a65c_get_915e3 := goodIn_r _ [15, 11, 16, 17, 18, 19, 20, 21, 22, 23, 24, 25, 26, 9, 27, 28, 77, 78, 79] (by decide +kernel) (by decide +kernel)
set_option maxRecDepth 20000 in
theorem gX4_guessedRight_Jx4a65c_get_915e3 : GoodIn wsX4_guessedRight (wsV RX4 146 RJx4a65c yJx4a65c_get_915e3 wsJx4a65c_get_915e3) := goodIn_app (goodIn_of _ (by decide +kernel)) ggX4_guessedRight_Jx4a65c_get_915e3
set_option maxRecDepth 20000 in
theorem ggX4_guessedRight_X4_guessed : GoodIn wsX4_guessedRight wsX4_guessed := goodIn_r _ [33, 3, 5, 1, 2, 6, 7, 8, 9, 10, 11, 12, 13, 14, 15, 16, 17, 18, 19, 20, 21, 22, 23, 24, 25, 26, 27, 28, 34, 35, 36, 32, 37, 38, 39, 40, 41, 42, 43, 44, 45, 46, 47, 48, 49, 50, 51, 52, 53, 54, 55, 56, 57, 58, 59, 60, 71, 72, 73, 74, 75, 76, 61, 62, 63, 64, 65, 66, 67, 68, 69, 70, 77, 78, 79, 80, 81] (by decide +kernel) (by decide +kernel)
set_option maxRecDepth 20000 in
theorem gX4_guessedRight_X4_guessed : GoodIn wsX4_guessedRight (wsV RX4 206 RX4 yX4_guessed wsX4_guessed) := goodIn_app (goodIn_of _ (by decide +kernel)) ggX4_guessedRight_X4_guessed
theorem dX4_guessedRight_0 : decode cX4_guessedRight 0 = .ok (.iconst 0, 1) := by decide +kernel
theorem dX4_guessedRight_1 : decode cX4_guessedRight 1 = .ok (.istore_n 1, 1) := by decide +kernel
theorem dX4_guessedRight_2 : decode cX4_guessedRight 2 = .ok (.iconst 0, 1) := by decide +kernel
theorem dX4_guessedRight_3 : decode cX4_guessedRight 3 = .ok (.istore_n 2, 1) := by decide +kernel
theorem dX4_guessedRight_4 : decode cX4_guessedRight 4 = .ok (.iload_n 2, 1) := by decide +kernel
theorem dX4_guessedRight_5 : decode cX4_guessedRight 5 = .ok (.aload_n 0, 1) := by decide +kernel
theorem dX4_guessedRight_6 : decode cX4_guessedRight 6 = .ok (.getfield 20, 3) := by decide +kernel
theorem dX4_guessedRight_9 : decode cX4_guessedRight 9 = .ok (.invokevirtual 67, 3) := by decide +kernel
theorem dX4_guessedRight_12 : decode cX4_guessedRight 12 = .ok (.if_icmp .ge 53, 3) := by decide +kernel
theorem dX4_guessedRight_15 : decode cX4_guessedRight 15 = .ok (.aload_n 0, 1) := by decide +kernel
theorem dX4_guessedRight_16 : decode cX4_guessedRight 16 = .ok (.getfield 20, 3) := by decide +kernel
theorem dX4_guessedRight_19 : decode cX4_guessedRight 19 = .ok (.iload_n 2, 1) := by decide +kernel
theorem dX4_guessedRight_20 : decode cX4_guessedRight 20 = .ok (.invokevirtual 146, 3) := by decide +kernel
theorem dX4_guessedRight_23 : decode cX4_guessedRight 23 = .ok (.checkcast 89, 3) := by decide +kernel
theorem dX4_guessedRight_26 : decode cX4_guessedRight 26 = .ok (.astore_n 3, 1) := by decide +kernel
theorem dX4_guessedRight_27 : decode cX4_guessedRight 27 = .ok (.aload_n 3, 1) := by decide +kernel
theorem dX4_guessedRight_28 : decode cX4_guessedRight 28 = .ok (.getfield 153, 3) := by decide +kernel
theorem dX4_guessedRight_31 : decode cX4_guessedRight 31 = .ok (.ifCond .eq 28, 3) := by decide +kernel
theorem dX4_guessedRight_34 : decode cX4_guessedRight 34 = .ok (.aload_n 3, 1) := by decide +kernel
theorem dX4_guessedRight_35 : decode cX4_guessedRight 35 = .ok (.getfield 202, 3) := by decide +kernel
theorem dX4_guessedRight_38 : decode cX4_guessedRight 38 = .ok (.ifnull 21, 3) := by decide +kernel
theorem dX4_guessedRight_41 : decode cX4_guessedRight 41 = .ok (.aload_n 0, 1) := by decide +kernel
theorem dX4_guessedRight_42 : decode cX4_guessedRight 42 = .ok (.aload_n 3, 1) := by decide +kernel
theorem dX4_guessedRight_43 : decode cX4_guessedRight 43 = .ok (.invokevirtual 206, 3) := by decide +kernel
theorem dX4_guessedRight_46 : decode cX4_guessedRight 46 = .ok (.aload_n 3, 1) := by decide +kernel
theorem dX4_guessedRight_47 : decode cX4_guessedRight 47 = .ok (.getfield 202, 3) := by decide +kernel
theorem dX4_guessedRight_50 : decode cX4_guessedRight 50 = .ok (.getfield 199, 3) := by decide +kernel
theorem dX4_guessedRight_53 : decode cX4_guessedRight 53 = .ok (.if_icmp .ne 6, 3) := by decide +kernel
theorem dX4_guessedRight_56 : decode cX4_guessedRight 56 = .ok (.iinc 1 1, 3) := by decide +kernel
theorem dX4_guessedRight_59 : decode cX4_guessedRight 59 = .ok (.iinc 2 1, 3) := by decide +kernel
theorem dX4_guessedRight_62 : decode cX4_guessedRight 62 = .ok (.goto (-58), 3) := by decide +kernel
theorem dX4_guessedRight_65 : decode cX4_guessedRight 65 = .ok (.iload_n 1, 1) := by decide +kernel
theorem dX4_guessedRight_66 : decode cX4_guessedRight 66 = .ok (.ireturn, 1) := by decide +kernel
set_option maxRecDepth 20000 in
theorem ggX4_guessed_Jx4a65c_size_8abf5 : GoodIn wsX4_guessed wsJx4a65c_size_8abf5 := goodIn_r _ [9, 10, 72, 73, 74] (by decide +kernel) (by decide +kernel)
set_option maxRecDepth 20000 in
theorem gX4_guessed_Jx4a65c_size_8abf5 : GoodIn wsX4_guessed (wsV RX4 67 RJx4a65c yJx4a65c_size_8abf5 wsJx4a65c_size_8abf5) := goodIn_app (goodIn_of _ (by decide +kernel)) ggX4_guessed_Jx4a65c_size_8abf5
set_option maxRecDepth 20000 in
theorem ggX4_guessed_Jx4a65c_get_915e3 : GoodIn wsX4_guessed wsJx4a65c_get_915e3 := goodIn_r _ [14, 10, 15, 16, 17, 18, 19, 20, 21, 22, 23, 24, 25, 8, 26, 27, 72, 73, 74] (by decide +kernel) (by decide +kernel)
set_option maxRecDepth 20000 in
theorem gX4_guessed_Jx4a65c_get_915e3 : GoodIn wsX4_guessed (wsV RX4 146 RJx4a65c yJx4a65c_get_915e3 wsJx4a65c_get_915e3) := goodIn_app (goodIn_of _ (by decide +kernel)) ggX4_guessed_Jx4a65c_get_915e3
set_option maxRecDepth 20000 in
theorem ggX4_guessed_X4_measure : GoodIn wsX4_guessed wsX4_measure := goodIn_r _ [32, 33, 2, 34, 35, 36, 37, 31, 38, 39, 40, 41, 42, 43, 44, 45, 46, 47, 48, 49, 50, 51, 52, 53, 54, 55, 62, 63, 64, 65, 66, 67, 68, 69, 70, 71, 56, 57, 58, 59, 60, 61, 75, 76] (by decide +kernel) (by decide +kernel)
set_option maxRecDepth 20000 in
theorem gX4_guessed_X4_measure : GoodIn wsX4_guessed (wsV RX4 191 RX4 yX4_measure wsX4_measure) := goodIn_app (goodIn_of _ (by decide +kernel)) ggX4_guessed_X4_measure
theorem dX4_guessed_0 : decode cX4_guessed 0 = .ok (.aload_n 1, 1) := by decide +kernel
theorem dX4_guessed_1 : decode cX4_guessed 1 = .ok (.getfield 153, 3) := by decide +kernel
theorem dX4_guessed_4 : decode cX4_guessed 4 = .ok (.ifCond .ne 5, 3) := by decide +kernel
theorem dX4_guessed_7 : decode cX4_guessed 7 = .ok (.iconst (-1), 1) := by decide +kernel
theorem dX4_guessed_8 : decode cX4_guessed 8 = .ok (.ireturn, 1) := by decide +kernel
theorem dX4_guessed_9 : decode cX4_guessed 9 = .ok (.iconst (-1), 1) := by decide +kernel
theorem dX4_guessed_10 : decode cX4_guessed 10 = .ok (.istore_n 2, 1) := by decide +kernel
theorem dX4_guessed_11 : decode cX4_guessed 11 = .ok (.bipush 120, 2) := by decide +kernel
theorem dX4_guessed_13 : decode cX4_guessed 13 = .ok (.istore_n 3, 1) := by decide +kernel
theorem dX4_guessed_14 : decode cX4_guessed 14 = .ok (.iconst 0, 1) := by decide +kernel
theorem dX4_guessed_15 : decode cX4_guessed 15 = .ok (.istore 4, 2) := by decide +kernel
theorem dX4_guessed_17 : decode cX4_guessed 17 = .ok (.iload 4, 2) := by decide +kernel
theorem dX4_guessed_19 : decode cX4_guessed 19 = .ok (.aload_n 1, 1) := by decide +kernel
theorem dX4_guessed_20 : decode cX4_guessed 20 = .ok (.getfield 199, 3) := by decide +kernel
theorem dX4_guessed_23 : decode cX4_guessed 23 = .ok (.if_icmp .ge 67, 3) := by decide +kernel
theorem dX4_guessed_26 : decode cX4_guessed 26 = .ok (.iload 4, 2) := by decide +kernel
theorem dX4_guessed_28 : decode cX4_guessed 28 = .ok (.aload_n 0, 1) := by decide +kernel
theorem dX4_guessed_29 : decode cX4_guessed 29 = .ok (.getfield 20, 3) := by decide +kernel
theorem dX4_guessed_32 : decode cX4_guessed 32 = .ok (.invokevirtual 67, 3) := by decide +kernel
theorem dX4_guessed_35 : decode cX4_guessed 35 = .ok (.if_icmp .ge 55, 3) := by decide +kernel
theorem dX4_guessed_38 : decode cX4_guessed 38 = .ok (.aload_n 0, 1) := by decide +kernel
theorem dX4_guessed_39 : decode cX4_guessed 39 = .ok (.getfield 20, 3) := by decide +kernel
theorem dX4_guessed_42 : decode cX4_guessed 42 = .ok (.iload 4, 2) := by decide +kernel
theorem dX4_guessed_44 : decode cX4_guessed 44 = .ok (.invokevirtual 146, 3) := by decide +kernel
theorem dX4_guessed_47 : decode cX4_guessed 47 = .ok (.checkcast 89, 3) := by decide +kernel
theorem dX4_guessed_50 : decode cX4_guessed 50 = .ok (.astore 5, 2) := by decide +kernel
theorem dX4_guessed_52 : decode cX4_guessed 52 = .ok (.aload 5, 2) := by decide +kernel
theorem dX4_guessed_54 : decode cX4_guessed 54 = .ok (.getfield 153, 3) := by decide +kernel
theorem dX4_guessed_57 : decode cX4_guessed 57 = .ok (.ifCond .ne 6, 3) := by decide +kernel
theorem dX4_guessed_60 : decode cX4_guessed 60 = .ok (.goto 24, 3) := by decide +kernel
theorem dX4_guessed_63 : decode cX4_guessed 63 = .ok (.aload_n 0, 1) := by decide +kernel
theorem dX4_guessed_64 : decode cX4_guessed 64 = .ok (.aload_n 1, 1) := by decide +kernel
theorem dX4_guessed_65 : decode cX4_guessed 65 = .ok (.aload 5, 2) := by decide +kernel
theorem dX4_guessed_67 : decode cX4_guessed 67 = .ok (.invokevirtual 191, 3) := by decide +kernel
theorem dX4_guessed_70 : decode cX4_guessed 70 = .ok (.istore 6, 2) := by decide +kernel
theorem dX4_guessed_72 : decode cX4_guessed 72 = .ok (.iload 6, 2) := by decide +kernel
theorem dX4_guessed_74 : decode cX4_guessed 74 = .ok (.iload_n 3, 1) := by decide +kernel
theorem dX4_guessed_75 : decode cX4_guessed 75 = .ok (.if_icmp .gt 9, 3) := by decide +kernel
theorem dX4_guessed_78 : decode cX4_guessed 78 = .ok (.iload 6, 2) := by decide +kernel
theorem dX4_guessed_80 : decode cX4_guessed 80 = .ok (.istore_n 3, 1) := by decide +kernel
theorem dX4_guessed_81 : decode cX4_guessed 81 = .ok (.iload 4, 2) := by decide +kernel
theorem dX4_guessed_83 : decode cX4_guessed 83 = .ok (.istore_n 2, 1) := by decide +kernel
theorem dX4_guessed_84 : decode cX4_guessed 84 = .ok (.iinc 4 1, 3) := by decide +kernel
theorem dX4_guessed_87 : decode cX4_guessed 87 = .ok (.goto (-70), 3) := by decide +kernel
theorem dX4_guessed_90 : decode cX4_guessed 90 = .ok (.iload_n 2, 1) := by decide +kernel
theorem dX4_guessed_91 : decode cX4_guessed 91 = .ok (.ireturn, 1) := by decide +kernel
set_option maxRecDepth 20000 in
theorem ggX4_lengthOfMost_J7_fill_53178 : GoodIn wsX4_lengthOfMost wsJ7_fill_53178 := goodIn_r _ [10] (by decide +kernel) (by decide +kernel)
set_option maxRecDepth 20000 in
theorem gX4_lengthOfMost_J7_fill_53178 : GoodIn wsX4_lengthOfMost (va_wsS RX4 303 yJ7_fill_53178 wsJ7_fill_53178) := goodIn_app (goodIn_of _ (by decide +kernel)) ggX4_lengthOfMost_J7_fill_53178
set_option maxRecDepth 20000 in
theorem ggX4_lengthOfMost_Jx4a65c_size_8abf5 : GoodIn wsX4_lengthOfMost wsJx4a65c_size_8abf5 := goodIn_r _ [15, 16, 57, 58, 59] (by decide +kernel) (by decide +kernel)
set_option maxRecDepth 20000 in
theorem gX4_lengthOfMost_Jx4a65c_size_8abf5 : GoodIn wsX4_lengthOfMost (wsV RX4 67 RJx4a65c yJx4a65c_size_8abf5 wsJx4a65c_size_8abf5) := goodIn_app (goodIn_of _ (by decide +kernel)) ggX4_lengthOfMost_Jx4a65c_size_8abf5
set_option maxRecDepth 20000 in
theorem ggX4_lengthOfMost_Jx4a65c_get_915e3 : GoodIn wsX4_lengthOfMost wsJx4a65c_get_915e3 := goodIn_r _ [20, 16, 21, 22, 23, 24, 25, 26, 27, 28, 29, 30, 31, 14, 32, 33, 57, 58, 59] (by decide +kernel) (by decide +kernel)
set_option maxRecDepth 20000 in
theorem gX4_lengthOfMost_Jx4a65c_get_915e3 : GoodIn wsX4_lengthOfMost (wsV RX4 146 RJx4a65c yJx4a65c_get_915e3 wsJx4a65c_get_915e3) := goodIn_app (goodIn_of _ (by decide +kernel)) ggX4_lengthOfMost_Jx4a65c_get_915e3
set_option maxRecDepth 20000 in
theorem ggX4_lengthOfMost_X4_firstMostTallied : GoodIn wsX4_lengthOfMost wsX4_firstMostTallied := goodIn_r _ [38, 1, 39, 40, 41, 42, 43, 44, 45, 46, 47, 48] (by decide +kernel) (by decide +kernel)
set_option maxRecDepth 20000 in
theorem gX4_lengthOfMost_X4_firstMostTallied : GoodIn wsX4_lengthOfMost (wsV RX4 309 RX4 yX4_firstMostTallied wsX4_firstMostTallied) := goodIn_app (goodIn_of _ (by decide +kernel)) ggX4_lengthOfMost_X4_firstMostTallied
theorem dX4_lengthOfMost_0 : decode cX4_lengthOfMost 0 = .ok (.aload_n 0, 1) := by decide +kernel
theorem dX4_lengthOfMost_1 : decode cX4_lengthOfMost 1 = .ok (.getfield 48, 3) := by decide +kernel
theorem dX4_lengthOfMost_4 : decode cX4_lengthOfMost 4 = .ok (.iconst 0, 1) := by decide +kernel
theorem dX4_lengthOfMost_5 : decode cX4_lengthOfMost 5 = .ok (.invokestatic 303, 3) := by decide +kernel
theorem dX4_lengthOfMost_8 : decode cX4_lengthOfMost 8 = .ok (.iconst 0, 1) := by decide +kernel
theorem dX4_lengthOfMost_9 : decode cX4_lengthOfMost 9 = .ok (.istore_n 1, 1) := by decide +kernel
theorem dX4_lengthOfMost_10 : decode cX4_lengthOfMost 10 = .ok (.iload_n 1, 1) := by decide +kernel
theorem dX4_lengthOfMost_11 : decode cX4_lengthOfMost 11 = .ok (.aload_n 0, 1) := by decide +kernel
theorem dX4_lengthOfMost_12 : decode cX4_lengthOfMost 12 = .ok (.getfield 20, 3) := by decide +kernel
theorem dX4_lengthOfMost_15 : decode cX4_lengthOfMost 15 = .ok (.invokevirtual 67, 3) := by decide +kernel
theorem dX4_lengthOfMost_18 : decode cX4_lengthOfMost 18 = .ok (.if_icmp .ge 44, 3) := by decide +kernel
theorem dX4_lengthOfMost_21 : decode cX4_lengthOfMost 21 = .ok (.aload_n 0, 1) := by decide +kernel
theorem dX4_lengthOfMost_22 : decode cX4_lengthOfMost 22 = .ok (.getfield 20, 3) := by decide +kernel
theorem dX4_lengthOfMost_25 : decode cX4_lengthOfMost 25 = .ok (.iload_n 1, 1) := by decide +kernel
theorem dX4_lengthOfMost_26 : decode cX4_lengthOfMost 26 = .ok (.invokevirtual 146, 3) := by decide +kernel
theorem dX4_lengthOfMost_29 : decode cX4_lengthOfMost 29 = .ok (.checkcast 89, 3) := by decide +kernel
theorem dX4_lengthOfMost_32 : decode cX4_lengthOfMost 32 = .ok (.astore_n 2, 1) := by decide +kernel
theorem dX4_lengthOfMost_33 : decode cX4_lengthOfMost 33 = .ok (.aload_n 2, 1) := by decide +kernel
theorem dX4_lengthOfMost_34 : decode cX4_lengthOfMost 34 = .ok (.getfield 153, 3) := by decide +kernel
theorem dX4_lengthOfMost_37 : decode cX4_lengthOfMost 37 = .ok (.ifCond .eq 19, 3) := by decide +kernel
theorem dX4_lengthOfMost_40 : decode cX4_lengthOfMost 40 = .ok (.aload_n 0, 1) := by decide +kernel
theorem dX4_lengthOfMost_41 : decode cX4_lengthOfMost 41 = .ok (.getfield 48, 3) := by decide +kernel
theorem dX4_lengthOfMost_44 : decode cX4_lengthOfMost 44 = .ok (.aload_n 2, 1) := by decide +kernel
theorem dX4_lengthOfMost_45 : decode cX4_lengthOfMost 45 = .ok (.getfield 88, 3) := by decide +kernel
theorem dX4_lengthOfMost_48 : decode cX4_lengthOfMost 48 = .ok (.getfield 93, 3) := by decide +kernel
theorem dX4_lengthOfMost_51 : decode cX4_lengthOfMost 51 = .ok (.dup2, 1) := by decide +kernel
theorem dX4_lengthOfMost_52 : decode cX4_lengthOfMost 52 = .ok (.iaload, 1) := by decide +kernel
theorem dX4_lengthOfMost_53 : decode cX4_lengthOfMost 53 = .ok (.iconst 1, 1) := by decide +kernel
theorem dX4_lengthOfMost_54 : decode cX4_lengthOfMost 54 = .ok (.iadd, 1) := by decide +kernel
theorem dX4_lengthOfMost_55 : decode cX4_lengthOfMost 55 = .ok (.iastore, 1) := by decide +kernel
theorem dX4_lengthOfMost_56 : decode cX4_lengthOfMost 56 = .ok (.iinc 1 1, 3) := by decide +kernel
theorem dX4_lengthOfMost_59 : decode cX4_lengthOfMost 59 = .ok (.goto (-49), 3) := by decide +kernel
theorem dX4_lengthOfMost_62 : decode cX4_lengthOfMost 62 = .ok (.aload_n 0, 1) := by decide +kernel
theorem dX4_lengthOfMost_63 : decode cX4_lengthOfMost 63 = .ok (.bipush 121, 2) := by decide +kernel
theorem dX4_lengthOfMost_65 : decode cX4_lengthOfMost 65 = .ok (.invokevirtual 309, 3) := by decide +kernel
theorem dX4_lengthOfMost_68 : decode cX4_lengthOfMost 68 = .ok (.ireturn, 1) := by decide +kernel
set_option maxRecDepth 20000 in
theorem ggX4_letterOfMost_J7_fill_53178 : GoodIn wsX4_letterOfMost wsJ7_fill_53178 := goodIn_r _ [11] (by decide +kernel) (by decide +kernel)
set_option maxRecDepth 20000 in
theorem gX4_letterOfMost_J7_fill_53178 : GoodIn wsX4_letterOfMost (va_wsS RX4 303 yJ7_fill_53178 wsJ7_fill_53178) := goodIn_app (goodIn_of _ (by decide +kernel)) ggX4_letterOfMost_J7_fill_53178
set_option maxRecDepth 20000 in
theorem ggX4_letterOfMost_Jx4a65c_size_8abf5 : GoodIn wsX4_letterOfMost wsJx4a65c_size_8abf5 := goodIn_r _ [16, 17, 61, 62, 63] (by decide +kernel) (by decide +kernel)
set_option maxRecDepth 20000 in
theorem gX4_letterOfMost_Jx4a65c_size_8abf5 : GoodIn wsX4_letterOfMost (wsV RX4 67 RJx4a65c yJx4a65c_size_8abf5 wsJx4a65c_size_8abf5) := goodIn_app (goodIn_of _ (by decide +kernel)) ggX4_letterOfMost_Jx4a65c_size_8abf5
set_option maxRecDepth 20000 in
theorem ggX4_letterOfMost_Jx4a65c_get_915e3 : GoodIn wsX4_letterOfMost wsJx4a65c_get_915e3 := goodIn_r _ [21, 17, 22, 23, 24, 25, 26, 27, 28, 29, 30, 31, 32, 15, 33, 34, 61, 62, 63] (by decide +kernel) (by decide +kernel)
set_option maxRecDepth 20000 in
theorem gX4_letterOfMost_Jx4a65c_get_915e3 : GoodIn wsX4_letterOfMost (wsV RX4 146 RJx4a65c yJx4a65c_get_915e3 wsJx4a65c_get_915e3) := goodIn_app (goodIn_of _ (by decide +kernel)) ggX4_letterOfMost_Jx4a65c_get_915e3
set_option maxRecDepth 20000 in
theorem ggX4_letterOfMost_X4_isLetter : GoodIn wsX4_letterOfMost wsX4_isLetter := goodIn_r _ [38] (by decide +kernel) (by decide +kernel)
set_option maxRecDepth 20000 in
theorem gX4_letterOfMost_X4_isLetter : GoodIn wsX4_letterOfMost (va_wsS RX4 120 yX4_isLetter wsX4_isLetter) := goodIn_app (goodIn_of _ (by decide +kernel)) ggX4_letterOfMost_X4_isLetter
set_option maxRecDepth 20000 in
theorem ggX4_letterOfMost_X4_firstMostTallied : GoodIn wsX4_letterOfMost wsX4_firstMostTallied := goodIn_r _ [42, 1, 43, 44, 45, 46, 47, 48, 49, 50, 51, 52] (by decide +kernel) (by decide +kernel)
set_option maxRecDepth 20000 in
theorem gX4_letterOfMost_X4_firstMostTallied : GoodIn wsX4_letterOfMost (wsV RX4 309 RX4 yX4_firstMostTallied wsX4_firstMostTallied) := goodIn_app (goodIn_of _ (by decide +kernel)) ggX4_letterOfMost_X4_firstMostTallied
theorem dX4_letterOfMost_0 : decode cX4_letterOfMost 0 = .ok (.aload_n 0, 1) := by decide +kernel
theorem dX4_letterOfMost_1 : decode cX4_letterOfMost 1 = .ok (.getfield 48, 3) := by decide +kernel
theorem dX4_letterOfMost_4 : decode cX4_letterOfMost 4 = .ok (.iconst 0, 1) := by decide +kernel
theorem dX4_letterOfMost_5 : decode cX4_letterOfMost 5 = .ok (.invokestatic 303, 3) := by decide +kernel
theorem dX4_letterOfMost_8 : decode cX4_letterOfMost 8 = .ok (.iconst 0, 1) := by decide +kernel
theorem dX4_letterOfMost_9 : decode cX4_letterOfMost 9 = .ok (.istore_n 3, 1) := by decide +kernel
theorem dX4_letterOfMost_10 : decode cX4_letterOfMost 10 = .ok (.iload_n 3, 1) := by decide +kernel
theorem dX4_letterOfMost_11 : decode cX4_letterOfMost 11 = .ok (.aload_n 0, 1) := by decide +kernel
theorem dX4_letterOfMost_12 : decode cX4_letterOfMost 12 = .ok (.getfield 20, 3) := by decide +kernel
theorem dX4_letterOfMost_15 : decode cX4_letterOfMost 15 = .ok (.invokevirtual 67, 3) := by decide +kernel
theorem dX4_letterOfMost_18 : decode cX4_letterOfMost 18 = .ok (.if_icmp .ge 81, 3) := by decide +kernel
theorem dX4_letterOfMost_21 : decode cX4_letterOfMost 21 = .ok (.aload_n 0, 1) := by decide +kernel
theorem dX4_letterOfMost_22 : decode cX4_letterOfMost 22 = .ok (.getfield 20, 3) := by decide +kernel
theorem dX4_letterOfMost_25 : decode cX4_letterOfMost 25 = .ok (.iload_n 3, 1) := by decide +kernel
theorem dX4_letterOfMost_26 : decode cX4_letterOfMost 26 = .ok (.invokevirtual 146, 3) := by decide +kernel
theorem dX4_letterOfMost_29 : decode cX4_letterOfMost 29 = .ok (.checkcast 89, 3) := by decide +kernel
theorem dX4_letterOfMost_32 : decode cX4_letterOfMost 32 = .ok (.astore 4, 2) := by decide +kernel
theorem dX4_letterOfMost_34 : decode cX4_letterOfMost 34 = .ok (.aload 4, 2) := by decide +kernel
theorem dX4_letterOfMost_36 : decode cX4_letterOfMost 36 = .ok (.getfield 153, 3) := by decide +kernel
theorem dX4_letterOfMost_39 : decode cX4_letterOfMost 39 = .ok (.ifCond .eq 54, 3) := by decide +kernel
theorem dX4_letterOfMost_42 : decode cX4_letterOfMost 42 = .ok (.aload 4, 2) := by decide +kernel
theorem dX4_letterOfMost_44 : decode cX4_letterOfMost 44 = .ok (.getfield 88, 3) := by decide +kernel
theorem dX4_letterOfMost_47 : decode cX4_letterOfMost 47 = .ok (.getfield 93, 3) := by decide +kernel
theorem dX4_letterOfMost_50 : decode cX4_letterOfMost 50 = .ok (.iload_n 2, 1) := by decide +kernel
theorem dX4_letterOfMost_51 : decode cX4_letterOfMost 51 = .ok (.if_icmp .ne 42, 3) := by decide +kernel
theorem dX4_letterOfMost_54 : decode cX4_letterOfMost 54 = .ok (.iload_n 1, 1) := by decide +kernel
theorem dX4_letterOfMost_55 : decode cX4_letterOfMost 55 = .ok (.iload_n 2, 1) := by decide +kernel
theorem dX4_letterOfMost_56 : decode cX4_letterOfMost 56 = .ok (.if_icmp .ge 37, 3) := by decide +kernel
theorem dX4_letterOfMost_59 : decode cX4_letterOfMost 59 = .ok (.aload 4, 2) := by decide +kernel
theorem dX4_letterOfMost_61 : decode cX4_letterOfMost 61 = .ok (.getfield 88, 3) := by decide +kernel
theorem dX4_letterOfMost_64 : decode cX4_letterOfMost 64 = .ok (.getfield 101, 3) := by decide +kernel
theorem dX4_letterOfMost_67 : decode cX4_letterOfMost 67 = .ok (.iload_n 1, 1) := by decide +kernel
theorem dX4_letterOfMost_68 : decode cX4_letterOfMost 68 = .ok (.baload, 1) := by decide +kernel
theorem dX4_letterOfMost_69 : decode cX4_letterOfMost 69 = .ok (.bipush 97, 2) := by decide +kernel
theorem dX4_letterOfMost_71 : decode cX4_letterOfMost 71 = .ok (.isub, 1) := by decide +kernel
theorem dX4_letterOfMost_72 : decode cX4_letterOfMost 72 = .ok (.istore 5, 2) := by decide +kernel
theorem dX4_letterOfMost_74 : decode cX4_letterOfMost 74 = .ok (.iload 5, 2) := by decide +kernel
theorem dX4_letterOfMost_76 : decode cX4_letterOfMost 76 = .ok (.invokestatic 120, 3) := by decide +kernel
theorem dX4_letterOfMost_79 : decode cX4_letterOfMost 79 = .ok (.ifCond .eq 14, 3) := by decide +kernel
theorem dX4_letterOfMost_82 : decode cX4_letterOfMost 82 = .ok (.aload_n 0, 1) := by decide +kernel
theorem dX4_letterOfMost_83 : decode cX4_letterOfMost 83 = .ok (.getfield 48, 3) := by decide +kernel
theorem dX4_letterOfMost_86 : decode cX4_letterOfMost 86 = .ok (.iload 5, 2) := by decide +kernel
theorem dX4_letterOfMost_88 : decode cX4_letterOfMost 88 = .ok (.dup2, 1) := by decide +kernel
theorem dX4_letterOfMost_89 : decode cX4_letterOfMost 89 = .ok (.iaload, 1) := by decide +kernel
theorem dX4_letterOfMost_90 : decode cX4_letterOfMost 90 = .ok (.iconst 1, 1) := by decide +kernel
theorem dX4_letterOfMost_91 : decode cX4_letterOfMost 91 = .ok (.iadd, 1) := by decide +kernel
theorem dX4_letterOfMost_92 : decode cX4_letterOfMost 92 = .ok (.iastore, 1) := by decide +kernel
theorem dX4_letterOfMost_93 : decode cX4_letterOfMost 93 = .ok (.iinc 3 1, 3) := by decide +kernel
theorem dX4_letterOfMost_96 : decode cX4_letterOfMost 96 = .ok (.goto (-86), 3) := by decide +kernel
theorem dX4_letterOfMost_99 : decode cX4_letterOfMost 99 = .ok (.bipush 97, 2) := by decide +kernel
theorem dX4_letterOfMost_101 : decode cX4_letterOfMost 101 = .ok (.aload_n 0, 1) := by decide +kernel
theorem dX4_letterOfMost_102 : decode cX4_letterOfMost 102 = .ok (.bipush 26, 2) := by decide +kernel
theorem dX4_letterOfMost_104 : decode cX4_letterOfMost 104 = .ok (.invokevirtual 309, 3) := by decide +kernel
theorem dX4_letterOfMost_107 : decode cX4_letterOfMost 107 = .ok (.iadd, 1) := by decide +kernel
theorem dX4_letterOfMost_108 : decode cX4_letterOfMost 108 = .ok (.ireturn, 1) := by decide +kernel
theorem dX4_firstMostTallied_0 : decode cX4_firstMostTallied 0 = .ok (.iconst 0, 1) := by decide +kernel
theorem dX4_firstMostTallied_1 : decode cX4_firstMostTallied 1 = .ok (.istore_n 2, 1) := by decide +kernel
theorem dX4_firstMostTallied_2 : decode cX4_firstMostTallied 2 = .ok (.iconst 1, 1) := by decide +kernel
theorem dX4_firstMostTallied_3 : decode cX4_firstMostTallied 3 = .ok (.istore_n 3, 1) := by decide +kernel
theorem dX4_firstMostTallied_4 : decode cX4_firstMostTallied 4 = .ok (.iload_n 3, 1) := by decide +kernel
theorem dX4_firstMostTallied_5 : decode cX4_firstMostTallied 5 = .ok (.iload_n 1, 1) := by decide +kernel
theorem dX4_firstMostTallied_6 : decode cX4_firstMostTallied 6 = .ok (.if_icmp .ge 35, 3) := by decide +kernel
theorem dX4_firstMostTallied_9 : decode cX4_firstMostTallied 9 = .ok (.iload_n 3, 1) := by decide +kernel
theorem dX4_firstMostTallied_10 : decode cX4_firstMostTallied 10 = .ok (.aload_n 0, 1) := by decide +kernel
theorem dX4_firstMostTallied_11 : decode cX4_firstMostTallied 11 = .ok (.getfield 48, 3) := by decide +kernel
theorem dX4_firstMostTallied_14 : decode cX4_firstMostTallied 14 = .ok (.arraylength, 1) := by decide +kernel
theorem dX4_firstMostTallied_15 : decode cX4_firstMostTallied 15 = .ok (.if_icmp .ge 26, 3) := by decide +kernel
theorem dX4_firstMostTallied_18 : decode cX4_firstMostTallied 18 = .ok (.aload_n 0, 1) := by decide +kernel
theorem dX4_firstMostTallied_19 : decode cX4_firstMostTallied 19 = .ok (.getfield 48, 3) := by decide +kernel
theorem dX4_firstMostTallied_22 : decode cX4_firstMostTallied 22 = .ok (.iload_n 3, 1) := by decide +kernel
theorem dX4_firstMostTallied_23 : decode cX4_firstMostTallied 23 = .ok (.iaload, 1) := by decide +kernel
theorem dX4_firstMostTallied_24 : decode cX4_firstMostTallied 24 = .ok (.aload_n 0, 1) := by decide +kernel
theorem dX4_firstMostTallied_25 : decode cX4_firstMostTallied 25 = .ok (.getfield 48, 3) := by decide +kernel
theorem dX4_firstMostTallied_28 : decode cX4_firstMostTallied 28 = .ok (.iload_n 2, 1) := by decide +kernel
theorem dX4_firstMostTallied_29 : decode cX4_firstMostTallied 29 = .ok (.iaload, 1) := by decide +kernel
theorem dX4_firstMostTallied_30 : decode cX4_firstMostTallied 30 = .ok (.if_icmp .le 5, 3) := by decide +kernel
theorem dX4_firstMostTallied_33 : decode cX4_firstMostTallied 33 = .ok (.iload_n 3, 1) := by decide +kernel
theorem dX4_firstMostTallied_34 : decode cX4_firstMostTallied 34 = .ok (.istore_n 2, 1) := by decide +kernel
theorem dX4_firstMostTallied_35 : decode cX4_firstMostTallied 35 = .ok (.iinc 3 1, 3) := by decide +kernel
theorem dX4_firstMostTallied_38 : decode cX4_firstMostTallied 38 = .ok (.goto (-34), 3) := by decide +kernel
theorem dX4_firstMostTallied_41 : decode cX4_firstMostTallied 41 = .ok (.iload_n 2, 1) := by decide +kernel
theorem dX4_firstMostTallied_42 : decode cX4_firstMostTallied 42 = .ok (.ireturn, 1) := by decide +kernel
set_option maxRecDepth 20000 in
theorem ggX4_voteText_X4_lengthOfMost : GoodIn wsX4_voteText wsX4_lengthOfMost := goodIn_r _ [7, 8, 9, 10, 11, 12, 2, 13, 14, 15, 16, 17, 18, 19, 20, 21, 22, 23, 24, 25, 26, 27, 28, 29, 30, 31, 32, 33, 34, 35, 36, 37, 38, 39, 40, 41, 42, 6, 43, 59, 60, 61, 62, 63, 64, 65, 66, 67, 68, 71, 72, 73, 74, 75, 76, 69, 70, 77, 78, 79] (by decide +kernel) (by decide +kernel)
set_option maxRecDepth 20000 in
theorem gX4_voteText_X4_lengthOfMost : GoodIn wsX4_voteText (wsV RX4 214 RX4 yX4_lengthOfMost wsX4_lengthOfMost) := goodIn_app (goodIn_of _ (by decide +kernel)) ggX4_voteText_X4_lengthOfMost
set_option maxRecDepth 20000 in
theorem ggX4_voteText_X4_letterOfMost : GoodIn wsX4_voteText wsX4_letterOfMost := goodIn_r _ [47, 8, 9, 10, 11, 12, 2, 48, 13, 14, 15, 16, 17, 18, 19, 20, 21, 22, 23, 24, 25, 26, 27, 28, 29, 30, 31, 32, 33, 34, 35, 36, 37, 38, 39, 49, 50, 6, 51, 40, 41, 42, 43, 59, 60, 61, 62, 63, 64, 65, 66, 67, 68, 71, 72, 73, 74, 75, 76, 69, 70, 77, 78, 79] (by decide +kernel) (by decide +kernel)
set_option maxRecDepth 20000 in
theorem gX4_voteText_X4_letterOfMost : GoodIn wsX4_voteText (wsV RX4 219 RX4 yX4_letterOfMost wsX4_letterOfMost) := goodIn_app (goodIn_of _ (by decide +kernel)) ggX4_voteText_X4_letterOfMost
set_option maxRecDepth 20000 in
theorem ggX4_voteText_X3_append : GoodIn wsX4_voteText wsX3_append := goodIn_r _ [56, 57, 58, 69, 70] (by decide +kernel) (by decide +kernel)
set_option maxRecDepth 20000 in
theorem gX4_voteText_X3_append : GoodIn wsX4_voteText (wsV RX4 260 RX3 yX3_append wsX3_append) := goodIn_app (goodIn_of _ (by decide +kernel)) ggX4_voteText_X3_append
theorem dX4_voteText_0 : decode cX4_voteText 0 = .ok (.aload_n 0, 1) := by decide +kernel
theorem dX4_voteText_1 : decode cX4_voteText 1 = .ok (.invokevirtual 214, 3) := by decide +kernel
theorem dX4_voteText_4 : decode cX4_voteText 4 = .ok (.istore_n 1, 1) := by decide +kernel
theorem dX4_voteText_5 : decode cX4_voteText 5 = .ok (.aload_n 0, 1) := by decide +kernel
theorem dX4_voteText_6 : decode cX4_voteText 6 = .ok (.getfield 42, 3) := by decide +kernel
theorem dX4_voteText_9 : decode cX4_voteText 9 = .ok (.iconst 0, 1) := by decide +kernel
theorem dX4_voteText_10 : decode cX4_voteText 10 = .ok (.putfield 93, 3) := by decide +kernel
theorem dX4_voteText_13 : decode cX4_voteText 13 = .ok (.iconst 0, 1) := by decide +kernel
theorem dX4_voteText_14 : decode cX4_voteText 14 = .ok (.istore_n 2, 1) := by decide +kernel
theorem dX4_voteText_15 : decode cX4_voteText 15 = .ok (.iload_n 2, 1) := by decide +kernel
theorem dX4_voteText_16 : decode cX4_voteText 16 = .ok (.iload_n 1, 1) := by decide +kernel
theorem dX4_voteText_17 : decode cX4_voteText 17 = .ok (.if_icmp .ge 22, 3) := by decide +kernel
theorem dX4_voteText_20 : decode cX4_voteText 20 = .ok (.aload_n 0, 1) := by decide +kernel
theorem dX4_voteText_21 : decode cX4_voteText 21 = .ok (.getfield 42, 3) := by decide +kernel
theorem dX4_voteText_24 : decode cX4_voteText 24 = .ok (.aload_n 0, 1) := by decide +kernel
theorem dX4_voteText_25 : decode cX4_voteText 25 = .ok (.iload_n 2, 1) := by decide +kernel
theorem dX4_voteText_26 : decode cX4_voteText 26 = .ok (.iload_n 1, 1) := by decide +kernel
theorem dX4_voteText_27 : decode cX4_voteText 27 = .ok (.invokevirtual 219, 3) := by decide +kernel
theorem dX4_voteText_30 : decode cX4_voteText 30 = .ok (.invokevirtual 260, 3) := by decide +kernel
theorem dX4_voteText_33 : decode cX4_voteText 33 = .ok (.iinc 2 1, 3) := by decide +kernel
theorem dX4_voteText_36 : decode cX4_voteText 36 = .ok (.goto (-21), 3) := by decide +kernel
theorem dX4_voteText_39 : decode cX4_voteText 39 = .ok (.return_, 1) := by decide +kernel
set_option maxRecDepth 20000 in
theorem ggX4_measure_X4_steps : GoodIn wsX4_measure wsX4_steps := goodIn_r _ [8, 9, 10, 11, 12, 13, 7, 14, 15, 16, 17, 18, 19, 20, 21, 22, 23, 24, 25, 42, 43, 26, 27, 28, 29, 30, 31, 32, 33, 34, 35] (by decide +kernel) (by decide +kernel)
set_option maxRecDepth 20000 in
theorem gX4_measure_X4_steps : GoodIn wsX4_measure (wsV RX4 226 RX4 yX4_steps wsX4_steps) := goodIn_app (goodIn_of _ (by decide +kernel)) ggX4_measure_X4_steps
theorem dX4_measure_0 : decode cX4_measure 0 = .ok (.aload_n 0, 1) := by decide +kernel
theorem dX4_measure_1 : decode cX4_measure 1 = .ok (.getfield 29, 3) := by decide +kernel
theorem dX4_measure_4 : decode cX4_measure 4 = .ok (.aload_n 1, 1) := by decide +kernel
theorem dX4_measure_5 : decode cX4_measure 5 = .ok (.getfield 199, 3) := by decide +kernel
theorem dX4_measure_8 : decode cX4_measure 8 = .ok (.aaload, 1) := by decide +kernel
theorem dX4_measure_9 : decode cX4_measure 9 = .ok (.aload_n 2, 1) := by decide +kernel
theorem dX4_measure_10 : decode cX4_measure 10 = .ok (.getfield 199, 3) := by decide +kernel
theorem dX4_measure_13 : decode cX4_measure 13 = .ok (.iaload, 1) := by decide +kernel
theorem dX4_measure_14 : decode cX4_measure 14 = .ok (.istore_n 3, 1) := by decide +kernel
theorem dX4_measure_15 : decode cX4_measure 15 = .ok (.iload_n 3, 1) := by decide +kernel
theorem dX4_measure_16 : decode cX4_measure 16 = .ok (.iconst (-1), 1) := by decide +kernel
theorem dX4_measure_17 : decode cX4_measure 17 = .ok (.if_icmp .ne 46, 3) := by decide +kernel
theorem dX4_measure_20 : decode cX4_measure 20 = .ok (.aload_n 0, 1) := by decide +kernel
theorem dX4_measure_21 : decode cX4_measure 21 = .ok (.aload_n 1, 1) := by decide +kernel
theorem dX4_measure_22 : decode cX4_measure 22 = .ok (.getfield 88, 3) := by decide +kernel
theorem dX4_measure_25 : decode cX4_measure 25 = .ok (.aload_n 2, 1) := by decide +kernel
theorem dX4_measure_26 : decode cX4_measure 26 = .ok (.getfield 88, 3) := by decide +kernel
theorem dX4_measure_29 : decode cX4_measure 29 = .ok (.invokevirtual 226, 3) := by decide +kernel
theorem dX4_measure_32 : decode cX4_measure 32 = .ok (.istore_n 3, 1) := by decide +kernel
theorem dX4_measure_33 : decode cX4_measure 33 = .ok (.aload_n 0, 1) := by decide +kernel
theorem dX4_measure_34 : decode cX4_measure 34 = .ok (.getfield 29, 3) := by decide +kernel
theorem dX4_measure_37 : decode cX4_measure 37 = .ok (.aload_n 1, 1) := by decide +kernel
theorem dX4_measure_38 : decode cX4_measure 38 = .ok (.getfield 199, 3) := by decide +kernel
theorem dX4_measure_41 : decode cX4_measure 41 = .ok (.aaload, 1) := by decide +kernel
theorem dX4_measure_42 : decode cX4_measure 42 = .ok (.aload_n 2, 1) := by decide +kernel
theorem dX4_measure_43 : decode cX4_measure 43 = .ok (.getfield 199, 3) := by decide +kernel
theorem dX4_measure_46 : decode cX4_measure 46 = .ok (.iload_n 3, 1) := by decide +kernel
theorem dX4_measure_47 : decode cX4_measure 47 = .ok (.iastore, 1) := by decide +kernel
theorem dX4_measure_48 : decode cX4_measure 48 = .ok (.aload_n 0, 1) := by decide +kernel
theorem dX4_measure_49 : decode cX4_measure 49 = .ok (.getfield 29, 3) := by decide +kernel
theorem dX4_measure_52 : decode cX4_measure 52 = .ok (.aload_n 2, 1) := by decide +kernel
theorem dX4_measure_53 : decode cX4_measure 53 = .ok (.getfield 199, 3) := by decide +kernel
theorem dX4_measure_56 : decode cX4_measure 56 = .ok (.aaload, 1) := by decide +kernel
theorem dX4_measure_57 : decode cX4_measure 57 = .ok (.aload_n 1, 1) := by decide +kernel
theorem dX4_measure_58 : decode cX4_measure 58 = .ok (.getfield 199, 3) := by decide +kernel
theorem dX4_measure_61 : decode cX4_measure 61 = .ok (.iload_n 3, 1) := by decide +kernel
theorem dX4_measure_62 : decode cX4_measure 62 = .ok (.iastore, 1) := by decide +kernel
theorem dX4_measure_63 : decode cX4_measure 63 = .ok (.iload_n 3, 1) := by decide +kernel
theorem dX4_measure_64 : decode cX4_measure 64 = .ok (.ireturn, 1) := by decide +kernel
theorem dX4_forgetMeasures_0 : decode cX4_forgetMeasures 0 = .ok (.iconst 0, 1) := by decide +kernel
theorem dX4_forgetMeasures_1 : decode cX4_forgetMeasures 1 = .ok (.istore_n 2, 1) := by decide +kernel
theorem dX4_forgetMeasures_2 : decode cX4_forgetMeasures 2 = .ok (.iload_n 2, 1) := by decide +kernel
theorem dX4_forgetMeasures_3 : decode cX4_forgetMeasures 3 = .ok (.bipush 24, 2) := by decide +kernel
theorem dX4_forgetMeasures_5 : decode cX4_forgetMeasures 5 = .ok (.if_icmp .ge 27, 3) := by decide +kernel
theorem dX4_forgetMeasures_8 : decode cX4_forgetMeasures 8 = .ok (.aload_n 0, 1) := by decide +kernel
theorem dX4_forgetMeasures_9 : decode cX4_forgetMeasures 9 = .ok (.getfield 29, 3) := by decide +kernel
theorem dX4_forgetMeasures_12 : decode cX4_forgetMeasures 12 = .ok (.iload_n 1, 1) := by decide +kernel
theorem dX4_forgetMeasures_13 : decode cX4_forgetMeasures 13 = .ok (.aaload, 1) := by decide +kernel
theorem dX4_forgetMeasures_14 : decode cX4_forgetMeasures 14 = .ok (.iload_n 2, 1) := by decide +kernel
theorem dX4_forgetMeasures_15 : decode cX4_forgetMeasures 15 = .ok (.iconst (-1), 1) := by decide +kernel
theorem dX4_forgetMeasures_16 : decode cX4_forgetMeasures 16 = .ok (.iastore, 1) := by decide +kernel
theorem dX4_forgetMeasures_17 : decode cX4_forgetMeasures 17 = .ok (.aload_n 0, 1) := by decide +kernel
theorem dX4_forgetMeasures_18 : decode cX4_forgetMeasures 18 = .ok (.getfield 29, 3) := by decide +kernel
theorem dX4_forgetMeasures_21 : decode cX4_forgetMeasures 21 = .ok (.iload_n 2, 1) := by decide +kernel
theorem dX4_forgetMeasures_22 : decode cX4_forgetMeasures 22 = .ok (.aaload, 1) := by decide +kernel
theorem dX4_forgetMeasures_23 : decode cX4_forgetMeasures 23 = .ok (.iload_n 1, 1) := by decide +kernel
theorem dX4_forgetMeasures_24 : decode cX4_forgetMeasures 24 = .ok (.iconst (-1), 1) := by decide +kernel
theorem dX4_forgetMeasures_25 : decode cX4_forgetMeasures 25 = .ok (.iastore, 1) := by decide +kernel
theorem dX4_forgetMeasures_26 : decode cX4_forgetMeasures 26 = .ok (.iinc 2 1, 3) := by decide +kernel
theorem dX4_forgetMeasures_29 : decode cX4_forgetMeasures 29 = .ok (.goto (-27), 3) := by decide +kernel
theorem dX4_forgetMeasures_32 : decode cX4_forgetMeasures 32 = .ok (.return_, 1) := by decide +kernel
set_option maxRecDepth 20000 in
theorem ggX4_steps_X4_sameAhead : GoodIn wsX4_steps wsX4_sameAhead := goodIn_r _ [7, 1, 8, 9, 10, 11, 3, 19, 20] (by decide +kernel) (by decide +kernel)
set_option maxRecDepth 20000 in
theorem gX4_steps_X4_sameAhead : GoodIn wsX4_steps (va_wsS RX4 312 yX4_sameAhead wsX4_sameAhead) := goodIn_app (goodIn_of _ (by decide +kernel)) ggX4_steps_X4_sameAhead
set_option maxRecDepth 20000 in
theorem ggX4_steps_X4_sameBehind : GoodIn wsX4_steps wsX4_sameBehind := goodIn_r _ [14, 1, 8, 9, 10, 11, 3, 19, 20] (by decide +kernel) (by decide +kernel)
set_option maxRecDepth 20000 in
theorem gX4_steps_X4_sameBehind : GoodIn wsX4_steps (va_wsS RX4 315 yX4_sameBehind wsX4_sameBehind) := goodIn_app (goodIn_of _ (by decide +kernel)) ggX4_steps_X4_sameBehind
set_option maxRecDepth 20000 in
theorem ggX4_steps_X4_nextStepRow : GoodIn wsX4_steps wsX4_nextStepRow := goodIn_r _ [18, 2, 21, 22, 23, 24, 25, 26, 27, 28, 29, 30] (by decide +kernel) (by decide +kernel)
set_option maxRecDepth 20000 in
theorem gX4_steps_X4_nextStepRow : GoodIn wsX4_steps (wsV RX4 319 RX4 yX4_nextStepRow wsX4_nextStepRow) := goodIn_app (goodIn_of _ (by decide +kernel)) ggX4_steps_X4_nextStepRow
theorem dX4_steps_0 : decode cX4_steps 0 = .ok (.aload_n 1, 1) := by decide +kernel
theorem dX4_steps_1 : decode cX4_steps 1 = .ok (.aload_n 2, 1) := by decide +kernel
theorem dX4_steps_2 : decode cX4_steps 2 = .ok (.invokestatic 312, 3) := by decide +kernel
theorem dX4_steps_5 : decode cX4_steps 5 = .ok (.istore_n 3, 1) := by decide +kernel
theorem dX4_steps_6 : decode cX4_steps 6 = .ok (.aload_n 1, 1) := by decide +kernel
theorem dX4_steps_7 : decode cX4_steps 7 = .ok (.aload_n 2, 1) := by decide +kernel
theorem dX4_steps_8 : decode cX4_steps 8 = .ok (.iload_n 3, 1) := by decide +kernel
theorem dX4_steps_9 : decode cX4_steps 9 = .ok (.invokestatic 315, 3) := by decide +kernel
theorem dX4_steps_12 : decode cX4_steps 12 = .ok (.istore 4, 2) := by decide +kernel
theorem dX4_steps_14 : decode cX4_steps 14 = .ok (.aload_n 1, 1) := by decide +kernel
theorem dX4_steps_15 : decode cX4_steps 15 = .ok (.getfield 93, 3) := by decide +kernel
theorem dX4_steps_18 : decode cX4_steps 18 = .ok (.iload 4, 2) := by decide +kernel
theorem dX4_steps_20 : decode cX4_steps 20 = .ok (.isub, 1) := by decide +kernel
theorem dX4_steps_21 : decode cX4_steps 21 = .ok (.istore 5, 2) := by decide +kernel
theorem dX4_steps_23 : decode cX4_steps 23 = .ok (.aload_n 2, 1) := by decide +kernel
theorem dX4_steps_24 : decode cX4_steps 24 = .ok (.getfield 93, 3) := by decide +kernel
theorem dX4_steps_27 : decode cX4_steps 27 = .ok (.iload_n 3, 1) := by decide +kernel
theorem dX4_steps_28 : decode cX4_steps 28 = .ok (.isub, 1) := by decide +kernel
theorem dX4_steps_29 : decode cX4_steps 29 = .ok (.iload 4, 2) := by decide +kernel
theorem dX4_steps_31 : decode cX4_steps 31 = .ok (.isub, 1) := by decide +kernel
theorem dX4_steps_32 : decode cX4_steps 32 = .ok (.istore 6, 2) := by decide +kernel
theorem dX4_steps_34 : decode cX4_steps 34 = .ok (.iconst 0, 1) := by decide +kernel
theorem dX4_steps_35 : decode cX4_steps 35 = .ok (.istore 7, 2) := by decide +kernel
theorem dX4_steps_37 : decode cX4_steps 37 = .ok (.iload 7, 2) := by decide +kernel
theorem dX4_steps_39 : decode cX4_steps 39 = .ok (.iload 6, 2) := by decide +kernel
theorem dX4_steps_41 : decode cX4_steps 41 = .ok (.if_icmp .gt 18, 3) := by decide +kernel
theorem dX4_steps_44 : decode cX4_steps 44 = .ok (.aload_n 0, 1) := by decide +kernel
theorem dX4_steps_45 : decode cX4_steps 45 = .ok (.getfield 45, 3) := by decide +kernel
theorem dX4_steps_48 : decode cX4_steps 48 = .ok (.iload 7, 2) := by decide +kernel
theorem dX4_steps_50 : decode cX4_steps 50 = .ok (.iload 7, 2) := by decide +kernel
theorem dX4_steps_52 : decode cX4_steps 52 = .ok (.iastore, 1) := by decide +kernel
theorem dX4_steps_53 : decode cX4_steps 53 = .ok (.iinc 7 1, 3) := by decide +kernel
theorem dX4_steps_56 : decode cX4_steps 56 = .ok (.goto (-19), 3) := by decide +kernel
theorem dX4_steps_59 : decode cX4_steps 59 = .ok (.iload_n 3, 1) := by decide +kernel
theorem dX4_steps_60 : decode cX4_steps 60 = .ok (.istore 7, 2) := by decide +kernel
theorem dX4_steps_62 : decode cX4_steps 62 = .ok (.iload 7, 2) := by decide +kernel
theorem dX4_steps_64 : decode cX4_steps 64 = .ok (.iload 5, 2) := by decide +kernel
theorem dX4_steps_66 : decode cX4_steps 66 = .ok (.if_icmp .ge 27, 3) := by decide +kernel
theorem dX4_steps_69 : decode cX4_steps 69 = .ok (.aload_n 0, 1) := by decide +kernel
theorem dX4_steps_70 : decode cX4_steps 70 = .ok (.aload_n 1, 1) := by decide +kernel
theorem dX4_steps_71 : decode cX4_steps 71 = .ok (.getfield 101, 3) := by decide +kernel
theorem dX4_steps_74 : decode cX4_steps 74 = .ok (.iload 7, 2) := by decide +kernel
theorem dX4_steps_76 : decode cX4_steps 76 = .ok (.baload, 1) := by decide +kernel
theorem dX4_steps_77 : decode cX4_steps 77 = .ok (.aload_n 2, 1) := by decide +kernel
theorem dX4_steps_78 : decode cX4_steps 78 = .ok (.getfield 101, 3) := by decide +kernel
theorem dX4_steps_81 : decode cX4_steps 81 = .ok (.iload_n 3, 1) := by decide +kernel
theorem dX4_steps_82 : decode cX4_steps 82 = .ok (.iload 6, 2) := by decide +kernel
theorem dX4_steps_84 : decode cX4_steps 84 = .ok (.invokevirtual 319, 3) := by decide +kernel
theorem dX4_steps_87 : decode cX4_steps 87 = .ok (.iinc 7 1, 3) := by decide +kernel
theorem dX4_steps_90 : decode cX4_steps 90 = .ok (.goto (-28), 3) := by decide +kernel
theorem dX4_steps_93 : decode cX4_steps 93 = .ok (.aload_n 0, 1) := by decide +kernel
theorem dX4_steps_94 : decode cX4_steps 94 = .ok (.getfield 45, 3) := by decide +kernel
theorem dX4_steps_97 : decode cX4_steps 97 = .ok (.iload 6, 2) := by decide +kernel
theorem dX4_steps_99 : decode cX4_steps 99 = .ok (.iaload, 1) := by decide +kernel
theorem dX4_steps_100 : decode cX4_steps 100 = .ok (.ireturn, 1) := by decide +kernel
theorem dX4_sameAhead_0 : decode cX4_sameAhead 0 = .ok (.iconst 0, 1) := by decide +kernel
theorem dX4_sameAhead_1 : decode cX4_sameAhead 1 = .ok (.istore_n 2, 1) := by decide +kernel
theorem dX4_sameAhead_2 : decode cX4_sameAhead 2 = .ok (.aload_n 0, 1) := by decide +kernel
theorem dX4_sameAhead_3 : decode cX4_sameAhead 3 = .ok (.getfield 93, 3) := by decide +kernel
theorem dX4_sameAhead_6 : decode cX4_sameAhead 6 = .ok (.aload_n 1, 1) := by decide +kernel
theorem dX4_sameAhead_7 : decode cX4_sameAhead 7 = .ok (.getfield 93, 3) := by decide +kernel
theorem dX4_sameAhead_10 : decode cX4_sameAhead 10 = .ok (.invokestatic 323, 3) := by decide +kernel
theorem dX4_sameAhead_13 : decode cX4_sameAhead 13 = .ok (.istore_n 3, 1) := by decide +kernel
theorem dX4_sameAhead_14 : decode cX4_sameAhead 14 = .ok (.iload_n 2, 1) := by decide +kernel
theorem dX4_sameAhead_15 : decode cX4_sameAhead 15 = .ok (.iload_n 3, 1) := by decide +kernel
theorem dX4_sameAhead_16 : decode cX4_sameAhead 16 = .ok (.if_icmp .ge 24, 3) := by decide +kernel
theorem dX4_sameAhead_19 : decode cX4_sameAhead 19 = .ok (.aload_n 0, 1) := by decide +kernel
theorem dX4_sameAhead_20 : decode cX4_sameAhead 20 = .ok (.getfield 101, 3) := by decide +kernel
theorem dX4_sameAhead_23 : decode cX4_sameAhead 23 = .ok (.iload_n 2, 1) := by decide +kernel
theorem dX4_sameAhead_24 : decode cX4_sameAhead 24 = .ok (.baload, 1) := by decide +kernel
theorem dX4_sameAhead_25 : decode cX4_sameAhead 25 = .ok (.aload_n 1, 1) := by decide +kernel
theorem dX4_sameAhead_26 : decode cX4_sameAhead 26 = .ok (.getfield 101, 3) := by decide +kernel
theorem dX4_sameAhead_29 : decode cX4_sameAhead 29 = .ok (.iload_n 2, 1) := by decide +kernel
theorem dX4_sameAhead_30 : decode cX4_sameAhead 30 = .ok (.baload, 1) := by decide +kernel
theorem dX4_sameAhead_31 : decode cX4_sameAhead 31 = .ok (.if_icmp .ne 9, 3) := by decide +kernel
theorem dX4_sameAhead_34 : decode cX4_sameAhead 34 = .ok (.iinc 2 1, 3) := by decide +kernel
theorem dX4_sameAhead_37 : decode cX4_sameAhead 37 = .ok (.goto (-23), 3) := by decide +kernel
theorem dX4_sameAhead_40 : decode cX4_sameAhead 40 = .ok (.iload_n 2, 1) := by decide +kernel
theorem dX4_sameAhead_41 : decode cX4_sameAhead 41 = .ok (.ireturn, 1) := by decide +kernel
theorem dX4_sameBehind_0 : decode cX4_sameBehind 0 = .ok (.iconst 0, 1) := by decide +kernel
theorem dX4_sameBehind_1 : decode cX4_sameBehind 1 = .ok (.istore_n 3, 1) := by decide +kernel
theorem dX4_sameBehind_2 : decode cX4_sameBehind 2 = .ok (.aload_n 0, 1) := by decide +kernel
theorem dX4_sameBehind_3 : decode cX4_sameBehind 3 = .ok (.getfield 93, 3) := by decide +kernel
theorem dX4_sameBehind_6 : decode cX4_sameBehind 6 = .ok (.aload_n 1, 1) := by decide +kernel
theorem dX4_sameBehind_7 : decode cX4_sameBehind 7 = .ok (.getfield 93, 3) := by decide +kernel
theorem dX4_sameBehind_10 : decode cX4_sameBehind 10 = .ok (.invokestatic 323, 3) := by decide +kernel
theorem dX4_sameBehind_13 : decode cX4_sameBehind 13 = .ok (.iload_n 2, 1) := by decide +kernel
theorem dX4_sameBehind_14 : decode cX4_sameBehind 14 = .ok (.isub, 1) := by decide +kernel
theorem dX4_sameBehind_15 : decode cX4_sameBehind 15 = .ok (.istore 4, 2) := by decide +kernel
theorem dX4_sameBehind_17 : decode cX4_sameBehind 17 = .ok (.iload_n 3, 1) := by decide +kernel
theorem dX4_sameBehind_18 : decode cX4_sameBehind 18 = .ok (.iload 4, 2) := by decide +kernel
theorem dX4_sameBehind_20 : decode cX4_sameBehind 20 = .ok (.if_icmp .ge 38, 3) := by decide +kernel
theorem dX4_sameBehind_23 : decode cX4_sameBehind 23 = .ok (.aload_n 0, 1) := by decide +kernel
theorem dX4_sameBehind_24 : decode cX4_sameBehind 24 = .ok (.getfield 101, 3) := by decide +kernel
theorem dX4_sameBehind_27 : decode cX4_sameBehind 27 = .ok (.aload_n 0, 1) := by decide +kernel
theorem dX4_sameBehind_28 : decode cX4_sameBehind 28 = .ok (.getfield 93, 3) := by decide +kernel
theorem dX4_sameBehind_31 : decode cX4_sameBehind 31 = .ok (.iconst 1, 1) := by decide +kernel
theorem dX4_sameBehind_32 : decode cX4_sameBehind 32 = .ok (.isub, 1) := by decide +kernel
theorem dX4_sameBehind_33 : decode cX4_sameBehind 33 = .ok (.iload_n 3, 1) := by decide +kernel
theorem dX4_sameBehind_34 : decode cX4_sameBehind 34 = .ok (.isub, 1) := by decide +kernel
theorem dX4_sameBehind_35 : decode cX4_sameBehind 35 = .ok (.baload, 1) := by decide +kernel
theorem dX4_sameBehind_36 : decode cX4_sameBehind 36 = .ok (.aload_n 1, 1) := by decide +kernel
theorem dX4_sameBehind_37 : decode cX4_sameBehind 37 = .ok (.getfield 101, 3) := by decide +kernel
theorem dX4_sameBehind_40 : decode cX4_sameBehind 40 = .ok (.aload_n 1, 1) := by decide +kernel
theorem dX4_sameBehind_41 : decode cX4_sameBehind 41 = .ok (.getfield 93, 3) := by decide +kernel
theorem dX4_sameBehind_44 : decode cX4_sameBehind 44 = .ok (.iconst 1, 1) := by decide +kernel
theorem dX4_sameBehind_45 : decode cX4_sameBehind 45 = .ok (.isub, 1) := by decide +kernel
theorem dX4_sameBehind_46 : decode cX4_sameBehind 46 = .ok (.iload_n 3, 1) := by decide +kernel
theorem dX4_sameBehind_47 : decode cX4_sameBehind 47 = .ok (.isub, 1) := by decide +kernel
theorem dX4_sameBehind_48 : decode cX4_sameBehind 48 = .ok (.baload, 1) := by decide +kernel
theorem dX4_sameBehind_49 : decode cX4_sameBehind 49 = .ok (.if_icmp .ne 9, 3) := by decide +kernel
theorem dX4_sameBehind_52 : decode cX4_sameBehind 52 = .ok (.iinc 3 1, 3) := by decide +kernel
theorem dX4_sameBehind_55 : decode cX4_sameBehind 55 = .ok (.goto (-38), 3) := by decide +kernel
theorem dX4_sameBehind_58 : decode cX4_sameBehind 58 = .ok (.iload_n 3, 1) := by decide +kernel
theorem dX4_sameBehind_59 : decode cX4_sameBehind 59 = .ok (.ireturn, 1) := by decide +kernel
theorem dX4_nextStepRow_0 : decode cX4_nextStepRow 0 = .ok (.aload_n 0, 1) := by decide +kernel
theorem dX4_nextStepRow_1 : decode cX4_nextStepRow 1 = .ok (.getfield 45, 3) := by decide +kernel
theorem dX4_nextStepRow_4 : decode cX4_nextStepRow 4 = .ok (.iconst 0, 1) := by decide +kernel
theorem dX4_nextStepRow_5 : decode cX4_nextStepRow 5 = .ok (.iaload, 1) := by decide +kernel
theorem dX4_nextStepRow_6 : decode cX4_nextStepRow 6 = .ok (.istore 5, 2) := by decide +kernel
theorem dX4_nextStepRow_8 : decode cX4_nextStepRow 8 = .ok (.iload 5, 2) := by decide +kernel
theorem dX4_nextStepRow_10 : decode cX4_nextStepRow 10 = .ok (.iconst 1, 1) := by decide +kernel
theorem dX4_nextStepRow_11 : decode cX4_nextStepRow 11 = .ok (.iadd, 1) := by decide +kernel
theorem dX4_nextStepRow_12 : decode cX4_nextStepRow 12 = .ok (.istore 6, 2) := by decide +kernel
theorem dX4_nextStepRow_14 : decode cX4_nextStepRow 14 = .ok (.aload_n 0, 1) := by decide +kernel
theorem dX4_nextStepRow_15 : decode cX4_nextStepRow 15 = .ok (.getfield 45, 3) := by decide +kernel
theorem dX4_nextStepRow_18 : decode cX4_nextStepRow 18 = .ok (.iconst 0, 1) := by decide +kernel
theorem dX4_nextStepRow_19 : decode cX4_nextStepRow 19 = .ok (.iload 6, 2) := by decide +kernel
theorem dX4_nextStepRow_21 : decode cX4_nextStepRow 21 = .ok (.iastore, 1) := by decide +kernel
theorem dX4_nextStepRow_22 : decode cX4_nextStepRow 22 = .ok (.iconst 1, 1) := by decide +kernel
theorem dX4_nextStepRow_23 : decode cX4_nextStepRow 23 = .ok (.istore 7, 2) := by decide +kernel
theorem dX4_nextStepRow_25 : decode cX4_nextStepRow 25 = .ok (.iload 7, 2) := by decide +kernel
theorem dX4_nextStepRow_27 : decode cX4_nextStepRow 27 = .ok (.iload 4, 2) := by decide +kernel
theorem dX4_nextStepRow_29 : decode cX4_nextStepRow 29 = .ok (.if_icmp .gt 84, 3) := by decide +kernel
theorem dX4_nextStepRow_32 : decode cX4_nextStepRow 32 = .ok (.aload_n 0, 1) := by decide +kernel
theorem dX4_nextStepRow_33 : decode cX4_nextStepRow 33 = .ok (.getfield 45, 3) := by decide +kernel
theorem dX4_nextStepRow_36 : decode cX4_nextStepRow 36 = .ok (.iload 7, 2) := by decide +kernel
theorem dX4_nextStepRow_38 : decode cX4_nextStepRow 38 = .ok (.iaload, 1) := by decide +kernel
theorem dX4_nextStepRow_39 : decode cX4_nextStepRow 39 = .ok (.istore 8, 2) := by decide +kernel
theorem dX4_nextStepRow_41 : decode cX4_nextStepRow 41 = .ok (.aload_n 2, 1) := by decide +kernel
theorem dX4_nextStepRow_42 : decode cX4_nextStepRow 42 = .ok (.iload_n 3, 1) := by decide +kernel
theorem dX4_nextStepRow_43 : decode cX4_nextStepRow 43 = .ok (.iload 7, 2) := by decide +kernel
theorem dX4_nextStepRow_45 : decode cX4_nextStepRow 45 = .ok (.iadd, 1) := by decide +kernel
theorem dX4_nextStepRow_46 : decode cX4_nextStepRow 46 = .ok (.iconst 1, 1) := by decide +kernel
theorem dX4_nextStepRow_47 : decode cX4_nextStepRow 47 = .ok (.isub, 1) := by decide +kernel
theorem dX4_nextStepRow_48 : decode cX4_nextStepRow 48 = .ok (.baload, 1) := by decide +kernel
theorem dX4_nextStepRow_49 : decode cX4_nextStepRow 49 = .ok (.iload_n 1, 1) := by decide +kernel
theorem dX4_nextStepRow_50 : decode cX4_nextStepRow 50 = .ok (.if_icmp .ne 10, 3) := by decide +kernel
theorem dX4_nextStepRow_53 : decode cX4_nextStepRow 53 = .ok (.iload 5, 2) := by decide +kernel
theorem dX4_nextStepRow_55 : decode cX4_nextStepRow 55 = .ok (.istore 6, 2) := by decide +kernel
theorem dX4_nextStepRow_57 : decode cX4_nextStepRow 57 = .ok (.goto 37, 3) := by decide +kernel
theorem dX4_nextStepRow_60 : decode cX4_nextStepRow 60 = .ok (.iload 8, 2) := by decide +kernel
theorem dX4_nextStepRow_62 : decode cX4_nextStepRow 62 = .ok (.iload 5, 2) := by decide +kernel
theorem dX4_nextStepRow_64 : decode cX4_nextStepRow 64 = .ok (.if_icmp .ge 8, 3) := by decide +kernel
theorem dX4_nextStepRow_67 : decode cX4_nextStepRow 67 = .ok (.iload 8, 2) := by decide +kernel
theorem dX4_nextStepRow_69 : decode cX4_nextStepRow 69 = .ok (.goto 5, 3) := by decide +kernel
theorem dX4_nextStepRow_72 : decode cX4_nextStepRow 72 = .ok (.iload 5, 2) := by decide +kernel
theorem dX4_nextStepRow_74 : decode cX4_nextStepRow 74 = .ok (.istore 9, 2) := by decide +kernel
theorem dX4_nextStepRow_76 : decode cX4_nextStepRow 76 = .ok (.iload 6, 2) := by decide +kernel
theorem dX4_nextStepRow_78 : decode cX4_nextStepRow 78 = .ok (.iload 9, 2) := by decide +kernel
theorem dX4_nextStepRow_80 : decode cX4_nextStepRow 80 = .ok (.if_icmp .ge 8, 3) := by decide +kernel
theorem dX4_nextStepRow_83 : decode cX4_nextStepRow 83 = .ok (.iload 6, 2) := by decide +kernel
theorem dX4_nextStepRow_85 : decode cX4_nextStepRow 85 = .ok (.goto 5, 3) := by decide +kernel
theorem dX4_nextStepRow_88 : decode cX4_nextStepRow 88 = .ok (.iload 9, 2) := by decide +kernel
theorem dX4_nextStepRow_90 : decode cX4_nextStepRow 90 = .ok (.iconst 1, 1) := by decide +kernel
theorem dX4_nextStepRow_91 : decode cX4_nextStepRow 91 = .ok (.iadd, 1) := by decide +kernel
theorem dX4_nextStepRow_92 : decode cX4_nextStepRow 92 = .ok (.istore 6, 2) := by decide +kernel
theorem dX4_nextStepRow_94 : decode cX4_nextStepRow 94 = .ok (.aload_n 0, 1) := by decide +kernel
theorem dX4_nextStepRow_95 : decode cX4_nextStepRow 95 = .ok (.getfield 45, 3) := by decide +kernel
theorem dX4_nextStepRow_98 : decode cX4_nextStepRow 98 = .ok (.iload 7, 2) := by decide +kernel
theorem dX4_nextStepRow_100 : decode cX4_nextStepRow 100 = .ok (.iload 6, 2) := by decide +kernel
theorem dX4_nextStepRow_102 : decode cX4_nextStepRow 102 = .ok (.iastore, 1) := by decide +kernel
theorem dX4_nextStepRow_103 : decode cX4_nextStepRow 103 = .ok (.iload 8, 2) := by decide +kernel
theorem dX4_nextStepRow_105 : decode cX4_nextStepRow 105 = .ok (.istore 5, 2) := by decide +kernel
theorem dX4_nextStepRow_107 : decode cX4_nextStepRow 107 = .ok (.iinc 7 1, 3) := by decide +kernel
theorem dX4_nextStepRow_110 : decode cX4_nextStepRow 110 = .ok (.goto (-85), 3) := by decide +kernel
theorem dX4_nextStepRow_113 : decode cX4_nextStepRow 113 = .ok (.return_, 1) := by decide +kernel
theorem dX4_mixed_0 : decode cX4_mixed 0 = .ok (.lload_n 0, 1) := by decide +kernel
theorem dX4_mixed_1 : decode cX4_mixed 1 = .ok (.ldc2_w 326, 3) := by decide +kernel
theorem dX4_mixed_4 : decode cX4_mixed 4 = .ok (.lmul, 1) := by decide +kernel
theorem dX4_mixed_5 : decode cX4_mixed 5 = .ok (.iload_n 2, 1) := by decide +kernel
theorem dX4_mixed_6 : decode cX4_mixed 6 = .ok (.i2l, 1) := by decide +kernel
theorem dX4_mixed_7 : decode cX4_mixed 7 = .ok (.ladd, 1) := by decide +kernel
theorem dX4_mixed_8 : decode cX4_mixed 8 = .ok (.lreturn, 1) := by decide +kernel
set_option maxRecDepth 20000 in
theorem ggX4_scribeMixed_Jx4a65c_size_8abf5 : GoodIn wsX4_scribeMixed wsJx4a65c_size_8abf5 := goodIn_r _ [7, 8, 41, 42, 43] (by decide +kernel) (by decide +kernel)
set_option maxRecDepth 20000 in
theorem gX4_scribeMixed_Jx4a65c_size_8abf5 : GoodIn wsX4_scribeMixed (wsV RX4 67 RJx4a65c yJx4a65c_size_8abf5 wsJx4a65c_size_8abf5) := goodIn_app (goodIn_of _ (by decide +kernel)) ggX4_scribeMixed_Jx4a65c_size_8abf5
set_option maxRecDepth 20000 in
theorem ggX4_scribeMixed_X4_mixed : GoodIn wsX4_scribeMixed wsX4_mixed := goodIn_r _ [12, 13] (by decide +kernel) (by decide +kernel)
set_option maxRecDepth 20000 in
theorem gX4_scribeMixed_X4_mixed : GoodIn wsX4_scribeMixed (va_wsS RX4 240 yX4_mixed wsX4_mixed) := goodIn_app (goodIn_of _ (by decide +kernel)) ggX4_scribeMixed_X4_mixed
set_option maxRecDepth 20000 in
theorem ggX4_scribeMixed_Jx4a65c_get_915e3 : GoodIn wsX4_scribeMixed wsJx4a65c_get_915e3 := goodIn_r _ [17, 8, 18, 19, 20, 21, 22, 23, 24, 25, 26, 27, 28, 6, 29, 30, 41, 42, 43] (by decide +kernel) (by decide +kernel)
set_option maxRecDepth 20000 in
theorem gX4_scribeMixed_Jx4a65c_get_915e3 : GoodIn wsX4_scribeMixed (wsV RX4 146 RJx4a65c yJx4a65c_get_915e3 wsJx4a65c_get_915e3) := goodIn_app (goodIn_of _ (by decide +kernel)) ggX4_scribeMixed_Jx4a65c_get_915e3
set_option maxRecDepth 20000 in
theorem ggX4_scribeMixed_X0_part : GoodIn wsX4_scribeMixed wsX0_part := goodIn_r _ [35, 36, 37, 38, 39, 44, 45, 46, 47] (by decide +kernel) (by decide +kernel)
set_option maxRecDepth 20000 in
theorem gX4_scribeMixed_X0_part : GoodIn wsX4_scribeMixed (wsV RX4 149 RX0 yX0_part wsX0_part) := goodIn_app (goodIn_of _ (by decide +kernel)) ggX4_scribeMixed_X0_part
theorem dX4_scribeMixed_0 : decode cX4_scribeMixed 0 = .ok (.lload_n 0, 1) := by decide +kernel
theorem dX4_scribeMixed_1 : decode cX4_scribeMixed 1 = .ok (.aload_n 2, 1) := by decide +kernel
theorem dX4_scribeMixed_2 : decode cX4_scribeMixed 2 = .ok (.getfield 128, 3) := by decide +kernel
theorem dX4_scribeMixed_5 : decode cX4_scribeMixed 5 = .ok (.invokevirtual 67, 3) := by decide +kernel
theorem dX4_scribeMixed_8 : decode cX4_scribeMixed 8 = .ok (.invokestatic 240, 3) := by decide +kernel
theorem dX4_scribeMixed_11 : decode cX4_scribeMixed 11 = .ok (.lstore_n 3, 1) := by decide +kernel
theorem dX4_scribeMixed_12 : decode cX4_scribeMixed 12 = .ok (.iconst 0, 1) := by decide +kernel
theorem dX4_scribeMixed_13 : decode cX4_scribeMixed 13 = .ok (.istore 5, 2) := by decide +kernel
theorem dX4_scribeMixed_15 : decode cX4_scribeMixed 15 = .ok (.iload 5, 2) := by decide +kernel
theorem dX4_scribeMixed_17 : decode cX4_scribeMixed 17 = .ok (.aload_n 2, 1) := by decide +kernel
theorem dX4_scribeMixed_18 : decode cX4_scribeMixed 18 = .ok (.getfield 128, 3) := by decide +kernel
theorem dX4_scribeMixed_21 : decode cX4_scribeMixed 21 = .ok (.invokevirtual 67, 3) := by decide +kernel
theorem dX4_scribeMixed_24 : decode cX4_scribeMixed 24 = .ok (.if_icmp .ge 46, 3) := by decide +kernel
theorem dX4_scribeMixed_27 : decode cX4_scribeMixed 27 = .ok (.iconst 0, 1) := by decide +kernel
theorem dX4_scribeMixed_28 : decode cX4_scribeMixed 28 = .ok (.istore 6, 2) := by decide +kernel
theorem dX4_scribeMixed_30 : decode cX4_scribeMixed 30 = .ok (.iload 6, 2) := by decide +kernel
theorem dX4_scribeMixed_32 : decode cX4_scribeMixed 32 = .ok (.iconst 4, 1) := by decide +kernel
theorem dX4_scribeMixed_33 : decode cX4_scribeMixed 33 = .ok (.if_icmp .ge 31, 3) := by decide +kernel
theorem dX4_scribeMixed_36 : decode cX4_scribeMixed 36 = .ok (.lload_n 3, 1) := by decide +kernel
theorem dX4_scribeMixed_37 : decode cX4_scribeMixed 37 = .ok (.aload_n 2, 1) := by decide +kernel
theorem dX4_scribeMixed_38 : decode cX4_scribeMixed 38 = .ok (.getfield 128, 3) := by decide +kernel
theorem dX4_scribeMixed_41 : decode cX4_scribeMixed 41 = .ok (.iload 5, 2) := by decide +kernel
theorem dX4_scribeMixed_43 : decode cX4_scribeMixed 43 = .ok (.invokevirtual 146, 3) := by decide +kernel
theorem dX4_scribeMixed_46 : decode cX4_scribeMixed 46 = .ok (.checkcast 133, 3) := by decide +kernel
theorem dX4_scribeMixed_49 : decode cX4_scribeMixed 49 = .ok (.iload 6, 2) := by decide +kernel
theorem dX4_scribeMixed_51 : decode cX4_scribeMixed 51 = .ok (.invokevirtual 149, 3) := by decide +kernel
theorem dX4_scribeMixed_54 : decode cX4_scribeMixed 54 = .ok (.invokestatic 240, 3) := by decide +kernel
theorem dX4_scribeMixed_57 : decode cX4_scribeMixed 57 = .ok (.lstore_n 3, 1) := by decide +kernel
theorem dX4_scribeMixed_58 : decode cX4_scribeMixed 58 = .ok (.iinc 6 1, 3) := by decide +kernel
theorem dX4_scribeMixed_61 : decode cX4_scribeMixed 61 = .ok (.goto (-31), 3) := by decide +kernel
theorem dX4_scribeMixed_64 : decode cX4_scribeMixed 64 = .ok (.iinc 5 1, 3) := by decide +kernel
theorem dX4_scribeMixed_67 : decode cX4_scribeMixed 67 = .ok (.goto (-52), 3) := by decide +kernel
theorem dX4_scribeMixed_70 : decode cX4_scribeMixed 70 = .ok (.lload_n 3, 1) := by decide +kernel
theorem dX4_scribeMixed_71 : decode cX4_scribeMixed 71 = .ok (.lreturn, 1) := by decide +kernel
set_option maxRecDepth 20000 in
theorem ggX4_manuscriptMixed_X4_fact : GoodIn wsX4_manuscriptMixed wsX4_fact := goodIn_r _ [6, 1, 7, 8, 9, 10, 11, 12, 13, 14, 15, 5, 16, 17, 18, 19, 20, 21, 22, 23, 24, 25, 26, 27, 28, 29, 30, 31, 32, 33, 34, 35, 36, 37, 38, 39, 40, 41, 42, 43, 44, 45, 46, 47, 48, 49, 50, 51, 52, 53, 54, 55, 56, 57, 58, 59, 60, 61, 62, 63, 64, 65, 66, 67, 68, 69, 70, 71, 72, 73, 74, 75, 76, 77, 78, 79, 80, 92, 93, 94, 95, 96, 97, 98, 99, 100, 101, 102, 103, 104, 105, 106, 107, 108, 109, 110, 111, 112] (by decide +kernel) (by decide +kernel)
set_option maxRecDepth 20000 in
theorem gX4_manuscriptMixed_X4_fact : GoodIn wsX4_manuscriptMixed (wsV RX4 183 RX4 yX4_fact wsX4_fact) := goodIn_app (goodIn_of _ (by decide +kernel)) ggX4_manuscriptMixed_X4_fact
set_option maxRecDepth 20000 in
theorem ggX4_manuscriptMixed_X4_mixed : GoodIn wsX4_manuscriptMixed wsX4_mixed := goodIn_r _ [83, 84] (by decide +kernel) (by decide +kernel)
set_option maxRecDepth 20000 in
theorem gX4_manuscriptMixed_X4_mixed : GoodIn wsX4_manuscriptMixed (va_wsS RX4 240 yX4_mixed wsX4_mixed) := goodIn_app (goodIn_of _ (by decide +kernel)) ggX4_manuscriptMixed_X4_mixed
set_option maxRecDepth 20000 in
theorem ggX4_manuscriptMixed_X4_guessed : GoodIn wsX4_manuscriptMixed wsX4_guessed := goodIn_r _ [88, 12, 9, 17, 18, 19, 20, 21, 22, 23, 24, 25, 26, 27, 28, 29, 30, 31, 32, 33, 34, 35, 36, 37, 38, 39, 40, 41, 52, 53, 54, 5, 55, 56, 1, 57, 58, 59, 60, 7, 61, 62, 63, 64, 65, 66, 67, 68, 69, 70, 71, 72, 73, 74, 75, 76, 92, 93, 94, 95, 96, 97, 100, 101, 102, 103, 104, 105, 106, 107, 108, 109, 110, 111, 112, 98, 99] (by decide +kernel) (by decide +kernel)
set_option maxRecDepth 20000 in
theorem gX4_manuscriptMixed_X4_guessed : GoodIn wsX4_manuscriptMixed (wsV RX4 206 RX4 yX4_guessed wsX4_guessed) := goodIn_app (goodIn_of _ (by decide +kernel)) ggX4_manuscriptMixed_X4_guessed
set_option maxRecDepth 20000 in
theorem ggX4_manuscriptMixed_X4_textMixed : GoodIn wsX4_manuscriptMixed wsX4_textMixed := goodIn_r _ [91, 7, 62, 81, 82, 5, 83, 84, 98, 99] (by decide +kernel) (by decide +kernel)
set_option maxRecDepth 20000 in
theorem gX4_manuscriptMixed_X4_textMixed : GoodIn wsX4_manuscriptMixed (va_wsS RX4 252 yX4_textMixed wsX4_textMixed) := goodIn_app (goodIn_of _ (by decide +kernel)) ggX4_manuscriptMixed_X4_textMixed
theorem dX4_manuscriptMixed_0 : decode cX4_manuscriptMixed 0 = .ok (.lload_n 1, 1) := by decide +kernel
theorem dX4_manuscriptMixed_1 : decode cX4_manuscriptMixed 1 = .ok (.lstore 4, 2) := by decide +kernel
theorem dX4_manuscriptMixed_3 : decode cX4_manuscriptMixed 3 = .ok (.iconst 0, 1) := by decide +kernel
theorem dX4_manuscriptMixed_4 : decode cX4_manuscriptMixed 4 = .ok (.istore 6, 2) := by decide +kernel
theorem dX4_manuscriptMixed_6 : decode cX4_manuscriptMixed 6 = .ok (.iload 6, 2) := by decide +kernel
theorem dX4_manuscriptMixed_8 : decode cX4_manuscriptMixed 8 = .ok (.bipush 9, 2) := by decide +kernel
theorem dX4_manuscriptMixed_10 : decode cX4_manuscriptMixed 10 = .ok (.if_icmp .ge 23, 3) := by decide +kernel
theorem dX4_manuscriptMixed_13 : decode cX4_manuscriptMixed 13 = .ok (.lload 4, 2) := by decide +kernel
theorem dX4_manuscriptMixed_15 : decode cX4_manuscriptMixed 15 = .ok (.aload_n 0, 1) := by decide +kernel
theorem dX4_manuscriptMixed_16 : decode cX4_manuscriptMixed 16 = .ok (.aload_n 3, 1) := by decide +kernel
theorem dX4_manuscriptMixed_17 : decode cX4_manuscriptMixed 17 = .ok (.iload 6, 2) := by decide +kernel
theorem dX4_manuscriptMixed_19 : decode cX4_manuscriptMixed 19 = .ok (.invokevirtual 183, 3) := by decide +kernel
theorem dX4_manuscriptMixed_22 : decode cX4_manuscriptMixed 22 = .ok (.invokestatic 240, 3) := by decide +kernel
theorem dX4_manuscriptMixed_25 : decode cX4_manuscriptMixed 25 = .ok (.lstore 4, 2) := by decide +kernel
theorem dX4_manuscriptMixed_27 : decode cX4_manuscriptMixed 27 = .ok (.iinc 6 1, 3) := by decide +kernel
theorem dX4_manuscriptMixed_30 : decode cX4_manuscriptMixed 30 = .ok (.goto (-24), 3) := by decide +kernel
theorem dX4_manuscriptMixed_33 : decode cX4_manuscriptMixed 33 = .ok (.lload 4, 2) := by decide +kernel
theorem dX4_manuscriptMixed_35 : decode cX4_manuscriptMixed 35 = .ok (.aload_n 0, 1) := by decide +kernel
theorem dX4_manuscriptMixed_36 : decode cX4_manuscriptMixed 36 = .ok (.aload_n 3, 1) := by decide +kernel
theorem dX4_manuscriptMixed_37 : decode cX4_manuscriptMixed 37 = .ok (.invokevirtual 206, 3) := by decide +kernel
theorem dX4_manuscriptMixed_40 : decode cX4_manuscriptMixed 40 = .ok (.invokestatic 240, 3) := by decide +kernel
theorem dX4_manuscriptMixed_43 : decode cX4_manuscriptMixed 43 = .ok (.lstore 4, 2) := by decide +kernel
theorem dX4_manuscriptMixed_45 : decode cX4_manuscriptMixed 45 = .ok (.lload 4, 2) := by decide +kernel
theorem dX4_manuscriptMixed_47 : decode cX4_manuscriptMixed 47 = .ok (.aload_n 3, 1) := by decide +kernel
theorem dX4_manuscriptMixed_48 : decode cX4_manuscriptMixed 48 = .ok (.getfield 88, 3) := by decide +kernel
theorem dX4_manuscriptMixed_51 : decode cX4_manuscriptMixed 51 = .ok (.invokestatic 252, 3) := by decide +kernel
theorem dX4_manuscriptMixed_54 : decode cX4_manuscriptMixed 54 = .ok (.lreturn, 1) := by decide +kernel
set_option maxRecDepth 20000 in
theorem ggX4_textMixed_X4_mixed : GoodIn wsX4_textMixed wsX4_mixed := goodIn_r _ [6, 7] (by decide +kernel) (by decide +kernel)
set_option maxRecDepth 20000 in
theorem gX4_textMixed_X4_mixed : GoodIn wsX4_textMixed (va_wsS RX4 240 yX4_mixed wsX4_mixed) := goodIn_app (goodIn_of _ (by decide +kernel)) ggX4_textMixed_X4_mixed
theorem dX4_textMixed_0 : decode cX4_textMixed 0 = .ok (.lload_n 0, 1) := by decide +kernel
theorem dX4_textMixed_1 : decode cX4_textMixed 1 = .ok (.lstore_n 3, 1) := by decide +kernel
theorem dX4_textMixed_2 : decode cX4_textMixed 2 = .ok (.iconst 0, 1) := by decide +kernel
theorem dX4_textMixed_3 : decode cX4_textMixed 3 = .ok (.istore 5, 2) := by decide +kernel
theorem dX4_textMixed_5 : decode cX4_textMixed 5 = .ok (.iload 5, 2) := by decide +kernel
theorem dX4_textMixed_7 : decode cX4_textMixed 7 = .ok (.aload_n 2, 1) := by decide +kernel
theorem dX4_textMixed_8 : decode cX4_textMixed 8 = .ok (.getfield 93, 3) := by decide +kernel
theorem dX4_textMixed_11 : decode cX4_textMixed 11 = .ok (.if_icmp .ge 21, 3) := by decide +kernel
theorem dX4_textMixed_14 : decode cX4_textMixed 14 = .ok (.lload_n 3, 1) := by decide +kernel
theorem dX4_textMixed_15 : decode cX4_textMixed 15 = .ok (.aload_n 2, 1) := by decide +kernel
theorem dX4_textMixed_16 : decode cX4_textMixed 16 = .ok (.getfield 101, 3) := by decide +kernel
theorem dX4_textMixed_19 : decode cX4_textMixed 19 = .ok (.iload 5, 2) := by decide +kernel
theorem dX4_textMixed_21 : decode cX4_textMixed 21 = .ok (.baload, 1) := by decide +kernel
theorem dX4_textMixed_22 : decode cX4_textMixed 22 = .ok (.invokestatic 240, 3) := by decide +kernel
theorem dX4_textMixed_25 : decode cX4_textMixed 25 = .ok (.lstore_n 3, 1) := by decide +kernel
theorem dX4_textMixed_26 : decode cX4_textMixed 26 = .ok (.iinc 5 1, 3) := by decide +kernel
theorem dX4_textMixed_29 : decode cX4_textMixed 29 = .ok (.goto (-24), 3) := by decide +kernel
theorem dX4_textMixed_32 : decode cX4_textMixed 32 = .ok (.lload_n 3, 1) := by decide +kernel
theorem dX4_textMixed_33 : decode cX4_textMixed 33 = .ok (.lreturn, 1) := by decide +kernel
theorem dX5_init_0 : decode cX5_init 0 = .ok (.aload_n 0, 1) := by decide +kernel
theorem dX5_init_1 : decode cX5_init 1 = .ok (.invokespecial 1, 3) := by decide +kernel
theorem dX5_init_4 : decode cX5_init 4 = .ok (.aload_n 0, 1) := by decide +kernel
theorem dX5_init_5 : decode cX5_init 5 = .ok (.bipush 60, 2) := by decide +kernel
theorem dX5_init_7 : decode cX5_init 7 = .ok (.newarray .int, 2) := by decide +kernel
theorem dX5_init_9 : decode cX5_init 9 = .ok (.putfield 9, 3) := by decide +kernel
theorem dX5_init_12 : decode cX5_init 12 = .ok (.aload_n 0, 1) := by decide +kernel
theorem dX5_init_13 : decode cX5_init 13 = .ok (.sipush 2880, 3) := by decide +kernel
theorem dX5_init_16 : decode cX5_init 16 = .ok (.newarray .int, 2) := by decide +kernel
theorem dX5_init_18 : decode cX5_init 18 = .ok (.putfield 13, 3) := by decide +kernel
theorem dX5_init_21 : decode cX5_init 21 = .ok (.aload_n 0, 1) := by decide +kernel
theorem dX5_init_22 : decode cX5_init 22 = .ok (.bipush 24, 2) := by decide +kernel
theorem dX5_init_24 : decode cX5_init 24 = .ok (.newarray .int, 2) := by decide +kernel
theorem dX5_init_26 : decode cX5_init 26 = .ok (.putfield 16, 3) := by decide +kernel
theorem dX5_init_29 : decode cX5_init 29 = .ok (.aload_n 0, 1) := by decide +kernel
theorem dX5_init_30 : decode cX5_init 30 = .ok (.bipush 24, 2) := by decide +kernel
theorem dX5_init_32 : decode cX5_init 32 = .ok (.newarray .int, 2) := by decide +kernel
theorem dX5_init_34 : decode cX5_init 34 = .ok (.putfield 19, 3) := by decide +kernel
theorem dX5_init_37 : decode cX5_init 37 = .ok (.aload_n 0, 1) := by decide +kernel
theorem dX5_init_38 : decode cX5_init 38 = .ok (.bipush 24, 2) := by decide +kernel
theorem dX5_init_40 : decode cX5_init 40 = .ok (.newarray .int, 2) := by decide +kernel
theorem dX5_init_42 : decode cX5_init 42 = .ok (.putfield 22, 3) := by decide +kernel
theorem dX5_init_45 : decode cX5_init 45 = .ok (.aload_n 0, 1) := by decide +kernel
theorem dX5_init_46 : decode cX5_init 46 = .ok (.bipush 24, 2) := by decide +kernel
theorem dX5_init_48 : decode cX5_init 48 = .ok (.newarray .boolean, 2) := by decide +kernel
theorem dX5_init_50 : decode cX5_init 50 = .ok (.putfield 25, 3) := by decide +kernel
theorem dX5_init_53 : decode cX5_init 53 = .ok (.aload_n 0, 1) := by decide +kernel
theorem dX5_init_54 : decode cX5_init 54 = .ok (.bipush 8, 2) := by decide +kernel
theorem dX5_init_56 : decode cX5_init 56 = .ok (.newarray .int, 2) := by decide +kernel
theorem dX5_init_58 : decode cX5_init 58 = .ok (.putfield 29, 3) := by decide +kernel
theorem dX5_init_61 : decode cX5_init 61 = .ok (.aload_n 0, 1) := by decide +kernel
theorem dX5_init_62 : decode cX5_init 62 = .ok (.sipush 160, 3) := by decide +kernel
theorem dX5_init_65 : decode cX5_init 65 = .ok (.newarray .int, 2) := by decide +kernel
theorem dX5_init_67 : decode cX5_init 67 = .ok (.putfield 32, 3) := by decide +kernel
theorem dX5_init_70 : decode cX5_init 70 = .ok (.aload_n 0, 1) := by decide +kernel
theorem dX5_init_71 : decode cX5_init 71 = .ok (.sipush 576, 3) := by decide +kernel
theorem dX5_init_74 : decode cX5_init 74 = .ok (.newarray .int, 2) := by decide +kernel
theorem dX5_init_76 : decode cX5_init 76 = .ok (.putfield 35, 3) := by decide +kernel
theorem dX5_init_79 : decode cX5_init 79 = .ok (.aload_n 0, 1) := by decide +kernel
theorem dX5_init_80 : decode cX5_init 80 = .ok (.bipush 120, 2) := by decide +kernel
theorem dX5_init_82 : decode cX5_init 82 = .ok (.newarray .int, 2) := by decide +kernel
theorem dX5_init_84 : decode cX5_init 84 = .ok (.putfield 38, 3) := by decide +kernel
theorem dX5_init_87 : decode cX5_init 87 = .ok (.aload_n 0, 1) := by decide +kernel
theorem dX5_init_88 : decode cX5_init 88 = .ok (.bipush 121, 2) := by decide +kernel
theorem dX5_init_90 : decode cX5_init 90 = .ok (.newarray .int, 2) := by decide +kernel
theorem dX5_init_92 : decode cX5_init 92 = .ok (.putfield 41, 3) := by decide +kernel
theorem dX5_init_95 : decode cX5_init 95 = .ok (.aload_n 0, 1) := by decide +kernel
theorem dX5_init_96 : decode cX5_init 96 = .ok (.bipush 121, 2) := by decide +kernel
theorem dX5_init_98 : decode cX5_init 98 = .ok (.newarray .int, 2) := by decide +kernel
theorem dX5_init_100 : decode cX5_init 100 = .ok (.putfield 44, 3) := by decide +kernel
theorem dX5_init_103 : decode cX5_init 103 = .ok (.iconst 0, 1) := by decide +kernel
theorem dX5_init_104 : decode cX5_init 104 = .ok (.istore_n 1, 1) := by decide +kernel
theorem dX5_init_105 : decode cX5_init 105 = .ok (.iload_n 1, 1) := by decide +kernel
theorem dX5_init_106 : decode cX5_init 106 = .ok (.aload_n 0, 1) := by decide +kernel
theorem dX5_init_107 : decode cX5_init 107 = .ok (.getfield 35, 3) := by decide +kernel
theorem dX5_init_110 : decode cX5_init 110 = .ok (.arraylength, 1) := by decide +kernel
theorem dX5_init_111 : decode cX5_init 111 = .ok (.if_icmp .ge 16, 3) := by decide +kernel
theorem dX5_init_114 : decode cX5_init 114 = .ok (.aload_n 0, 1) := by decide +kernel
theorem dX5_init_115 : decode cX5_init 115 = .ok (.getfield 35, 3) := by decide +kernel
theorem dX5_init_118 : decode cX5_init 118 = .ok (.iload_n 1, 1) := by decide +kernel
theorem dX5_init_119 : decode cX5_init 119 = .ok (.iconst (-1), 1) := by decide +kernel
theorem dX5_init_120 : decode cX5_init 120 = .ok (.iastore, 1) := by decide +kernel
theorem dX5_init_121 : decode cX5_init 121 = .ok (.iinc 1 1, 3) := by decide +kernel
theorem dX5_init_124 : decode cX5_init 124 = .ok (.goto (-19), 3) := by decide +kernel
theorem dX5_init_127 : decode cX5_init 127 = .ok (.return_, 1) := by decide +kernel
theorem dX5_thrown_0 : decode cX5_thrown 0 = .ok (.aload_n 0, 1) := by decide +kernel
theorem dX5_thrown_1 : decode cX5_thrown 1 = .ok (.getfield 47, 3) := by decide +kernel
theorem dX5_thrown_4 : decode cX5_thrown 4 = .ok (.ireturn, 1) := by decide +kernel
theorem dX5_no_0 : decode cX5_no 0 = .ok (.aload_n 0, 1) := by decide +kernel
theorem dX5_no_1 : decode cX5_no 1 = .ok (.iload_n 1, 1) := by decide +kernel
theorem dX5_no_2 : decode cX5_no 2 = .ok (.putfield 47, 3) := by decide +kernel
theorem dX5_no_5 : decode cX5_no 5 = .ok (.iconst 0, 1) := by decide +kernel
theorem dX5_no_6 : decode cX5_no 6 = .ok (.ireturn, 1) := by decide +kernel
theorem dX5_isIn_0 : decode cX5_isIn 0 = .ok (.iload_n 0, 1) := by decide +kernel
theorem dX5_isIn_1 : decode cX5_isIn 1 = .ok (.iload_n 1, 1) := by decide +kernel
theorem dX5_isIn_2 : decode cX5_isIn 2 = .ok (.if_icmp .lt 12, 3) := by decide +kernel
theorem dX5_isIn_5 : decode cX5_isIn 5 = .ok (.iload_n 0, 1) := by decide +kernel
theorem dX5_isIn_6 : decode cX5_isIn 6 = .ok (.iload_n 2, 1) := by decide +kernel
theorem dX5_isIn_7 : decode cX5_isIn 7 = .ok (.if_icmp .gt 7, 3) := by decide +kernel
theorem dX5_isIn_10 : decode cX5_isIn 10 = .ok (.iconst 1, 1) := by decide +kernel
theorem dX5_isIn_11 : decode cX5_isIn 11 = .ok (.goto 4, 3) := by decide +kernel
theorem dX5_isIn_14 : decode cX5_isIn 14 = .ok (.iconst 0, 1) := by decide +kernel
theorem dX5_isIn_15 : decode cX5_isIn 15 = .ok (.ireturn, 1) := by decide +kernel
set_option maxRecDepth 20000 in
theorem ggX5_isText_X5_isIn : GoodIn wsX5_isText wsX5_isIn := goodIn_r _ [5] (by decide +kernel) (by decide +kernel)
set_option maxRecDepth 20000 in
theorem gX5_isText_X5_isIn : GoodIn wsX5_isText (va_wsS RX5 54 yX5_isIn wsX5_isIn) := goodIn_app (goodIn_of _ (by decide +kernel)) ggX5_isText_X5_isIn
theorem dX5_isText_0 : decode cX5_isText 0 = .ok (.iload_n 1, 1) := by decide +kernel
theorem dX5_isText_1 : decode cX5_isText 1 = .ok (.iconst 0, 1) := by decide +kernel
theorem dX5_isText_2 : decode cX5_isText 2 = .ok (.aload_n 0, 1) := by decide +kernel
theorem dX5_isText_3 : decode cX5_isText 3 = .ok (.getfield 51, 3) := by decide +kernel
theorem dX5_isText_6 : decode cX5_isText 6 = .ok (.iconst 1, 1) := by decide +kernel
theorem dX5_isText_7 : decode cX5_isText 7 = .ok (.isub, 1) := by decide +kernel
theorem dX5_isText_8 : decode cX5_isText 8 = .ok (.invokestatic 54, 3) := by decide +kernel
theorem dX5_isText_11 : decode cX5_isText 11 = .ok (.ireturn, 1) := by decide +kernel
set_option maxRecDepth 20000 in
theorem ggX5_isScribe_X5_isIn : GoodIn wsX5_isScribe wsX5_isIn := goodIn_r _ [5] (by decide +kernel) (by decide +kernel)
set_option maxRecDepth 20000 in
theorem gX5_isScribe_X5_isIn : GoodIn wsX5_isScribe (va_wsS RX5 54 yX5_isIn wsX5_isIn) := goodIn_app (goodIn_of _ (by decide +kernel)) ggX5_isScribe_X5_isIn
theorem dX5_isScribe_0 : decode cX5_isScribe 0 = .ok (.iload_n 1, 1) := by decide +kernel
theorem dX5_isScribe_1 : decode cX5_isScribe 1 = .ok (.iconst 0, 1) := by decide +kernel
theorem dX5_isScribe_2 : decode cX5_isScribe 2 = .ok (.aload_n 0, 1) := by decide +kernel
theorem dX5_isScribe_3 : decode cX5_isScribe 3 = .ok (.getfield 58, 3) := by decide +kernel
theorem dX5_isScribe_6 : decode cX5_isScribe 6 = .ok (.iconst 1, 1) := by decide +kernel
theorem dX5_isScribe_7 : decode cX5_isScribe 7 = .ok (.isub, 1) := by decide +kernel
theorem dX5_isScribe_8 : decode cX5_isScribe 8 = .ok (.invokestatic 54, 3) := by decide +kernel
theorem dX5_isScribe_11 : decode cX5_isScribe 11 = .ok (.ireturn, 1) := by decide +kernel
set_option maxRecDepth 20000 in
theorem ggX5_feed_X5_no : GoodIn wsX5_feed wsX5_no := goodIn_r _ [9, 1, 10, 11, 12, 13, 14, 15, 16, 17, 18, 19, 20, 21, 22, 23, 24, 25, 26] (by decide +kernel) (by decide +kernel)
set_option maxRecDepth 20000 in
theorem gX5_feed_X5_no : GoodIn wsX5_feed (wsV RX5 64 RX5 yX5_no wsX5_no) := goodIn_app (goodIn_of _ (by decide +kernel)) ggX5_feed_X5_no
theorem dX5_feed_0 : decode cX5_feed 0 = .ok (.aload_n 0, 1) := by decide +kernel
theorem dX5_feed_1 : decode cX5_feed 1 = .ok (.iconst 0, 1) := by decide +kernel
theorem dX5_feed_2 : decode cX5_feed 2 = .ok (.putfield 47, 3) := by decide +kernel
theorem dX5_feed_5 : decode cX5_feed 5 = .ok (.aload_n 0, 1) := by decide +kernel
theorem dX5_feed_6 : decode cX5_feed 6 = .ok (.getfield 61, 3) := by decide +kernel
theorem dX5_feed_9 : decode cX5_feed 9 = .ok (.bipush 20, 2) := by decide +kernel
theorem dX5_feed_11 : decode cX5_feed 11 = .ok (.iadd, 1) := by decide +kernel
theorem dX5_feed_12 : decode cX5_feed 12 = .ok (.bipush 60, 2) := by decide +kernel
theorem dX5_feed_14 : decode cX5_feed 14 = .ok (.if_icmp .le 9, 3) := by decide +kernel
theorem dX5_feed_17 : decode cX5_feed 17 = .ok (.aload_n 0, 1) := by decide +kernel
theorem dX5_feed_18 : decode cX5_feed 18 = .ok (.iconst 1, 1) := by decide +kernel
theorem dX5_feed_19 : decode cX5_feed 19 = .ok (.invokevirtual 64, 3) := by decide +kernel
theorem dX5_feed_22 : decode cX5_feed 22 = .ok (.ireturn, 1) := by decide +kernel
theorem dX5_feed_23 : decode cX5_feed 23 = .ok (.iconst 5, 1) := by decide +kernel
theorem dX5_feed_24 : decode cX5_feed 24 = .ok (.newarray .int, 2) := by decide +kernel
theorem dX5_feed_26 : decode cX5_feed 26 = .ok (.dup, 1) := by decide +kernel
theorem dX5_feed_27 : decode cX5_feed 27 = .ok (.iconst 0, 1) := by decide +kernel
theorem dX5_feed_28 : decode cX5_feed 28 = .ok (.iload_n 1, 1) := by decide +kernel
theorem dX5_feed_29 : decode cX5_feed 29 = .ok (.iastore, 1) := by decide +kernel
theorem dX5_feed_30 : decode cX5_feed 30 = .ok (.dup, 1) := by decide +kernel
theorem dX5_feed_31 : decode cX5_feed 31 = .ok (.iconst 1, 1) := by decide +kernel
theorem dX5_feed_32 : decode cX5_feed 32 = .ok (.iload_n 2, 1) := by decide +kernel
theorem dX5_feed_33 : decode cX5_feed 33 = .ok (.iastore, 1) := by decide +kernel
theorem dX5_feed_34 : decode cX5_feed 34 = .ok (.dup, 1) := by decide +kernel
theorem dX5_feed_35 : decode cX5_feed 35 = .ok (.iconst 2, 1) := by decide +kernel
theorem dX5_feed_36 : decode cX5_feed 36 = .ok (.iload_n 3, 1) := by decide +kernel
theorem dX5_feed_37 : decode cX5_feed 37 = .ok (.iastore, 1) := by decide +kernel
theorem dX5_feed_38 : decode cX5_feed 38 = .ok (.dup, 1) := by decide +kernel
theorem dX5_feed_39 : decode cX5_feed 39 = .ok (.iconst 3, 1) := by decide +kernel
theorem dX5_feed_40 : decode cX5_feed 40 = .ok (.iload 4, 2) := by decide +kernel
theorem dX5_feed_42 : decode cX5_feed 42 = .ok (.iastore, 1) := by decide +kernel
theorem dX5_feed_43 : decode cX5_feed 43 = .ok (.dup, 1) := by decide +kernel
theorem dX5_feed_44 : decode cX5_feed 44 = .ok (.iconst 4, 1) := by decide +kernel
theorem dX5_feed_45 : decode cX5_feed 45 = .ok (.iload 5, 2) := by decide +kernel
theorem dX5_feed_47 : decode cX5_feed 47 = .ok (.iastore, 1) := by decide +kernel
theorem dX5_feed_48 : decode cX5_feed 48 = .ok (.astore 6, 2) := by decide +kernel
theorem dX5_feed_50 : decode cX5_feed 50 = .ok (.aload 6, 2) := by decide +kernel
theorem dX5_feed_52 : decode cX5_feed 52 = .ok (.astore 7, 2) := by decide +kernel
theorem dX5_feed_54 : decode cX5_feed 54 = .ok (.aload 7, 2) := by decide +kernel
theorem dX5_feed_56 : decode cX5_feed 56 = .ok (.arraylength, 1) := by decide +kernel
theorem dX5_feed_57 : decode cX5_feed 57 = .ok (.istore 8, 2) := by decide +kernel
theorem dX5_feed_59 : decode cX5_feed 59 = .ok (.iconst 0, 1) := by decide +kernel
theorem dX5_feed_60 : decode cX5_feed 60 = .ok (.istore 9, 2) := by decide +kernel
theorem dX5_feed_62 : decode cX5_feed 62 = .ok (.iload 9, 2) := by decide +kernel
theorem dX5_feed_64 : decode cX5_feed 64 = .ok (.iload 8, 2) := by decide +kernel
theorem dX5_feed_66 : decode cX5_feed 66 = .ok (.if_icmp .ge 61, 3) := by decide +kernel
theorem dX5_feed_69 : decode cX5_feed 69 = .ok (.aload 7, 2) := by decide +kernel
theorem dX5_feed_71 : decode cX5_feed 71 = .ok (.iload 9, 2) := by decide +kernel
theorem dX5_feed_73 : decode cX5_feed 73 = .ok (.iaload, 1) := by decide +kernel
theorem dX5_feed_74 : decode cX5_feed 74 = .ok (.istore 10, 2) := by decide +kernel
theorem dX5_feed_76 : decode cX5_feed 76 = .ok (.iconst 3, 1) := by decide +kernel
theorem dX5_feed_77 : decode cX5_feed 77 = .ok (.istore 11, 2) := by decide +kernel
theorem dX5_feed_79 : decode cX5_feed 79 = .ok (.iload 11, 2) := by decide +kernel
theorem dX5_feed_81 : decode cX5_feed 81 = .ok (.ifCond .lt 40, 3) := by decide +kernel
theorem dX5_feed_84 : decode cX5_feed 84 = .ok (.aload_n 0, 1) := by decide +kernel
theorem dX5_feed_85 : decode cX5_feed 85 = .ok (.getfield 9, 3) := by decide +kernel
theorem dX5_feed_88 : decode cX5_feed 88 = .ok (.aload_n 0, 1) := by decide +kernel
theorem dX5_feed_89 : decode cX5_feed 89 = .ok (.getfield 61, 3) := by decide +kernel
theorem dX5_feed_92 : decode cX5_feed 92 = .ok (.iload 10, 2) := by decide +kernel
theorem dX5_feed_94 : decode cX5_feed 94 = .ok (.bipush 8, 2) := by decide +kernel
theorem dX5_feed_96 : decode cX5_feed 96 = .ok (.iload 11, 2) := by decide +kernel
theorem dX5_feed_98 : decode cX5_feed 98 = .ok (.imul, 1) := by decide +kernel
theorem dX5_feed_99 : decode cX5_feed 99 = .ok (.ishr, 1) := by decide +kernel
theorem dX5_feed_100 : decode cX5_feed 100 = .ok (.sipush 255, 3) := by decide +kernel
theorem dX5_feed_103 : decode cX5_feed 103 = .ok (.iand, 1) := by decide +kernel
theorem dX5_feed_104 : decode cX5_feed 104 = .ok (.iastore, 1) := by decide +kernel
theorem dX5_feed_105 : decode cX5_feed 105 = .ok (.aload_n 0, 1) := by decide +kernel
theorem dX5_feed_106 : decode cX5_feed 106 = .ok (.dup, 1) := by decide +kernel
theorem dX5_feed_107 : decode cX5_feed 107 = .ok (.getfield 61, 3) := by decide +kernel
theorem dX5_feed_110 : decode cX5_feed 110 = .ok (.iconst 1, 1) := by decide +kernel
theorem dX5_feed_111 : decode cX5_feed 111 = .ok (.iadd, 1) := by decide +kernel
theorem dX5_feed_112 : decode cX5_feed 112 = .ok (.putfield 61, 3) := by decide +kernel
theorem dX5_feed_115 : decode cX5_feed 115 = .ok (.iinc 11 (-1), 3) := by decide +kernel
theorem dX5_feed_118 : decode cX5_feed 118 = .ok (.goto (-39), 3) := by decide +kernel
theorem dX5_feed_121 : decode cX5_feed 121 = .ok (.iinc 9 1, 3) := by decide +kernel
theorem dX5_feed_124 : decode cX5_feed 124 = .ok (.goto (-62), 3) := by decide +kernel
theorem dX5_feed_127 : decode cX5_feed 127 = .ok (.aload_n 0, 1) := by decide +kernel
theorem dX5_feed_128 : decode cX5_feed 128 = .ok (.getfield 61, 3) := by decide +kernel
theorem dX5_feed_131 : decode cX5_feed 131 = .ok (.ireturn, 1) := by decide +kernel
set_option maxRecDepth 20000 in
theorem ggX5_trim_X5_isIn : GoodIn wsX5_trim wsX5_isIn := goodIn_r _ [6] (by decide +kernel) (by decide +kernel)
set_option maxRecDepth 20000 in
theorem gX5_trim_X5_isIn : GoodIn wsX5_trim (va_wsS RX5 54 yX5_isIn wsX5_isIn) := goodIn_app (goodIn_of _ (by decide +kernel)) ggX5_trim_X5_isIn
set_option maxRecDepth 20000 in
theorem ggX5_trim_X5_no : GoodIn wsX5_trim wsX5_no := goodIn_r _ [10, 1, 11, 12, 13, 14, 15, 16, 17, 18, 19, 20, 21, 22, 23, 24, 25, 26, 27] (by decide +kernel) (by decide +kernel)
set_option maxRecDepth 20000 in
theorem gX5_trim_X5_no : GoodIn wsX5_trim (wsV RX5 64 RX5 yX5_no wsX5_no) := goodIn_app (goodIn_of _ (by decide +kernel)) ggX5_trim_X5_no
theorem dX5_trim_0 : decode cX5_trim 0 = .ok (.aload_n 0, 1) := by decide +kernel
theorem dX5_trim_1 : decode cX5_trim 1 = .ok (.iconst 0, 1) := by decide +kernel
theorem dX5_trim_2 : decode cX5_trim 2 = .ok (.putfield 47, 3) := by decide +kernel
theorem dX5_trim_5 : decode cX5_trim 5 = .ok (.iload_n 1, 1) := by decide +kernel
theorem dX5_trim_6 : decode cX5_trim 6 = .ok (.iconst 0, 1) := by decide +kernel
theorem dX5_trim_7 : decode cX5_trim 7 = .ok (.aload_n 0, 1) := by decide +kernel
theorem dX5_trim_8 : decode cX5_trim 8 = .ok (.getfield 61, 3) := by decide +kernel
theorem dX5_trim_11 : decode cX5_trim 11 = .ok (.invokestatic 54, 3) := by decide +kernel
theorem dX5_trim_14 : decode cX5_trim 14 = .ok (.ifCond .ne 9, 3) := by decide +kernel
theorem dX5_trim_17 : decode cX5_trim 17 = .ok (.aload_n 0, 1) := by decide +kernel
theorem dX5_trim_18 : decode cX5_trim 18 = .ok (.iconst 1, 1) := by decide +kernel
theorem dX5_trim_19 : decode cX5_trim 19 = .ok (.invokevirtual 64, 3) := by decide +kernel
theorem dX5_trim_22 : decode cX5_trim 22 = .ok (.ireturn, 1) := by decide +kernel
theorem dX5_trim_23 : decode cX5_trim 23 = .ok (.aload_n 0, 1) := by decide +kernel
theorem dX5_trim_24 : decode cX5_trim 24 = .ok (.iload_n 1, 1) := by decide +kernel
theorem dX5_trim_25 : decode cX5_trim 25 = .ok (.putfield 61, 3) := by decide +kernel
theorem dX5_trim_28 : decode cX5_trim 28 = .ok (.iload_n 1, 1) := by decide +kernel
theorem dX5_trim_29 : decode cX5_trim 29 = .ok (.ireturn, 1) := by decide +kernel
theorem dX5_add_0 : decode cX5_add 0 = .ok (.aload_n 1, 1) := by decide +kernel
theorem dX5_add_1 : decode cX5_add 1 = .ok (.iconst 0, 1) := by decide +kernel
theorem dX5_add_2 : decode cX5_add 2 = .ok (.aload_n 0, 1) := by decide +kernel
theorem dX5_add_3 : decode cX5_add 3 = .ok (.getfield 13, 3) := by decide +kernel
theorem dX5_add_6 : decode cX5_add 6 = .ok (.bipush 120, 2) := by decide +kernel
theorem dX5_add_8 : decode cX5_add 8 = .ok (.aload_n 0, 1) := by decide +kernel
theorem dX5_add_9 : decode cX5_add 9 = .ok (.getfield 51, 3) := by decide +kernel
theorem dX5_add_12 : decode cX5_add 12 = .ok (.imul, 1) := by decide +kernel
theorem dX5_add_13 : decode cX5_add 13 = .ok (.iload_n 2, 1) := by decide +kernel
theorem dX5_add_14 : decode cX5_add 14 = .ok (.invokestatic 68, 3) := by decide +kernel
theorem dX5_add_17 : decode cX5_add 17 = .ok (.aload_n 0, 1) := by decide +kernel
theorem dX5_add_18 : decode cX5_add 18 = .ok (.getfield 16, 3) := by decide +kernel
theorem dX5_add_21 : decode cX5_add 21 = .ok (.aload_n 0, 1) := by decide +kernel
theorem dX5_add_22 : decode cX5_add 22 = .ok (.getfield 51, 3) := by decide +kernel
theorem dX5_add_25 : decode cX5_add 25 = .ok (.iload_n 2, 1) := by decide +kernel
