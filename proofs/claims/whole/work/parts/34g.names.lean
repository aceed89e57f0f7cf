theorem dX9_check_0 : decode cX9_check 0 = .ok (.aload_n 0, 1) := by decide +kernel
theorem dX9_check_1 : decode cX9_check 1 = .ok (.getfield 275, 3) := by decide +kernel
theorem dX9_check_4 : decode cX9_check 4 = .ok (.istore_n 2, 1) := by decide +kernel
theorem dX9_check_5 : decode cX9_check 5 = .ok (.aload_n 0, 1) := by decide +kernel
theorem dX9_check_6 : decode cX9_check 6 = .ok (.iconst 0, 1) := by decide +kernel
theorem dX9_check_7 : decode cX9_check 7 = .ok (.putfield 275, 3) := by decide +kernel
theorem dX9_check_10 : decode cX9_check 10 = .ok (.aload_n 0, 1) := by decide +kernel
theorem dX9_check_11 : decode cX9_check 11 = .ok (.invokevirtual 251, 3) := by decide +kernel
theorem dX9_check_14 : decode cX9_check 14 = .ok (.iload_n 1, 1) := by decide +kernel
theorem dX9_check_15 : decode cX9_check 15 = .ok (.aload_n 0, 1) := by decide +kernel
theorem dX9_check_16 : decode cX9_check 16 = .ok (.getfield 235, 3) := by decide +kernel
theorem dX9_check_19 : decode cX9_check 19 = .ok (.if_icmp .ge 10, 3) := by decide +kernel
theorem dX9_check_22 : decode cX9_check 22 = .ok (.aload_n 0, 1) := by decide +kernel
theorem dX9_check_23 : decode cX9_check 23 = .ok (.bipush (-8), 2) := by decide +kernel
theorem dX9_check_25 : decode cX9_check 25 = .ok (.invokevirtual 107, 3) := by decide +kernel
theorem dX9_check_28 : decode cX9_check 28 = .ok (.ireturn, 1) := by decide +kernel
theorem dX9_check_29 : decode cX9_check 29 = .ok (.lconst 0, 1) := by decide +kernel
theorem dX9_check_30 : decode cX9_check 30 = .ok (.lstore_n 3, 1) := by decide +kernel
theorem dX9_check_31 : decode cX9_check 31 = .ok (.iconst 0, 1) := by decide +kernel
theorem dX9_check_32 : decode cX9_check 32 = .ok (.istore 5, 2) := by decide +kernel
theorem dX9_check_34 : decode cX9_check 34 = .ok (.iload 5, 2) := by decide +kernel
theorem dX9_check_36 : decode cX9_check 36 = .ok (.aload_n 0, 1) := by decide +kernel
theorem dX9_check_37 : decode cX9_check 37 = .ok (.getfield 10, 3) := by decide +kernel
theorem dX9_check_40 : decode cX9_check 40 = .ok (.getfield 94, 3) := by decide +kernel
theorem dX9_check_43 : decode cX9_check 43 = .ok (.if_icmp .ge 46, 3) := by decide +kernel
theorem dX9_check_46 : decode cX9_check 46 = .ok (.aload_n 0, 1) := by decide +kernel
theorem dX9_check_47 : decode cX9_check 47 = .ok (.iload 5, 2) := by decide +kernel
theorem dX9_check_49 : decode cX9_check 49 = .ok (.iload_n 1, 1) := by decide +kernel
theorem dX9_check_50 : decode cX9_check 50 = .ok (.iload_n 2, 1) := by decide +kernel
theorem dX9_check_51 : decode cX9_check 51 = .ok (.invokevirtual 278, 3) := by decide +kernel
theorem dX9_check_54 : decode cX9_check 54 = .ok (.ifCond .ne 9, 3) := by decide +kernel
theorem dX9_check_57 : decode cX9_check 57 = .ok (.bipush 100, 2) := by decide +kernel
theorem dX9_check_59 : decode cX9_check 59 = .ok (.iload 5, 2) := by decide +kernel
theorem dX9_check_61 : decode cX9_check 61 = .ok (.iadd, 1) := by decide +kernel
theorem dX9_check_62 : decode cX9_check 62 = .ok (.ireturn, 1) := by decide +kernel
theorem dX9_check_63 : decode cX9_check 63 = .ok (.lload_n 3, 1) := by decide +kernel
theorem dX9_check_64 : decode cX9_check 64 = .ok (.aload_n 0, 1) := by decide +kernel
theorem dX9_check_65 : decode cX9_check 65 = .ok (.iload 5, 2) := by decide +kernel
theorem dX9_check_67 : decode cX9_check 67 = .ok (.aload_n 0, 1) := by decide +kernel
theorem dX9_check_68 : decode cX9_check 68 = .ok (.getfield 31, 3) := by decide +kernel
theorem dX9_check_71 : decode cX9_check 71 = .ok (.iconst 2, 1) := by decide +kernel
theorem dX9_check_72 : decode cX9_check 72 = .ok (.iload 5, 2) := by decide +kernel
theorem dX9_check_74 : decode cX9_check 74 = .ok (.imul, 1) := by decide +kernel
theorem dX9_check_75 : decode cX9_check 75 = .ok (.iconst 1, 1) := by decide +kernel
theorem dX9_check_76 : decode cX9_check 76 = .ok (.iadd, 1) := by decide +kernel
theorem dX9_check_77 : decode cX9_check 77 = .ok (.iaload, 1) := by decide +kernel
theorem dX9_check_78 : decode cX9_check 78 = .ok (.invokevirtual 199, 3) := by decide +kernel
theorem dX9_check_81 : decode cX9_check 81 = .ok (.ladd, 1) := by decide +kernel
theorem dX9_check_82 : decode cX9_check 82 = .ok (.lstore_n 3, 1) := by decide +kernel
theorem dX9_check_83 : decode cX9_check 83 = .ok (.iinc 5 1, 3) := by decide +kernel
theorem dX9_check_86 : decode cX9_check 86 = .ok (.goto (-52), 3) := by decide +kernel
theorem dX9_check_89 : decode cX9_check 89 = .ok (.iload_n 2, 1) := by decide +kernel
theorem dX9_check_90 : decode cX9_check 90 = .ok (.iconst 2, 1) := by decide +kernel
theorem dX9_check_91 : decode cX9_check 91 = .ok (.aload_n 0, 1) := by decide +kernel
theorem dX9_check_92 : decode cX9_check 92 = .ok (.getfield 10, 3) := by decide +kernel
theorem dX9_check_95 : decode cX9_check 95 = .ok (.getfield 94, 3) := by decide +kernel
theorem dX9_check_98 : decode cX9_check 98 = .ok (.imul, 1) := by decide +kernel
theorem dX9_check_99 : decode cX9_check 99 = .ok (.if_icmp .le 6, 3) := by decide +kernel
theorem dX9_check_102 : decode cX9_check 102 = .ok (.bipush 90, 2) := by decide +kernel
theorem dX9_check_104 : decode cX9_check 104 = .ok (.ireturn, 1) := by decide +kernel
theorem dX9_check_105 : decode cX9_check 105 = .ok (.lload_n 3, 1) := by decide +kernel
theorem dX9_check_106 : decode cX9_check 106 = .ok (.aload_n 0, 1) := by decide +kernel
theorem dX9_check_107 : decode cX9_check 107 = .ok (.iload_n 1, 1) := by decide +kernel
theorem dX9_check_108 : decode cX9_check 108 = .ok (.i2l, 1) := by decide +kernel
theorem dX9_check_109 : decode cX9_check 109 = .ok (.invokevirtual 258, 3) := by decide +kernel
theorem dX9_check_112 : decode cX9_check 112 = .ok (.lcmp, 1) := by decide +kernel
theorem dX9_check_113 : decode cX9_check 113 = .ok (.ifCond .ne 7, 3) := by decide +kernel
theorem dX9_check_116 : decode cX9_check 116 = .ok (.iconst 0, 1) := by decide +kernel
theorem dX9_check_117 : decode cX9_check 117 = .ok (.goto 4, 3) := by decide +kernel
theorem dX9_check_120 : decode cX9_check 120 = .ok (.iconst 1, 1) := by decide +kernel
theorem dX9_check_121 : decode cX9_check 121 = .ok (.ireturn, 1) := by decide +kernel
set_option maxRecDepth 20000 in
theorem ggX9_undo_X9_found : GoodIn wsX9_undo wsX9_found := goodIn_r _ [9, 10, 27, 28, 29, 30, 31, 32, 33, 34, 35, 36, 37, 38, 39, 40, 41, 42, 43, 44, 45, 46, 47, 48, 49, 50, 51, 52, 53, 54, 55, 56, 57, 58] rfl (by decide +kernel)
set_option maxRecDepth 20000 in
theorem gX9_undo_X9_found : GoodIn wsX9_undo (wsV RX9 107 RX9 yX9_found wsX9_found) := goodIn_app (goodIn_of _ (by decide +kernel)) ggX9_undo_X9_found
set_option maxRecDepth 20000 in
theorem ggX9_undo_X8_be : GoodIn wsX9_undo wsX8_be := goodIn_r _ [15, 16, 17, 18, 19, 20, 59, 60, 61, 62, 63] rfl (by decide +kernel)
set_option maxRecDepth 20000 in
theorem gX9_undo_X8_be : GoodIn wsX9_undo (wsV RX9 114 RX8 yX8_be wsX8_be) := goodIn_app (goodIn_of _ (by decide +kernel)) ggX9_undo_X8_be
set_option maxRecDepth 20000 in
theorem ggX9_undo_X9_changes : GoodIn wsX9_undo wsX9_changes := goodIn_r _ [24, 25, 26, 27, 28, 29, 30, 31, 32, 33, 34, 35, 36, 37, 38, 39, 40, 41, 42, 43, 44, 45, 46, 47, 48, 49, 50, 51, 52, 53, 54, 55, 56, 57, 58] rfl (by decide +kernel)
set_option maxRecDepth 20000 in
theorem gX9_undo_X9_changes : GoodIn wsX9_undo (wsV RX9 118 RX9 yX9_changes wsX9_changes) := goodIn_app (goodIn_of _ (by decide +kernel)) ggX9_undo_X9_changes
theorem dX9_undo_0 : decode cX9_undo 0 = .ok (.aload_n 0, 1) := by decide +kernel
theorem dX9_undo_1 : decode cX9_undo 1 = .ok (.getfield 111, 3) := by decide +kernel
theorem dX9_undo_4 : decode cX9_undo 4 = .ok (.ifCond .ne 10, 3) := by decide +kernel
theorem dX9_undo_7 : decode cX9_undo 7 = .ok (.aload_n 0, 1) := by decide +kernel
theorem dX9_undo_8 : decode cX9_undo 8 = .ok (.bipush (-7), 2) := by decide +kernel
theorem dX9_undo_10 : decode cX9_undo 10 = .ok (.invokevirtual 107, 3) := by decide +kernel
theorem dX9_undo_13 : decode cX9_undo 13 = .ok (.ireturn, 1) := by decide +kernel
theorem dX9_undo_14 : decode cX9_undo 14 = .ok (.aload_n 0, 1) := by decide +kernel
theorem dX9_undo_15 : decode cX9_undo 15 = .ok (.dup, 1) := by decide +kernel
theorem dX9_undo_16 : decode cX9_undo 16 = .ok (.getfield 111, 3) := by decide +kernel
theorem dX9_undo_19 : decode cX9_undo 19 = .ok (.iconst 1, 1) := by decide +kernel
theorem dX9_undo_20 : decode cX9_undo 20 = .ok (.isub, 1) := by decide +kernel
theorem dX9_undo_21 : decode cX9_undo 21 = .ok (.putfield 111, 3) := by decide +kernel
theorem dX9_undo_24 : decode cX9_undo 24 = .ok (.aload_n 0, 1) := by decide +kernel
theorem dX9_undo_25 : decode cX9_undo 25 = .ok (.getfield 10, 3) := by decide +kernel
theorem dX9_undo_28 : decode cX9_undo 28 = .ok (.aload_n 0, 1) := by decide +kernel
theorem dX9_undo_29 : decode cX9_undo 29 = .ok (.getfield 19, 3) := by decide +kernel
theorem dX9_undo_32 : decode cX9_undo 32 = .ok (.aload_n 0, 1) := by decide +kernel
theorem dX9_undo_33 : decode cX9_undo 33 = .ok (.getfield 111, 3) := by decide +kernel
theorem dX9_undo_36 : decode cX9_undo 36 = .ok (.aaload, 1) := by decide +kernel
theorem dX9_undo_37 : decode cX9_undo 37 = .ok (.invokevirtual 114, 3) := by decide +kernel
theorem dX9_undo_40 : decode cX9_undo 40 = .ok (.aload_n 0, 1) := by decide +kernel
theorem dX9_undo_41 : decode cX9_undo 41 = .ok (.getfield 23, 3) := by decide +kernel
theorem dX9_undo_44 : decode cX9_undo 44 = .ok (.aload_n 0, 1) := by decide +kernel
theorem dX9_undo_45 : decode cX9_undo 45 = .ok (.getfield 111, 3) := by decide +kernel
theorem dX9_undo_48 : decode cX9_undo 48 = .ok (.baload, 1) := by decide +kernel
theorem dX9_undo_49 : decode cX9_undo 49 = .ok (.ifCond .ne 7, 3) := by decide +kernel
theorem dX9_undo_52 : decode cX9_undo 52 = .ok (.aload_n 0, 1) := by decide +kernel
theorem dX9_undo_53 : decode cX9_undo 53 = .ok (.invokevirtual 118, 3) := by decide +kernel
theorem dX9_undo_56 : decode cX9_undo 56 = .ok (.aload_n 0, 1) := by decide +kernel
theorem dX9_undo_57 : decode cX9_undo 57 = .ok (.getfield 111, 3) := by decide +kernel
theorem dX9_undo_60 : decode cX9_undo 60 = .ok (.ireturn, 1) := by decide +kernel
set_option maxRecDepth 20000 in
theorem ggX9_keep_X8_be : GoodIn wsX9_keep wsX8_be := goodIn_r _ [9, 10, 11, 12, 13, 14, 47, 48, 49, 50, 51] rfl (by decide +kernel)
set_option maxRecDepth 20000 in
theorem gX9_keep_X8_be : GoodIn wsX9_keep (wsV RX9 114 RX8 yX8_be wsX8_be) := goodIn_app (goodIn_of _ (by decide +kernel)) ggX9_keep_X8_be
theorem dX9_keep_0 : decode cX9_keep 0 = .ok (.aload_n 0, 1) := by decide +kernel
theorem dX9_keep_1 : decode cX9_keep 1 = .ok (.getfield 16, 3) := by decide +kernel
theorem dX9_keep_4 : decode cX9_keep 4 = .ok (.aload_n 0, 1) := by decide +kernel
theorem dX9_keep_5 : decode cX9_keep 5 = .ok (.getfield 10, 3) := by decide +kernel
theorem dX9_keep_8 : decode cX9_keep 8 = .ok (.invokevirtual 114, 3) := by decide +kernel
theorem dX9_keep_11 : decode cX9_keep 11 = .ok (.aload_n 0, 1) := by decide +kernel
theorem dX9_keep_12 : decode cX9_keep 12 = .ok (.iconst 1, 1) := by decide +kernel
theorem dX9_keep_13 : decode cX9_keep 13 = .ok (.putfield 282, 3) := by decide +kernel
theorem dX9_keep_16 : decode cX9_keep 16 = .ok (.aload_n 0, 1) := by decide +kernel
theorem dX9_keep_17 : decode cX9_keep 17 = .ok (.getfield 10, 3) := by decide +kernel
theorem dX9_keep_20 : decode cX9_keep 20 = .ok (.getfield 94, 3) := by decide +kernel
theorem dX9_keep_23 : decode cX9_keep 23 = .ok (.ireturn, 1) := by decide +kernel
set_option maxRecDepth 20000 in
theorem ggX9_back_X9_found : GoodIn wsX9_back wsX9_found := goodIn_r _ [10, 11, 28, 29, 30, 31, 32, 33, 34, 35, 36, 37, 38, 39, 40, 41, 42, 43, 44, 45, 46, 47, 48, 49, 50, 51, 52, 53, 54, 55, 56, 57, 58, 59] rfl (by decide +kernel)
set_option maxRecDepth 20000 in
theorem gX9_back_X9_found : GoodIn wsX9_back (wsV RX9 107 RX9 yX9_found wsX9_found) := goodIn_app (goodIn_of _ (by decide +kernel)) ggX9_back_X9_found
set_option maxRecDepth 20000 in
theorem ggX9_back_X8_be : GoodIn wsX9_back wsX8_be := goodIn_r _ [16, 17, 18, 19, 20, 21, 60, 61, 62, 63, 64] rfl (by decide +kernel)
set_option maxRecDepth 20000 in
theorem gX9_back_X8_be : GoodIn wsX9_back (wsV RX9 114 RX8 yX8_be wsX8_be) := goodIn_app (goodIn_of _ (by decide +kernel)) ggX9_back_X8_be
set_option maxRecDepth 20000 in
theorem ggX9_back_X9_changes : GoodIn wsX9_back wsX9_changes := goodIn_r _ [25, 26, 27, 28, 29, 30, 31, 32, 33, 34, 35, 36, 37, 38, 39, 40, 41, 42, 43, 44, 45, 46, 47, 48, 49, 50, 51, 52, 53, 54, 55, 56, 57, 58, 59] rfl (by decide +kernel)
set_option maxRecDepth 20000 in
theorem gX9_back_X9_changes : GoodIn wsX9_back (wsV RX9 118 RX9 yX9_changes wsX9_changes) := goodIn_app (goodIn_of _ (by decide +kernel)) ggX9_back_X9_changes
theorem dX9_back_0 : decode cX9_back 0 = .ok (.aload_n 0, 1) := by decide +kernel
theorem dX9_back_1 : decode cX9_back 1 = .ok (.getfield 282, 3) := by decide +kernel
theorem dX9_back_4 : decode cX9_back 4 = .ok (.ifCond .ne 10, 3) := by decide +kernel
theorem dX9_back_7 : decode cX9_back 7 = .ok (.aload_n 0, 1) := by decide +kernel
theorem dX9_back_8 : decode cX9_back 8 = .ok (.bipush (-7), 2) := by decide +kernel
theorem dX9_back_10 : decode cX9_back 10 = .ok (.invokevirtual 107, 3) := by decide +kernel
theorem dX9_back_13 : decode cX9_back 13 = .ok (.ireturn, 1) := by decide +kernel
theorem dX9_back_14 : decode cX9_back 14 = .ok (.aload_n 0, 1) := by decide +kernel
theorem dX9_back_15 : decode cX9_back 15 = .ok (.getfield 10, 3) := by decide +kernel
theorem dX9_back_18 : decode cX9_back 18 = .ok (.aload_n 0, 1) := by decide +kernel
theorem dX9_back_19 : decode cX9_back 19 = .ok (.getfield 16, 3) := by decide +kernel
theorem dX9_back_22 : decode cX9_back 22 = .ok (.invokevirtual 114, 3) := by decide +kernel
theorem dX9_back_25 : decode cX9_back 25 = .ok (.aload_n 0, 1) := by decide +kernel
theorem dX9_back_26 : decode cX9_back 26 = .ok (.iconst 0, 1) := by decide +kernel
theorem dX9_back_27 : decode cX9_back 27 = .ok (.putfield 111, 3) := by decide +kernel
theorem dX9_back_30 : decode cX9_back 30 = .ok (.aload_n 0, 1) := by decide +kernel
theorem dX9_back_31 : decode cX9_back 31 = .ok (.invokevirtual 118, 3) := by decide +kernel
theorem dX9_back_34 : decode cX9_back 34 = .ok (.aload_n 0, 1) := by decide +kernel
theorem dX9_back_35 : decode cX9_back 35 = .ok (.getfield 10, 3) := by decide +kernel
theorem dX9_back_38 : decode cX9_back 38 = .ok (.getfield 94, 3) := by decide +kernel
theorem dX9_back_41 : decode cX9_back 41 = .ok (.ireturn, 1) := by decide +kernel
set_option maxRecDepth 20000 in
theorem ggX9_pairs_X9_followed : GoodIn wsX9_pairs wsX9_followed := goodIn_r _ [7, 1, 2, 8, 9, 10, 11, 12, 13, 14, 15, 16, 17, 18, 19, 20, 21, 22, 23, 24, 25, 26, 27, 28, 29, 30, 31, 32, 33, 34, 35, 36, 37, 38, 39, 40, 41, 42, 43, 44, 45] rfl (by decide +kernel)
set_option maxRecDepth 20000 in
theorem gX9_pairs_X9_followed : GoodIn wsX9_pairs (wsV RX9 160 RX9 yX9_followed wsX9_followed) := goodIn_app (goodIn_of _ (by decide +kernel)) ggX9_pairs_X9_followed
theorem dX9_pairs_0 : decode cX9_pairs 0 = .ok (.iconst 0, 1) := by decide +kernel
theorem dX9_pairs_1 : decode cX9_pairs 1 = .ok (.istore_n 1, 1) := by decide +kernel
theorem dX9_pairs_2 : decode cX9_pairs 2 = .ok (.iconst 0, 1) := by decide +kernel
theorem dX9_pairs_3 : decode cX9_pairs 3 = .ok (.istore_n 2, 1) := by decide +kernel
theorem dX9_pairs_4 : decode cX9_pairs 4 = .ok (.iload_n 2, 1) := by decide +kernel
theorem dX9_pairs_5 : decode cX9_pairs 5 = .ok (.aload_n 0, 1) := by decide +kernel
theorem dX9_pairs_6 : decode cX9_pairs 6 = .ok (.getfield 10, 3) := by decide +kernel
theorem dX9_pairs_9 : decode cX9_pairs 9 = .ok (.getfield 94, 3) := by decide +kernel
theorem dX9_pairs_12 : decode cX9_pairs 12 = .ok (.if_icmp .ge 17, 3) := by decide +kernel
theorem dX9_pairs_15 : decode cX9_pairs 15 = .ok (.iload_n 1, 1) := by decide +kernel
theorem dX9_pairs_16 : decode cX9_pairs 16 = .ok (.aload_n 0, 1) := by decide +kernel
theorem dX9_pairs_17 : decode cX9_pairs 17 = .ok (.iload_n 2, 1) := by decide +kernel
theorem dX9_pairs_18 : decode cX9_pairs 18 = .ok (.invokevirtual 160, 3) := by decide +kernel
theorem dX9_pairs_21 : decode cX9_pairs 21 = .ok (.iadd, 1) := by decide +kernel
theorem dX9_pairs_22 : decode cX9_pairs 22 = .ok (.istore_n 1, 1) := by decide +kernel
theorem dX9_pairs_23 : decode cX9_pairs 23 = .ok (.iinc 2 1, 3) := by decide +kernel
theorem dX9_pairs_26 : decode cX9_pairs 26 = .ok (.goto (-22), 3) := by decide +kernel
theorem dX9_pairs_29 : decode cX9_pairs 29 = .ok (.iload_n 1, 1) := by decide +kernel
theorem dX9_pairs_30 : decode cX9_pairs 30 = .ok (.ireturn, 1) := by decide +kernel
set_option maxRecDepth 20000 in
theorem ggX9_told_X9_pairs : GoodIn wsX9_told wsX9_pairs := goodIn_r _ [12, 3, 4, 13, 14, 15, 11, 16, 17, 22, 23, 24, 25, 26, 27, 28, 29, 30, 31, 32, 33, 34, 35, 36, 37, 38, 39, 40, 41, 42, 43, 44, 45, 46, 47, 48, 49, 50, 51, 52, 53, 54, 55, 56, 57, 58] rfl (by decide +kernel)
set_option maxRecDepth 20000 in
theorem gX9_told_X9_pairs : GoodIn wsX9_told (wsV RX9 285 RX9 yX9_pairs wsX9_pairs) := goodIn_app (goodIn_of _ (by decide +kernel)) ggX9_told_X9_pairs
set_option maxRecDepth 20000 in
theorem ggX9_told_X9_found : GoodIn wsX9_told wsX9_found := goodIn_r _ [21, 7, 22, 23, 24, 25, 26, 27, 28, 29, 30, 31, 32, 33, 34, 35, 36, 37, 38, 39, 40, 41, 42, 43, 44, 45, 46, 47, 48, 49, 50, 51, 52, 53] rfl (by decide +kernel)
set_option maxRecDepth 20000 in
theorem gX9_told_X9_found : GoodIn wsX9_told (wsV RX9 107 RX9 yX9_found wsX9_found) := goodIn_app (goodIn_of _ (by decide +kernel)) ggX9_told_X9_found
theorem dX9_told_0 : decode cX9_told 0 = .ok (.iload_n 1, 1) := by decide +kernel
theorem dX9_told_1 : decode cX9_told 1 = .ok (.tableswitch 90 0 6 #[43, 48, 54, 62, 67, 72, 85], 43) := by decide +kernel
theorem dX9_told_44 : decode cX9_told 44 = .ok (.aload_n 0, 1) := by decide +kernel
theorem dX9_told_45 : decode cX9_told 45 = .ok (.getfield 157, 3) := by decide +kernel
theorem dX9_told_48 : decode cX9_told 48 = .ok (.ireturn, 1) := by decide +kernel
theorem dX9_told_49 : decode cX9_told 49 = .ok (.aload_n 0, 1) := by decide +kernel
theorem dX9_told_50 : decode cX9_told 50 = .ok (.getfield 27, 3) := by decide +kernel
theorem dX9_told_53 : decode cX9_told 53 = .ok (.l2i, 1) := by decide +kernel
theorem dX9_told_54 : decode cX9_told 54 = .ok (.ireturn, 1) := by decide +kernel
theorem dX9_told_55 : decode cX9_told 55 = .ok (.aload_n 0, 1) := by decide +kernel
theorem dX9_told_56 : decode cX9_told 56 = .ok (.getfield 10, 3) := by decide +kernel
theorem dX9_told_59 : decode cX9_told 59 = .ok (.getfield 94, 3) := by decide +kernel
theorem dX9_told_62 : decode cX9_told 62 = .ok (.ireturn, 1) := by decide +kernel
theorem dX9_told_63 : decode cX9_told 63 = .ok (.aload_n 0, 1) := by decide +kernel
theorem dX9_told_64 : decode cX9_told 64 = .ok (.invokevirtual 285, 3) := by decide +kernel
theorem dX9_told_67 : decode cX9_told 67 = .ok (.ireturn, 1) := by decide +kernel
theorem dX9_told_68 : decode cX9_told 68 = .ok (.aload_n 0, 1) := by decide +kernel
theorem dX9_told_69 : decode cX9_told 69 = .ok (.getfield 275, 3) := by decide +kernel
theorem dX9_told_72 : decode cX9_told 72 = .ok (.ireturn, 1) := by decide +kernel
theorem dX9_told_73 : decode cX9_told 73 = .ok (.aload_n 0, 1) := by decide +kernel
theorem dX9_told_74 : decode cX9_told 74 = .ok (.getfield 121, 3) := by decide +kernel
theorem dX9_told_77 : decode cX9_told 77 = .ok (.ifCond .eq 7, 3) := by decide +kernel
theorem dX9_told_80 : decode cX9_told 80 = .ok (.iconst 1, 1) := by decide +kernel
theorem dX9_told_81 : decode cX9_told 81 = .ok (.goto 4, 3) := by decide +kernel
theorem dX9_told_84 : decode cX9_told 84 = .ok (.iconst 0, 1) := by decide +kernel
theorem dX9_told_85 : decode cX9_told 85 = .ok (.ireturn, 1) := by decide +kernel
theorem dX9_told_86 : decode cX9_told 86 = .ok (.aload_n 0, 1) := by decide +kernel
theorem dX9_told_87 : decode cX9_told 87 = .ok (.getfield 90, 3) := by decide +kernel
theorem dX9_told_90 : decode cX9_told 90 = .ok (.ireturn, 1) := by decide +kernel
theorem dX9_told_91 : decode cX9_told 91 = .ok (.aload_n 0, 1) := by decide +kernel
theorem dX9_told_92 : decode cX9_told 92 = .ok (.iconst (-1), 1) := by decide +kernel
theorem dX9_told_93 : decode cX9_told 93 = .ok (.invokevirtual 107, 3) := by decide +kernel
theorem dX9_told_96 : decode cX9_told 96 = .ok (.ireturn, 1) := by decide +kernel

