theorem dX9_bend_0 : decode cX9_bend 0 = .ok (.aload_n 0, 1) := by decide +kernel
theorem dX9_bend_1 : decode cX9_bend 1 = .ok (.invokevirtual 251, 3) := by decide +kernel
theorem dX9_bend_4 : decode cX9_bend 4 = .ok (.iload_n 1, 1) := by decide +kernel
theorem dX9_bend_5 : decode cX9_bend 5 = .ok (.istore_n 2, 1) := by decide +kernel
theorem dX9_bend_6 : decode cX9_bend 6 = .ok (.aload_n 0, 1) := by decide +kernel
theorem dX9_bend_7 : decode cX9_bend 7 = .ok (.getfield 235, 3) := by decide +kernel
theorem dX9_bend_10 : decode cX9_bend 10 = .ok (.istore_n 3, 1) := by decide +kernel
theorem dX9_bend_11 : decode cX9_bend 11 = .ok (.iload_n 3, 1) := by decide +kernel
theorem dX9_bend_12 : decode cX9_bend 12 = .ok (.sipush 720, 3) := by decide +kernel
theorem dX9_bend_15 : decode cX9_bend 15 = .ok (.if_icmp .gt 33, 3) := by decide +kernel
theorem dX9_bend_18 : decode cX9_bend 18 = .ok (.iload_n 1, 1) := by decide +kernel
theorem dX9_bend_19 : decode cX9_bend 19 = .ok (.ifCond .lt 29, 3) := by decide +kernel
theorem dX9_bend_22 : decode cX9_bend 22 = .ok (.aload_n 0, 1) := by decide +kernel
theorem dX9_bend_23 : decode cX9_bend 23 = .ok (.iload_n 3, 1) := by decide +kernel
theorem dX9_bend_24 : decode cX9_bend 24 = .ok (.invokevirtual 265, 3) := by decide +kernel
theorem dX9_bend_27 : decode cX9_bend 27 = .ok (.ifCond .ne 6, 3) := by decide +kernel
theorem dX9_bend_30 : decode cX9_bend 30 = .ok (.goto 12, 3) := by decide +kernel
theorem dX9_bend_33 : decode cX9_bend 33 = .ok (.iload_n 2, 1) := by decide +kernel
theorem dX9_bend_34 : decode cX9_bend 34 = .ok (.ifCond .ne 5, 3) := by decide +kernel
theorem dX9_bend_37 : decode cX9_bend 37 = .ok (.iload_n 3, 1) := by decide +kernel
theorem dX9_bend_38 : decode cX9_bend 38 = .ok (.ireturn, 1) := by decide +kernel
theorem dX9_bend_39 : decode cX9_bend 39 = .ok (.iinc 2 (-1), 3) := by decide +kernel
theorem dX9_bend_42 : decode cX9_bend 42 = .ok (.iinc 3 1, 3) := by decide +kernel
theorem dX9_bend_45 : decode cX9_bend 45 = .ok (.goto (-34), 3) := by decide +kernel
theorem dX9_bend_48 : decode cX9_bend 48 = .ok (.aload_n 0, 1) := by decide +kernel
theorem dX9_bend_49 : decode cX9_bend 49 = .ok (.bipush (-7), 2) := by decide +kernel
theorem dX9_bend_51 : decode cX9_bend 51 = .ok (.invokevirtual 107, 3) := by decide +kernel
theorem dX9_bend_54 : decode cX9_bend 54 = .ok (.ireturn, 1) := by decide +kernel
theorem dX9_common_0 : decode cX9_common 0 = .ok (.lload_n 0, 1) := by decide +kernel
theorem dX9_common_1 : decode cX9_common 1 = .ok (.lstore 4, 2) := by decide +kernel
theorem dX9_common_3 : decode cX9_common 3 = .ok (.lload_n 2, 1) := by decide +kernel
theorem dX9_common_4 : decode cX9_common 4 = .ok (.lstore 6, 2) := by decide +kernel
theorem dX9_common_6 : decode cX9_common 6 = .ok (.lload 6, 2) := by decide +kernel
theorem dX9_common_8 : decode cX9_common 8 = .ok (.lconst 0, 1) := by decide +kernel
theorem dX9_common_9 : decode cX9_common 9 = .ok (.lcmp, 1) := by decide +kernel
theorem dX9_common_10 : decode cX9_common 10 = .ok (.ifCond .le 21, 3) := by decide +kernel
theorem dX9_common_13 : decode cX9_common 13 = .ok (.lload 4, 2) := by decide +kernel
theorem dX9_common_15 : decode cX9_common 15 = .ok (.lload 6, 2) := by decide +kernel
theorem dX9_common_17 : decode cX9_common 17 = .ok (.lrem, 1) := by decide +kernel
theorem dX9_common_18 : decode cX9_common 18 = .ok (.lstore 8, 2) := by decide +kernel
theorem dX9_common_20 : decode cX9_common 20 = .ok (.lload 6, 2) := by decide +kernel
theorem dX9_common_22 : decode cX9_common 22 = .ok (.lstore 4, 2) := by decide +kernel
theorem dX9_common_24 : decode cX9_common 24 = .ok (.lload 8, 2) := by decide +kernel
theorem dX9_common_26 : decode cX9_common 26 = .ok (.lstore 6, 2) := by decide +kernel
theorem dX9_common_28 : decode cX9_common 28 = .ok (.goto (-22), 3) := by decide +kernel
theorem dX9_common_31 : decode cX9_common 31 = .ok (.lload 4, 2) := by decide +kernel
theorem dX9_common_33 : decode cX9_common 33 = .ok (.lreturn, 1) := by decide +kernel
set_option maxRecDepth 20000 in
theorem ggX9_within_X9_know : GoodIn wsX9_within wsX9_know := goodIn_r _ [8, 9, 2, 10, 11, 12, 13, 14, 15, 16, 7, 17, 18, 19, 20, 21, 22, 23, 24, 25, 26, 27, 28, 29, 30, 31, 32, 33, 34, 35, 36, 37, 38, 39, 40, 41, 42, 43, 44, 45, 46, 47, 48, 49, 50, 51, 52, 53, 54, 55, 56, 57, 58, 59, 60, 61, 62, 63, 64, 65, 66, 67, 68, 69, 70, 71, 72, 73, 74, 75, 76, 77, 78, 79, 80, 81, 82, 83, 84, 85, 86, 87, 88, 89, 90, 91, 92, 93, 94, 95, 96, 97, 110, 111, 112, 113, 114, 115, 116, 117, 118, 119, 120, 121, 122, 123, 124, 125, 126, 127, 128, 129, 130, 131, 132, 133, 134, 135, 136, 137, 138, 139, 140, 141, 142, 143, 144, 145, 146] rfl (by decide +kernel)
set_option maxRecDepth 20000 in
theorem gX9_within_X9_know : GoodIn wsX9_within (wsV RX9 251 RX9 yX9_know wsX9_know) := goodIn_app (goodIn_of _ (by decide +kernel)) ggX9_within_X9_know
set_option maxRecDepth 20000 in
theorem ggX9_within_X9_cheapAt : GoodIn wsX9_within wsX9_cheapAt := goodIn_r _ [101, 13, 1, 91, 92, 32, 93, 4, 5, 6, 7, 8, 9, 2, 10, 11, 12, 14, 15, 16, 17, 18, 19, 20, 21, 22, 23, 24, 25, 26, 27, 28, 29, 30, 31, 33, 34, 35, 36, 37, 38, 39, 40, 41, 42, 43, 44, 45, 46, 47, 48, 49, 50, 51, 52, 53, 54, 55, 56, 57, 58, 59, 60, 61, 62, 63, 64, 65, 66, 67, 68, 69, 70, 71, 72, 73, 74, 75, 76, 77, 78, 79, 80, 81, 82, 83, 84, 85, 86, 87, 88, 89, 90, 94, 95, 96, 97, 110, 111, 112, 113, 114, 115, 116, 117, 118, 119, 120, 121, 122, 123, 124, 125, 126, 127, 128, 129, 130, 131, 132, 133, 134, 135, 136, 137, 138, 139, 140, 141, 142, 143, 144, 145, 146] rfl (by decide +kernel)
set_option maxRecDepth 20000 in
theorem gX9_within_X9_cheapAt : GoodIn wsX9_within (wsV RX9 258 RX9 yX9_cheapAt wsX9_cheapAt) := goodIn_app (goodIn_of _ (by decide +kernel)) ggX9_within_X9_cheapAt
set_option maxRecDepth 20000 in
theorem ggX9_within_X9_found : GoodIn wsX9_within wsX9_found := goodIn_r _ [105, 106, 110, 111, 112, 113, 114, 115, 116, 117, 118, 119, 120, 121, 122, 123, 124, 125, 126, 127, 128, 129, 130, 131, 132, 133, 134, 135, 136, 137, 138, 139, 140, 141] rfl (by decide +kernel)
set_option maxRecDepth 20000 in
theorem gX9_within_X9_found : GoodIn wsX9_within (wsV RX9 107 RX9 yX9_found wsX9_found) := goodIn_app (goodIn_of _ (by decide +kernel)) ggX9_within_X9_found
set_option maxRecDepth 20000 in
theorem ggX9_within_X9_common : GoodIn wsX9_within wsX9_common := goodIn_r _ [109] rfl (by decide +kernel)
set_option maxRecDepth 20000 in
theorem gX9_within_X9_common : GoodIn wsX9_within (va_wsS RX9 268 yX9_common wsX9_common) := goodIn_app (goodIn_of _ (by decide +kernel)) ggX9_within_X9_common
theorem dX9_within_0 : decode cX9_within 0 = .ok (.aload_n 0, 1) := by decide +kernel
theorem dX9_within_1 : decode cX9_within 1 = .ok (.invokevirtual 251, 3) := by decide +kernel
theorem dX9_within_4 : decode cX9_within 4 = .ok (.aload_n 0, 1) := by decide +kernel
theorem dX9_within_5 : decode cX9_within 5 = .ok (.ldc2_w 254, 3) := by decide +kernel
theorem dX9_within_8 : decode cX9_within 8 = .ok (.invokevirtual 258, 3) := by decide +kernel
theorem dX9_within_11 : decode cX9_within 11 = .ok (.lload_n 1, 1) := by decide +kernel
theorem dX9_within_12 : decode cX9_within 12 = .ok (.lcmp, 1) := by decide +kernel
theorem dX9_within_13 : decode cX9_within 13 = .ok (.ifCond .le 11, 3) := by decide +kernel
theorem dX9_within_16 : decode cX9_within 16 = .ok (.aload_n 0, 1) := by decide +kernel
theorem dX9_within_17 : decode cX9_within 17 = .ok (.bipush (-7), 2) := by decide +kernel
theorem dX9_within_19 : decode cX9_within 19 = .ok (.invokevirtual 107, 3) := by decide +kernel
theorem dX9_within_22 : decode cX9_within 22 = .ok (.i2l, 1) := by decide +kernel
theorem dX9_within_23 : decode cX9_within 23 = .ok (.lreturn, 1) := by decide +kernel
theorem dX9_within_24 : decode cX9_within 24 = .ok (.aload_n 0, 1) := by decide +kernel
theorem dX9_within_25 : decode cX9_within 25 = .ok (.getfield 235, 3) := by decide +kernel
theorem dX9_within_28 : decode cX9_within 28 = .ok (.istore_n 3, 1) := by decide +kernel
theorem dX9_within_29 : decode cX9_within 29 = .ok (.aload_n 0, 1) := by decide +kernel
theorem dX9_within_30 : decode cX9_within 30 = .ok (.iload_n 3, 1) := by decide +kernel
theorem dX9_within_31 : decode cX9_within 31 = .ok (.i2l, 1) := by decide +kernel
theorem dX9_within_32 : decode cX9_within 32 = .ok (.invokevirtual 258, 3) := by decide +kernel
theorem dX9_within_35 : decode cX9_within 35 = .ok (.lload_n 1, 1) := by decide +kernel
theorem dX9_within_36 : decode cX9_within 36 = .ok (.lcmp, 1) := by decide +kernel
theorem dX9_within_37 : decode cX9_within 37 = .ok (.ifCond .le 9, 3) := by decide +kernel
theorem dX9_within_40 : decode cX9_within 40 = .ok (.iinc 3 1, 3) := by decide +kernel
theorem dX9_within_43 : decode cX9_within 43 = .ok (.goto (-14), 3) := by decide +kernel
theorem dX9_within_46 : decode cX9_within 46 = .ok (.iload_n 3, 1) := by decide +kernel
theorem dX9_within_47 : decode cX9_within 47 = .ok (.aload_n 0, 1) := by decide +kernel
theorem dX9_within_48 : decode cX9_within 48 = .ok (.getfield 235, 3) := by decide +kernel
theorem dX9_within_51 : decode cX9_within 51 = .ok (.if_icmp .ne 11, 3) := by decide +kernel
theorem dX9_within_54 : decode cX9_within 54 = .ok (.aload_n 0, 1) := by decide +kernel
theorem dX9_within_55 : decode cX9_within 55 = .ok (.lconst 1, 1) := by decide +kernel
theorem dX9_within_56 : decode cX9_within 56 = .ok (.putfield 27, 3) := by decide +kernel
theorem dX9_within_59 : decode cX9_within 59 = .ok (.iload_n 3, 1) := by decide +kernel
theorem dX9_within_60 : decode cX9_within 60 = .ok (.i2l, 1) := by decide +kernel
theorem dX9_within_61 : decode cX9_within 61 = .ok (.lreturn, 1) := by decide +kernel
theorem dX9_within_62 : decode cX9_within 62 = .ok (.aload_n 0, 1) := by decide +kernel
theorem dX9_within_63 : decode cX9_within 63 = .ok (.iload_n 3, 1) := by decide +kernel
theorem dX9_within_64 : decode cX9_within 64 = .ok (.i2l, 1) := by decide +kernel
theorem dX9_within_65 : decode cX9_within 65 = .ok (.lconst 1, 1) := by decide +kernel
theorem dX9_within_66 : decode cX9_within 66 = .ok (.lsub, 1) := by decide +kernel
theorem dX9_within_67 : decode cX9_within 67 = .ok (.invokevirtual 258, 3) := by decide +kernel
theorem dX9_within_70 : decode cX9_within 70 = .ok (.aload_n 0, 1) := by decide +kernel
theorem dX9_within_71 : decode cX9_within 71 = .ok (.iload_n 3, 1) := by decide +kernel
theorem dX9_within_72 : decode cX9_within 72 = .ok (.i2l, 1) := by decide +kernel
theorem dX9_within_73 : decode cX9_within 73 = .ok (.invokevirtual 258, 3) := by decide +kernel
theorem dX9_within_76 : decode cX9_within 76 = .ok (.lsub, 1) := by decide +kernel
theorem dX9_within_77 : decode cX9_within 77 = .ok (.lstore 4, 2) := by decide +kernel
theorem dX9_within_79 : decode cX9_within 79 = .ok (.iload_n 3, 1) := by decide +kernel
theorem dX9_within_80 : decode cX9_within 80 = .ok (.i2l, 1) := by decide +kernel
theorem dX9_within_81 : decode cX9_within 81 = .ok (.lconst 1, 1) := by decide +kernel
theorem dX9_within_82 : decode cX9_within 82 = .ok (.lsub, 1) := by decide +kernel
theorem dX9_within_83 : decode cX9_within 83 = .ok (.lload 4, 2) := by decide +kernel
theorem dX9_within_85 : decode cX9_within 85 = .ok (.lmul, 1) := by decide +kernel
theorem dX9_within_86 : decode cX9_within 86 = .ok (.aload_n 0, 1) := by decide +kernel
theorem dX9_within_87 : decode cX9_within 87 = .ok (.iload_n 3, 1) := by decide +kernel
theorem dX9_within_88 : decode cX9_within 88 = .ok (.i2l, 1) := by decide +kernel
theorem dX9_within_89 : decode cX9_within 89 = .ok (.lconst 1, 1) := by decide +kernel
theorem dX9_within_90 : decode cX9_within 90 = .ok (.lsub, 1) := by decide +kernel
theorem dX9_within_91 : decode cX9_within 91 = .ok (.invokevirtual 258, 3) := by decide +kernel
theorem dX9_within_94 : decode cX9_within 94 = .ok (.ladd, 1) := by decide +kernel
theorem dX9_within_95 : decode cX9_within 95 = .ok (.lload_n 1, 1) := by decide +kernel
theorem dX9_within_96 : decode cX9_within 96 = .ok (.lsub, 1) := by decide +kernel
theorem dX9_within_97 : decode cX9_within 97 = .ok (.lstore 6, 2) := by decide +kernel
theorem dX9_within_99 : decode cX9_within 99 = .ok (.lload 6, 2) := by decide +kernel
theorem dX9_within_101 : decode cX9_within 101 = .ok (.lload 4, 2) := by decide +kernel
theorem dX9_within_103 : decode cX9_within 103 = .ok (.invokestatic 268, 3) := by decide +kernel
theorem dX9_within_106 : decode cX9_within 106 = .ok (.lstore 8, 2) := by decide +kernel
theorem dX9_within_108 : decode cX9_within 108 = .ok (.aload_n 0, 1) := by decide +kernel
theorem dX9_within_109 : decode cX9_within 109 = .ok (.lload 4, 2) := by decide +kernel
theorem dX9_within_111 : decode cX9_within 111 = .ok (.lload 8, 2) := by decide +kernel
theorem dX9_within_113 : decode cX9_within 113 = .ok (.ldiv, 1) := by decide +kernel
theorem dX9_within_114 : decode cX9_within 114 = .ok (.putfield 27, 3) := by decide +kernel
theorem dX9_within_117 : decode cX9_within 117 = .ok (.lload 6, 2) := by decide +kernel
theorem dX9_within_119 : decode cX9_within 119 = .ok (.lload 8, 2) := by decide +kernel
theorem dX9_within_121 : decode cX9_within 121 = .ok (.ldiv, 1) := by decide +kernel
theorem dX9_within_122 : decode cX9_within 122 = .ok (.lreturn, 1) := by decide +kernel
set_option maxRecDepth 20000 in
theorem ggX9_rise_X9_longest : GoodIn wsX9_rise wsX9_longest := goodIn_r _ [5, 6, 7, 8, 9, 10, 11, 4, 12, 13, 14, 15, 16, 17, 18, 19, 20, 21, 22, 23, 24, 25, 26, 27, 28, 29, 30, 31, 32, 85, 86, 87, 88, 89, 90, 91, 92, 93, 94, 95, 96, 97, 98, 99, 100, 101, 102, 103, 104, 105, 106, 107, 108, 109, 110, 111, 112, 113, 114, 115, 116, 117, 118, 119, 120, 121] rfl (by decide +kernel)
set_option maxRecDepth 20000 in
theorem gX9_rise_X9_longest : GoodIn wsX9_rise (wsV RX9 231 RX9 yX9_longest wsX9_longest) := goodIn_app (goodIn_of _ (by decide +kernel)) ggX9_rise_X9_longest
set_option maxRecDepth 20000 in
theorem ggX9_rise_X9_take : GoodIn wsX9_rise wsX9_take := goodIn_r _ [36, 6, 7, 37, 19, 8, 85, 86, 87, 88, 89, 90, 91, 92, 93, 94, 95, 96, 97, 98, 99, 100, 101, 102, 103, 104, 105, 106, 107, 108, 109, 110, 111, 112, 113, 114, 115, 116, 117, 118, 119, 120, 121] rfl (by decide +kernel)
set_option maxRecDepth 20000 in
theorem gX9_rise_X9_take : GoodIn wsX9_rise (wsV RX9 238 RX9 yX9_take wsX9_take) := goodIn_app (goodIn_of _ (by decide +kernel)) ggX9_rise_X9_take
set_option maxRecDepth 20000 in
theorem ggX9_rise_X9_cut : GoodIn wsX9_rise wsX9_cut := goodIn_r _ [41, 42, 43, 6, 7, 37, 44, 20, 45, 46, 47, 48, 4, 49, 50, 21, 22, 23, 24, 9, 10, 11, 12, 13, 51, 52, 53, 54, 55, 56, 57, 58, 59, 60, 61, 62, 63, 64, 65, 66, 67, 68, 69, 70, 71, 72, 73, 74, 75, 76, 77, 78, 79, 80, 85, 86, 87, 88, 89, 90, 91, 92, 93, 94, 95, 96, 97, 98, 99, 100, 101, 102, 103, 104, 105, 106, 107, 108, 109, 110, 111, 112, 113, 114, 115, 116, 117, 118, 119, 120, 121] rfl (by decide +kernel)
set_option maxRecDepth 20000 in
theorem gX9_rise_X9_cut : GoodIn wsX9_rise (wsV RX9 244 RX9 yX9_cut wsX9_cut) := goodIn_app (goodIn_of _ (by decide +kernel)) ggX9_rise_X9_cut
set_option maxRecDepth 20000 in
theorem ggX9_rise_X9_costNow : GoodIn wsX9_rise wsX9_costNow := goodIn_r _ [84, 6, 7, 37, 46, 47, 48, 4, 49, 44, 50, 21, 22, 23, 24, 9, 10, 11, 12, 13, 51, 52, 53, 85, 86, 87, 88, 89, 90, 91, 92, 93, 94, 95, 96, 97, 98, 99, 100, 101, 102, 103, 104, 105, 106, 107, 108, 109, 110, 111, 112, 113, 114, 115, 116, 117, 118, 119, 120, 121] rfl (by decide +kernel)
set_option maxRecDepth 20000 in
theorem gX9_rise_X9_costNow : GoodIn wsX9_rise (wsV RX9 247 RX9 yX9_costNow wsX9_costNow) := goodIn_app (goodIn_of _ (by decide +kernel)) ggX9_rise_X9_costNow
theorem dX9_rise_0 : decode cX9_rise 0 = .ok (.aload_n 0, 1) := by decide +kernel
theorem dX9_rise_1 : decode cX9_rise 1 = .ok (.iconst 1, 1) := by decide +kernel
theorem dX9_rise_2 : decode cX9_rise 2 = .ok (.invokevirtual 231, 3) := by decide +kernel
theorem dX9_rise_5 : decode cX9_rise 5 = .ok (.pop, 1) := by decide +kernel
theorem dX9_rise_6 : decode cX9_rise 6 = .ok (.aload_n 0, 1) := by decide +kernel
theorem dX9_rise_7 : decode cX9_rise 7 = .ok (.invokevirtual 238, 3) := by decide +kernel
theorem dX9_rise_10 : decode cX9_rise 10 = .ok (.aload_n 0, 1) := by decide +kernel
theorem dX9_rise_11 : decode cX9_rise 11 = .ok (.iconst 1, 1) := by decide +kernel
theorem dX9_rise_12 : decode cX9_rise 12 = .ok (.iload_n 1, 1) := by decide +kernel
theorem dX9_rise_13 : decode cX9_rise 13 = .ok (.invokevirtual 244, 3) := by decide +kernel
theorem dX9_rise_16 : decode cX9_rise 16 = .ok (.ifCond .eq 11, 3) := by decide +kernel
theorem dX9_rise_19 : decode cX9_rise 19 = .ok (.aload_n 0, 1) := by decide +kernel
theorem dX9_rise_20 : decode cX9_rise 20 = .ok (.invokevirtual 247, 3) := by decide +kernel
theorem dX9_rise_23 : decode cX9_rise 23 = .ok (.pop2, 1) := by decide +kernel
theorem dX9_rise_24 : decode cX9_rise 24 = .ok (.goto (-14), 3) := by decide +kernel
theorem dX9_rise_27 : decode cX9_rise 27 = .ok (.return_, 1) := by decide +kernel
set_option maxRecDepth 20000 in
theorem ggX9_plan_X9_noLength : GoodIn wsX9_plan wsX9_noLength := goodIn_r _ [11, 12, 13, 14, 15, 10, 16, 17, 1, 2, 18, 19, 20, 21, 22, 23, 24, 25, 26, 27, 28, 29, 30, 31, 32, 33, 34, 35, 36, 37, 38, 39, 40, 41, 42, 43, 44, 45, 46, 47, 48, 49, 50, 51, 52, 53, 54, 55, 56, 57, 58, 59, 60, 4, 61, 62, 63, 64, 65, 66, 67, 68, 69, 70, 71, 72, 73, 74, 75, 76, 77, 78, 79, 80, 81, 82, 83, 84, 85, 86, 87, 88, 89, 90, 91, 92, 93, 94, 95, 96, 97, 98, 99, 100, 101, 102, 112, 113, 114, 115, 116, 117, 118, 119, 120, 121, 122, 123, 124, 125, 126, 127, 128, 129, 130, 131, 132, 133, 134, 135, 136, 137, 138, 139, 140, 141, 142, 143, 144, 145, 146, 147, 148] rfl (by decide +kernel)
set_option maxRecDepth 20000 in
theorem gX9_plan_X9_noLength : GoodIn wsX9_plan (wsV RX9 262 RX9 yX9_noLength wsX9_noLength) := goodIn_app (goodIn_of _ (by decide +kernel)) ggX9_plan_X9_noLength
set_option maxRecDepth 20000 in
theorem ggX9_plan_X9_found : GoodIn wsX9_plan wsX9_found := goodIn_r _ [106, 107, 112, 113, 114, 115, 116, 117, 118, 119, 120, 121, 122, 123, 124, 125, 126, 127, 128, 129, 130, 131, 132, 133, 134, 135, 136, 137, 138, 139, 140, 141, 142, 143] rfl (by decide +kernel)
set_option maxRecDepth 20000 in
theorem gX9_plan_X9_found : GoodIn wsX9_plan (wsV RX9 107 RX9 yX9_found wsX9_found) := goodIn_app (goodIn_of _ (by decide +kernel)) ggX9_plan_X9_found
set_option maxRecDepth 20000 in
theorem ggX9_plan_X9_rise : GoodIn wsX9_plan wsX9_rise := goodIn_r _ [111, 20, 21, 22, 10, 23, 1, 2, 18, 24, 25, 26, 27, 28, 29, 30, 31, 32, 33, 34, 35, 36, 37, 38, 39, 40, 41, 42, 43, 44, 45, 46, 47, 57, 58, 59, 60, 4, 65, 66, 67, 68, 69, 70, 52, 71, 48, 49, 50, 51, 53, 54, 55, 56, 72, 73, 74, 75, 76, 77, 78, 79, 80, 81, 82, 83, 84, 85, 86, 87, 88, 89, 90, 91, 92, 93, 94, 95, 96, 97, 98, 99, 100, 101, 102, 112, 113, 114, 115, 116, 117, 118, 119, 120, 121, 122, 123, 124, 125, 126, 127, 128, 129, 130, 131, 132, 133, 134, 135, 136, 137, 138, 139, 140, 141, 142, 143, 144, 145, 146, 147, 148] rfl (by decide +kernel)
set_option maxRecDepth 20000 in
theorem gX9_plan_X9_rise : GoodIn wsX9_plan (wsV RX9 271 RX9 yX9_rise wsX9_rise) := goodIn_app (goodIn_of _ (by decide +kernel)) ggX9_plan_X9_rise
set_option maxRecDepth 20000 in
theorem ggX9_plan_X9_lengthNow : GoodIn wsX9_plan wsX9_lengthNow := goodIn_r _ [64, 1, 2, 4, 36, 37, 38, 39, 112, 113, 114, 115, 116, 117, 118, 119, 120, 121, 122, 123, 124, 125, 126, 127, 128, 129, 130, 131, 132, 133, 134, 135, 136, 137, 138, 139, 140, 141, 142, 143, 144, 145, 146, 147, 148] rfl (by decide +kernel)
set_option maxRecDepth 20000 in
theorem gX9_plan_X9_lengthNow : GoodIn wsX9_plan (wsV RX9 241 RX9 yX9_lengthNow wsX9_lengthNow) := goodIn_app (goodIn_of _ (by decide +kernel)) ggX9_plan_X9_lengthNow
