theorem dX9_know_0 : decode cX9_know 0 = .ok (.aload_n 0, 1) := by decide +kernel
theorem dX9_know_1 : decode cX9_know 1 = .ok (.getfield 125, 3) := by decide +kernel
theorem dX9_know_4 : decode cX9_know 4 = .ok (.ifCond .eq 4, 3) := by decide +kernel
theorem dX9_know_7 : decode cX9_know 7 = .ok (.return_, 1) := by decide +kernel
theorem dX9_know_8 : decode cX9_know 8 = .ok (.aload_n 0, 1) := by decide +kernel
theorem dX9_know_9 : decode cX9_know 9 = .ok (.aload_n 0, 1) := by decide +kernel
theorem dX9_know_10 : decode cX9_know 10 = .ok (.iconst 1, 1) := by decide +kernel
theorem dX9_know_11 : decode cX9_know 11 = .ok (.invokevirtual 231, 3) := by decide +kernel
theorem dX9_know_14 : decode cX9_know 14 = .ok (.putfield 235, 3) := by decide +kernel
theorem dX9_know_17 : decode cX9_know 17 = .ok (.iconst 0, 1) := by decide +kernel
theorem dX9_know_18 : decode cX9_know 18 = .ok (.istore_n 1, 1) := by decide +kernel
theorem dX9_know_19 : decode cX9_know 19 = .ok (.iload_n 1, 1) := by decide +kernel
theorem dX9_know_20 : decode cX9_know 20 = .ok (.aload_n 0, 1) := by decide +kernel
theorem dX9_know_21 : decode cX9_know 21 = .ok (.getfield 10, 3) := by decide +kernel
theorem dX9_know_24 : decode cX9_know 24 = .ok (.getfield 94, 3) := by decide +kernel
theorem dX9_know_27 : decode cX9_know 27 = .ok (.if_icmp .ge 72, 3) := by decide +kernel
theorem dX9_know_30 : decode cX9_know 30 = .ok (.aload_n 0, 1) := by decide +kernel
theorem dX9_know_31 : decode cX9_know 31 = .ok (.getfield 51, 3) := by decide +kernel
theorem dX9_know_34 : decode cX9_know 34 = .ok (.iload_n 1, 1) := by decide +kernel
theorem dX9_know_35 : decode cX9_know 35 = .ok (.aload_n 0, 1) := by decide +kernel
theorem dX9_know_36 : decode cX9_know 36 = .ok (.iload_n 1, 1) := by decide +kernel
theorem dX9_know_37 : decode cX9_know 37 = .ok (.iconst 0, 1) := by decide +kernel
theorem dX9_know_38 : decode cX9_know 38 = .ok (.invokevirtual 169, 3) := by decide +kernel
theorem dX9_know_41 : decode cX9_know 41 = .ok (.iastore, 1) := by decide +kernel
theorem dX9_know_42 : decode cX9_know 42 = .ok (.aload_n 0, 1) := by decide +kernel
theorem dX9_know_43 : decode cX9_know 43 = .ok (.iload_n 1, 1) := by decide +kernel
theorem dX9_know_44 : decode cX9_know 44 = .ok (.iconst 1, 1) := by decide +kernel
theorem dX9_know_45 : decode cX9_know 45 = .ok (.invokevirtual 169, 3) := by decide +kernel
theorem dX9_know_48 : decode cX9_know 48 = .ok (.istore_n 2, 1) := by decide +kernel
theorem dX9_know_49 : decode cX9_know 49 = .ok (.iload_n 2, 1) := by decide +kernel
theorem dX9_know_50 : decode cX9_know 50 = .ok (.aload_n 0, 1) := by decide +kernel
theorem dX9_know_51 : decode cX9_know 51 = .ok (.getfield 51, 3) := by decide +kernel
theorem dX9_know_54 : decode cX9_know 54 = .ok (.iload_n 1, 1) := by decide +kernel
theorem dX9_know_55 : decode cX9_know 55 = .ok (.iaload, 1) := by decide +kernel
theorem dX9_know_56 : decode cX9_know 56 = .ok (.if_icmp .ge 37, 3) := by decide +kernel
theorem dX9_know_59 : decode cX9_know 59 = .ok (.aload_n 0, 1) := by decide +kernel
theorem dX9_know_60 : decode cX9_know 60 = .ok (.iload_n 1, 1) := by decide +kernel
theorem dX9_know_61 : decode cX9_know 61 = .ok (.iload_n 2, 1) := by decide +kernel
theorem dX9_know_62 : decode cX9_know 62 = .ok (.invokevirtual 199, 3) := by decide +kernel
theorem dX9_know_65 : decode cX9_know 65 = .ok (.aload_n 0, 1) := by decide +kernel
theorem dX9_know_66 : decode cX9_know 66 = .ok (.iload_n 1, 1) := by decide +kernel
theorem dX9_know_67 : decode cX9_know 67 = .ok (.aload_n 0, 1) := by decide +kernel
theorem dX9_know_68 : decode cX9_know 68 = .ok (.getfield 51, 3) := by decide +kernel
theorem dX9_know_71 : decode cX9_know 71 = .ok (.iload_n 1, 1) := by decide +kernel
theorem dX9_know_72 : decode cX9_know 72 = .ok (.iaload, 1) := by decide +kernel
theorem dX9_know_73 : decode cX9_know 73 = .ok (.invokevirtual 199, 3) := by decide +kernel
theorem dX9_know_76 : decode cX9_know 76 = .ok (.lcmp, 1) := by decide +kernel
theorem dX9_know_77 : decode cX9_know 77 = .ok (.ifCond .ge 10, 3) := by decide +kernel
theorem dX9_know_80 : decode cX9_know 80 = .ok (.aload_n 0, 1) := by decide +kernel
theorem dX9_know_81 : decode cX9_know 81 = .ok (.getfield 51, 3) := by decide +kernel
theorem dX9_know_84 : decode cX9_know 84 = .ok (.iload_n 1, 1) := by decide +kernel
theorem dX9_know_85 : decode cX9_know 85 = .ok (.iload_n 2, 1) := by decide +kernel
theorem dX9_know_86 : decode cX9_know 86 = .ok (.iastore, 1) := by decide +kernel
theorem dX9_know_87 : decode cX9_know 87 = .ok (.iinc 2 1, 3) := by decide +kernel
theorem dX9_know_90 : decode cX9_know 90 = .ok (.goto (-41), 3) := by decide +kernel
theorem dX9_know_93 : decode cX9_know 93 = .ok (.iinc 1 1, 3) := by decide +kernel
theorem dX9_know_96 : decode cX9_know 96 = .ok (.goto (-77), 3) := by decide +kernel
theorem dX9_know_99 : decode cX9_know 99 = .ok (.aload_n 0, 1) := by decide +kernel
theorem dX9_know_100 : decode cX9_know 100 = .ok (.invokevirtual 184, 3) := by decide +kernel
theorem dX9_know_103 : decode cX9_know 103 = .ok (.istore_n 1, 1) := by decide +kernel
theorem dX9_know_104 : decode cX9_know 104 = .ok (.aload_n 0, 1) := by decide +kernel
theorem dX9_know_105 : decode cX9_know 105 = .ok (.invokevirtual 238, 3) := by decide +kernel
theorem dX9_know_108 : decode cX9_know 108 = .ok (.sipush 720, 3) := by decide +kernel
theorem dX9_know_111 : decode cX9_know 111 = .ok (.istore_n 2, 1) := by decide +kernel
theorem dX9_know_112 : decode cX9_know 112 = .ok (.iload_n 2, 1) := by decide +kernel
theorem dX9_know_113 : decode cX9_know 113 = .ok (.aload_n 0, 1) := by decide +kernel
theorem dX9_know_114 : decode cX9_know 114 = .ok (.getfield 235, 3) := by decide +kernel
theorem dX9_know_117 : decode cX9_know 117 = .ok (.if_icmp .lt 37, 3) := by decide +kernel
theorem dX9_know_120 : decode cX9_know 120 = .ok (.aload_n 0, 1) := by decide +kernel
theorem dX9_know_121 : decode cX9_know 121 = .ok (.invokevirtual 241, 3) := by decide +kernel
theorem dX9_know_124 : decode cX9_know 124 = .ok (.iload_n 2, 1) := by decide +kernel
theorem dX9_know_125 : decode cX9_know 125 = .ok (.if_icmp .le 13, 3) := by decide +kernel
theorem dX9_know_128 : decode cX9_know 128 = .ok (.aload_n 0, 1) := by decide +kernel
theorem dX9_know_129 : decode cX9_know 129 = .ok (.iconst (-1), 1) := by decide +kernel
theorem dX9_know_130 : decode cX9_know 130 = .ok (.iload_n 2, 1) := by decide +kernel
theorem dX9_know_131 : decode cX9_know 131 = .ok (.invokevirtual 244, 3) := by decide +kernel
theorem dX9_know_134 : decode cX9_know 134 = .ok (.istore_n 3, 1) := by decide +kernel
theorem dX9_know_135 : decode cX9_know 135 = .ok (.goto (-15), 3) := by decide +kernel
theorem dX9_know_138 : decode cX9_know 138 = .ok (.aload_n 0, 1) := by decide +kernel
theorem dX9_know_139 : decode cX9_know 139 = .ok (.getfield 78, 3) := by decide +kernel
theorem dX9_know_142 : decode cX9_know 142 = .ok (.iload_n 2, 1) := by decide +kernel
theorem dX9_know_143 : decode cX9_know 143 = .ok (.aload_n 0, 1) := by decide +kernel
theorem dX9_know_144 : decode cX9_know 144 = .ok (.invokevirtual 247, 3) := by decide +kernel
theorem dX9_know_147 : decode cX9_know 147 = .ok (.lastore, 1) := by decide +kernel
theorem dX9_know_148 : decode cX9_know 148 = .ok (.iinc 2 (-1), 3) := by decide +kernel
theorem dX9_know_151 : decode cX9_know 151 = .ok (.goto (-39), 3) := by decide +kernel
theorem dX9_know_154 : decode cX9_know 154 = .ok (.aload_n 0, 1) := by decide +kernel
theorem dX9_know_155 : decode cX9_know 155 = .ok (.iconst 1, 1) := by decide +kernel
theorem dX9_know_156 : decode cX9_know 156 = .ok (.putfield 125, 3) := by decide +kernel
theorem dX9_know_159 : decode cX9_know 159 = .ok (.return_, 1) := by decide +kernel
theorem dX9_lengthNow_0 : decode cX9_lengthNow 0 = .ok (.iconst 0, 1) := by decide +kernel
theorem dX9_lengthNow_1 : decode cX9_lengthNow 1 = .ok (.istore_n 1, 1) := by decide +kernel
theorem dX9_lengthNow_2 : decode cX9_lengthNow 2 = .ok (.iconst 0, 1) := by decide +kernel
theorem dX9_lengthNow_3 : decode cX9_lengthNow 3 = .ok (.istore_n 2, 1) := by decide +kernel
theorem dX9_lengthNow_4 : decode cX9_lengthNow 4 = .ok (.iload_n 2, 1) := by decide +kernel
theorem dX9_lengthNow_5 : decode cX9_lengthNow 5 = .ok (.aload_n 0, 1) := by decide +kernel
theorem dX9_lengthNow_6 : decode cX9_lengthNow 6 = .ok (.getfield 10, 3) := by decide +kernel
theorem dX9_lengthNow_9 : decode cX9_lengthNow 9 = .ok (.getfield 94, 3) := by decide +kernel
theorem dX9_lengthNow_12 : decode cX9_lengthNow 12 = .ok (.if_icmp .ge 23, 3) := by decide +kernel
theorem dX9_lengthNow_15 : decode cX9_lengthNow 15 = .ok (.iload_n 1, 1) := by decide +kernel
theorem dX9_lengthNow_16 : decode cX9_lengthNow 16 = .ok (.aload_n 0, 1) := by decide +kernel
theorem dX9_lengthNow_17 : decode cX9_lengthNow 17 = .ok (.getfield 60, 3) := by decide +kernel
theorem dX9_lengthNow_20 : decode cX9_lengthNow 20 = .ok (.bipush 12, 2) := by decide +kernel
theorem dX9_lengthNow_22 : decode cX9_lengthNow 22 = .ok (.iload_n 2, 1) := by decide +kernel
theorem dX9_lengthNow_23 : decode cX9_lengthNow 23 = .ok (.iadd, 1) := by decide +kernel
theorem dX9_lengthNow_24 : decode cX9_lengthNow 24 = .ok (.iaload, 1) := by decide +kernel
theorem dX9_lengthNow_25 : decode cX9_lengthNow 25 = .ok (.invokestatic 179, 3) := by decide +kernel
theorem dX9_lengthNow_28 : decode cX9_lengthNow 28 = .ok (.istore_n 1, 1) := by decide +kernel
theorem dX9_lengthNow_29 : decode cX9_lengthNow 29 = .ok (.iinc 2 1, 3) := by decide +kernel
theorem dX9_lengthNow_32 : decode cX9_lengthNow 32 = .ok (.goto (-28), 3) := by decide +kernel
theorem dX9_lengthNow_35 : decode cX9_lengthNow 35 = .ok (.iload_n 1, 1) := by decide +kernel
theorem dX9_lengthNow_36 : decode cX9_lengthNow 36 = .ok (.ireturn, 1) := by decide +kernel
set_option maxRecDepth 20000 in
theorem ggX9_cheapAt_X9_know : GoodIn wsX9_cheapAt wsX9_know := goodIn_r _ [11, 12, 13, 14, 15, 16, 1, 17, 18, 19, 10, 20, 21, 22, 23, 24, 25, 26, 27, 28, 29, 30, 31, 32, 33, 34, 5, 35, 36, 37, 38, 39, 40, 41, 42, 43, 44, 45, 46, 47, 48, 49, 50, 51, 52, 53, 54, 55, 56, 57, 58, 59, 60, 61, 62, 63, 64, 65, 66, 67, 68, 69, 70, 71, 72, 73, 74, 75, 76, 77, 78, 79, 80, 81, 82, 83, 84, 85, 86, 87, 88, 89, 90, 91, 92, 3, 4, 6, 93, 94, 95, 96, 97, 98, 99, 100, 101, 102, 103, 104, 105, 106, 107, 108, 109, 110, 111, 112, 113, 114, 115, 116, 117, 118, 119, 120, 121, 122, 123, 124, 125, 126, 127, 128, 129, 130, 131, 132, 133] (by decide +kernel) (by decide +kernel)
set_option maxRecDepth 20000 in
theorem gX9_cheapAt_X9_know : GoodIn wsX9_cheapAt (wsV RX9 251 RX9 yX9_know wsX9_know) := goodIn_app (goodIn_of _ (by decide +kernel)) ggX9_cheapAt_X9_know
theorem dX9_cheapAt_0 : decode cX9_cheapAt 0 = .ok (.aload_n 0, 1) := by decide +kernel
theorem dX9_cheapAt_1 : decode cX9_cheapAt 1 = .ok (.invokevirtual 251, 3) := by decide +kernel
theorem dX9_cheapAt_4 : decode cX9_cheapAt 4 = .ok (.aload_n 0, 1) := by decide +kernel
theorem dX9_cheapAt_5 : decode cX9_cheapAt 5 = .ok (.getfield 78, 3) := by decide +kernel
theorem dX9_cheapAt_8 : decode cX9_cheapAt 8 = .ok (.lload_n 1, 1) := by decide +kernel
theorem dX9_cheapAt_9 : decode cX9_cheapAt 9 = .ok (.ldc2_w 254, 3) := by decide +kernel
theorem dX9_cheapAt_12 : decode cX9_cheapAt 12 = .ok (.invokestatic 228, 3) := by decide +kernel
theorem dX9_cheapAt_15 : decode cX9_cheapAt 15 = .ok (.l2i, 1) := by decide +kernel
theorem dX9_cheapAt_16 : decode cX9_cheapAt 16 = .ok (.laload, 1) := by decide +kernel
theorem dX9_cheapAt_17 : decode cX9_cheapAt 17 = .ok (.lreturn, 1) := by decide +kernel
set_option maxRecDepth 20000 in
theorem ggX9_cheapest_X9_in : GoodIn wsX9_cheapest wsX9_in := goodIn_r _ [6] (by decide +kernel) (by decide +kernel)
set_option maxRecDepth 20000 in
theorem gX9_cheapest_X9_in : GoodIn wsX9_cheapest (va_wsS RX9 97 yX9_in wsX9_in) := goodIn_app (goodIn_of _ (by decide +kernel)) ggX9_cheapest_X9_in
set_option maxRecDepth 20000 in
theorem ggX9_cheapest_X9_found : GoodIn wsX9_cheapest wsX9_found := goodIn_r _ [10, 11, 107, 108, 109, 110, 111, 112, 113, 114, 115, 116, 117, 118, 119, 120, 121, 122, 123, 124, 125, 126, 127, 128, 129, 130, 131, 132, 133, 134, 135, 136, 137, 138] (by decide +kernel) (by decide +kernel)
set_option maxRecDepth 20000 in
theorem gX9_cheapest_X9_found : GoodIn wsX9_cheapest (wsV RX9 107 RX9 yX9_found wsX9_found) := goodIn_app (goodIn_of _ (by decide +kernel)) ggX9_cheapest_X9_found
set_option maxRecDepth 20000 in
theorem ggX9_cheapest_X9_know : GoodIn wsX9_cheapest wsX9_know := goodIn_r _ [15, 16, 2, 17, 18, 19, 20, 21, 22, 23, 5, 24, 25, 26, 27, 28, 29, 30, 31, 32, 33, 34, 35, 36, 37, 38, 39, 40, 41, 42, 43, 44, 45, 46, 47, 48, 49, 50, 51, 52, 53, 54, 3, 4, 6, 55, 56, 57, 58, 59, 60, 61, 62, 63, 64, 65, 66, 67, 68, 69, 70, 71, 72, 73, 74, 75, 76, 77, 78, 79, 80, 81, 82, 83, 84, 85, 86, 87, 88, 89, 90, 91, 92, 93, 94, 95, 96, 97, 98, 99, 100, 101, 107, 108, 109, 110, 111, 112, 113, 114, 115, 116, 117, 118, 119, 120, 121, 122, 123, 124, 125, 126, 127, 128, 129, 130, 131, 132, 133, 134, 135, 136, 137, 138, 139, 140, 141, 142, 143] (by decide +kernel) (by decide +kernel)
set_option maxRecDepth 20000 in
theorem gX9_cheapest_X9_know : GoodIn wsX9_cheapest (wsV RX9 251 RX9 yX9_know wsX9_know) := goodIn_app (goodIn_of _ (by decide +kernel)) ggX9_cheapest_X9_know
set_option maxRecDepth 20000 in
theorem ggX9_cheapest_X9_cheapAt : GoodIn wsX9_cheapest wsX9_cheapAt := goodIn_r _ [105, 20, 106, 95, 96, 39, 97, 12, 13, 14, 5, 15, 16, 2, 17, 18, 19, 21, 22, 23, 24, 25, 26, 27, 28, 29, 30, 31, 32, 33, 34, 35, 36, 37, 38, 40, 41, 42, 43, 44, 45, 46, 47, 48, 49, 50, 51, 52, 53, 54, 3, 4, 6, 55, 56, 57, 58, 59, 60, 61, 62, 63, 64, 65, 66, 67, 68, 69, 70, 71, 72, 73, 74, 75, 76, 77, 78, 79, 80, 81, 82, 83, 84, 85, 86, 87, 88, 89, 90, 91, 92, 93, 94, 98, 99, 100, 101, 107, 108, 109, 110, 111, 112, 113, 114, 115, 116, 117, 118, 119, 120, 121, 122, 123, 124, 125, 126, 127, 128, 129, 130, 131, 132, 133, 134, 135, 136, 137, 138, 139, 140, 141, 142, 143] (by decide +kernel) (by decide +kernel)
set_option maxRecDepth 20000 in
theorem gX9_cheapest_X9_cheapAt : GoodIn wsX9_cheapest (wsV RX9 258 RX9 yX9_cheapAt wsX9_cheapAt) := goodIn_app (goodIn_of _ (by decide +kernel)) ggX9_cheapest_X9_cheapAt
theorem dX9_cheapest_0 : decode cX9_cheapest 0 = .ok (.iload_n 2, 1) := by decide +kernel
theorem dX9_cheapest_1 : decode cX9_cheapest 1 = .ok (.i2l, 1) := by decide +kernel
theorem dX9_cheapest_2 : decode cX9_cheapest 2 = .ok (.lconst 1, 1) := by decide +kernel
theorem dX9_cheapest_3 : decode cX9_cheapest 3 = .ok (.ldc2_w 256, 3) := by decide +kernel
theorem dX9_cheapest_6 : decode cX9_cheapest 6 = .ok (.invokestatic 97, 3) := by decide +kernel
theorem dX9_cheapest_9 : decode cX9_cheapest 9 = .ok (.ifCond .ne 11, 3) := by decide +kernel
theorem dX9_cheapest_12 : decode cX9_cheapest 12 = .ok (.aload_n 0, 1) := by decide +kernel
theorem dX9_cheapest_13 : decode cX9_cheapest 13 = .ok (.bipush (-3), 2) := by decide +kernel
theorem dX9_cheapest_15 : decode cX9_cheapest 15 = .ok (.invokevirtual 107, 3) := by decide +kernel
theorem dX9_cheapest_18 : decode cX9_cheapest 18 = .ok (.i2l, 1) := by decide +kernel
theorem dX9_cheapest_19 : decode cX9_cheapest 19 = .ok (.lreturn, 1) := by decide +kernel
theorem dX9_cheapest_20 : decode cX9_cheapest 20 = .ok (.aload_n 0, 1) := by decide +kernel
theorem dX9_cheapest_21 : decode cX9_cheapest 21 = .ok (.invokevirtual 251, 3) := by decide +kernel
theorem dX9_cheapest_24 : decode cX9_cheapest 24 = .ok (.iload_n 1, 1) := by decide +kernel
theorem dX9_cheapest_25 : decode cX9_cheapest 25 = .ok (.i2l, 1) := by decide +kernel
theorem dX9_cheapest_26 : decode cX9_cheapest 26 = .ok (.iload_n 2, 1) := by decide +kernel
theorem dX9_cheapest_27 : decode cX9_cheapest 27 = .ok (.i2l, 1) := by decide +kernel
theorem dX9_cheapest_28 : decode cX9_cheapest 28 = .ok (.aload_n 0, 1) := by decide +kernel
theorem dX9_cheapest_29 : decode cX9_cheapest 29 = .ok (.getfield 235, 3) := by decide +kernel
theorem dX9_cheapest_32 : decode cX9_cheapest 32 = .ok (.i2l, 1) := by decide +kernel
theorem dX9_cheapest_33 : decode cX9_cheapest 33 = .ok (.lmul, 1) := by decide +kernel
theorem dX9_cheapest_34 : decode cX9_cheapest 34 = .ok (.lcmp, 1) := by decide +kernel
theorem dX9_cheapest_35 : decode cX9_cheapest 35 = .ok (.ifCond .ge 11, 3) := by decide +kernel
theorem dX9_cheapest_38 : decode cX9_cheapest 38 = .ok (.aload_n 0, 1) := by decide +kernel
theorem dX9_cheapest_39 : decode cX9_cheapest 39 = .ok (.bipush (-8), 2) := by decide +kernel
theorem dX9_cheapest_41 : decode cX9_cheapest 41 = .ok (.invokevirtual 107, 3) := by decide +kernel
theorem dX9_cheapest_44 : decode cX9_cheapest 44 = .ok (.i2l, 1) := by decide +kernel
theorem dX9_cheapest_45 : decode cX9_cheapest 45 = .ok (.lreturn, 1) := by decide +kernel
theorem dX9_cheapest_46 : decode cX9_cheapest 46 = .ok (.iload_n 1, 1) := by decide +kernel
theorem dX9_cheapest_47 : decode cX9_cheapest 47 = .ok (.iload_n 2, 1) := by decide +kernel
theorem dX9_cheapest_48 : decode cX9_cheapest 48 = .ok (.idiv, 1) := by decide +kernel
theorem dX9_cheapest_49 : decode cX9_cheapest 49 = .ok (.istore_n 3, 1) := by decide +kernel
theorem dX9_cheapest_50 : decode cX9_cheapest 50 = .ok (.iload_n 2, 1) := by decide +kernel
theorem dX9_cheapest_51 : decode cX9_cheapest 51 = .ok (.i2l, 1) := by decide +kernel
theorem dX9_cheapest_52 : decode cX9_cheapest 52 = .ok (.aload_n 0, 1) := by decide +kernel
theorem dX9_cheapest_53 : decode cX9_cheapest 53 = .ok (.iload_n 3, 1) := by decide +kernel
theorem dX9_cheapest_54 : decode cX9_cheapest 54 = .ok (.i2l, 1) := by decide +kernel
theorem dX9_cheapest_55 : decode cX9_cheapest 55 = .ok (.invokevirtual 258, 3) := by decide +kernel
theorem dX9_cheapest_58 : decode cX9_cheapest 58 = .ok (.lmul, 1) := by decide +kernel
theorem dX9_cheapest_59 : decode cX9_cheapest 59 = .ok (.iload_n 1, 1) := by decide +kernel
theorem dX9_cheapest_60 : decode cX9_cheapest 60 = .ok (.i2l, 1) := by decide +kernel
theorem dX9_cheapest_61 : decode cX9_cheapest 61 = .ok (.iload_n 2, 1) := by decide +kernel
theorem dX9_cheapest_62 : decode cX9_cheapest 62 = .ok (.i2l, 1) := by decide +kernel
theorem dX9_cheapest_63 : decode cX9_cheapest 63 = .ok (.iload_n 3, 1) := by decide +kernel
theorem dX9_cheapest_64 : decode cX9_cheapest 64 = .ok (.i2l, 1) := by decide +kernel
theorem dX9_cheapest_65 : decode cX9_cheapest 65 = .ok (.lmul, 1) := by decide +kernel
theorem dX9_cheapest_66 : decode cX9_cheapest 66 = .ok (.lsub, 1) := by decide +kernel
theorem dX9_cheapest_67 : decode cX9_cheapest 67 = .ok (.aload_n 0, 1) := by decide +kernel
theorem dX9_cheapest_68 : decode cX9_cheapest 68 = .ok (.iload_n 3, 1) := by decide +kernel
theorem dX9_cheapest_69 : decode cX9_cheapest 69 = .ok (.i2l, 1) := by decide +kernel
theorem dX9_cheapest_70 : decode cX9_cheapest 70 = .ok (.lconst 1, 1) := by decide +kernel
theorem dX9_cheapest_71 : decode cX9_cheapest 71 = .ok (.ladd, 1) := by decide +kernel
theorem dX9_cheapest_72 : decode cX9_cheapest 72 = .ok (.invokevirtual 258, 3) := by decide +kernel
theorem dX9_cheapest_75 : decode cX9_cheapest 75 = .ok (.aload_n 0, 1) := by decide +kernel
theorem dX9_cheapest_76 : decode cX9_cheapest 76 = .ok (.iload_n 3, 1) := by decide +kernel
theorem dX9_cheapest_77 : decode cX9_cheapest 77 = .ok (.i2l, 1) := by decide +kernel
theorem dX9_cheapest_78 : decode cX9_cheapest 78 = .ok (.invokevirtual 258, 3) := by decide +kernel
theorem dX9_cheapest_81 : decode cX9_cheapest 81 = .ok (.lsub, 1) := by decide +kernel
theorem dX9_cheapest_82 : decode cX9_cheapest 82 = .ok (.lmul, 1) := by decide +kernel
theorem dX9_cheapest_83 : decode cX9_cheapest 83 = .ok (.ladd, 1) := by decide +kernel
theorem dX9_cheapest_84 : decode cX9_cheapest 84 = .ok (.lreturn, 1) := by decide +kernel
set_option maxRecDepth 20000 in
theorem ggX9_noLength_X9_know : GoodIn wsX9_noLength wsX9_know := goodIn_r _ [6, 7, 1, 8, 9, 10, 11, 12, 13, 14, 5, 15, 16, 17, 18, 19, 20, 21, 22, 23, 24, 25, 26, 27, 28, 29, 30, 31, 32, 33, 34, 35, 36, 37, 38, 39, 40, 41, 42, 43, 44, 45, 46, 47, 48, 49, 50, 51, 52, 53, 54, 55, 56, 57, 58, 59, 60, 61, 62, 63, 64, 65, 66, 67, 68, 69, 70, 71, 72, 73, 74, 75, 76, 77, 78, 79, 80, 81, 82, 83, 84, 85, 86, 87, 88, 89, 90, 91, 92, 93, 94, 95, 96, 97, 98, 99, 100, 101, 102, 103, 104, 105, 106, 107, 108, 109, 110, 111, 112, 113, 114, 115, 116, 117, 118, 119, 120, 121, 122, 123, 124, 125, 126, 127, 128, 129, 130, 131, 132] (by decide +kernel) (by decide +kernel)
set_option maxRecDepth 20000 in
theorem gX9_noLength_X9_know : GoodIn wsX9_noLength (wsV RX9 251 RX9 yX9_know wsX9_know) := goodIn_app (goodIn_of _ (by decide +kernel)) ggX9_noLength_X9_know
theorem dX9_noLength_0 : decode cX9_noLength 0 = .ok (.aload_n 0, 1) := by decide +kernel
theorem dX9_noLength_1 : decode cX9_noLength 1 = .ok (.invokevirtual 251, 3) := by decide +kernel
theorem dX9_noLength_4 : decode cX9_noLength 4 = .ok (.iload_n 1, 1) := by decide +kernel
theorem dX9_noLength_5 : decode cX9_noLength 5 = .ok (.aload_n 0, 1) := by decide +kernel
theorem dX9_noLength_6 : decode cX9_noLength 6 = .ok (.getfield 235, 3) := by decide +kernel
theorem dX9_noLength_9 : decode cX9_noLength 9 = .ok (.if_icmp .ge 8, 3) := by decide +kernel
theorem dX9_noLength_12 : decode cX9_noLength 12 = .ok (.bipush (-8), 2) := by decide +kernel
theorem dX9_noLength_14 : decode cX9_noLength 14 = .ok (.goto 15, 3) := by decide +kernel
theorem dX9_noLength_17 : decode cX9_noLength 17 = .ok (.iload_n 1, 1) := by decide +kernel
theorem dX9_noLength_18 : decode cX9_noLength 18 = .ok (.sipush 1000, 3) := by decide +kernel
theorem dX9_noLength_21 : decode cX9_noLength 21 = .ok (.if_icmp .le 7, 3) := by decide +kernel
theorem dX9_noLength_24 : decode cX9_noLength 24 = .ok (.iconst (-1), 1) := by decide +kernel
theorem dX9_noLength_25 : decode cX9_noLength 25 = .ok (.goto 4, 3) := by decide +kernel
theorem dX9_noLength_28 : decode cX9_noLength 28 = .ok (.iconst 0, 1) := by decide +kernel
theorem dX9_noLength_29 : decode cX9_noLength 29 = .ok (.ireturn, 1) := by decide +kernel
set_option maxRecDepth 20000 in
theorem ggX9_slope_X9_noLength : GoodIn wsX9_slope wsX9_noLength := goodIn_r _ [5, 6, 7, 8, 9, 4, 10, 11, 12, 13, 14, 15, 16, 17, 18, 19, 20, 21, 22, 23, 24, 25, 26, 27, 28, 29, 30, 31, 32, 33, 34, 35, 36, 37, 38, 39, 40, 41, 42, 43, 44, 45, 46, 47, 48, 49, 50, 51, 52, 53, 54, 55, 56, 57, 58, 59, 60, 61, 62, 63, 64, 65, 66, 67, 68, 69, 70, 71, 72, 73, 74, 75, 76, 77, 78, 79, 80, 81, 82, 83, 84, 85, 86, 87, 88, 89, 90, 91, 92, 93, 94, 95, 96, 97, 98, 99, 110, 111, 112, 113, 114, 115, 116, 117, 118, 119, 120, 121, 122, 123, 124, 125, 126, 127, 128, 129, 130, 131, 132, 133, 134, 135, 136, 137, 138, 139, 140, 141, 142, 143, 144, 145, 146] (by decide +kernel) (by decide +kernel)
set_option maxRecDepth 20000 in
theorem gX9_slope_X9_noLength : GoodIn wsX9_slope (wsV RX9 262 RX9 yX9_noLength wsX9_noLength) := goodIn_app (goodIn_of _ (by decide +kernel)) ggX9_slope_X9_noLength
set_option maxRecDepth 20000 in
theorem ggX9_slope_X9_found : GoodIn wsX9_slope wsX9_found := goodIn_r _ [103, 104, 110, 111, 112, 113, 114, 115, 116, 117, 118, 119, 120, 121, 122, 123, 124, 125, 126, 127, 128, 129, 130, 131, 132, 133, 134, 135, 136, 137, 138, 139, 140, 141] (by decide +kernel) (by decide +kernel)
set_option maxRecDepth 20000 in
theorem gX9_slope_X9_found : GoodIn wsX9_slope (wsV RX9 107 RX9 yX9_found wsX9_found) := goodIn_app (goodIn_of _ (by decide +kernel)) ggX9_slope_X9_found
set_option maxRecDepth 20000 in
theorem ggX9_slope_X9_cheapAt : GoodIn wsX9_slope wsX9_cheapAt := goodIn_r _ [108, 15, 109, 93, 94, 34, 95, 7, 8, 9, 4, 10, 11, 6, 12, 13, 14, 16, 17, 18, 19, 20, 21, 22, 23, 24, 25, 26, 27, 28, 29, 30, 31, 32, 33, 35, 36, 37, 38, 39, 40, 41, 42, 43, 44, 45, 46, 47, 48, 49, 50, 51, 52, 53, 54, 55, 56, 57, 58, 59, 60, 61, 62, 63, 64, 65, 66, 67, 68, 69, 70, 71, 72, 73, 74, 75, 76, 77, 78, 79, 80, 81, 82, 83, 84, 85, 86, 87, 88, 89, 90, 91, 92, 96, 97, 98, 99, 110, 111, 112, 113, 114, 115, 116, 117, 118, 119, 120, 121, 122, 123, 124, 125, 126, 127, 128, 129, 130, 131, 132, 133, 134, 135, 136, 137, 138, 139, 140, 141, 142, 143, 144, 145, 146] (by decide +kernel) (by decide +kernel)
set_option maxRecDepth 20000 in
theorem gX9_slope_X9_cheapAt : GoodIn wsX9_slope (wsV RX9 258 RX9 yX9_cheapAt wsX9_cheapAt) := goodIn_app (goodIn_of _ (by decide +kernel)) ggX9_slope_X9_cheapAt
theorem dX9_slope_0 : decode cX9_slope 0 = .ok (.aload_n 0, 1) := by decide +kernel
theorem dX9_slope_1 : decode cX9_slope 1 = .ok (.iload_n 1, 1) := by decide +kernel
theorem dX9_slope_2 : decode cX9_slope 2 = .ok (.invokevirtual 262, 3) := by decide +kernel
theorem dX9_slope_5 : decode cX9_slope 5 = .ok (.istore_n 2, 1) := by decide +kernel
theorem dX9_slope_6 : decode cX9_slope 6 = .ok (.iload_n 2, 1) := by decide +kernel
theorem dX9_slope_7 : decode cX9_slope 7 = .ok (.ifCond .eq 12, 3) := by decide +kernel
theorem dX9_slope_10 : decode cX9_slope 10 = .ok (.aload_n 0, 1) := by decide +kernel
theorem dX9_slope_11 : decode cX9_slope 11 = .ok (.iload_n 2, 1) := by decide +kernel
theorem dX9_slope_12 : decode cX9_slope 12 = .ok (.invokevirtual 107, 3) := by decide +kernel
theorem dX9_slope_15 : decode cX9_slope 15 = .ok (.i2l, 1) := by decide +kernel
theorem dX9_slope_16 : decode cX9_slope 16 = .ok (.goto 18, 3) := by decide +kernel
theorem dX9_slope_19 : decode cX9_slope 19 = .ok (.aload_n 0, 1) := by decide +kernel
theorem dX9_slope_20 : decode cX9_slope 20 = .ok (.iload_n 1, 1) := by decide +kernel
theorem dX9_slope_21 : decode cX9_slope 21 = .ok (.i2l, 1) := by decide +kernel
theorem dX9_slope_22 : decode cX9_slope 22 = .ok (.invokevirtual 258, 3) := by decide +kernel
theorem dX9_slope_25 : decode cX9_slope 25 = .ok (.aload_n 0, 1) := by decide +kernel
theorem dX9_slope_26 : decode cX9_slope 26 = .ok (.iload_n 1, 1) := by decide +kernel
theorem dX9_slope_27 : decode cX9_slope 27 = .ok (.i2l, 1) := by decide +kernel
theorem dX9_slope_28 : decode cX9_slope 28 = .ok (.lconst 1, 1) := by decide +kernel
theorem dX9_slope_29 : decode cX9_slope 29 = .ok (.ladd, 1) := by decide +kernel
theorem dX9_slope_30 : decode cX9_slope 30 = .ok (.invokevirtual 258, 3) := by decide +kernel
theorem dX9_slope_33 : decode cX9_slope 33 = .ok (.lsub, 1) := by decide +kernel
theorem dX9_slope_34 : decode cX9_slope 34 = .ok (.lreturn, 1) := by decide +kernel
set_option maxRecDepth 20000 in
theorem ggX9_isBend_X9_cheapAt : GoodIn wsX9_isBend wsX9_cheapAt := goodIn_r _ [6, 7, 8, 9, 10, 11, 12, 13, 14, 15, 5, 16, 17, 1, 18, 19, 20, 21, 22, 23, 24, 25, 26, 27, 28, 29, 30, 31, 32, 33, 34, 35, 36, 37, 38, 39, 40, 41, 42, 43, 44, 45, 46, 47, 48, 49, 50, 51, 52, 53, 54, 55, 56, 57, 58, 59, 60, 61, 62, 63, 64, 65, 66, 67, 68, 69, 70, 71, 72, 73, 74, 75, 76, 77, 78, 79, 80, 81, 82, 83, 84, 85, 86, 87, 88, 89, 90, 91, 92, 93, 94, 95, 96, 97, 98, 99, 100, 101, 102, 103, 104, 105, 106, 107, 108, 109, 110, 111, 112, 113, 114, 115, 116, 117, 118, 119, 120, 121, 122, 123, 124, 125, 126, 127, 128, 129, 130, 131, 132, 133, 134, 135, 136, 137] (by decide +kernel) (by decide +kernel)
set_option maxRecDepth 20000 in
theorem gX9_isBend_X9_cheapAt : GoodIn wsX9_isBend (wsV RX9 258 RX9 yX9_cheapAt wsX9_cheapAt) := goodIn_app (goodIn_of _ (by decide +kernel)) ggX9_isBend_X9_cheapAt
theorem dX9_isBend_0 : decode cX9_isBend 0 = .ok (.iload_n 1, 1) := by decide +kernel
theorem dX9_isBend_1 : decode cX9_isBend 1 = .ok (.aload_n 0, 1) := by decide +kernel
theorem dX9_isBend_2 : decode cX9_isBend 2 = .ok (.getfield 235, 3) := by decide +kernel
theorem dX9_isBend_5 : decode cX9_isBend 5 = .ok (.if_icmp .eq 37, 3) := by decide +kernel
theorem dX9_isBend_8 : decode cX9_isBend 8 = .ok (.aload_n 0, 1) := by decide +kernel
theorem dX9_isBend_9 : decode cX9_isBend 9 = .ok (.iload_n 1, 1) := by decide +kernel
theorem dX9_isBend_10 : decode cX9_isBend 10 = .ok (.i2l, 1) := by decide +kernel
theorem dX9_isBend_11 : decode cX9_isBend 11 = .ok (.lconst 1, 1) := by decide +kernel
theorem dX9_isBend_12 : decode cX9_isBend 12 = .ok (.lsub, 1) := by decide +kernel
theorem dX9_isBend_13 : decode cX9_isBend 13 = .ok (.invokevirtual 258, 3) := by decide +kernel
theorem dX9_isBend_16 : decode cX9_isBend 16 = .ok (.aload_n 0, 1) := by decide +kernel
theorem dX9_isBend_17 : decode cX9_isBend 17 = .ok (.iload_n 1, 1) := by decide +kernel
theorem dX9_isBend_18 : decode cX9_isBend 18 = .ok (.i2l, 1) := by decide +kernel
theorem dX9_isBend_19 : decode cX9_isBend 19 = .ok (.invokevirtual 258, 3) := by decide +kernel
theorem dX9_isBend_22 : decode cX9_isBend 22 = .ok (.lsub, 1) := by decide +kernel
theorem dX9_isBend_23 : decode cX9_isBend 23 = .ok (.aload_n 0, 1) := by decide +kernel
theorem dX9_isBend_24 : decode cX9_isBend 24 = .ok (.iload_n 1, 1) := by decide +kernel
theorem dX9_isBend_25 : decode cX9_isBend 25 = .ok (.i2l, 1) := by decide +kernel
theorem dX9_isBend_26 : decode cX9_isBend 26 = .ok (.invokevirtual 258, 3) := by decide +kernel
theorem dX9_isBend_29 : decode cX9_isBend 29 = .ok (.aload_n 0, 1) := by decide +kernel
theorem dX9_isBend_30 : decode cX9_isBend 30 = .ok (.iload_n 1, 1) := by decide +kernel
theorem dX9_isBend_31 : decode cX9_isBend 31 = .ok (.i2l, 1) := by decide +kernel
theorem dX9_isBend_32 : decode cX9_isBend 32 = .ok (.lconst 1, 1) := by decide +kernel
theorem dX9_isBend_33 : decode cX9_isBend 33 = .ok (.ladd, 1) := by decide +kernel
theorem dX9_isBend_34 : decode cX9_isBend 34 = .ok (.invokevirtual 258, 3) := by decide +kernel
theorem dX9_isBend_37 : decode cX9_isBend 37 = .ok (.lsub, 1) := by decide +kernel
theorem dX9_isBend_38 : decode cX9_isBend 38 = .ok (.lcmp, 1) := by decide +kernel
theorem dX9_isBend_39 : decode cX9_isBend 39 = .ok (.ifCond .eq 7, 3) := by decide +kernel
theorem dX9_isBend_42 : decode cX9_isBend 42 = .ok (.iconst 1, 1) := by decide +kernel
theorem dX9_isBend_43 : decode cX9_isBend 43 = .ok (.goto 4, 3) := by decide +kernel
theorem dX9_isBend_46 : decode cX9_isBend 46 = .ok (.iconst 0, 1) := by decide +kernel
theorem dX9_isBend_47 : decode cX9_isBend 47 = .ok (.ireturn, 1) := by decide +kernel
set_option maxRecDepth 20000 in
theorem ggX9_bends_X9_know : GoodIn wsX9_bends wsX9_know := goodIn_r _ [6, 7, 1, 8, 9, 10, 11, 12, 13, 14, 5, 15, 16, 17, 18, 19, 20, 21, 22, 23, 24, 25, 26, 27, 28, 29, 30, 31, 32, 33, 34, 35, 36, 37, 38, 39, 40, 41, 42, 43, 44, 45, 46, 47, 48, 49, 50, 51, 52, 53, 54, 55, 56, 57, 58, 59, 60, 61, 62, 63, 64, 65, 66, 67, 68, 69, 70, 71, 72, 73, 74, 75, 76, 77, 78, 79, 80, 81, 82, 83, 84, 85, 86, 87, 88, 89, 90, 91, 92, 93, 94, 95, 105, 106, 107, 108, 109, 110, 111, 112, 113, 114, 115, 116, 117, 118, 119, 120, 121, 122, 123, 124, 125, 126, 127, 128, 129, 130, 131, 132, 133, 134, 135, 136, 137, 138, 139, 140, 141] (by decide +kernel) (by decide +kernel)
set_option maxRecDepth 20000 in
theorem gX9_bends_X9_know : GoodIn wsX9_bends (wsV RX9 251 RX9 yX9_know wsX9_know) := goodIn_app (goodIn_of _ (by decide +kernel)) ggX9_bends_X9_know
set_option maxRecDepth 20000 in
theorem ggX9_bends_X9_isBend : GoodIn wsX9_bends wsX9_isBend := goodIn_r _ [99, 1, 100, 101, 102, 5, 103, 11, 104, 89, 90, 30, 91, 2, 3, 4, 6, 7, 8, 9, 10, 12, 13, 14, 15, 16, 17, 18, 19, 20, 21, 22, 23, 24, 25, 26, 27, 28, 29, 31, 32, 33, 34, 35, 36, 37, 38, 39, 40, 41, 42, 43, 44, 45, 46, 47, 48, 49, 50, 51, 52, 53, 54, 55, 56, 57, 58, 59, 60, 61, 62, 63, 64, 65, 66, 67, 68, 69, 70, 71, 72, 73, 74, 75, 76, 77, 78, 79, 80, 81, 82, 83, 84, 85, 86, 87, 88, 92, 93, 94, 95, 105, 106, 107, 108, 109, 110, 111, 112, 113, 114, 115, 116, 117, 118, 119, 120, 121, 122, 123, 124, 125, 126, 127, 128, 129, 130, 131, 132, 133, 134, 135, 136, 137, 138, 139, 140, 141] (by decide +kernel) (by decide +kernel)
set_option maxRecDepth 20000 in
theorem gX9_bends_X9_isBend : GoodIn wsX9_bends (wsV RX9 265 RX9 yX9_isBend wsX9_isBend) := goodIn_app (goodIn_of _ (by decide +kernel)) ggX9_bends_X9_isBend
theorem dX9_bends_0 : decode cX9_bends 0 = .ok (.aload_n 0, 1) := by decide +kernel
theorem dX9_bends_1 : decode cX9_bends 1 = .ok (.invokevirtual 251, 3) := by decide +kernel
theorem dX9_bends_4 : decode cX9_bends 4 = .ok (.iconst 0, 1) := by decide +kernel
theorem dX9_bends_5 : decode cX9_bends 5 = .ok (.istore_n 1, 1) := by decide +kernel
theorem dX9_bends_6 : decode cX9_bends 6 = .ok (.aload_n 0, 1) := by decide +kernel
theorem dX9_bends_7 : decode cX9_bends 7 = .ok (.getfield 235, 3) := by decide +kernel
theorem dX9_bends_10 : decode cX9_bends 10 = .ok (.istore_n 2, 1) := by decide +kernel
theorem dX9_bends_11 : decode cX9_bends 11 = .ok (.iload_n 2, 1) := by decide +kernel
theorem dX9_bends_12 : decode cX9_bends 12 = .ok (.sipush 720, 3) := by decide +kernel
theorem dX9_bends_15 : decode cX9_bends 15 = .ok (.if_icmp .gt 25, 3) := by decide +kernel
theorem dX9_bends_18 : decode cX9_bends 18 = .ok (.iload_n 1, 1) := by decide +kernel
theorem dX9_bends_19 : decode cX9_bends 19 = .ok (.aload_n 0, 1) := by decide +kernel
theorem dX9_bends_20 : decode cX9_bends 20 = .ok (.iload_n 2, 1) := by decide +kernel
theorem dX9_bends_21 : decode cX9_bends 21 = .ok (.invokevirtual 265, 3) := by decide +kernel
theorem dX9_bends_24 : decode cX9_bends 24 = .ok (.ifCond .eq 7, 3) := by decide +kernel
theorem dX9_bends_27 : decode cX9_bends 27 = .ok (.iconst 1, 1) := by decide +kernel
theorem dX9_bends_28 : decode cX9_bends 28 = .ok (.goto 4, 3) := by decide +kernel
theorem dX9_bends_31 : decode cX9_bends 31 = .ok (.iconst 0, 1) := by decide +kernel
theorem dX9_bends_32 : decode cX9_bends 32 = .ok (.iadd, 1) := by decide +kernel
theorem dX9_bends_33 : decode cX9_bends 33 = .ok (.istore_n 1, 1) := by decide +kernel
theorem dX9_bends_34 : decode cX9_bends 34 = .ok (.iinc 2 1, 3) := by decide +kernel
theorem dX9_bends_37 : decode cX9_bends 37 = .ok (.goto (-26), 3) := by decide +kernel
theorem dX9_bends_40 : decode cX9_bends 40 = .ok (.iload_n 1, 1) := by decide +kernel
theorem dX9_bends_41 : decode cX9_bends 41 = .ok (.ireturn, 1) := by decide +kernel
set_option maxRecDepth 20000 in
theorem ggX9_bend_X9_know : GoodIn wsX9_bend wsX9_know := goodIn_r _ [6, 7, 1, 8, 9, 10, 11, 12, 13, 14, 5, 15, 16, 17, 18, 19, 20, 21, 22, 23, 24, 25, 26, 27, 28, 29, 30, 31, 32, 33, 34, 35, 36, 37, 38, 39, 40, 41, 42, 43, 44, 45, 46, 47, 48, 49, 50, 51, 52, 53, 54, 55, 56, 57, 58, 59, 60, 61, 62, 63, 64, 65, 66, 67, 68, 69, 70, 71, 72, 73, 74, 75, 76, 77, 78, 79, 80, 81, 82, 83, 84, 85, 86, 87, 88, 89, 90, 91, 92, 93, 94, 95, 110, 111, 112, 113, 114, 115, 116, 117, 118, 119, 120, 121, 122, 123, 124, 125, 126, 127, 128, 129, 130, 131, 132, 133, 134, 135, 136, 137, 138, 139, 140, 141, 142, 143, 144, 145, 146] (by decide +kernel) (by decide +kernel)
set_option maxRecDepth 20000 in
theorem gX9_bend_X9_know : GoodIn wsX9_bend (wsV RX9 251 RX9 yX9_know wsX9_know) := goodIn_app (goodIn_of _ (by decide +kernel)) ggX9_bend_X9_know
set_option maxRecDepth 20000 in
theorem ggX9_bend_X9_isBend : GoodIn wsX9_bend wsX9_isBend := goodIn_r _ [99, 1, 100, 101, 102, 5, 103, 11, 104, 89, 90, 30, 91, 2, 3, 4, 6, 7, 8, 9, 10, 12, 13, 14, 15, 16, 17, 18, 19, 20, 21, 22, 23, 24, 25, 26, 27, 28, 29, 31, 32, 33, 34, 35, 36, 37, 38, 39, 40, 41, 42, 43, 44, 45, 46, 47, 48, 49, 50, 51, 52, 53, 54, 55, 56, 57, 58, 59, 60, 61, 62, 63, 64, 65, 66, 67, 68, 69, 70, 71, 72, 73, 74, 75, 76, 77, 78, 79, 80, 81, 82, 83, 84, 85, 86, 87, 88, 92, 93, 94, 95, 110, 111, 112, 113, 114, 115, 116, 117, 118, 119, 120, 121, 122, 123, 124, 125, 126, 127, 128, 129, 130, 131, 132, 133, 134, 135, 136, 137, 138, 139, 140, 141, 142, 143, 144, 145, 146] (by decide +kernel) (by decide +kernel)
set_option maxRecDepth 20000 in
theorem gX9_bend_X9_isBend : GoodIn wsX9_bend (wsV RX9 265 RX9 yX9_isBend wsX9_isBend) := goodIn_app (goodIn_of _ (by decide +kernel)) ggX9_bend_X9_isBend
set_option maxRecDepth 20000 in
theorem ggX9_bend_X9_found : GoodIn wsX9_bend wsX9_found := goodIn_r _ [108, 109, 110, 111, 112, 113, 114, 115, 116, 117, 118, 119, 120, 121, 122, 123, 124, 125, 126, 127, 128, 129, 130, 131, 132, 133, 134, 135, 136, 137, 138, 139, 140, 141] (by decide +kernel) (by decide +kernel)
set_option maxRecDepth 20000 in
theorem gX9_bend_X9_found : GoodIn wsX9_bend (wsV RX9 107 RX9 yX9_found wsX9_found) := goodIn_app (goodIn_of _ (by decide +kernel)) ggX9_bend_X9_found
theorem dX9_bend_0 : decode cX9_bend 0 = .ok (.aload_n 0, 1) := by decide +kernel
theorem dX9_bend_1 : decode cX9_bend 1 = .ok (.invokevirtual 251, 3) := by decide +kernel
theorem dX9_bend_4 : decode cX9_bend 4 = .ok (.iload_n 1, 1) := by decide +kernel
theorem dX9_bend_5 : decode cX9_bend 5 = .ok (.istore_n 2, 1) := by decide +kernel
theorem dX9_bend_6 : decode cX9_bend 6 = .ok (.aload_n 0, 1) := by decide +kernel
theorem dX9_bend_7 : decode cX9_bend 7 = .ok (.getfield 235, 3) := by decide +kernel
theorem dX9_bend_10 : decode cX9_bend 10 = .ok (.istore_n 3, 1) := by decide +kernel
theorem dX9_bend_11 : decode cX9_bend 11 = .ok (.iload_n 3, 1) := by decide +kernel
theorem dX9_bend_12 : decode cX9_bend 12 = .ok (.sipush 720, 3) := by decide +kernel
theorem dX9_bend_15 : decode cX9_bend 15 = .ok (.if_icmp .gt 33, 3) := by decide +kernel
theorem dX9_bend_18 : decode cX9_bend 18 = .ok (.iload_n 1, 1) := by decide +kernel
theorem dX9_bend_19 : decode cX9_bend 19 = .ok (.ifCond .lt 29, 3) := by decide +kernel
theorem dX9_bend_22 : decode cX9_bend 22 = .ok (.aload_n 0, 1) := by decide +kernel
theorem dX9_bend_23 : decode cX9_bend 23 = .ok (.iload_n 3, 1) := by decide +kernel
theorem dX9_bend_24 : decode cX9_bend 24 = .ok (.invokevirtual 265, 3) := by decide +kernel
theorem dX9_bend_27 : decode cX9_bend 27 = .ok (.ifCond .ne 6, 3) := by decide +kernel
theorem dX9_bend_30 : decode cX9_bend 30 = .ok (.goto 12, 3) := by decide +kernel
theorem dX9_bend_33 : decode cX9_bend 33 = .ok (.iload_n 2, 1) := by decide +kernel
theorem dX9_bend_34 : decode cX9_bend 34 = .ok (.ifCond .ne 5, 3) := by decide +kernel
theorem dX9_bend_37 : decode cX9_bend 37 = .ok (.iload_n 3, 1) := by decide +kernel
theorem dX9_bend_38 : decode cX9_bend 38 = .ok (.ireturn, 1) := by decide +kernel
theorem dX9_bend_39 : decode cX9_bend 39 = .ok (.iinc 2 (-1), 3) := by decide +kernel
theorem dX9_bend_42 : decode cX9_bend 42 = .ok (.iinc 3 1, 3) := by decide +kernel
theorem dX9_bend_45 : decode cX9_bend 45 = .ok (.goto (-34), 3) := by decide +kernel
theorem dX9_bend_48 : decode cX9_bend 48 = .ok (.aload_n 0, 1) := by decide +kernel
theorem dX9_bend_49 : decode cX9_bend 49 = .ok (.bipush (-7), 2) := by decide +kernel
theorem dX9_bend_51 : decode cX9_bend 51 = .ok (.invokevirtual 107, 3) := by decide +kernel
theorem dX9_bend_54 : decode cX9_bend 54 = .ok (.ireturn, 1) := by decide +kernel
theorem dX9_common_0 : decode cX9_common 0 = .ok (.lload_n 0, 1) := by decide +kernel
theorem dX9_common_1 : decode cX9_common 1 = .ok (.lstore 4, 2) := by decide +kernel
theorem dX9_common_3 : decode cX9_common 3 = .ok (.lload_n 2, 1) := by decide +kernel
theorem dX9_common_4 : decode cX9_common 4 = .ok (.lstore 6, 2) := by decide +kernel
theorem dX9_common_6 : decode cX9_common 6 = .ok (.lload 6, 2) := by decide +kernel
theorem dX9_common_8 : decode cX9_common 8 = .ok (.lconst 0, 1) := by decide +kernel
theorem dX9_common_9 : decode cX9_common 9 = .ok (.lcmp, 1) := by decide +kernel
theorem dX9_common_10 : decode cX9_common 10 = .ok (.ifCond .le 21, 3) := by decide +kernel
theorem dX9_common_13 : decode cX9_common 13 = .ok (.lload 4, 2) := by decide +kernel
theorem dX9_common_15 : decode cX9_common 15 = .ok (.lload 6, 2) := by decide +kernel
theorem dX9_common_17 : decode cX9_common 17 = .ok (.lrem, 1) := by decide +kernel
theorem dX9_common_18 : decode cX9_common 18 = .ok (.lstore 8, 2) := by decide +kernel
theorem dX9_common_20 : decode cX9_common 20 = .ok (.lload 6, 2) := by decide +kernel
theorem dX9_common_22 : decode cX9_common 22 = .ok (.lstore 4, 2) := by decide +kernel
theorem dX9_common_24 : decode cX9_common 24 = .ok (.lload 8, 2) := by decide +kernel
theorem dX9_common_26 : decode cX9_common 26 = .ok (.lstore 6, 2) := by decide +kernel
theorem dX9_common_28 : decode cX9_common 28 = .ok (.goto (-22), 3) := by decide +kernel
theorem dX9_common_31 : decode cX9_common 31 = .ok (.lload 4, 2) := by decide +kernel
theorem dX9_common_33 : decode cX9_common 33 = .ok (.lreturn, 1) := by decide +kernel
set_option maxRecDepth 20000 in
theorem ggX9_within_X9_know : GoodIn wsX9_within wsX9_know := goodIn_r _ [8, 9, 2, 10, 11, 12, 13, 14, 15, 16, 7, 17, 18, 19, 20, 21, 22, 23, 24, 25, 26, 27, 28, 29, 30, 31, 32, 33, 34, 35, 36, 37, 38, 39, 40, 41, 42, 43, 44, 45, 46, 47, 48, 49, 50, 51, 52, 53, 54, 55, 56, 57, 58, 59, 60, 61, 62, 63, 64, 65, 66, 67, 68, 69, 70, 71, 72, 73, 74, 75, 76, 77, 78, 79, 80, 81, 82, 83, 84, 85, 86, 87, 88, 89, 90, 91, 92, 93, 94, 95, 96, 97, 110, 111, 112, 113, 114, 115, 116, 117, 118, 119, 120, 121, 122, 123, 124, 125, 126, 127, 128, 129, 130, 131, 132, 133, 134, 135, 136, 137, 138, 139, 140, 141, 142, 143, 144, 145, 146] (by decide +kernel) (by decide +kernel)
set_option maxRecDepth 20000 in
theorem gX9_within_X9_know : GoodIn wsX9_within (wsV RX9 251 RX9 yX9_know wsX9_know) := goodIn_app (goodIn_of _ (by decide +kernel)) ggX9_within_X9_know
set_option maxRecDepth 20000 in
theorem ggX9_within_X9_cheapAt : GoodIn wsX9_within wsX9_cheapAt := goodIn_r _ [101, 13, 1, 91, 92, 32, 93, 4, 5, 6, 7, 8, 9, 2, 10, 11, 12, 14, 15, 16, 17, 18, 19, 20, 21, 22, 23, 24, 25, 26, 27, 28, 29, 30, 31, 33, 34, 35, 36, 37, 38, 39, 40, 41, 42, 43, 44, 45, 46, 47, 48, 49, 50, 51, 52, 53, 54, 55, 56, 57, 58, 59, 60, 61, 62, 63, 64, 65, 66, 67, 68, 69, 70, 71, 72, 73, 74, 75, 76, 77, 78, 79, 80, 81, 82, 83, 84, 85, 86, 87, 88, 89, 90, 94, 95, 96, 97, 110, 111, 112, 113, 114, 115, 116, 117, 118, 119, 120, 121, 122, 123, 124, 125, 126, 127, 128, 129, 130, 131, 132, 133, 134, 135, 136, 137, 138, 139, 140, 141, 142, 143, 144, 145, 146] (by decide +kernel) (by decide +kernel)
set_option maxRecDepth 20000 in
theorem gX9_within_X9_cheapAt : GoodIn wsX9_within (wsV RX9 258 RX9 yX9_cheapAt wsX9_cheapAt) := goodIn_app (goodIn_of _ (by decide +kernel)) ggX9_within_X9_cheapAt
set_option maxRecDepth 20000 in
theorem ggX9_within_X9_found : GoodIn wsX9_within wsX9_found := goodIn_r _ [105, 106, 110, 111, 112, 113, 114, 115, 116, 117, 118, 119, 120, 121, 122, 123, 124, 125, 126, 127, 128, 129, 130, 131, 132, 133, 134, 135, 136, 137, 138, 139, 140, 141] (by decide +kernel) (by decide +kernel)
set_option maxRecDepth 20000 in
theorem gX9_within_X9_found : GoodIn wsX9_within (wsV RX9 107 RX9 yX9_found wsX9_found) := goodIn_app (goodIn_of _ (by decide +kernel)) ggX9_within_X9_found
set_option maxRecDepth 20000 in
theorem ggX9_within_X9_common : GoodIn wsX9_within wsX9_common := goodIn_r _ [109] (by decide +kernel) (by decide +kernel)
set_option maxRecDepth 20000 in
theorem gX9_within_X9_common : GoodIn wsX9_within (va_wsS RX9 268 yX9_common wsX9_common) := goodIn_app (goodIn_of _ (by decide +kernel)) ggX9_within_X9_common
theorem dX9_within_0 : decode cX9_within 0 = .ok (.aload_n 0, 1) := by decide +kernel
theorem dX9_within_1 : decode cX9_within 1 = .ok (.invokevirtual 251, 3) := by decide +kernel
theorem dX9_within_4 : decode cX9_within 4 = .ok (.aload_n 0, 1) := by decide +kernel
theorem dX9_within_5 : decode cX9_within 5 = .ok (.ldc2_w 254, 3) := by decide +kernel
theorem dX9_within_8 : decode cX9_within 8 = .ok (.invokevirtual 258, 3) := by decide +kernel
theorem dX9_within_11 : decode cX9_within 11 = .ok (.lload_n 1, 1) := by decide +kernel
theorem dX9_within_12 : decode cX9_within 12 = .ok (.lcmp, 1) := by decide +kernel
theorem dX9_within_13 : decode cX9_within 13 = .ok (.ifCond .le 11, 3) := by decide +kernel
theorem dX9_within_16 : decode cX9_within 16 = .ok (.aload_n 0, 1) := by decide +kernel
theorem dX9_within_17 : decode cX9_within 17 = .ok (.bipush (-7), 2) := by decide +kernel
theorem dX9_within_19 : decode cX9_within 19 = .ok (.invokevirtual 107, 3) := by decide +kernel
theorem dX9_within_22 : decode cX9_within 22 = .ok (.i2l, 1) := by decide +kernel
theorem dX9_within_23 : decode cX9_within 23 = .ok (.lreturn, 1) := by decide +kernel
theorem dX9_within_24 : decode cX9_within 24 = .ok (.aload_n 0, 1) := by decide +kernel
theorem dX9_within_25 : decode cX9_within 25 = .ok (.getfield 235, 3) := by decide +kernel
theorem dX9_within_28 : decode cX9_within 28 = .ok (.istore_n 3, 1) := by decide +kernel
theorem dX9_within_29 : decode cX9_within 29 = .ok (.aload_n 0, 1) := by decide +kernel
theorem dX9_within_30 : decode cX9_within 30 = .ok (.iload_n 3, 1) := by decide +kernel
theorem dX9_within_31 : decode cX9_within 31 = .ok (.i2l, 1) := by decide +kernel
theorem dX9_within_32 : decode cX9_within 32 = .ok (.invokevirtual 258, 3) := by decide +kernel
theorem dX9_within_35 : decode cX9_within 35 = .ok (.lload_n 1, 1) := by decide +kernel
theorem dX9_within_36 : decode cX9_within 36 = .ok (.lcmp, 1) := by decide +kernel
theorem dX9_within_37 : decode cX9_within 37 = .ok (.ifCond .le 9, 3) := by decide +kernel
theorem dX9_within_40 : decode cX9_within 40 = .ok (.iinc 3 1, 3) := by decide +kernel
theorem dX9_within_43 : decode cX9_within 43 = .ok (.goto (-14), 3) := by decide +kernel
theorem dX9_within_46 : decode cX9_within 46 = .ok (.iload_n 3, 1) := by decide +kernel
theorem dX9_within_47 : decode cX9_within 47 = .ok (.aload_n 0, 1) := by decide +kernel
theorem dX9_within_48 : decode cX9_within 48 = .ok (.getfield 235, 3) := by decide +kernel
theorem dX9_within_51 : decode cX9_within 51 = .ok (.if_icmp .ne 11, 3) := by decide +kernel
theorem dX9_within_54 : decode cX9_within 54 = .ok (.aload_n 0, 1) := by decide +kernel
theorem dX9_within_55 : decode cX9_within 55 = .ok (.lconst 1, 1) := by decide +kernel
theorem dX9_within_56 : decode cX9_within 56 = .ok (.putfield 27, 3) := by decide +kernel
theorem dX9_within_59 : decode cX9_within 59 = .ok (.iload_n 3, 1) := by decide +kernel
theorem dX9_within_60 : decode cX9_within 60 = .ok (.i2l, 1) := by decide +kernel
theorem dX9_within_61 : decode cX9_within 61 = .ok (.lreturn, 1) := by decide +kernel
theorem dX9_within_62 : decode cX9_within 62 = .ok (.aload_n 0, 1) := by decide +kernel
theorem dX9_within_63 : decode cX9_within 63 = .ok (.iload_n 3, 1) := by decide +kernel
theorem dX9_within_64 : decode cX9_within 64 = .ok (.i2l, 1) := by decide +kernel
theorem dX9_within_65 : decode cX9_within 65 = .ok (.lconst 1, 1) := by decide +kernel
theorem dX9_within_66 : decode cX9_within 66 = .ok (.lsub, 1) := by decide +kernel
theorem dX9_within_67 : decode cX9_within 67 = .ok (.invokevirtual 258, 3) := by decide +kernel
theorem dX9_within_70 : decode cX9_within 70 = .ok (.aload_n 0, 1) := by decide +kernel
theorem dX9_within_71 : decode cX9_within 71 = .ok (.iload_n 3, 1) := by decide +kernel
theorem dX9_within_72 : decode cX9_within 72 = .ok (.i2l, 1) := by decide +kernel
theorem dX9_within_73 : decode cX9_within 73 = .ok (.invokevirtual 258, 3) := by decide +kernel
theorem dX9_within_76 : decode cX9_within 76 = .ok (.lsub, 1) := by decide +kernel
theorem dX9_within_77 : decode cX9_within 77 = .ok (.lstore 4, 2) := by decide +kernel
theorem dX9_within_79 : decode cX9_within 79 = .ok (.iload_n 3, 1) := by decide +kernel
theorem dX9_within_80 : decode cX9_within 80 = .ok (.i2l, 1) := by decide +kernel
theorem dX9_within_81 : decode cX9_within 81 = .ok (.lconst 1, 1) := by decide +kernel
theorem dX9_within_82 : decode cX9_within 82 = .ok (.lsub, 1) := by decide +kernel
theorem dX9_within_83 : decode cX9_within 83 = .ok (.lload 4, 2) := by decide +kernel
theorem dX9_within_85 : decode cX9_within 85 = .ok (.lmul, 1) := by decide +kernel
theorem dX9_within_86 : decode cX9_within 86 = .ok (.aload_n 0, 1) := by decide +kernel
theorem dX9_within_87 : decode cX9_within 87 = .ok (.iload_n 3, 1) := by decide +kernel
theorem dX9_within_88 : decode cX9_within 88 = .ok (.i2l, 1) := by decide +kernel
theorem dX9_within_89 : decode cX9_within 89 = .ok (.lconst 1, 1) := by decide +kernel
theorem dX9_within_90 : decode cX9_within 90 = .ok (.lsub, 1) := by decide +kernel
theorem dX9_within_91 : decode cX9_within 91 = .ok (.invokevirtual 258, 3) := by decide +kernel
theorem dX9_within_94 : decode cX9_within 94 = .ok (.ladd, 1) := by decide +kernel
theorem dX9_within_95 : decode cX9_within 95 = .ok (.lload_n 1, 1) := by decide +kernel
theorem dX9_within_96 : decode cX9_within 96 = .ok (.lsub, 1) := by decide +kernel
theorem dX9_within_97 : decode cX9_within 97 = .ok (.lstore 6, 2) := by decide +kernel
theorem dX9_within_99 : decode cX9_within 99 = .ok (.lload 6, 2) := by decide +kernel
theorem dX9_within_101 : decode cX9_within 101 = .ok (.lload 4, 2) := by decide +kernel
theorem dX9_within_103 : decode cX9_within 103 = .ok (.invokestatic 268, 3) := by decide +kernel
theorem dX9_within_106 : decode cX9_within 106 = .ok (.lstore 8, 2) := by decide +kernel
theorem dX9_within_108 : decode cX9_within 108 = .ok (.aload_n 0, 1) := by decide +kernel
theorem dX9_within_109 : decode cX9_within 109 = .ok (.lload 4, 2) := by decide +kernel
theorem dX9_within_111 : decode cX9_within 111 = .ok (.lload 8, 2) := by decide +kernel
theorem dX9_within_113 : decode cX9_within 113 = .ok (.ldiv, 1) := by decide +kernel
theorem dX9_within_114 : decode cX9_within 114 = .ok (.putfield 27, 3) := by decide +kernel
theorem dX9_within_117 : decode cX9_within 117 = .ok (.lload 6, 2) := by decide +kernel
theorem dX9_within_119 : decode cX9_within 119 = .ok (.lload 8, 2) := by decide +kernel
theorem dX9_within_121 : decode cX9_within 121 = .ok (.ldiv, 1) := by decide +kernel
theorem dX9_within_122 : decode cX9_within 122 = .ok (.lreturn, 1) := by decide +kernel
set_option maxRecDepth 20000 in
theorem ggX9_rise_X9_longest : GoodIn wsX9_rise wsX9_longest := goodIn_r _ [5, 6, 7, 8, 9, 10, 11, 4, 12, 13, 14, 15, 16, 17, 18, 19, 20, 21, 22, 23, 24, 25, 26, 27, 28, 29, 30, 31, 32, 85, 86, 87, 88, 89, 90, 91, 92, 93, 94, 95, 96, 97, 98, 99, 100, 101, 102, 103, 104, 105, 106, 107, 108, 109, 110, 111, 112, 113, 114, 115, 116, 117, 118, 119, 120, 121] (by decide +kernel) (by decide +kernel)
set_option maxRecDepth 20000 in
theorem gX9_rise_X9_longest : GoodIn wsX9_rise (wsV RX9 231 RX9 yX9_longest wsX9_longest) := goodIn_app (goodIn_of _ (by decide +kernel)) ggX9_rise_X9_longest
set_option maxRecDepth 20000 in
theorem ggX9_rise_X9_take : GoodIn wsX9_rise wsX9_take := goodIn_r _ [36, 6, 7, 37, 19, 8, 85, 86, 87, 88, 89, 90, 91, 92, 93, 94, 95, 96, 97, 98, 99, 100, 101, 102, 103, 104, 105, 106, 107, 108, 109, 110, 111, 112, 113, 114, 115, 116, 117, 118, 119, 120, 121] (by decide +kernel) (by decide +kernel)
set_option maxRecDepth 20000 in
theorem gX9_rise_X9_take : GoodIn wsX9_rise (wsV RX9 238 RX9 yX9_take wsX9_take) := goodIn_app (goodIn_of _ (by decide +kernel)) ggX9_rise_X9_take
set_option maxRecDepth 20000 in
theorem ggX9_rise_X9_cut : GoodIn wsX9_rise wsX9_cut := goodIn_r _ [41, 42, 43, 6, 7, 37, 44, 20, 45, 46, 47, 48, 4, 49, 50, 21, 22, 23, 24, 9, 10, 11, 12, 13, 51, 52, 53, 54, 55, 56, 57, 58, 59, 60, 61, 62, 63, 64, 65, 66, 67, 68, 69, 70, 71, 72, 73, 74, 75, 76, 77, 78, 79, 80, 85, 86, 87, 88, 89, 90, 91, 92, 93, 94, 95, 96, 97, 98, 99, 100, 101, 102, 103, 104, 105, 106, 107, 108, 109, 110, 111, 112, 113, 114, 115, 116, 117, 118, 119, 120, 121] (by decide +kernel) (by decide +kernel)
set_option maxRecDepth 20000 in
theorem gX9_rise_X9_cut : GoodIn wsX9_rise (wsV RX9 244 RX9 yX9_cut wsX9_cut) := goodIn_app (goodIn_of _ (by decide +kernel)) ggX9_rise_X9_cut
set_option maxRecDepth 20000 in
theorem ggX9_rise_X9_costNow : GoodIn wsX9_rise wsX9_costNow := goodIn_r _ [84, 6, 7, 37, 46, 47, 48, 4, 49, 44, 50, 21, 22, 23, 24, 9, 10, 11, 12, 13, 51, 52, 53, 85, 86, 87, 88, 89, 90, 91, 92, 93, 94, 95, 96, 97, 98, 99, 100, 101, 102, 103, 104, 105, 106, 107, 108, 109, 110, 111, 112, 113, 114, 115, 116, 117, 118, 119, 120, 121] (by decide +kernel) (by decide +kernel)
set_option maxRecDepth 20000 in
theorem gX9_rise_X9_costNow : GoodIn wsX9_rise (wsV RX9 247 RX9 yX9_costNow wsX9_costNow) := goodIn_app (goodIn_of _ (by decide +kernel)) ggX9_rise_X9_costNow
theorem dX9_rise_0 : decode cX9_rise 0 = .ok (.aload_n 0, 1) := by decide +kernel
theorem dX9_rise_1 : decode cX9_rise 1 = .ok (.iconst 1, 1) := by decide +kernel
theorem dX9_rise_2 : decode cX9_rise 2 = .ok (.invokevirtual 231, 3) := by decide +kernel
theorem dX9_rise_5 : decode cX9_rise 5 = .ok (.pop, 1) := by decide +kernel
theorem dX9_rise_6 : decode cX9_rise 6 = .ok (.aload_n 0, 1) := by decide +kernel
theorem dX9_rise_7 : decode cX9_rise 7 = .ok (.invokevirtual 238, 3) := by decide +kernel
theorem dX9_rise_10 : decode cX9_rise 10 = .ok (.aload_n 0, 1) := by decide +kernel
theorem dX9_rise_11 : decode cX9_rise 11 = .ok (.iconst 1, 1) := by decide +kernel
theorem dX9_rise_12 : decode cX9_rise 12 = .ok (.iload_n 1, 1) := by decide +kernel
theorem dX9_rise_13 : decode cX9_rise 13 = .ok (.invokevirtual 244, 3) := by decide +kernel
theorem dX9_rise_16 : decode cX9_rise 16 = .ok (.ifCond .eq 11, 3) := by decide +kernel
theorem dX9_rise_19 : decode cX9_rise 19 = .ok (.aload_n 0, 1) := by decide +kernel
theorem dX9_rise_20 : decode cX9_rise 20 = .ok (.invokevirtual 247, 3) := by decide +kernel
theorem dX9_rise_23 : decode cX9_rise 23 = .ok (.pop2, 1) := by decide +kernel
theorem dX9_rise_24 : decode cX9_rise 24 = .ok (.goto (-14), 3) := by decide +kernel
theorem dX9_rise_27 : decode cX9_rise 27 = .ok (.return_, 1) := by decide +kernel
set_option maxRecDepth 20000 in
theorem ggX9_plan_X9_noLength : GoodIn wsX9_plan wsX9_noLength := goodIn_r _ [11, 12, 13, 14, 15, 10, 16, 17, 1, 2, 18, 19, 20, 21, 22, 23, 24, 25, 26, 27, 28, 29, 30, 31, 32, 33, 34, 35, 36, 37, 38, 39, 40, 41, 42, 43, 44, 45, 46, 47, 48, 49, 50, 51, 52, 53, 54, 55, 56, 57, 58, 59, 60, 4, 61, 62, 63, 64, 65, 66, 67, 68, 69, 70, 71, 72, 73, 74, 75, 76, 77, 78, 79, 80, 81, 82, 83, 84, 85, 86, 87, 88, 89, 90, 91, 92, 93, 94, 95, 96, 97, 98, 99, 100, 101, 102, 112, 113, 114, 115, 116, 117, 118, 119, 120, 121, 122, 123, 124, 125, 126, 127, 128, 129, 130, 131, 132, 133, 134, 135, 136, 137, 138, 139, 140, 141, 142, 143, 144, 145, 146, 147, 148] (by decide +kernel) (by decide +kernel)
set_option maxRecDepth 20000 in
theorem gX9_plan_X9_noLength : GoodIn wsX9_plan (wsV RX9 262 RX9 yX9_noLength wsX9_noLength) := goodIn_app (goodIn_of _ (by decide +kernel)) ggX9_plan_X9_noLength
set_option maxRecDepth 20000 in
theorem ggX9_plan_X9_found : GoodIn wsX9_plan wsX9_found := goodIn_r _ [106, 107, 112, 113, 114, 115, 116, 117, 118, 119, 120, 121, 122, 123, 124, 125, 126, 127, 128, 129, 130, 131, 132, 133, 134, 135, 136, 137, 138, 139, 140, 141, 142, 143] (by decide +kernel) (by decide +kernel)
set_option maxRecDepth 20000 in
theorem gX9_plan_X9_found : GoodIn wsX9_plan (wsV RX9 107 RX9 yX9_found wsX9_found) := goodIn_app (goodIn_of _ (by decide +kernel)) ggX9_plan_X9_found
set_option maxRecDepth 20000 in
theorem ggX9_plan_X9_rise : GoodIn wsX9_plan wsX9_rise := goodIn_r _ [111, 20, 21, 22, 10, 23, 1, 2, 18, 24, 25, 26, 27, 28, 29, 30, 31, 32, 33, 34, 35, 36, 37, 38, 39, 40, 41, 42, 43, 44, 45, 46, 47, 57, 58, 59, 60, 4, 65, 66, 67, 68, 69, 70, 52, 71, 48, 49, 50, 51, 53, 54, 55, 56, 72, 73, 74, 75, 76, 77, 78, 79, 80, 81, 82, 83, 84, 85, 86, 87, 88, 89, 90, 91, 92, 93, 94, 95, 96, 97, 98, 99, 100, 101, 102, 112, 113, 114, 115, 116, 117, 118, 119, 120, 121, 122, 123, 124, 125, 126, 127, 128, 129, 130, 131, 132, 133, 134, 135, 136, 137, 138, 139, 140, 141, 142, 143, 144, 145, 146, 147, 148] (by decide +kernel) (by decide +kernel)
set_option maxRecDepth 20000 in
theorem gX9_plan_X9_rise : GoodIn wsX9_plan (wsV RX9 271 RX9 yX9_rise wsX9_rise) := goodIn_app (goodIn_of _ (by decide +kernel)) ggX9_plan_X9_rise
set_option maxRecDepth 20000 in
theorem ggX9_plan_X9_lengthNow : GoodIn wsX9_plan wsX9_lengthNow := goodIn_r _ [64, 1, 2, 4, 36, 37, 38, 39, 112, 113, 114, 115, 116, 117, 118, 119, 120, 121, 122, 123, 124, 125, 126, 127, 128, 129, 130, 131, 132, 133, 134, 135, 136, 137, 138, 139, 140, 141, 142, 143, 144, 145, 146, 147, 148] (by decide +kernel) (by decide +kernel)
set_option maxRecDepth 20000 in
theorem gX9_plan_X9_lengthNow : GoodIn wsX9_plan (wsV RX9 241 RX9 yX9_lengthNow wsX9_lengthNow) := goodIn_app (goodIn_of _ (by decide +kernel)) ggX9_plan_X9_lengthNow
theorem dX9_plan_0 : decode cX9_plan 0 = .ok (.aload_n 0, 1) := by decide +kernel
theorem dX9_plan_1 : decode cX9_plan 1 = .ok (.iload_n 1, 1) := by decide +kernel
theorem dX9_plan_2 : decode cX9_plan 2 = .ok (.invokevirtual 262, 3) := by decide +kernel
theorem dX9_plan_5 : decode cX9_plan 5 = .ok (.istore_n 2, 1) := by decide +kernel
theorem dX9_plan_6 : decode cX9_plan 6 = .ok (.iload_n 2, 1) := by decide +kernel
theorem dX9_plan_7 : decode cX9_plan 7 = .ok (.ifCond .eq 9, 3) := by decide +kernel
theorem dX9_plan_10 : decode cX9_plan 10 = .ok (.aload_n 0, 1) := by decide +kernel
theorem dX9_plan_11 : decode cX9_plan 11 = .ok (.iload_n 2, 1) := by decide +kernel
theorem dX9_plan_12 : decode cX9_plan 12 = .ok (.invokevirtual 107, 3) := by decide +kernel
theorem dX9_plan_15 : decode cX9_plan 15 = .ok (.ireturn, 1) := by decide +kernel
theorem dX9_plan_16 : decode cX9_plan 16 = .ok (.aload_n 0, 1) := by decide +kernel
theorem dX9_plan_17 : decode cX9_plan 17 = .ok (.iload_n 1, 1) := by decide +kernel
theorem dX9_plan_18 : decode cX9_plan 18 = .ok (.invokevirtual 271, 3) := by decide +kernel
theorem dX9_plan_21 : decode cX9_plan 21 = .ok (.iconst 0, 1) := by decide +kernel
theorem dX9_plan_22 : decode cX9_plan 22 = .ok (.istore_n 3, 1) := by decide +kernel
theorem dX9_plan_23 : decode cX9_plan 23 = .ok (.iload_n 3, 1) := by decide +kernel
theorem dX9_plan_24 : decode cX9_plan 24 = .ok (.aload_n 0, 1) := by decide +kernel
theorem dX9_plan_25 : decode cX9_plan 25 = .ok (.getfield 10, 3) := by decide +kernel
theorem dX9_plan_28 : decode cX9_plan 28 = .ok (.getfield 94, 3) := by decide +kernel
theorem dX9_plan_31 : decode cX9_plan 31 = .ok (.if_icmp .ge 43, 3) := by decide +kernel
theorem dX9_plan_34 : decode cX9_plan 34 = .ok (.aload_n 0, 1) := by decide +kernel
theorem dX9_plan_35 : decode cX9_plan 35 = .ok (.getfield 81, 3) := by decide +kernel
theorem dX9_plan_38 : decode cX9_plan 38 = .ok (.iload_n 3, 1) := by decide +kernel
theorem dX9_plan_39 : decode cX9_plan 39 = .ok (.aload_n 0, 1) := by decide +kernel
theorem dX9_plan_40 : decode cX9_plan 40 = .ok (.getfield 60, 3) := by decide +kernel
theorem dX9_plan_43 : decode cX9_plan 43 = .ok (.iload_n 3, 1) := by decide +kernel
theorem dX9_plan_44 : decode cX9_plan 44 = .ok (.iaload, 1) := by decide +kernel
theorem dX9_plan_45 : decode cX9_plan 45 = .ok (.iastore, 1) := by decide +kernel
theorem dX9_plan_46 : decode cX9_plan 46 = .ok (.aload_n 0, 1) := by decide +kernel
theorem dX9_plan_47 : decode cX9_plan 47 = .ok (.getfield 84, 3) := by decide +kernel
theorem dX9_plan_50 : decode cX9_plan 50 = .ok (.iload_n 3, 1) := by decide +kernel
theorem dX9_plan_51 : decode cX9_plan 51 = .ok (.aload_n 0, 1) := by decide +kernel
theorem dX9_plan_52 : decode cX9_plan 52 = .ok (.getfield 60, 3) := by decide +kernel
theorem dX9_plan_55 : decode cX9_plan 55 = .ok (.bipush 12, 2) := by decide +kernel
theorem dX9_plan_57 : decode cX9_plan 57 = .ok (.iload_n 3, 1) := by decide +kernel
theorem dX9_plan_58 : decode cX9_plan 58 = .ok (.iadd, 1) := by decide +kernel
theorem dX9_plan_59 : decode cX9_plan 59 = .ok (.iaload, 1) := by decide +kernel
theorem dX9_plan_60 : decode cX9_plan 60 = .ok (.aload_n 0, 1) := by decide +kernel
theorem dX9_plan_61 : decode cX9_plan 61 = .ok (.getfield 60, 3) := by decide +kernel
theorem dX9_plan_64 : decode cX9_plan 64 = .ok (.iload_n 3, 1) := by decide +kernel
theorem dX9_plan_65 : decode cX9_plan 65 = .ok (.iaload, 1) := by decide +kernel
theorem dX9_plan_66 : decode cX9_plan 66 = .ok (.isub, 1) := by decide +kernel
theorem dX9_plan_67 : decode cX9_plan 67 = .ok (.iastore, 1) := by decide +kernel
theorem dX9_plan_68 : decode cX9_plan 68 = .ok (.iinc 3 1, 3) := by decide +kernel
theorem dX9_plan_71 : decode cX9_plan 71 = .ok (.goto (-48), 3) := by decide +kernel
theorem dX9_plan_74 : decode cX9_plan 74 = .ok (.aload_n 0, 1) := by decide +kernel
theorem dX9_plan_75 : decode cX9_plan 75 = .ok (.iconst 1, 1) := by decide +kernel
theorem dX9_plan_76 : decode cX9_plan 76 = .ok (.putfield 121, 3) := by decide +kernel
theorem dX9_plan_79 : decode cX9_plan 79 = .ok (.aload_n 0, 1) := by decide +kernel
theorem dX9_plan_80 : decode cX9_plan 80 = .ok (.invokevirtual 241, 3) := by decide +kernel
theorem dX9_plan_83 : decode cX9_plan 83 = .ok (.ireturn, 1) := by decide +kernel
set_option maxRecDepth 20000 in
theorem ggX9_planned_X9_found : GoodIn wsX9_planned wsX9_found := goodIn_r _ [8, 9, 19, 20, 21, 22, 23, 24, 25, 26, 27, 28, 29, 30, 31, 32, 33, 34, 35, 36, 37, 38, 39, 40, 41, 42, 43, 44, 45, 46, 47, 48, 49, 50] (by decide +kernel) (by decide +kernel)
set_option maxRecDepth 20000 in
theorem gX9_planned_X9_found : GoodIn wsX9_planned (wsV RX9 107 RX9 yX9_found wsX9_found) := goodIn_app (goodIn_of _ (by decide +kernel)) ggX9_planned_X9_found
set_option maxRecDepth 20000 in
theorem ggX9_planned_X9_isTask : GoodIn wsX9_planned wsX9_isTask := goodIn_r _ [13, 14, 15, 16, 17, 7, 18, 19, 20, 21, 22, 23, 24, 25, 26, 27, 28, 29, 30, 31, 32, 33, 34, 35, 36, 37, 38, 39, 40, 41, 42, 43, 44, 45, 46, 47, 48, 49, 50, 51, 52, 53, 54, 55] (by decide +kernel) (by decide +kernel)
set_option maxRecDepth 20000 in
theorem gX9_planned_X9_isTask : GoodIn wsX9_planned (wsV RX9 151 RX9 yX9_isTask wsX9_isTask) := goodIn_app (goodIn_of _ (by decide +kernel)) ggX9_planned_X9_isTask
theorem dX9_planned_0 : decode cX9_planned 0 = .ok (.aload_n 0, 1) := by decide +kernel
theorem dX9_planned_1 : decode cX9_planned 1 = .ok (.getfield 121, 3) := by decide +kernel
theorem dX9_planned_4 : decode cX9_planned 4 = .ok (.ifCond .ne 10, 3) := by decide +kernel
theorem dX9_planned_7 : decode cX9_planned 7 = .ok (.aload_n 0, 1) := by decide +kernel
theorem dX9_planned_8 : decode cX9_planned 8 = .ok (.bipush (-7), 2) := by decide +kernel
theorem dX9_planned_10 : decode cX9_planned 10 = .ok (.invokevirtual 107, 3) := by decide +kernel
theorem dX9_planned_13 : decode cX9_planned 13 = .ok (.ireturn, 1) := by decide +kernel
theorem dX9_planned_14 : decode cX9_planned 14 = .ok (.aload_n 0, 1) := by decide +kernel
theorem dX9_planned_15 : decode cX9_planned 15 = .ok (.iload_n 1, 1) := by decide +kernel
theorem dX9_planned_16 : decode cX9_planned 16 = .ok (.invokevirtual 151, 3) := by decide +kernel
theorem dX9_planned_19 : decode cX9_planned 19 = .ok (.ifCond .ne 9, 3) := by decide +kernel
theorem dX9_planned_22 : decode cX9_planned 22 = .ok (.aload_n 0, 1) := by decide +kernel
theorem dX9_planned_23 : decode cX9_planned 23 = .ok (.iconst (-1), 1) := by decide +kernel
theorem dX9_planned_24 : decode cX9_planned 24 = .ok (.invokevirtual 107, 3) := by decide +kernel
theorem dX9_planned_27 : decode cX9_planned 27 = .ok (.ireturn, 1) := by decide +kernel
theorem dX9_planned_28 : decode cX9_planned 28 = .ok (.iload_n 2, 1) := by decide +kernel
theorem dX9_planned_29 : decode cX9_planned 29 = .ok (.ifCond .eq 12, 3) := by decide +kernel
theorem dX9_planned_32 : decode cX9_planned 32 = .ok (.aload_n 0, 1) := by decide +kernel
theorem dX9_planned_33 : decode cX9_planned 33 = .ok (.getfield 84, 3) := by decide +kernel
theorem dX9_planned_36 : decode cX9_planned 36 = .ok (.iload_n 1, 1) := by decide +kernel
theorem dX9_planned_37 : decode cX9_planned 37 = .ok (.iaload, 1) := by decide +kernel
theorem dX9_planned_38 : decode cX9_planned 38 = .ok (.goto 9, 3) := by decide +kernel
theorem dX9_planned_41 : decode cX9_planned 41 = .ok (.aload_n 0, 1) := by decide +kernel
theorem dX9_planned_42 : decode cX9_planned 42 = .ok (.getfield 81, 3) := by decide +kernel
theorem dX9_planned_45 : decode cX9_planned 45 = .ok (.iload_n 1, 1) := by decide +kernel
theorem dX9_planned_46 : decode cX9_planned 46 = .ok (.iaload, 1) := by decide +kernel
theorem dX9_planned_47 : decode cX9_planned 47 = .ok (.ireturn, 1) := by decide +kernel
set_option maxRecDepth 20000 in
theorem ggX9_cost_X9_found : GoodIn wsX9_cost wsX9_found := goodIn_r _ [9, 10, 29, 30, 31, 32, 33, 34, 35, 36, 37, 38, 39, 40, 41, 42, 43, 44, 45, 46, 47, 48, 49, 50, 51, 52, 53, 54, 55, 56, 57, 58, 59, 60] (by decide +kernel) (by decide +kernel)
set_option maxRecDepth 20000 in
theorem gX9_cost_X9_found : GoodIn wsX9_cost (wsV RX9 107 RX9 yX9_found wsX9_found) := goodIn_app (goodIn_of _ (by decide +kernel)) ggX9_cost_X9_found
set_option maxRecDepth 20000 in
theorem ggX9_cost_X9_costOf : GoodIn wsX9_cost wsX9_costOf := goodIn_r _ [14, 15, 2, 16, 17, 18, 19, 20, 21, 22, 23, 8, 24, 25, 26, 27, 28, 29, 30, 31, 32, 33, 34, 35, 36, 37, 38, 39, 40, 41, 42, 43, 44, 45, 46, 47, 48, 49, 50, 51, 52, 53, 54, 55, 56, 57, 58, 59, 60, 61, 62, 63, 64, 65] (by decide +kernel) (by decide +kernel)
set_option maxRecDepth 20000 in
theorem gX9_cost_X9_costOf : GoodIn wsX9_cost (wsV RX9 199 RX9 yX9_costOf wsX9_costOf) := goodIn_app (goodIn_of _ (by decide +kernel)) ggX9_cost_X9_costOf
theorem dX9_cost_0 : decode cX9_cost 0 = .ok (.aload_n 0, 1) := by decide +kernel
theorem dX9_cost_1 : decode cX9_cost 1 = .ok (.getfield 121, 3) := by decide +kernel
theorem dX9_cost_4 : decode cX9_cost 4 = .ok (.ifCond .ne 11, 3) := by decide +kernel
theorem dX9_cost_7 : decode cX9_cost 7 = .ok (.aload_n 0, 1) := by decide +kernel
theorem dX9_cost_8 : decode cX9_cost 8 = .ok (.bipush (-7), 2) := by decide +kernel
theorem dX9_cost_10 : decode cX9_cost 10 = .ok (.invokevirtual 107, 3) := by decide +kernel
theorem dX9_cost_13 : decode cX9_cost 13 = .ok (.i2l, 1) := by decide +kernel
theorem dX9_cost_14 : decode cX9_cost 14 = .ok (.lreturn, 1) := by decide +kernel
theorem dX9_cost_15 : decode cX9_cost 15 = .ok (.lconst 0, 1) := by decide +kernel
theorem dX9_cost_16 : decode cX9_cost 16 = .ok (.lstore_n 1, 1) := by decide +kernel
theorem dX9_cost_17 : decode cX9_cost 17 = .ok (.iconst 0, 1) := by decide +kernel
theorem dX9_cost_18 : decode cX9_cost 18 = .ok (.istore_n 3, 1) := by decide +kernel
theorem dX9_cost_19 : decode cX9_cost 19 = .ok (.iload_n 3, 1) := by decide +kernel
theorem dX9_cost_20 : decode cX9_cost 20 = .ok (.aload_n 0, 1) := by decide +kernel
theorem dX9_cost_21 : decode cX9_cost 21 = .ok (.getfield 10, 3) := by decide +kernel
theorem dX9_cost_24 : decode cX9_cost 24 = .ok (.getfield 94, 3) := by decide +kernel
theorem dX9_cost_27 : decode cX9_cost 27 = .ok (.if_icmp .ge 23, 3) := by decide +kernel
theorem dX9_cost_30 : decode cX9_cost 30 = .ok (.lload_n 1, 1) := by decide +kernel
theorem dX9_cost_31 : decode cX9_cost 31 = .ok (.aload_n 0, 1) := by decide +kernel
theorem dX9_cost_32 : decode cX9_cost 32 = .ok (.iload_n 3, 1) := by decide +kernel
theorem dX9_cost_33 : decode cX9_cost 33 = .ok (.aload_n 0, 1) := by decide +kernel
theorem dX9_cost_34 : decode cX9_cost 34 = .ok (.getfield 84, 3) := by decide +kernel
theorem dX9_cost_37 : decode cX9_cost 37 = .ok (.iload_n 3, 1) := by decide +kernel
theorem dX9_cost_38 : decode cX9_cost 38 = .ok (.iaload, 1) := by decide +kernel
theorem dX9_cost_39 : decode cX9_cost 39 = .ok (.invokevirtual 199, 3) := by decide +kernel
theorem dX9_cost_42 : decode cX9_cost 42 = .ok (.ladd, 1) := by decide +kernel
theorem dX9_cost_43 : decode cX9_cost 43 = .ok (.lstore_n 1, 1) := by decide +kernel
theorem dX9_cost_44 : decode cX9_cost 44 = .ok (.iinc 3 1, 3) := by decide +kernel
theorem dX9_cost_47 : decode cX9_cost 47 = .ok (.goto (-28), 3) := by decide +kernel
theorem dX9_cost_50 : decode cX9_cost 50 = .ok (.lload_n 1, 1) := by decide +kernel
theorem dX9_cost_51 : decode cX9_cost 51 = .ok (.lreturn, 1) := by decide +kernel
set_option maxRecDepth 20000 in
theorem ggX9_hurried_X9_noLength : GoodIn wsX9_hurried wsX9_noLength := goodIn_r _ [9, 10, 11, 12, 13, 8, 14, 15, 1, 2, 16, 17, 18, 19, 20, 21, 22, 23, 24, 25, 26, 27, 28, 29, 30, 31, 32, 33, 34, 35, 36, 37, 38, 39, 40, 41, 42, 43, 44, 45, 46, 47, 48, 49, 50, 51, 52, 53, 54, 55, 56, 57, 58, 4, 59, 60, 61, 62, 63, 64, 65, 66, 67, 68, 69, 70, 71, 72, 73, 74, 75, 76, 77, 78, 79, 80, 81, 82, 83, 84, 85, 86, 87, 88, 89, 90, 91, 92, 93, 94, 95, 96, 97, 98, 99, 100, 110, 111, 112, 113, 114, 115, 116, 117, 118, 119, 120, 121, 122, 123, 124, 125, 126, 127, 128, 129, 130, 131, 132, 133, 134, 135, 136, 137, 138, 139, 140, 141, 142, 143, 144, 145, 146] (by decide +kernel) (by decide +kernel)
set_option maxRecDepth 20000 in
theorem gX9_hurried_X9_noLength : GoodIn wsX9_hurried (wsV RX9 262 RX9 yX9_noLength wsX9_noLength) := goodIn_app (goodIn_of _ (by decide +kernel)) ggX9_hurried_X9_noLength
set_option maxRecDepth 20000 in
theorem ggX9_hurried_X9_found : GoodIn wsX9_hurried wsX9_found := goodIn_r _ [104, 105, 110, 111, 112, 113, 114, 115, 116, 117, 118, 119, 120, 121, 122, 123, 124, 125, 126, 127, 128, 129, 130, 131, 132, 133, 134, 135, 136, 137, 138, 139, 140, 141] (by decide +kernel) (by decide +kernel)
set_option maxRecDepth 20000 in
theorem gX9_hurried_X9_found : GoodIn wsX9_hurried (wsV RX9 107 RX9 yX9_found wsX9_found) := goodIn_app (goodIn_of _ (by decide +kernel)) ggX9_hurried_X9_found
set_option maxRecDepth 20000 in
theorem ggX9_hurried_X9_rise : GoodIn wsX9_hurried wsX9_rise := goodIn_r _ [109, 18, 19, 20, 8, 21, 1, 2, 16, 22, 23, 24, 25, 26, 27, 28, 29, 30, 31, 32, 33, 34, 35, 36, 37, 38, 39, 40, 41, 42, 43, 44, 45, 55, 56, 57, 58, 4, 63, 64, 65, 66, 67, 68, 50, 69, 46, 47, 48, 49, 51, 52, 53, 54, 70, 71, 72, 73, 74, 75, 76, 77, 78, 79, 80, 81, 82, 83, 84, 85, 86, 87, 88, 89, 90, 91, 92, 93, 94, 95, 96, 97, 98, 99, 100, 110, 111, 112, 113, 114, 115, 116, 117, 118, 119, 120, 121, 122, 123, 124, 125, 126, 127, 128, 129, 130, 131, 132, 133, 134, 135, 136, 137, 138, 139, 140, 141, 142, 143, 144, 145, 146] (by decide +kernel) (by decide +kernel)
set_option maxRecDepth 20000 in
theorem gX9_hurried_X9_rise : GoodIn wsX9_hurried (wsV RX9 271 RX9 yX9_rise wsX9_rise) := goodIn_app (goodIn_of _ (by decide +kernel)) ggX9_hurried_X9_rise
theorem dX9_hurried_0 : decode cX9_hurried 0 = .ok (.aload_n 0, 1) := by decide +kernel
theorem dX9_hurried_1 : decode cX9_hurried 1 = .ok (.iload_n 1, 1) := by decide +kernel
theorem dX9_hurried_2 : decode cX9_hurried 2 = .ok (.invokevirtual 262, 3) := by decide +kernel
theorem dX9_hurried_5 : decode cX9_hurried 5 = .ok (.istore_n 3, 1) := by decide +kernel
theorem dX9_hurried_6 : decode cX9_hurried 6 = .ok (.iload_n 3, 1) := by decide +kernel
theorem dX9_hurried_7 : decode cX9_hurried 7 = .ok (.ifCond .eq 9, 3) := by decide +kernel
theorem dX9_hurried_10 : decode cX9_hurried 10 = .ok (.aload_n 0, 1) := by decide +kernel
theorem dX9_hurried_11 : decode cX9_hurried 11 = .ok (.iload_n 3, 1) := by decide +kernel
theorem dX9_hurried_12 : decode cX9_hurried 12 = .ok (.invokevirtual 107, 3) := by decide +kernel
theorem dX9_hurried_15 : decode cX9_hurried 15 = .ok (.ireturn, 1) := by decide +kernel
theorem dX9_hurried_16 : decode cX9_hurried 16 = .ok (.aload_n 0, 1) := by decide +kernel
theorem dX9_hurried_17 : decode cX9_hurried 17 = .ok (.iload_n 1, 1) := by decide +kernel
theorem dX9_hurried_18 : decode cX9_hurried 18 = .ok (.invokevirtual 271, 3) := by decide +kernel
theorem dX9_hurried_21 : decode cX9_hurried 21 = .ok (.iconst 0, 1) := by decide +kernel
theorem dX9_hurried_22 : decode cX9_hurried 22 = .ok (.istore 4, 2) := by decide +kernel
theorem dX9_hurried_24 : decode cX9_hurried 24 = .ok (.iload 4, 2) := by decide +kernel
theorem dX9_hurried_26 : decode cX9_hurried 26 = .ok (.aload_n 0, 1) := by decide +kernel
theorem dX9_hurried_27 : decode cX9_hurried 27 = .ok (.getfield 10, 3) := by decide +kernel
theorem dX9_hurried_30 : decode cX9_hurried 30 = .ok (.getfield 94, 3) := by decide +kernel
theorem dX9_hurried_33 : decode cX9_hurried 33 = .ok (.if_icmp .ge 34, 3) := by decide +kernel
theorem dX9_hurried_36 : decode cX9_hurried 36 = .ok (.aload_n 0, 1) := by decide +kernel
theorem dX9_hurried_37 : decode cX9_hurried 37 = .ok (.getfield 87, 3) := by decide +kernel
theorem dX9_hurried_40 : decode cX9_hurried 40 = .ok (.iload 4, 2) := by decide +kernel
theorem dX9_hurried_42 : decode cX9_hurried 42 = .ok (.aload_n 0, 1) := by decide +kernel
theorem dX9_hurried_43 : decode cX9_hurried 43 = .ok (.getfield 60, 3) := by decide +kernel
theorem dX9_hurried_46 : decode cX9_hurried 46 = .ok (.bipush 12, 2) := by decide +kernel
theorem dX9_hurried_48 : decode cX9_hurried 48 = .ok (.iload 4, 2) := by decide +kernel
theorem dX9_hurried_50 : decode cX9_hurried 50 = .ok (.iadd, 1) := by decide +kernel
theorem dX9_hurried_51 : decode cX9_hurried 51 = .ok (.iaload, 1) := by decide +kernel
theorem dX9_hurried_52 : decode cX9_hurried 52 = .ok (.aload_n 0, 1) := by decide +kernel
theorem dX9_hurried_53 : decode cX9_hurried 53 = .ok (.getfield 60, 3) := by decide +kernel
theorem dX9_hurried_56 : decode cX9_hurried 56 = .ok (.iload 4, 2) := by decide +kernel
theorem dX9_hurried_58 : decode cX9_hurried 58 = .ok (.iaload, 1) := by decide +kernel
theorem dX9_hurried_59 : decode cX9_hurried 59 = .ok (.isub, 1) := by decide +kernel
theorem dX9_hurried_60 : decode cX9_hurried 60 = .ok (.iastore, 1) := by decide +kernel
theorem dX9_hurried_61 : decode cX9_hurried 61 = .ok (.iinc 4 1, 3) := by decide +kernel
theorem dX9_hurried_64 : decode cX9_hurried 64 = .ok (.goto (-40), 3) := by decide +kernel
theorem dX9_hurried_67 : decode cX9_hurried 67 = .ok (.aload_n 0, 1) := by decide +kernel
theorem dX9_hurried_68 : decode cX9_hurried 68 = .ok (.iload_n 1, 1) := by decide +kernel
theorem dX9_hurried_69 : decode cX9_hurried 69 = .ok (.iconst 1, 1) := by decide +kernel
theorem dX9_hurried_70 : decode cX9_hurried 70 = .ok (.iadd, 1) := by decide +kernel
theorem dX9_hurried_71 : decode cX9_hurried 71 = .ok (.invokevirtual 271, 3) := by decide +kernel
theorem dX9_hurried_74 : decode cX9_hurried 74 = .ok (.iconst 0, 1) := by decide +kernel
theorem dX9_hurried_75 : decode cX9_hurried 75 = .ok (.istore 4, 2) := by decide +kernel
theorem dX9_hurried_77 : decode cX9_hurried 77 = .ok (.iconst 0, 1) := by decide +kernel
theorem dX9_hurried_78 : decode cX9_hurried 78 = .ok (.istore 5, 2) := by decide +kernel
theorem dX9_hurried_80 : decode cX9_hurried 80 = .ok (.iload 5, 2) := by decide +kernel
theorem dX9_hurried_82 : decode cX9_hurried 82 = .ok (.aload_n 0, 1) := by decide +kernel
theorem dX9_hurried_83 : decode cX9_hurried 83 = .ok (.getfield 10, 3) := by decide +kernel
theorem dX9_hurried_86 : decode cX9_hurried 86 = .ok (.getfield 94, 3) := by decide +kernel
theorem dX9_hurried_89 : decode cX9_hurried 89 = .ok (.if_icmp .ge 73, 3) := by decide +kernel
theorem dX9_hurried_92 : decode cX9_hurried 92 = .ok (.aload_n 0, 1) := by decide +kernel
theorem dX9_hurried_93 : decode cX9_hurried 93 = .ok (.getfield 60, 3) := by decide +kernel
theorem dX9_hurried_96 : decode cX9_hurried 96 = .ok (.bipush 12, 2) := by decide +kernel
theorem dX9_hurried_98 : decode cX9_hurried 98 = .ok (.iload 5, 2) := by decide +kernel
theorem dX9_hurried_100 : decode cX9_hurried 100 = .ok (.iadd, 1) := by decide +kernel
theorem dX9_hurried_101 : decode cX9_hurried 101 = .ok (.iaload, 1) := by decide +kernel
theorem dX9_hurried_102 : decode cX9_hurried 102 = .ok (.aload_n 0, 1) := by decide +kernel
theorem dX9_hurried_103 : decode cX9_hurried 103 = .ok (.getfield 60, 3) := by decide +kernel
theorem dX9_hurried_106 : decode cX9_hurried 106 = .ok (.iload 5, 2) := by decide +kernel
theorem dX9_hurried_108 : decode cX9_hurried 108 = .ok (.iaload, 1) := by decide +kernel
theorem dX9_hurried_109 : decode cX9_hurried 109 = .ok (.isub, 1) := by decide +kernel
theorem dX9_hurried_110 : decode cX9_hurried 110 = .ok (.istore 6, 2) := by decide +kernel
theorem dX9_hurried_112 : decode cX9_hurried 112 = .ok (.iload 4, 2) := by decide +kernel
theorem dX9_hurried_114 : decode cX9_hurried 114 = .ok (.iload_n 2, 1) := by decide +kernel
theorem dX9_hurried_115 : decode cX9_hurried 115 = .ok (.ifCond .eq 18, 3) := by decide +kernel
theorem dX9_hurried_118 : decode cX9_hurried 118 = .ok (.aload_n 0, 1) := by decide +kernel
theorem dX9_hurried_119 : decode cX9_hurried 119 = .ok (.getfield 87, 3) := by decide +kernel
theorem dX9_hurried_122 : decode cX9_hurried 122 = .ok (.iload 5, 2) := by decide +kernel
theorem dX9_hurried_124 : decode cX9_hurried 124 = .ok (.iaload, 1) := by decide +kernel
theorem dX9_hurried_125 : decode cX9_hurried 125 = .ok (.iload 6, 2) := by decide +kernel
theorem dX9_hurried_127 : decode cX9_hurried 127 = .ok (.if_icmp .le 25, 3) := by decide +kernel
theorem dX9_hurried_130 : decode cX9_hurried 130 = .ok (.goto 15, 3) := by decide +kernel
theorem dX9_hurried_133 : decode cX9_hurried 133 = .ok (.aload_n 0, 1) := by decide +kernel
theorem dX9_hurried_134 : decode cX9_hurried 134 = .ok (.getfield 87, 3) := by decide +kernel
theorem dX9_hurried_137 : decode cX9_hurried 137 = .ok (.iload 5, 2) := by decide +kernel
theorem dX9_hurried_139 : decode cX9_hurried 139 = .ok (.iaload, 1) := by decide +kernel
theorem dX9_hurried_140 : decode cX9_hurried 140 = .ok (.iload 6, 2) := by decide +kernel
theorem dX9_hurried_142 : decode cX9_hurried 142 = .ok (.if_icmp .ge 10, 3) := by decide +kernel
theorem dX9_hurried_145 : decode cX9_hurried 145 = .ok (.iconst 1, 1) := by decide +kernel
theorem dX9_hurried_146 : decode cX9_hurried 146 = .ok (.iload 5, 2) := by decide +kernel
theorem dX9_hurried_148 : decode cX9_hurried 148 = .ok (.ishl, 1) := by decide +kernel
theorem dX9_hurried_149 : decode cX9_hurried 149 = .ok (.goto 4, 3) := by decide +kernel
theorem dX9_hurried_152 : decode cX9_hurried 152 = .ok (.iconst 0, 1) := by decide +kernel
theorem dX9_hurried_153 : decode cX9_hurried 153 = .ok (.ior, 1) := by decide +kernel
theorem dX9_hurried_154 : decode cX9_hurried 154 = .ok (.istore 4, 2) := by decide +kernel
theorem dX9_hurried_156 : decode cX9_hurried 156 = .ok (.iinc 5 1, 3) := by decide +kernel
theorem dX9_hurried_159 : decode cX9_hurried 159 = .ok (.goto (-79), 3) := by decide +kernel
theorem dX9_hurried_162 : decode cX9_hurried 162 = .ok (.iload 4, 2) := by decide +kernel
theorem dX9_hurried_164 : decode cX9_hurried 164 = .ok (.ireturn, 1) := by decide +kernel
set_option maxRecDepth 20000 in
theorem ggX9_tell_X9_found : GoodIn wsX9_tell wsX9_found := goodIn_r _ [7, 8, 9, 10, 11, 12, 13, 14, 15, 16, 17, 18, 19, 20, 21, 22, 23, 24, 25, 26, 27, 28, 29, 30, 31, 32, 33, 34, 35, 36, 37, 38, 39, 40] (by decide +kernel) (by decide +kernel)
set_option maxRecDepth 20000 in
theorem gX9_tell_X9_found : GoodIn wsX9_tell (wsV RX9 107 RX9 yX9_found wsX9_found) := goodIn_app (goodIn_of _ (by decide +kernel)) ggX9_tell_X9_found
theorem dX9_tell_0 : decode cX9_tell 0 = .ok (.aload_n 0, 1) := by decide +kernel
theorem dX9_tell_1 : decode cX9_tell 1 = .ok (.getfield 275, 3) := by decide +kernel
theorem dX9_tell_4 : decode cX9_tell 4 = .ok (.bipush 60, 2) := by decide +kernel
theorem dX9_tell_6 : decode cX9_tell 6 = .ok (.if_icmp .ne 10, 3) := by decide +kernel
theorem dX9_tell_9 : decode cX9_tell 9 = .ok (.aload_n 0, 1) := by decide +kernel
theorem dX9_tell_10 : decode cX9_tell 10 = .ok (.bipush (-5), 2) := by decide +kernel
theorem dX9_tell_12 : decode cX9_tell 12 = .ok (.invokevirtual 107, 3) := by decide +kernel
theorem dX9_tell_15 : decode cX9_tell 15 = .ok (.ireturn, 1) := by decide +kernel
theorem dX9_tell_16 : decode cX9_tell 16 = .ok (.aload_n 0, 1) := by decide +kernel
theorem dX9_tell_17 : decode cX9_tell 17 = .ok (.getfield 31, 3) := by decide +kernel
theorem dX9_tell_20 : decode cX9_tell 20 = .ok (.aload_n 0, 1) := by decide +kernel
theorem dX9_tell_21 : decode cX9_tell 21 = .ok (.getfield 275, 3) := by decide +kernel
theorem dX9_tell_24 : decode cX9_tell 24 = .ok (.iload_n 1, 1) := by decide +kernel
theorem dX9_tell_25 : decode cX9_tell 25 = .ok (.iastore, 1) := by decide +kernel
theorem dX9_tell_26 : decode cX9_tell 26 = .ok (.aload_n 0, 1) := by decide +kernel
theorem dX9_tell_27 : decode cX9_tell 27 = .ok (.dup, 1) := by decide +kernel
theorem dX9_tell_28 : decode cX9_tell 28 = .ok (.getfield 275, 3) := by decide +kernel
theorem dX9_tell_31 : decode cX9_tell 31 = .ok (.iconst 1, 1) := by decide +kernel
theorem dX9_tell_32 : decode cX9_tell 32 = .ok (.iadd, 1) := by decide +kernel
theorem dX9_tell_33 : decode cX9_tell 33 = .ok (.putfield 275, 3) := by decide +kernel
theorem dX9_tell_36 : decode cX9_tell 36 = .ok (.aload_n 0, 1) := by decide +kernel
theorem dX9_tell_37 : decode cX9_tell 37 = .ok (.getfield 275, 3) := by decide +kernel
theorem dX9_tell_40 : decode cX9_tell 40 = .ok (.ireturn, 1) := by decide +kernel
set_option maxRecDepth 20000 in
theorem ggX9_isGood_X9_number : GoodIn wsX9_isGood wsX9_number := goodIn_r _ [9, 2, 10, 14, 15, 16, 17, 18, 19, 20, 21, 22, 23, 24, 25, 26, 27, 28, 29, 30, 31, 32, 33, 34, 35, 36, 37, 38, 39, 40, 41, 42, 43, 44, 45, 46, 47, 48, 49, 50] (by decide +kernel) (by decide +kernel)
set_option maxRecDepth 20000 in
theorem gX9_isGood_X9_number : GoodIn wsX9_isGood (wsV RX9 169 RX9 yX9_number wsX9_number) := goodIn_app (goodIn_of _ (by decide +kernel)) ggX9_isGood_X9_number
set_option maxRecDepth 20000 in
theorem ggX9_isGood_X9_in : GoodIn wsX9_isGood wsX9_in := goodIn_r _ [13] (by decide +kernel) (by decide +kernel)
set_option maxRecDepth 20000 in
theorem gX9_isGood_X9_in : GoodIn wsX9_isGood (va_wsS RX9 97 yX9_in wsX9_in) := goodIn_app (goodIn_of _ (by decide +kernel)) ggX9_isGood_X9_in
theorem dX9_isGood_0 : decode cX9_isGood 0 = .ok (.iconst 2, 1) := by decide +kernel
theorem dX9_isGood_1 : decode cX9_isGood 1 = .ok (.iload_n 1, 1) := by decide +kernel
theorem dX9_isGood_2 : decode cX9_isGood 2 = .ok (.imul, 1) := by decide +kernel
theorem dX9_isGood_3 : decode cX9_isGood 3 = .ok (.iconst 1, 1) := by decide +kernel
theorem dX9_isGood_4 : decode cX9_isGood 4 = .ok (.iadd, 1) := by decide +kernel
theorem dX9_isGood_5 : decode cX9_isGood 5 = .ok (.iload_n 3, 1) := by decide +kernel
theorem dX9_isGood_6 : decode cX9_isGood 6 = .ok (.if_icmp .lt 5, 3) := by decide +kernel
theorem dX9_isGood_9 : decode cX9_isGood 9 = .ok (.iconst 0, 1) := by decide +kernel
theorem dX9_isGood_10 : decode cX9_isGood 10 = .ok (.ireturn, 1) := by decide +kernel
theorem dX9_isGood_11 : decode cX9_isGood 11 = .ok (.aload_n 0, 1) := by decide +kernel
theorem dX9_isGood_12 : decode cX9_isGood 12 = .ok (.getfield 31, 3) := by decide +kernel
theorem dX9_isGood_15 : decode cX9_isGood 15 = .ok (.iconst 2, 1) := by decide +kernel
theorem dX9_isGood_16 : decode cX9_isGood 16 = .ok (.iload_n 1, 1) := by decide +kernel
theorem dX9_isGood_17 : decode cX9_isGood 17 = .ok (.imul, 1) := by decide +kernel
theorem dX9_isGood_18 : decode cX9_isGood 18 = .ok (.iaload, 1) := by decide +kernel
theorem dX9_isGood_19 : decode cX9_isGood 19 = .ok (.i2l, 1) := by decide +kernel
theorem dX9_isGood_20 : decode cX9_isGood 20 = .ok (.lstore 4, 2) := by decide +kernel
theorem dX9_isGood_22 : decode cX9_isGood 22 = .ok (.aload_n 0, 1) := by decide +kernel
theorem dX9_isGood_23 : decode cX9_isGood 23 = .ok (.getfield 31, 3) := by decide +kernel
theorem dX9_isGood_26 : decode cX9_isGood 26 = .ok (.iconst 2, 1) := by decide +kernel
theorem dX9_isGood_27 : decode cX9_isGood 27 = .ok (.iload_n 1, 1) := by decide +kernel
theorem dX9_isGood_28 : decode cX9_isGood 28 = .ok (.imul, 1) := by decide +kernel
theorem dX9_isGood_29 : decode cX9_isGood 29 = .ok (.iconst 1, 1) := by decide +kernel
theorem dX9_isGood_30 : decode cX9_isGood 30 = .ok (.iadd, 1) := by decide +kernel
theorem dX9_isGood_31 : decode cX9_isGood 31 = .ok (.iaload, 1) := by decide +kernel
theorem dX9_isGood_32 : decode cX9_isGood 32 = .ok (.istore 6, 2) := by decide +kernel
theorem dX9_isGood_34 : decode cX9_isGood 34 = .ok (.iload 6, 2) := by decide +kernel
theorem dX9_isGood_36 : decode cX9_isGood 36 = .ok (.i2l, 1) := by decide +kernel
theorem dX9_isGood_37 : decode cX9_isGood 37 = .ok (.aload_n 0, 1) := by decide +kernel
theorem dX9_isGood_38 : decode cX9_isGood 38 = .ok (.iload_n 1, 1) := by decide +kernel
theorem dX9_isGood_39 : decode cX9_isGood 39 = .ok (.iconst 1, 1) := by decide +kernel
theorem dX9_isGood_40 : decode cX9_isGood 40 = .ok (.invokevirtual 169, 3) := by decide +kernel
theorem dX9_isGood_43 : decode cX9_isGood 43 = .ok (.i2l, 1) := by decide +kernel
theorem dX9_isGood_44 : decode cX9_isGood 44 = .ok (.aload_n 0, 1) := by decide +kernel
theorem dX9_isGood_45 : decode cX9_isGood 45 = .ok (.iload_n 1, 1) := by decide +kernel
theorem dX9_isGood_46 : decode cX9_isGood 46 = .ok (.iconst 0, 1) := by decide +kernel
theorem dX9_isGood_47 : decode cX9_isGood 47 = .ok (.invokevirtual 169, 3) := by decide +kernel
theorem dX9_isGood_50 : decode cX9_isGood 50 = .ok (.i2l, 1) := by decide +kernel
theorem dX9_isGood_51 : decode cX9_isGood 51 = .ok (.invokestatic 97, 3) := by decide +kernel
theorem dX9_isGood_54 : decode cX9_isGood 54 = .ok (.ifCond .eq 22, 3) := by decide +kernel
theorem dX9_isGood_57 : decode cX9_isGood 57 = .ok (.lload 4, 2) := by decide +kernel
theorem dX9_isGood_59 : decode cX9_isGood 59 = .ok (.lconst 0, 1) := by decide +kernel
theorem dX9_isGood_60 : decode cX9_isGood 60 = .ok (.lcmp, 1) := by decide +kernel
theorem dX9_isGood_61 : decode cX9_isGood 61 = .ok (.ifCond .lt 15, 3) := by decide +kernel
theorem dX9_isGood_64 : decode cX9_isGood 64 = .ok (.lload 4, 2) := by decide +kernel
theorem dX9_isGood_66 : decode cX9_isGood 66 = .ok (.iload 6, 2) := by decide +kernel
theorem dX9_isGood_68 : decode cX9_isGood 68 = .ok (.i2l, 1) := by decide +kernel
theorem dX9_isGood_69 : decode cX9_isGood 69 = .ok (.ladd, 1) := by decide +kernel
theorem dX9_isGood_70 : decode cX9_isGood 70 = .ok (.iload_n 2, 1) := by decide +kernel
theorem dX9_isGood_71 : decode cX9_isGood 71 = .ok (.i2l, 1) := by decide +kernel
theorem dX9_isGood_72 : decode cX9_isGood 72 = .ok (.lcmp, 1) := by decide +kernel
theorem dX9_isGood_73 : decode cX9_isGood 73 = .ok (.ifCond .le 5, 3) := by decide +kernel
theorem dX9_isGood_76 : decode cX9_isGood 76 = .ok (.iconst 0, 1) := by decide +kernel
theorem dX9_isGood_77 : decode cX9_isGood 77 = .ok (.ireturn, 1) := by decide +kernel
theorem dX9_isGood_78 : decode cX9_isGood 78 = .ok (.iconst 1, 1) := by decide +kernel
theorem dX9_isGood_79 : decode cX9_isGood 79 = .ok (.istore 7, 2) := by decide +kernel
theorem dX9_isGood_81 : decode cX9_isGood 81 = .ok (.iconst 0, 1) := by decide +kernel
theorem dX9_isGood_82 : decode cX9_isGood 82 = .ok (.istore 8, 2) := by decide +kernel
theorem dX9_isGood_84 : decode cX9_isGood 84 = .ok (.iload 8, 2) := by decide +kernel
theorem dX9_isGood_86 : decode cX9_isGood 86 = .ok (.aload_n 0, 1) := by decide +kernel
theorem dX9_isGood_87 : decode cX9_isGood 87 = .ok (.getfield 10, 3) := by decide +kernel
theorem dX9_isGood_90 : decode cX9_isGood 90 = .ok (.getfield 94, 3) := by decide +kernel
theorem dX9_isGood_93 : decode cX9_isGood 93 = .ok (.if_icmp .ge 81, 3) := by decide +kernel
theorem dX9_isGood_96 : decode cX9_isGood 96 = .ok (.aload_n 0, 1) := by decide +kernel
theorem dX9_isGood_97 : decode cX9_isGood 97 = .ok (.getfield 10, 3) := by decide +kernel
theorem dX9_isGood_100 : decode cX9_isGood 100 = .ok (.getfield 147, 3) := by decide +kernel
theorem dX9_isGood_103 : decode cX9_isGood 103 = .ok (.bipush 12, 2) := by decide +kernel
theorem dX9_isGood_105 : decode cX9_isGood 105 = .ok (.iload_n 1, 1) := by decide +kernel
theorem dX9_isGood_106 : decode cX9_isGood 106 = .ok (.imul, 1) := by decide +kernel
theorem dX9_isGood_107 : decode cX9_isGood 107 = .ok (.iload 8, 2) := by decide +kernel
theorem dX9_isGood_109 : decode cX9_isGood 109 = .ok (.iadd, 1) := by decide +kernel
theorem dX9_isGood_110 : decode cX9_isGood 110 = .ok (.baload, 1) := by decide +kernel
theorem dX9_isGood_111 : decode cX9_isGood 111 = .ok (.ifCond .eq 57, 3) := by decide +kernel
theorem dX9_isGood_114 : decode cX9_isGood 114 = .ok (.iconst 2, 1) := by decide +kernel
theorem dX9_isGood_115 : decode cX9_isGood 115 = .ok (.iload 8, 2) := by decide +kernel
theorem dX9_isGood_117 : decode cX9_isGood 117 = .ok (.imul, 1) := by decide +kernel
theorem dX9_isGood_118 : decode cX9_isGood 118 = .ok (.iconst 1, 1) := by decide +kernel
theorem dX9_isGood_119 : decode cX9_isGood 119 = .ok (.iadd, 1) := by decide +kernel
theorem dX9_isGood_120 : decode cX9_isGood 120 = .ok (.iload_n 3, 1) := by decide +kernel
theorem dX9_isGood_121 : decode cX9_isGood 121 = .ok (.if_icmp .lt 6, 3) := by decide +kernel
theorem dX9_isGood_124 : decode cX9_isGood 124 = .ok (.goto 44, 3) := by decide +kernel
theorem dX9_isGood_127 : decode cX9_isGood 127 = .ok (.iload 7, 2) := by decide +kernel
theorem dX9_isGood_129 : decode cX9_isGood 129 = .ok (.ifCond .eq 36, 3) := by decide +kernel
theorem dX9_isGood_132 : decode cX9_isGood 132 = .ok (.lload 4, 2) := by decide +kernel
theorem dX9_isGood_134 : decode cX9_isGood 134 = .ok (.aload_n 0, 1) := by decide +kernel
theorem dX9_isGood_135 : decode cX9_isGood 135 = .ok (.getfield 31, 3) := by decide +kernel
theorem dX9_isGood_138 : decode cX9_isGood 138 = .ok (.iconst 2, 1) := by decide +kernel
theorem dX9_isGood_139 : decode cX9_isGood 139 = .ok (.iload 8, 2) := by decide +kernel
theorem dX9_isGood_141 : decode cX9_isGood 141 = .ok (.imul, 1) := by decide +kernel
theorem dX9_isGood_142 : decode cX9_isGood 142 = .ok (.iaload, 1) := by decide +kernel
theorem dX9_isGood_143 : decode cX9_isGood 143 = .ok (.i2l, 1) := by decide +kernel
theorem dX9_isGood_144 : decode cX9_isGood 144 = .ok (.aload_n 0, 1) := by decide +kernel
theorem dX9_isGood_145 : decode cX9_isGood 145 = .ok (.getfield 31, 3) := by decide +kernel
theorem dX9_isGood_148 : decode cX9_isGood 148 = .ok (.iconst 2, 1) := by decide +kernel
theorem dX9_isGood_149 : decode cX9_isGood 149 = .ok (.iload 8, 2) := by decide +kernel
theorem dX9_isGood_151 : decode cX9_isGood 151 = .ok (.imul, 1) := by decide +kernel
theorem dX9_isGood_152 : decode cX9_isGood 152 = .ok (.iconst 1, 1) := by decide +kernel
theorem dX9_isGood_153 : decode cX9_isGood 153 = .ok (.iadd, 1) := by decide +kernel
theorem dX9_isGood_154 : decode cX9_isGood 154 = .ok (.iaload, 1) := by decide +kernel
theorem dX9_isGood_155 : decode cX9_isGood 155 = .ok (.i2l, 1) := by decide +kernel
theorem dX9_isGood_156 : decode cX9_isGood 156 = .ok (.ladd, 1) := by decide +kernel
theorem dX9_isGood_157 : decode cX9_isGood 157 = .ok (.lcmp, 1) := by decide +kernel
theorem dX9_isGood_158 : decode cX9_isGood 158 = .ok (.ifCond .lt 7, 3) := by decide +kernel
theorem dX9_isGood_161 : decode cX9_isGood 161 = .ok (.iconst 1, 1) := by decide +kernel
theorem dX9_isGood_162 : decode cX9_isGood 162 = .ok (.goto 4, 3) := by decide +kernel
theorem dX9_isGood_165 : decode cX9_isGood 165 = .ok (.iconst 0, 1) := by decide +kernel
theorem dX9_isGood_166 : decode cX9_isGood 166 = .ok (.istore 7, 2) := by decide +kernel
theorem dX9_isGood_168 : decode cX9_isGood 168 = .ok (.iinc 8 1, 3) := by decide +kernel
theorem dX9_isGood_171 : decode cX9_isGood 171 = .ok (.goto (-87), 3) := by decide +kernel
theorem dX9_isGood_174 : decode cX9_isGood 174 = .ok (.iload 7, 2) := by decide +kernel
theorem dX9_isGood_176 : decode cX9_isGood 176 = .ok (.ireturn, 1) := by decide +kernel
set_option maxRecDepth 20000 in
theorem ggX9_check_X9_know : GoodIn wsX9_check wsX9_know := goodIn_r _ [10, 11, 2, 3, 4, 12, 13, 14, 15, 16, 9, 17, 18, 19, 20, 21, 22, 23, 24, 25, 26, 27, 28, 29, 30, 31, 32, 33, 34, 35, 36, 37, 38, 39, 40, 41, 42, 43, 44, 45, 46, 47, 48, 49, 50, 51, 52, 53, 54, 55, 56, 57, 58, 59, 60, 61, 62, 63, 64, 65, 66, 67, 68, 69, 70, 71, 72, 73, 74, 75, 76, 77, 78, 79, 80, 81, 82, 83, 84, 85, 86, 87, 88, 89, 90, 91, 92, 93, 94, 95, 96, 97, 112, 113, 114, 115, 116, 117, 118, 119, 120, 121, 122, 123, 124, 125, 126, 127, 128, 129, 130, 131, 132, 133, 134, 135, 136, 137, 138, 139, 140, 141, 142, 143, 144, 145, 146, 147, 148] (by decide +kernel) (by decide +kernel)
set_option maxRecDepth 20000 in
theorem gX9_check_X9_know : GoodIn wsX9_check (wsV RX9 251 RX9 yX9_know wsX9_know) := goodIn_app (goodIn_of _ (by decide +kernel)) ggX9_check_X9_know
set_option maxRecDepth 20000 in
theorem ggX9_check_X9_found : GoodIn wsX9_check wsX9_found := goodIn_r _ [101, 102, 112, 113, 114, 115, 116, 117, 118, 119, 120, 121, 122, 123, 124, 125, 126, 127, 128, 129, 130, 131, 132, 133, 134, 135, 136, 137, 138, 139, 140, 141, 142, 143] (by decide +kernel) (by decide +kernel)
set_option maxRecDepth 20000 in
theorem gX9_check_X9_found : GoodIn wsX9_check (wsV RX9 107 RX9 yX9_found wsX9_found) := goodIn_app (goodIn_of _ (by decide +kernel)) ggX9_check_X9_found
set_option maxRecDepth 20000 in
theorem ggX9_check_X9_isGood : GoodIn wsX9_check wsX9_isGood := goodIn_r _ [106, 5, 3, 4, 29, 18, 19, 20, 9, 21, 22, 48, 49, 50, 112, 113, 114, 115, 116, 117, 118, 119, 120, 121, 122, 123, 124, 125, 126, 127, 128, 129, 130, 131, 132, 133, 134, 135, 136, 137, 138, 139, 140, 141, 142, 143, 144, 145, 146, 147, 148] (by decide +kernel) (by decide +kernel)
set_option maxRecDepth 20000 in
theorem gX9_check_X9_isGood : GoodIn wsX9_check (wsV RX9 278 RX9 yX9_isGood wsX9_isGood) := goodIn_app (goodIn_of _ (by decide +kernel)) ggX9_check_X9_isGood
set_option maxRecDepth 20000 in
theorem ggX9_check_X9_costOf : GoodIn wsX9_check wsX9_costOf := goodIn_r _ [45, 46, 3, 47, 30, 31, 32, 33, 18, 19, 20, 9, 21, 22, 48, 49, 50, 112, 113, 114, 115, 116, 117, 118, 119, 120, 121, 122, 123, 124, 125, 126, 127, 128, 129, 130, 131, 132, 133, 134, 135, 136, 137, 138, 139, 140, 141, 142, 143, 144, 145, 146, 147, 148] (by decide +kernel) (by decide +kernel)
set_option maxRecDepth 20000 in
theorem gX9_check_X9_costOf : GoodIn wsX9_check (wsV RX9 199 RX9 yX9_costOf wsX9_costOf) := goodIn_app (goodIn_of _ (by decide +kernel)) ggX9_check_X9_costOf
set_option maxRecDepth 20000 in
theorem ggX9_check_X9_cheapAt : GoodIn wsX9_check wsX9_cheapAt := goodIn_r _ [110, 13, 111, 91, 92, 32, 93, 6, 7, 8, 9, 10, 11, 2, 3, 4, 12, 14, 15, 16, 17, 18, 19, 20, 21, 22, 23, 24, 25, 26, 27, 28, 29, 30, 31, 33, 34, 35, 36, 37, 38, 39, 40, 41, 42, 43, 44, 45, 46, 47, 48, 49, 50, 51, 52, 53, 54, 55, 56, 57, 58, 59, 60, 61, 62, 63, 64, 65, 66, 67, 68, 69, 70, 71, 72, 73, 74, 75, 76, 77, 78, 79, 80, 81, 82, 83, 84, 85, 86, 87, 88, 89, 90, 94, 95, 96, 97, 112, 113, 114, 115, 116, 117, 118, 119, 120, 121, 122, 123, 124, 125, 126, 127, 128, 129, 130, 131, 132, 133, 134, 135, 136, 137, 138, 139, 140, 141, 142, 143, 144, 145, 146, 147, 148] (by decide +kernel) (by decide +kernel)
set_option maxRecDepth 20000 in
theorem gX9_check_X9_cheapAt : GoodIn wsX9_check (wsV RX9 258 RX9 yX9_cheapAt wsX9_cheapAt) := goodIn_app (goodIn_of _ (by decide +kernel)) ggX9_check_X9_cheapAt
theorem dX9_check_0 : decode cX9_check 0 = .ok (.aload_n 0, 1) := by decide +kernel
theorem dX9_check_1 : decode cX9_check 1 = .ok (.getfield 275, 3) := by decide +kernel
theorem dX9_check_4 : decode cX9_check 4 = .ok (.istore_n 2, 1) := by decide +kernel
theorem dX9_check_5 : decode cX9_check 5 = .ok (.aload_n 0, 1) := by decide +kernel
theorem dX9_check_6 : decode cX9_check 6 = .ok (.iconst 0, 1) := by decide +kernel
theorem dX9_check_7 : decode cX9_check 7 = .ok (.putfield 275, 3) := by decide +kernel
theorem dX9_check_10 : decode cX9_check 10 = .ok (.aload_n 0, 1) := by decide +kernel
theorem dX9_check_11 : decode cX9_check 11 = .ok (.invokevirtual 251, 3) := by decide +kernel
theorem dX9_check_14 : decode cX9_check 14 = .ok (.iload_n 1, 1) := by decide +kernel
theorem dX9_check_15 : decode cX9_check 15 = .ok (.aload_n 0, 1) := by decide +kernel
theorem dX9_check_16 : decode cX9_check 16 = .ok (.getfield 235, 3) := by decide +kernel
theorem dX9_check_19 : decode cX9_check 19 = .ok (.if_icmp .ge 10, 3) := by decide +kernel
theorem dX9_check_22 : decode cX9_check 22 = .ok (.aload_n 0, 1) := by decide +kernel
theorem dX9_check_23 : decode cX9_check 23 = .ok (.bipush (-8), 2) := by decide +kernel
theorem dX9_check_25 : decode cX9_check 25 = .ok (.invokevirtual 107, 3) := by decide +kernel
theorem dX9_check_28 : decode cX9_check 28 = .ok (.ireturn, 1) := by decide +kernel
theorem dX9_check_29 : decode cX9_check 29 = .ok (.lconst 0, 1) := by decide +kernel
theorem dX9_check_30 : decode cX9_check 30 = .ok (.lstore_n 3, 1) := by decide +kernel
theorem dX9_check_31 : decode cX9_check 31 = .ok (.iconst 0, 1) := by decide +kernel
theorem dX9_check_32 : decode cX9_check 32 = .ok (.istore 5, 2) := by decide +kernel
theorem dX9_check_34 : decode cX9_check 34 = .ok (.iload 5, 2) := by decide +kernel
theorem dX9_check_36 : decode cX9_check 36 = .ok (.aload_n 0, 1) := by decide +kernel
theorem dX9_check_37 : decode cX9_check 37 = .ok (.getfield 10, 3) := by decide +kernel
theorem dX9_check_40 : decode cX9_check 40 = .ok (.getfield 94, 3) := by decide +kernel
theorem dX9_check_43 : decode cX9_check 43 = .ok (.if_icmp .ge 46, 3) := by decide +kernel
theorem dX9_check_46 : decode cX9_check 46 = .ok (.aload_n 0, 1) := by decide +kernel
theorem dX9_check_47 : decode cX9_check 47 = .ok (.iload 5, 2) := by decide +kernel
theorem dX9_check_49 : decode cX9_check 49 = .ok (.iload_n 1, 1) := by decide +kernel
theorem dX9_check_50 : decode cX9_check 50 = .ok (.iload_n 2, 1) := by decide +kernel
theorem dX9_check_51 : decode cX9_check 51 = .ok (.invokevirtual 278, 3) := by decide +kernel
theorem dX9_check_54 : decode cX9_check 54 = .ok (.ifCond .ne 9, 3) := by decide +kernel
theorem dX9_check_57 : decode cX9_check 57 = .ok (.bipush 100, 2) := by decide +kernel
theorem dX9_check_59 : decode cX9_check 59 = .ok (.iload 5, 2) := by decide +kernel
theorem dX9_check_61 : decode cX9_check 61 = .ok (.iadd, 1) := by decide +kernel
theorem dX9_check_62 : decode cX9_check 62 = .ok (.ireturn, 1) := by decide +kernel
theorem dX9_check_63 : decode cX9_check 63 = .ok (.lload_n 3, 1) := by decide +kernel
theorem dX9_check_64 : decode cX9_check 64 = .ok (.aload_n 0, 1) := by decide +kernel
theorem dX9_check_65 : decode cX9_check 65 = .ok (.iload 5, 2) := by decide +kernel
theorem dX9_check_67 : decode cX9_check 67 = .ok (.aload_n 0, 1) := by decide +kernel
theorem dX9_check_68 : decode cX9_check 68 = .ok (.getfield 31, 3) := by decide +kernel
theorem dX9_check_71 : decode cX9_check 71 = .ok (.iconst 2, 1) := by decide +kernel
theorem dX9_check_72 : decode cX9_check 72 = .ok (.iload 5, 2) := by decide +kernel
theorem dX9_check_74 : decode cX9_check 74 = .ok (.imul, 1) := by decide +kernel
theorem dX9_check_75 : decode cX9_check 75 = .ok (.iconst 1, 1) := by decide +kernel
theorem dX9_check_76 : decode cX9_check 76 = .ok (.iadd, 1) := by decide +kernel
theorem dX9_check_77 : decode cX9_check 77 = .ok (.iaload, 1) := by decide +kernel
theorem dX9_check_78 : decode cX9_check 78 = .ok (.invokevirtual 199, 3) := by decide +kernel
theorem dX9_check_81 : decode cX9_check 81 = .ok (.ladd, 1) := by decide +kernel
theorem dX9_check_82 : decode cX9_check 82 = .ok (.lstore_n 3, 1) := by decide +kernel
theorem dX9_check_83 : decode cX9_check 83 = .ok (.iinc 5 1, 3) := by decide +kernel
theorem dX9_check_86 : decode cX9_check 86 = .ok (.goto (-52), 3) := by decide +kernel
theorem dX9_check_89 : decode cX9_check 89 = .ok (.iload_n 2, 1) := by decide +kernel
theorem dX9_check_90 : decode cX9_check 90 = .ok (.iconst 2, 1) := by decide +kernel
theorem dX9_check_91 : decode cX9_check 91 = .ok (.aload_n 0, 1) := by decide +kernel
theorem dX9_check_92 : decode cX9_check 92 = .ok (.getfield 10, 3) := by decide +kernel
theorem dX9_check_95 : decode cX9_check 95 = .ok (.getfield 94, 3) := by decide +kernel
theorem dX9_check_98 : decode cX9_check 98 = .ok (.imul, 1) := by decide +kernel
theorem dX9_check_99 : decode cX9_check 99 = .ok (.if_icmp .le 6, 3) := by decide +kernel
theorem dX9_check_102 : decode cX9_check 102 = .ok (.bipush 90, 2) := by decide +kernel
theorem dX9_check_104 : decode cX9_check 104 = .ok (.ireturn, 1) := by decide +kernel
theorem dX9_check_105 : decode cX9_check 105 = .ok (.lload_n 3, 1) := by decide +kernel
theorem dX9_check_106 : decode cX9_check 106 = .ok (.aload_n 0, 1) := by decide +kernel
theorem dX9_check_107 : decode cX9_check 107 = .ok (.iload_n 1, 1) := by decide +kernel
theorem dX9_check_108 : decode cX9_check 108 = .ok (.i2l, 1) := by decide +kernel
theorem dX9_check_109 : decode cX9_check 109 = .ok (.invokevirtual 258, 3) := by decide +kernel
theorem dX9_check_112 : decode cX9_check 112 = .ok (.lcmp, 1) := by decide +kernel
theorem dX9_check_113 : decode cX9_check 113 = .ok (.ifCond .ne 7, 3) := by decide +kernel
theorem dX9_check_116 : decode cX9_check 116 = .ok (.iconst 0, 1) := by decide +kernel
theorem dX9_check_117 : decode cX9_check 117 = .ok (.goto 4, 3) := by decide +kernel
theorem dX9_check_120 : decode cX9_check 120 = .ok (.iconst 1, 1) := by decide +kernel
theorem dX9_check_121 : decode cX9_check 121 = .ok (.ireturn, 1) := by decide +kernel
set_option maxRecDepth 20000 in
theorem ggX9_undo_X9_found : GoodIn wsX9_undo wsX9_found := goodIn_r _ [9, 10, 27, 28, 29, 30, 31, 32, 33, 34, 35, 36, 37, 38, 39, 40, 41, 42, 43, 44, 45, 46, 47, 48, 49, 50, 51, 52, 53, 54, 55, 56, 57, 58] (by decide +kernel) (by decide +kernel)
set_option maxRecDepth 20000 in
theorem gX9_undo_X9_found : GoodIn wsX9_undo (wsV RX9 107 RX9 yX9_found wsX9_found) := goodIn_app (goodIn_of _ (by decide +kernel)) ggX9_undo_X9_found
set_option maxRecDepth 20000 in
theorem ggX9_undo_X8_be : GoodIn wsX9_undo wsX8_be := goodIn_r _ [15, 16, 17, 18, 19, 20, 59, 60, 61, 62, 63] (by decide +kernel) (by decide +kernel)
set_option maxRecDepth 20000 in
theorem gX9_undo_X8_be : GoodIn wsX9_undo (wsV RX9 114 RX8 yX8_be wsX8_be) := goodIn_app (goodIn_of _ (by decide +kernel)) ggX9_undo_X8_be
set_option maxRecDepth 20000 in
theorem ggX9_undo_X9_changes : GoodIn wsX9_undo wsX9_changes := goodIn_r _ [24, 25, 26, 27, 28, 29, 30, 31, 32, 33, 34, 35, 36, 37, 38, 39, 40, 41, 42, 43, 44, 45, 46, 47, 48, 49, 50, 51, 52, 53, 54, 55, 56, 57, 58] (by decide +kernel) (by decide +kernel)
set_option maxRecDepth 20000 in
theorem gX9_undo_X9_changes : GoodIn wsX9_undo (wsV RX9 118 RX9 yX9_changes wsX9_changes) := goodIn_app (goodIn_of _ (by decide +kernel)) ggX9_undo_X9_changes
theorem dX9_undo_0 : decode cX9_undo 0 = .ok (.aload_n 0, 1) := by decide +kernel
theorem dX9_undo_1 : decode cX9_undo 1 = .ok (.getfield 111, 3) := by decide +kernel
theorem dX9_undo_4 : decode cX9_undo 4 = .ok (.ifCond .ne 10, 3) := by decide +kernel
theorem dX9_undo_7 : decode cX9_undo 7 = .ok (.aload_n 0, 1) := by decide +kernel
theorem dX9_undo_8 : decode cX9_undo 8 = .ok (.bipush (-7), 2) := by decide +kernel
theorem dX9_undo_10 : decode cX9_undo 10 = .ok (.invokevirtual 107, 3) := by decide +kernel
theorem dX9_undo_13 : decode cX9_undo 13 = .ok (.ireturn, 1) := by decide +kernel
theorem dX9_undo_14 : decode cX9_undo 14 = .ok (.aload_n 0, 1) := by decide +kernel
theorem dX9_undo_15 : decode cX9_undo 15 = .ok (.dup, 1) := by decide +kernel
theorem dX9_undo_16 : decode cX9_undo 16 = .ok (.getfield 111, 3) := by decide +kernel
theorem dX9_undo_19 : decode cX9_undo 19 = .ok (.iconst 1, 1) := by decide +kernel
theorem dX9_undo_20 : decode cX9_undo 20 = .ok (.isub, 1) := by decide +kernel
theorem dX9_undo_21 : decode cX9_undo 21 = .ok (.putfield 111, 3) := by decide +kernel
theorem dX9_undo_24 : decode cX9_undo 24 = .ok (.aload_n 0, 1) := by decide +kernel
theorem dX9_undo_25 : decode cX9_undo 25 = .ok (.getfield 10, 3) := by decide +kernel
theorem dX9_undo_28 : decode cX9_undo 28 = .ok (.aload_n 0, 1) := by decide +kernel
theorem dX9_undo_29 : decode cX9_undo 29 = .ok (.getfield 19, 3) := by decide +kernel
theorem dX9_undo_32 : decode cX9_undo 32 = .ok (.aload_n 0, 1) := by decide +kernel
theorem dX9_undo_33 : decode cX9_undo 33 = .ok (.getfield 111, 3) := by decide +kernel
theorem dX9_undo_36 : decode cX9_undo 36 = .ok (.aaload, 1) := by decide +kernel
theorem dX9_undo_37 : decode cX9_undo 37 = .ok (.invokevirtual 114, 3) := by decide +kernel
theorem dX9_undo_40 : decode cX9_undo 40 = .ok (.aload_n 0, 1) := by decide +kernel
theorem dX9_undo_41 : decode cX9_undo 41 = .ok (.getfield 23, 3) := by decide +kernel
theorem dX9_undo_44 : decode cX9_undo 44 = .ok (.aload_n 0, 1) := by decide +kernel
theorem dX9_undo_45 : decode cX9_undo 45 = .ok (.getfield 111, 3) := by decide +kernel
theorem dX9_undo_48 : decode cX9_undo 48 = .ok (.baload, 1) := by decide +kernel
theorem dX9_undo_49 : decode cX9_undo 49 = .ok (.ifCond .ne 7, 3) := by decide +kernel
theorem dX9_undo_52 : decode cX9_undo 52 = .ok (.aload_n 0, 1) := by decide +kernel
theorem dX9_undo_53 : decode cX9_undo 53 = .ok (.invokevirtual 118, 3) := by decide +kernel
theorem dX9_undo_56 : decode cX9_undo 56 = .ok (.aload_n 0, 1) := by decide +kernel
theorem dX9_undo_57 : decode cX9_undo 57 = .ok (.getfield 111, 3) := by decide +kernel
theorem dX9_undo_60 : decode cX9_undo 60 = .ok (.ireturn, 1) := by decide +kernel
set_option maxRecDepth 20000 in
theorem ggX9_keep_X8_be : GoodIn wsX9_keep wsX8_be := goodIn_r _ [9, 10, 11, 12, 13, 14, 47, 48, 49, 50, 51] (by decide +kernel) (by decide +kernel)
set_option maxRecDepth 20000 in
theorem gX9_keep_X8_be : GoodIn wsX9_keep (wsV RX9 114 RX8 yX8_be wsX8_be) := goodIn_app (goodIn_of _ (by decide +kernel)) ggX9_keep_X8_be
theorem dX9_keep_0 : decode cX9_keep 0 = .ok (.aload_n 0, 1) := by decide +kernel
theorem dX9_keep_1 : decode cX9_keep 1 = .ok (.getfield 16, 3) := by decide +kernel
theorem dX9_keep_4 : decode cX9_keep 4 = .ok (.aload_n 0, 1) := by decide +kernel
theorem dX9_keep_5 : decode cX9_keep 5 = .ok (.getfield 10, 3) := by decide +kernel
theorem dX9_keep_8 : decode cX9_keep 8 = .ok (.invokevirtual 114, 3) := by decide +kernel
theorem dX9_keep_11 : decode cX9_keep 11 = .ok (.aload_n 0, 1) := by decide +kernel
theorem dX9_keep_12 : decode cX9_keep 12 = .ok (.iconst 1, 1) := by decide +kernel
theorem dX9_keep_13 : decode cX9_keep 13 = .ok (.putfield 282, 3) := by decide +kernel
theorem dX9_keep_16 : decode cX9_keep 16 = .ok (.aload_n 0, 1) := by decide +kernel
theorem dX9_keep_17 : decode cX9_keep 17 = .ok (.getfield 10, 3) := by decide +kernel
theorem dX9_keep_20 : decode cX9_keep 20 = .ok (.getfield 94, 3) := by decide +kernel
theorem dX9_keep_23 : decode cX9_keep 23 = .ok (.ireturn, 1) := by decide +kernel
set_option maxRecDepth 20000 in
theorem ggX9_back_X9_found : GoodIn wsX9_back wsX9_found := goodIn_r _ [10, 11, 28, 29, 30, 31, 32, 33, 34, 35, 36, 37, 38, 39, 40, 41, 42, 43, 44, 45, 46, 47, 48, 49, 50, 51, 52, 53, 54, 55, 56, 57, 58, 59] (by decide +kernel) (by decide +kernel)
set_option maxRecDepth 20000 in
theorem gX9_back_X9_found : GoodIn wsX9_back (wsV RX9 107 RX9 yX9_found wsX9_found) := goodIn_app (goodIn_of _ (by decide +kernel)) ggX9_back_X9_found
set_option maxRecDepth 20000 in
theorem ggX9_back_X8_be : GoodIn wsX9_back wsX8_be := goodIn_r _ [16, 17, 18, 19, 20, 21, 60, 61, 62, 63, 64] (by decide +kernel) (by decide +kernel)
set_option maxRecDepth 20000 in
theorem gX9_back_X8_be : GoodIn wsX9_back (wsV RX9 114 RX8 yX8_be wsX8_be) := goodIn_app (goodIn_of _ (by decide +kernel)) ggX9_back_X8_be
set_option maxRecDepth 20000 in
theorem ggX9_back_X9_changes : GoodIn wsX9_back wsX9_changes := goodIn_r _ [25, 26, 27, 28, 29, 30, 31, 32, 33, 34, 35, 36, 37, 38, 39, 40, 41, 42, 43, 44, 45, 46, 47, 48, 49, 50, 51, 52, 53, 54, 55, 56, 57, 58, 59] (by decide +kernel) (by decide +kernel)
set_option maxRecDepth 20000 in
theorem gX9_back_X9_changes : GoodIn wsX9_back (wsV RX9 118 RX9 yX9_changes wsX9_changes) := goodIn_app (goodIn_of _ (by decide +kernel)) ggX9_back_X9_changes
theorem dX9_back_0 : decode cX9_back 0 = .ok (.aload_n 0, 1) := by decide +kernel
theorem dX9_back_1 : decode cX9_back 1 = .ok (.getfield 282, 3) := by decide +kernel
theorem dX9_back_4 : decode cX9_back 4 = .ok (.ifCond .ne 10, 3) := by decide +kernel
theorem dX9_back_7 : decode cX9_back 7 = .ok (.aload_n 0, 1) := by decide +kernel
theorem dX9_back_8 : decode cX9_back 8 = .ok (.bipush (-7), 2) := by decide +kernel
theorem dX9_back_10 : decode cX9_back 10 = .ok (.invokevirtual 107, 3) := by decide +kernel
theorem dX9_back_13 : decode cX9_back 13 = .ok (.ireturn, 1) := by decide +kernel
theorem dX9_back_14 : decode cX9_back 14 = .ok (.aload_n 0, 1) := by decide +kernel
theorem dX9_back_15 : decode cX9_back 15 = .ok (.getfield 10, 3) := by decide +kernel
theorem dX9_back_18 : decode cX9_back 18 = .ok (.aload_n 0, 1) := by decide +kernel
theorem dX9_back_19 : decode cX9_back 19 = .ok (.getfield 16, 3) := by decide +kernel
theorem dX9_back_22 : decode cX9_back 22 = .ok (.invokevirtual 114, 3) := by decide +kernel
theorem dX9_back_25 : decode cX9_back 25 = .ok (.aload_n 0, 1) := by decide +kernel
theorem dX9_back_26 : decode cX9_back 26 = .ok (.iconst 0, 1) := by decide +kernel
theorem dX9_back_27 : decode cX9_back 27 = .ok (.putfield 111, 3) := by decide +kernel
theorem dX9_back_30 : decode cX9_back 30 = .ok (.aload_n 0, 1) := by decide +kernel
theorem dX9_back_31 : decode cX9_back 31 = .ok (.invokevirtual 118, 3) := by decide +kernel
theorem dX9_back_34 : decode cX9_back 34 = .ok (.aload_n 0, 1) := by decide +kernel
theorem dX9_back_35 : decode cX9_back 35 = .ok (.getfield 10, 3) := by decide +kernel
theorem dX9_back_38 : decode cX9_back 38 = .ok (.getfield 94, 3) := by decide +kernel
theorem dX9_back_41 : decode cX9_back 41 = .ok (.ireturn, 1) := by decide +kernel
set_option maxRecDepth 20000 in
theorem ggX9_pairs_X9_followed : GoodIn wsX9_pairs wsX9_followed := goodIn_r _ [7, 1, 2, 8, 9, 10, 11, 12, 13, 14, 15, 16, 17, 18, 19, 20, 21, 22, 23, 24, 25, 26, 27, 28, 29, 30, 31, 32, 33, 34, 35, 36, 37, 38, 39, 40, 41, 42, 43, 44, 45] (by decide +kernel) (by decide +kernel)
set_option maxRecDepth 20000 in
theorem gX9_pairs_X9_followed : GoodIn wsX9_pairs (wsV RX9 160 RX9 yX9_followed wsX9_followed) := goodIn_app (goodIn_of _ (by decide +kernel)) ggX9_pairs_X9_followed
theorem dX9_pairs_0 : decode cX9_pairs 0 = .ok (.iconst 0, 1) := by decide +kernel
theorem dX9_pairs_1 : decode cX9_pairs 1 = .ok (.istore_n 1, 1) := by decide +kernel
theorem dX9_pairs_2 : decode cX9_pairs 2 = .ok (.iconst 0, 1) := by decide +kernel
theorem dX9_pairs_3 : decode cX9_pairs 3 = .ok (.istore_n 2, 1) := by decide +kernel
theorem dX9_pairs_4 : decode cX9_pairs 4 = .ok (.iload_n 2, 1) := by decide +kernel
theorem dX9_pairs_5 : decode cX9_pairs 5 = .ok (.aload_n 0, 1) := by decide +kernel
theorem dX9_pairs_6 : decode cX9_pairs 6 = .ok (.getfield 10, 3) := by decide +kernel
theorem dX9_pairs_9 : decode cX9_pairs 9 = .ok (.getfield 94, 3) := by decide +kernel
theorem dX9_pairs_12 : decode cX9_pairs 12 = .ok (.if_icmp .ge 17, 3) := by decide +kernel
theorem dX9_pairs_15 : decode cX9_pairs 15 = .ok (.iload_n 1, 1) := by decide +kernel
theorem dX9_pairs_16 : decode cX9_pairs 16 = .ok (.aload_n 0, 1) := by decide +kernel
theorem dX9_pairs_17 : decode cX9_pairs 17 = .ok (.iload_n 2, 1) := by decide +kernel
theorem dX9_pairs_18 : decode cX9_pairs 18 = .ok (.invokevirtual 160, 3) := by decide +kernel
theorem dX9_pairs_21 : decode cX9_pairs 21 = .ok (.iadd, 1) := by decide +kernel
theorem dX9_pairs_22 : decode cX9_pairs 22 = .ok (.istore_n 1, 1) := by decide +kernel
theorem dX9_pairs_23 : decode cX9_pairs 23 = .ok (.iinc 2 1, 3) := by decide +kernel
theorem dX9_pairs_26 : decode cX9_pairs 26 = .ok (.goto (-22), 3) := by decide +kernel
theorem dX9_pairs_29 : decode cX9_pairs 29 = .ok (.iload_n 1, 1) := by decide +kernel
theorem dX9_pairs_30 : decode cX9_pairs 30 = .ok (.ireturn, 1) := by decide +kernel
set_option maxRecDepth 20000 in
theorem ggX9_told_X9_pairs : GoodIn wsX9_told wsX9_pairs := goodIn_r _ [12, 3, 4, 13, 14, 15, 11, 16, 17, 22, 23, 24, 25, 26, 27, 28, 29, 30, 31, 32, 33, 34, 35, 36, 37, 38, 39, 40, 41, 42, 43, 44, 45, 46, 47, 48, 49, 50, 51, 52, 53, 54, 55, 56, 57, 58] (by decide +kernel) (by decide +kernel)
set_option maxRecDepth 20000 in
theorem gX9_told_X9_pairs : GoodIn wsX9_told (wsV RX9 285 RX9 yX9_pairs wsX9_pairs) := goodIn_app (goodIn_of _ (by decide +kernel)) ggX9_told_X9_pairs
set_option maxRecDepth 20000 in
theorem ggX9_told_X9_found : GoodIn wsX9_told wsX9_found := goodIn_r _ [21, 7, 22, 23, 24, 25, 26, 27, 28, 29, 30, 31, 32, 33, 34, 35, 36, 37, 38, 39, 40, 41, 42, 43, 44, 45, 46, 47, 48, 49, 50, 51, 52, 53] (by decide +kernel) (by decide +kernel)
set_option maxRecDepth 20000 in
theorem gX9_told_X9_found : GoodIn wsX9_told (wsV RX9 107 RX9 yX9_found wsX9_found) := goodIn_app (goodIn_of _ (by decide +kernel)) ggX9_told_X9_found
theorem dX9_told_0 : decode cX9_told 0 = .ok (.iload_n 1, 1) := by decide +kernel
theorem dX9_told_1 : decode cX9_told 1 = .ok (.tableswitch 90 0 6 #[43, 48, 54, 62, 67, 72, 85], 43) := by decide +kernel
theorem dX9_told_44 : decode cX9_told 44 = .ok (.aload_n 0, 1) := by decide +kernel
theorem dX9_told_45 : decode cX9_told 45 = .ok (.getfield 157, 3) := by decide +kernel
theorem dX9_told_48 : decode cX9_told 48 = .ok (.ireturn, 1) := by decide +kernel
theorem dX9_told_49 : decode cX9_told 49 = .ok (.aload_n 0, 1) := by decide +kernel
theorem dX9_told_50 : decode cX9_told 50 = .ok (.getfield 27, 3) := by decide +kernel
theorem dX9_told_53 : decode cX9_told 53 = .ok (.l2i, 1) := by decide +kernel
theorem dX9_told_54 : decode cX9_told 54 = .ok (.ireturn, 1) := by decide +kernel
theorem dX9_told_55 : decode cX9_told 55 = .ok (.aload_n 0, 1) := by decide +kernel
theorem dX9_told_56 : decode cX9_told 56 = .ok (.getfield 10, 3) := by decide +kernel
theorem dX9_told_59 : decode cX9_told 59 = .ok (.getfield 94, 3) := by decide +kernel
theorem dX9_told_62 : decode cX9_told 62 = .ok (.ireturn, 1) := by decide +kernel
theorem dX9_told_63 : decode cX9_told 63 = .ok (.aload_n 0, 1) := by decide +kernel
theorem dX9_told_64 : decode cX9_told 64 = .ok (.invokevirtual 285, 3) := by decide +kernel
theorem dX9_told_67 : decode cX9_told 67 = .ok (.ireturn, 1) := by decide +kernel
theorem dX9_told_68 : decode cX9_told 68 = .ok (.aload_n 0, 1) := by decide +kernel
theorem dX9_told_69 : decode cX9_told 69 = .ok (.getfield 275, 3) := by decide +kernel
theorem dX9_told_72 : decode cX9_told 72 = .ok (.ireturn, 1) := by decide +kernel
theorem dX9_told_73 : decode cX9_told 73 = .ok (.aload_n 0, 1) := by decide +kernel
theorem dX9_told_74 : decode cX9_told 74 = .ok (.getfield 121, 3) := by decide +kernel
theorem dX9_told_77 : decode cX9_told 77 = .ok (.ifCond .eq 7, 3) := by decide +kernel
theorem dX9_told_80 : decode cX9_told 80 = .ok (.iconst 1, 1) := by decide +kernel
theorem dX9_told_81 : decode cX9_told 81 = .ok (.goto 4, 3) := by decide +kernel
theorem dX9_told_84 : decode cX9_told 84 = .ok (.iconst 0, 1) := by decide +kernel
theorem dX9_told_85 : decode cX9_told 85 = .ok (.ireturn, 1) := by decide +kernel
theorem dX9_told_86 : decode cX9_told 86 = .ok (.aload_n 0, 1) := by decide +kernel
theorem dX9_told_87 : decode cX9_told 87 = .ok (.getfield 90, 3) := by decide +kernel
theorem dX9_told_90 : decode cX9_told 90 = .ok (.ireturn, 1) := by decide +kernel
theorem dX9_told_91 : decode cX9_told 91 = .ok (.aload_n 0, 1) := by decide +kernel
theorem dX9_told_92 : decode cX9_told 92 = .ok (.iconst (-1), 1) := by decide +kernel
theorem dX9_told_93 : decode cX9_told 93 = .ok (.invokevirtual 107, 3) := by decide +kernel
theorem dX9_told_96 : decode cX9_told 96 = .ok (.ireturn, 1) := by decide +kernel
