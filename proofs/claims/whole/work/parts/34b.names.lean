theorem dX9_cheapAt_0 : decode cX9_cheapAt 0 = .ok (.aload_n 0, 1) := by decide +kernel
theorem dX9_cheapAt_1 : decode cX9_cheapAt 1 = .ok (.invokevirtual 251, 3) := by decide +kernel
theorem dX9_cheapAt_4 : decode cX9_cheapAt 4 = .ok (.aload_n 0, 1) := by decide +kernel
theorem dX9_cheapAt_5 : decode cX9_cheapAt 5 = .ok (.getfield 78, 3) := by decide +kernel
theorem dX9_cheapAt_8 : decode cX9_cheapAt 8 = .ok (.lload_n 1, 1) := by decide +kernel
theorem dX9_cheapAt_9 : decode cX9_cheapAt 9 = .ok (.ldc2_w 254, 3) := by decide +kernel
theorem dX9_cheapAt_12 : decode cX9_cheapAt 12 = .ok (.invokestatic 228, 3) := by decide +kernel
theorem dX9_cheapAt_15 : decode cX9_cheapAt 15 = .ok (.l2i, 1) := by decide +kernel
theorem dX9_cheapAt_16 : decode cX9_cheapAt 16 = .ok (.laload, 1) := by decide +kernel
theorem dX9_cheapAt_17 : decode cX9_cheapAt 17 = .ok (.lreturn, 1) := by decide +kernel
set_option maxRecDepth 20000 in
theorem ggX9_cheapest_X9_in : GoodIn wsX9_cheapest wsX9_in := goodIn_r _ [6] (by decide +kernel) (by decide +kernel)
set_option maxRecDepth 20000 in
theorem gX9_cheapest_X9_in : GoodIn wsX9_cheapest (va_wsS RX9 97 yX9_in wsX9_in) := goodIn_app (goodIn_of _ (by decide +kernel)) ggX9_cheapest_X9_in
set_option maxRecDepth 20000 in
theorem ggX9_cheapest_X9_found : GoodIn wsX9_cheapest wsX9_found := goodIn_r _ [10, 11, 107, 108, 109, 110, 111, 112, 113, 114, 115, 116, 117, 118, 119, 120, 121, 122, 123, 124, 125, 126, 127, 128, 129, 130, 131, 132, 133, 134, 135, 136, 137, 138] (by decide +kernel) (by decide +kernel)
set_option maxRecDepth 20000 in
theorem gX9_cheapest_X9_found : GoodIn wsX9_cheapest (wsV RX9 107 RX9 yX9_found wsX9_found) := goodIn_app (goodIn_of _ (by decide +kernel)) ggX9_cheapest_X9_found
set_option maxRecDepth 20000 in
theorem ggX9_cheapest_X9_know : GoodIn wsX9_cheapest wsX9_know := goodIn_r _ [15, 16, 2, 17, 18, 19, 20, 21, 22, 23, 5, 24, 25, 26, 27, 28, 29, 30, 31, 32, 33, 34, 35, 36, 37, 38, 39, 40, 41, 42, 43, 44, 45, 46, 47, 48, 49, 50, 51, 52, 53, 54, 3, 4, 6, 55, 56, 57, 58, 59, 60, 61, 62, 63, 64, 65, 66, 67, 68, 69, 70, 71, 72, 73, 74, 75, 76, 77, 78, 79, 80, 81, 82, 83, 84, 85, 86, 87, 88, 89, 90, 91, 92, 93, 94, 95, 96, 97, 98, 99, 100, 101, 107, 108, 109, 110, 111, 112, 113, 114, 115, 116, 117, 118, 119, 120, 121, 122, 123, 124, 125, 126, 127, 128, 129, 130, 131, 132, 133, 134, 135, 136, 137, 138, 139, 140, 141, 142, 143] (by decide +kernel) (by decide +kernel)
set_option maxRecDepth 20000 in
theorem gX9_cheapest_X9_know : GoodIn wsX9_cheapest (wsV RX9 251 RX9 yX9_know wsX9_know) := goodIn_app (goodIn_of _ (by decide +kernel)) ggX9_cheapest_X9_know
set_option maxRecDepth 20000 in
theorem ggX9_cheapest_X9_cheapAt : GoodIn wsX9_cheapest wsX9_cheapAt := goodIn_r _ [105, 20, 106, 95, 96, 39, 97, 12, 13, 14, 5, 15, 16, 2, 17, 18, 19, 21, 22, 23, 24, 25, 26, 27, 28, 29, 30, 31, 32, 33, 34, 35, 36, 37, 38, 40, 41, 42, 43, 44, 45, 46, 47, 48, 49, 50, 51, 52, 53, 54, 3, 4, 6, 55, 56, 57, 58, 59, 60, 61, 62, 63, 64, 65, 66, 67, 68, 69, 70, 71, 72, 73, 74, 75, 76, 77, 78, 79, 80, 81, 82, 83, 84, 85, 86, 87, 88, 89, 90, 91, 92, 93, 94, 98, 99, 100, 101, 107, 108, 109, 110, 111, 112, 113, 114, 115, 116, 117, 118, 119, 120, 121, 122, 123, 124, 125, 126, 127, 128, 129, 130, 131, 132, 133, 134, 135, 136, 137, 138, 139, 140, 141, 142, 143] (by decide +kernel) (by decide +kernel)
set_option maxRecDepth 20000 in
theorem gX9_cheapest_X9_cheapAt : GoodIn wsX9_cheapest (wsV RX9 258 RX9 yX9_cheapAt wsX9_cheapAt) := goodIn_app (goodIn_of _ (by decide +kernel)) ggX9_cheapest_X9_cheapAt
theorem dX9_cheapest_0 : decode cX9_cheapest 0 = .ok (.iload_n 2, 1) := by decide +kernel
theorem dX9_cheapest_1 : decode cX9_cheapest 1 = .ok (.i2l, 1) := by decide +kernel
theorem dX9_cheapest_2 : decode cX9_cheapest 2 = .ok (.lconst 1, 1) := by decide +kernel
theorem dX9_cheapest_3 : decode cX9_cheapest 3 = .ok (.ldc2_w 256, 3) := by decide +kernel
theorem dX9_cheapest_6 : decode cX9_cheapest 6 = .ok (.invokestatic 97, 3) := by decide +kernel
theorem dX9_cheapest_9 : decode cX9_cheapest 9 = .ok (.ifCond .ne 11, 3) := by decide +kernel
theorem dX9_cheapest_12 : decode cX9_cheapest 12 = .ok (.aload_n 0, 1) := by decide +kernel
theorem dX9_cheapest_13 : decode cX9_cheapest 13 = .ok (.bipush (-3), 2) := by decide +kernel
theorem dX9_cheapest_15 : decode cX9_cheapest 15 = .ok (.invokevirtual 107, 3) := by decide +kernel
theorem dX9_cheapest_18 : decode cX9_cheapest 18 = .ok (.i2l, 1) := by decide +kernel
theorem dX9_cheapest_19 : decode cX9_cheapest 19 = .ok (.lreturn, 1) := by decide +kernel
theorem dX9_cheapest_20 : decode cX9_cheapest 20 = .ok (.aload_n 0, 1) := by decide +kernel
theorem dX9_cheapest_21 : decode cX9_cheapest 21 = .ok (.invokevirtual 251, 3) := by decide +kernel
theorem dX9_cheapest_24 : decode cX9_cheapest 24 = .ok (.iload_n 1, 1) := by decide +kernel
theorem dX9_cheapest_25 : decode cX9_cheapest 25 = .ok (.i2l, 1) := by decide +kernel
theorem dX9_cheapest_26 : decode cX9_cheapest 26 = .ok (.iload_n 2, 1) := by decide +kernel
theorem dX9_cheapest_27 : decode cX9_cheapest 27 = .ok (.i2l, 1) := by decide +kernel
theorem dX9_cheapest_28 : decode cX9_cheapest 28 = .ok (.aload_n 0, 1) := by decide +kernel
theorem dX9_cheapest_29 : decode cX9_cheapest 29 = .ok (.getfield 235, 3) := by decide +kernel
theorem dX9_cheapest_32 : decode cX9_cheapest 32 = .ok (.i2l, 1) := by decide +kernel
theorem dX9_cheapest_33 : decode cX9_cheapest 33 = .ok (.lmul, 1) := by decide +kernel
theorem dX9_cheapest_34 : decode cX9_cheapest 34 = .ok (.lcmp, 1) := by decide +kernel
theorem dX9_cheapest_35 : decode cX9_cheapest 35 = .ok (.ifCond .ge 11, 3) := by decide +kernel
theorem dX9_cheapest_38 : decode cX9_cheapest 38 = .ok (.aload_n 0, 1) := by decide +kernel
theorem dX9_cheapest_39 : decode cX9_cheapest 39 = .ok (.bipush (-8), 2) := by decide +kernel
theorem dX9_cheapest_41 : decode cX9_cheapest 41 = .ok (.invokevirtual 107, 3) := by decide +kernel
theorem dX9_cheapest_44 : decode cX9_cheapest 44 = .ok (.i2l, 1) := by decide +kernel
theorem dX9_cheapest_45 : decode cX9_cheapest 45 = .ok (.lreturn, 1) := by decide +kernel
theorem dX9_cheapest_46 : decode cX9_cheapest 46 = .ok (.iload_n 1, 1) := by decide +kernel
theorem dX9_cheapest_47 : decode cX9_cheapest 47 = .ok (.iload_n 2, 1) := by decide +kernel
theorem dX9_cheapest_48 : decode cX9_cheapest 48 = .ok (.idiv, 1) := by decide +kernel
theorem dX9_cheapest_49 : decode cX9_cheapest 49 = .ok (.istore_n 3, 1) := by decide +kernel
theorem dX9_cheapest_50 : decode cX9_cheapest 50 = .ok (.iload_n 2, 1) := by decide +kernel
theorem dX9_cheapest_51 : decode cX9_cheapest 51 = .ok (.i2l, 1) := by decide +kernel
theorem dX9_cheapest_52 : decode cX9_cheapest 52 = .ok (.aload_n 0, 1) := by decide +kernel
theorem dX9_cheapest_53 : decode cX9_cheapest 53 = .ok (.iload_n 3, 1) := by decide +kernel
theorem dX9_cheapest_54 : decode cX9_cheapest 54 = .ok (.i2l, 1) := by decide +kernel
theorem dX9_cheapest_55 : decode cX9_cheapest 55 = .ok (.invokevirtual 258, 3) := by decide +kernel
theorem dX9_cheapest_58 : decode cX9_cheapest 58 = .ok (.lmul, 1) := by decide +kernel
theorem dX9_cheapest_59 : decode cX9_cheapest 59 = .ok (.iload_n 1, 1) := by decide +kernel
theorem dX9_cheapest_60 : decode cX9_cheapest 60 = .ok (.i2l, 1) := by decide +kernel
theorem dX9_cheapest_61 : decode cX9_cheapest 61 = .ok (.iload_n 2, 1) := by decide +kernel
theorem dX9_cheapest_62 : decode cX9_cheapest 62 = .ok (.i2l, 1) := by decide +kernel
theorem dX9_cheapest_63 : decode cX9_cheapest 63 = .ok (.iload_n 3, 1) := by decide +kernel
theorem dX9_cheapest_64 : decode cX9_cheapest 64 = .ok (.i2l, 1) := by decide +kernel
theorem dX9_cheapest_65 : decode cX9_cheapest 65 = .ok (.lmul, 1) := by decide +kernel
theorem dX9_cheapest_66 : decode cX9_cheapest 66 = .ok (.lsub, 1) := by decide +kernel
theorem dX9_cheapest_67 : decode cX9_cheapest 67 = .ok (.aload_n 0, 1) := by decide +kernel
theorem dX9_cheapest_68 : decode cX9_cheapest 68 = .ok (.iload_n 3, 1) := by decide +kernel
theorem dX9_cheapest_69 : decode cX9_cheapest 69 = .ok (.i2l, 1) := by decide +kernel
theorem dX9_cheapest_70 : decode cX9_cheapest 70 = .ok (.lconst 1, 1) := by decide +kernel
theorem dX9_cheapest_71 : decode cX9_cheapest 71 = .ok (.ladd, 1) := by decide +kernel
theorem dX9_cheapest_72 : decode cX9_cheapest 72 = .ok (.invokevirtual 258, 3) := by decide +kernel
theorem dX9_cheapest_75 : decode cX9_cheapest 75 = .ok (.aload_n 0, 1) := by decide +kernel
theorem dX9_cheapest_76 : decode cX9_cheapest 76 = .ok (.iload_n 3, 1) := by decide +kernel
theorem dX9_cheapest_77 : decode cX9_cheapest 77 = .ok (.i2l, 1) := by decide +kernel
theorem dX9_cheapest_78 : decode cX9_cheapest 78 = .ok (.invokevirtual 258, 3) := by decide +kernel
theorem dX9_cheapest_81 : decode cX9_cheapest 81 = .ok (.lsub, 1) := by decide +kernel
theorem dX9_cheapest_82 : decode cX9_cheapest 82 = .ok (.lmul, 1) := by decide +kernel
theorem dX9_cheapest_83 : decode cX9_cheapest 83 = .ok (.ladd, 1) := by decide +kernel
theorem dX9_cheapest_84 : decode cX9_cheapest 84 = .ok (.lreturn, 1) := by decide +kernel
set_option maxRecDepth 20000 in
theorem ggX9_noLength_X9_know : GoodIn wsX9_noLength wsX9_know := goodIn_r _ [6, 7, 1, 8, 9, 10, 11, 12, 13, 14, 5, 15, 16, 17, 18, 19, 20, 21, 22, 23, 24, 25, 26, 27, 28, 29, 30, 31, 32, 33, 34, 35, 36, 37, 38, 39, 40, 41, 42, 43, 44, 45, 46, 47, 48, 49, 50, 51, 52, 53, 54, 55, 56, 57, 58, 59, 60, 61, 62, 63, 64, 65, 66, 67, 68, 69, 70, 71, 72, 73, 74, 75, 76, 77, 78, 79, 80, 81, 82, 83, 84, 85, 86, 87, 88, 89, 90, 91, 92, 93, 94, 95, 96, 97, 98, 99, 100, 101, 102, 103, 104, 105, 106, 107, 108, 109, 110, 111, 112, 113, 114, 115, 116, 117, 118, 119, 120, 121, 122, 123, 124, 125, 126, 127, 128, 129, 130, 131, 132] (by decide +kernel) (by decide +kernel)
set_option maxRecDepth 20000 in
theorem gX9_noLength_X9_know : GoodIn wsX9_noLength (wsV RX9 251 RX9 yX9_know wsX9_know) := goodIn_app (goodIn_of _ (by decide +kernel)) ggX9_noLength_X9_know
theorem dX9_noLength_0 : decode cX9_noLength 0 = .ok (.aload_n 0, 1) := by decide +kernel
theorem dX9_noLength_1 : decode cX9_noLength 1 = .ok (.invokevirtual 251, 3) := by decide +kernel
theorem dX9_noLength_4 : decode cX9_noLength 4 = .ok (.iload_n 1, 1) := by decide +kernel
theorem dX9_noLength_5 : decode cX9_noLength 5 = .ok (.aload_n 0, 1) := by decide +kernel
theorem dX9_noLength_6 : decode cX9_noLength 6 = .ok (.getfield 235, 3) := by decide +kernel
theorem dX9_noLength_9 : decode cX9_noLength 9 = .ok (.if_icmp .ge 8, 3) := by decide +kernel
theorem dX9_noLength_12 : decode cX9_noLength 12 = .ok (.bipush (-8), 2) := by decide +kernel
theorem dX9_noLength_14 : decode cX9_noLength 14 = .ok (.goto 15, 3) := by decide +kernel
theorem dX9_noLength_17 : decode cX9_noLength 17 = .ok (.iload_n 1, 1) := by decide +kernel
theorem dX9_noLength_18 : decode cX9_noLength 18 = .ok (.sipush 1000, 3) := by decide +kernel
theorem dX9_noLength_21 : decode cX9_noLength 21 = .ok (.if_icmp .le 7, 3) := by decide +kernel
theorem dX9_noLength_24 : decode cX9_noLength 24 = .ok (.iconst (-1), 1) := by decide +kernel
theorem dX9_noLength_25 : decode cX9_noLength 25 = .ok (.goto 4, 3) := by decide +kernel
theorem dX9_noLength_28 : decode cX9_noLength 28 = .ok (.iconst 0, 1) := by decide +kernel
theorem dX9_noLength_29 : decode cX9_noLength 29 = .ok (.ireturn, 1) := by decide +kernel
set_option maxRecDepth 20000 in
theorem ggX9_slope_X9_noLength : GoodIn wsX9_slope wsX9_noLength := goodIn_r _ [5, 6, 7, 8, 9, 4, 10, 11, 12, 13, 14, 15, 16, 17, 18, 19, 20, 21, 22, 23, 24, 25, 26, 27, 28, 29, 30, 31, 32, 33, 34, 35, 36, 37, 38, 39, 40, 41, 42, 43, 44, 45, 46, 47, 48, 49, 50, 51, 52, 53, 54, 55, 56, 57, 58, 59, 60, 61, 62, 63, 64, 65, 66, 67, 68, 69, 70, 71, 72, 73, 74, 75, 76, 77, 78, 79, 80, 81, 82, 83, 84, 85, 86, 87, 88, 89, 90, 91, 92, 93, 94, 95, 96, 97, 98, 99, 110, 111, 112, 113, 114, 115, 116, 117, 118, 119, 120, 121, 122, 123, 124, 125, 126, 127, 128, 129, 130, 131, 132, 133, 134, 135, 136, 137, 138, 139, 140, 141, 142, 143, 144, 145, 146] (by decide +kernel) (by decide +kernel)
set_option maxRecDepth 20000 in
theorem gX9_slope_X9_noLength : GoodIn wsX9_slope (wsV RX9 262 RX9 yX9_noLength wsX9_noLength) := goodIn_app (goodIn_of _ (by decide +kernel)) ggX9_slope_X9_noLength
set_option maxRecDepth 20000 in
theorem ggX9_slope_X9_found : GoodIn wsX9_slope wsX9_found := goodIn_r _ [103, 104, 110, 111, 112, 113, 114, 115, 116, 117, 118, 119, 120, 121, 122, 123, 124, 125, 126, 127, 128, 129, 130, 131, 132, 133, 134, 135, 136, 137, 138, 139, 140, 141] (by decide +kernel) (by decide +kernel)
set_option maxRecDepth 20000 in
theorem gX9_slope_X9_found : GoodIn wsX9_slope (wsV RX9 107 RX9 yX9_found wsX9_found) := goodIn_app (goodIn_of _ (by decide +kernel)) ggX9_slope_X9_found
set_option maxRecDepth 20000 in
theorem ggX9_slope_X9_cheapAt : GoodIn wsX9_slope wsX9_cheapAt := goodIn_r _ [108, 15, 109, 93, 94, 34, 95, 7, 8, 9, 4, 10, 11, 6, 12, 13, 14, 16, 17, 18, 19, 20, 21, 22, 23, 24, 25, 26, 27, 28, 29, 30, 31, 32, 33, 35, 36, 37, 38, 39, 40, 41, 42, 43, 44, 45, 46, 47, 48, 49, 50, 51, 52, 53, 54, 55, 56, 57, 58, 59, 60, 61, 62, 63, 64, 65, 66, 67, 68, 69, 70, 71, 72, 73, 74, 75, 76, 77, 78, 79, 80, 81, 82, 83, 84, 85, 86, 87, 88, 89, 90, 91, 92, 96, 97, 98, 99, 110, 111, 112, 113, 114, 115, 116, 117, 118, 119, 120, 121, 122, 123, 124, 125, 126, 127, 128, 129, 130, 131, 132, 133, 134, 135, 136, 137, 138, 139, 140, 141, 142, 143, 144, 145, 146] (by decide +kernel) (by decide +kernel)
set_option maxRecDepth 20000 in
theorem gX9_slope_X9_cheapAt : GoodIn wsX9_slope (wsV RX9 258 RX9 yX9_cheapAt wsX9_cheapAt) := goodIn_app (goodIn_of _ (by decide +kernel)) ggX9_slope_X9_cheapAt
