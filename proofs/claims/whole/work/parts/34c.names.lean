theorem dX9_slope_0 : decode cX9_slope 0 = .ok (.aload_n 0, 1) := by decide +kernel
theorem dX9_slope_1 : decode cX9_slope 1 = .ok (.iload_n 1, 1) := by decide +kernel
theorem dX9_slope_2 : decode cX9_slope 2 = .ok (.invokevirtual 262, 3) := by decide +kernel
theorem dX9_slope_5 : decode cX9_slope 5 = .ok (.istore_n 2, 1) := by decide +kernel
theorem dX9_slope_6 : decode cX9_slope 6 = .ok (.iload_n 2, 1) := by decide +kernel
theorem dX9_slope_7 : decode cX9_slope 7 = .ok (.ifCond .eq 12, 3) := by decide +kernel
theorem dX9_slope_10 : decode cX9_slope 10 = .ok (.aload_n 0, 1) := by decide +kernel
theorem dX9_slope_11 : decode cX9_slope 11 = .ok (.iload_n 2, 1) := by decide +kernel
theorem dX9_slope_12 : decode cX9_slope 12 = .ok (.invokevirtual 107, 3) := by decide +kernel
theorem dX9_slope_15 : decode cX9_slope 15 = .ok (.i2l, 1) := by decide +kernel
theorem dX9_slope_16 : decode cX9_slope 16 = .ok (.goto 18, 3) := by decide +kernel
theorem dX9_slope_19 : decode cX9_slope 19 = .ok (.aload_n 0, 1) := by decide +kernel
theorem dX9_slope_20 : decode cX9_slope 20 = .ok (.iload_n 1, 1) := by decide +kernel
theorem dX9_slope_21 : decode cX9_slope 21 = .ok (.i2l, 1) := by decide +kernel
theorem dX9_slope_22 : decode cX9_slope 22 = .ok (.invokevirtual 258, 3) := by decide +kernel
theorem dX9_slope_25 : decode cX9_slope 25 = .ok (.aload_n 0, 1) := by decide +kernel
theorem dX9_slope_26 : decode cX9_slope 26 = .ok (.iload_n 1, 1) := by decide +kernel
theorem dX9_slope_27 : decode cX9_slope 27 = .ok (.i2l, 1) := by decide +kernel
theorem dX9_slope_28 : decode cX9_slope 28 = .ok (.lconst 1, 1) := by decide +kernel
theorem dX9_slope_29 : decode cX9_slope 29 = .ok (.ladd, 1) := by decide +kernel
theorem dX9_slope_30 : decode cX9_slope 30 = .ok (.invokevirtual 258, 3) := by decide +kernel
theorem dX9_slope_33 : decode cX9_slope 33 = .ok (.lsub, 1) := by decide +kernel
theorem dX9_slope_34 : decode cX9_slope 34 = .ok (.lreturn, 1) := by decide +kernel
set_option maxRecDepth 20000 in
theorem ggX9_isBend_X9_cheapAt : GoodIn wsX9_isBend wsX9_cheapAt := goodIn_r _ [6, 7, 8, 9, 10, 11, 12, 13, 14, 15, 5, 16, 17, 1, 18, 19, 20, 21, 22, 23, 24, 25, 26, 27, 28, 29, 30, 31, 32, 33, 34, 35, 36, 37, 38, 39, 40, 41, 42, 43, 44, 45, 46, 47, 48, 49, 50, 51, 52, 53, 54, 55, 56, 57, 58, 59, 60, 61, 62, 63, 64, 65, 66, 67, 68, 69, 70, 71, 72, 73, 74, 75, 76, 77, 78, 79, 80, 81, 82, 83, 84, 85, 86, 87, 88, 89, 90, 91, 92, 93, 94, 95, 96, 97, 98, 99, 100, 101, 102, 103, 104, 105, 106, 107, 108, 109, 110, 111, 112, 113, 114, 115, 116, 117, 118, 119, 120, 121, 122, 123, 124, 125, 126, 127, 128, 129, 130, 131, 132, 133, 134, 135, 136, 137] rfl (by decide +kernel)
set_option maxRecDepth 20000 in
theorem gX9_isBend_X9_cheapAt : GoodIn wsX9_isBend (wsV RX9 258 RX9 yX9_cheapAt wsX9_cheapAt) := goodIn_app (goodIn_of _ (by decide +kernel)) ggX9_isBend_X9_cheapAt
theorem dX9_isBend_0 : decode cX9_isBend 0 = .ok (.iload_n 1, 1) := by decide +kernel
theorem dX9_isBend_1 : decode cX9_isBend 1 = .ok (.aload_n 0, 1) := by decide +kernel
theorem dX9_isBend_2 : decode cX9_isBend 2 = .ok (.getfield 235, 3) := by decide +kernel
theorem dX9_isBend_5 : decode cX9_isBend 5 = .ok (.if_icmp .eq 37, 3) := by decide +kernel
theorem dX9_isBend_8 : decode cX9_isBend 8 = .ok (.aload_n 0, 1) := by decide +kernel
theorem dX9_isBend_9 : decode cX9_isBend 9 = .ok (.iload_n 1, 1) := by decide +kernel
theorem dX9_isBend_10 : decode cX9_isBend 10 = .ok (.i2l, 1) := by decide +kernel
theorem dX9_isBend_11 : decode cX9_isBend 11 = .ok (.lconst 1, 1) := by decide +kernel
theorem dX9_isBend_12 : decode cX9_isBend 12 = .ok (.lsub, 1) := by decide +kernel
theorem dX9_isBend_13 : decode cX9_isBend 13 = .ok (.invokevirtual 258, 3) := by decide +kernel
theorem dX9_isBend_16 : decode cX9_isBend 16 = .ok (.aload_n 0, 1) := by decide +kernel
theorem dX9_isBend_17 : decode cX9_isBend 17 = .ok (.iload_n 1, 1) := by decide +kernel
theorem dX9_isBend_18 : decode cX9_isBend 18 = .ok (.i2l, 1) := by decide +kernel
theorem dX9_isBend_19 : decode cX9_isBend 19 = .ok (.invokevirtual 258, 3) := by decide +kernel
theorem dX9_isBend_22 : decode cX9_isBend 22 = .ok (.lsub, 1) := by decide +kernel
theorem dX9_isBend_23 : decode cX9_isBend 23 = .ok (.aload_n 0, 1) := by decide +kernel
theorem dX9_isBend_24 : decode cX9_isBend 24 = .ok (.iload_n 1, 1) := by decide +kernel
theorem dX9_isBend_25 : decode cX9_isBend 25 = .ok (.i2l, 1) := by decide +kernel
theorem dX9_isBend_26 : decode cX9_isBend 26 = .ok (.invokevirtual 258, 3) := by decide +kernel
theorem dX9_isBend_29 : decode cX9_isBend 29 = .ok (.aload_n 0, 1) := by decide +kernel
theorem dX9_isBend_30 : decode cX9_isBend 30 = .ok (.iload_n 1, 1) := by decide +kernel
theorem dX9_isBend_31 : decode cX9_isBend 31 = .ok (.i2l, 1) := by decide +kernel
theorem dX9_isBend_32 : decode cX9_isBend 32 = .ok (.lconst 1, 1) := by decide +kernel
theorem dX9_isBend_33 : decode cX9_isBend 33 = .ok (.ladd, 1) := by decide +kernel
theorem dX9_isBend_34 : decode cX9_isBend 34 = .ok (.invokevirtual 258, 3) := by decide +kernel
theorem dX9_isBend_37 : decode cX9_isBend 37 = .ok (.lsub, 1) := by decide +kernel
theorem dX9_isBend_38 : decode cX9_isBend 38 = .ok (.lcmp, 1) := by decide +kernel
theorem dX9_isBend_39 : decode cX9_isBend 39 = .ok (.ifCond .eq 7, 3) := by decide +kernel
theorem dX9_isBend_42 : decode cX9_isBend 42 = .ok (.iconst 1, 1) := by decide +kernel
theorem dX9_isBend_43 : decode cX9_isBend 43 = .ok (.goto 4, 3) := by decide +kernel
theorem dX9_isBend_46 : decode cX9_isBend 46 = .ok (.iconst 0, 1) := by decide +kernel
theorem dX9_isBend_47 : decode cX9_isBend 47 = .ok (.ireturn, 1) := by decide +kernel
set_option maxRecDepth 20000 in
theorem ggX9_bends_X9_know : GoodIn wsX9_bends wsX9_know := goodIn_r _ [6, 7, 1, 8, 9, 10, 11, 12, 13, 14, 5, 15, 16, 17, 18, 19, 20, 21, 22, 23, 24, 25, 26, 27, 28, 29, 30, 31, 32, 33, 34, 35, 36, 37, 38, 39, 40, 41, 42, 43, 44, 45, 46, 47, 48, 49, 50, 51, 52, 53, 54, 55, 56, 57, 58, 59, 60, 61, 62, 63, 64, 65, 66, 67, 68, 69, 70, 71, 72, 73, 74, 75, 76, 77, 78, 79, 80, 81, 82, 83, 84, 85, 86, 87, 88, 89, 90, 91, 92, 93, 94, 95, 105, 106, 107, 108, 109, 110, 111, 112, 113, 114, 115, 116, 117, 118, 119, 120, 121, 122, 123, 124, 125, 126, 127, 128, 129, 130, 131, 132, 133, 134, 135, 136, 137, 138, 139, 140, 141] rfl (by decide +kernel)
set_option maxRecDepth 20000 in
theorem gX9_bends_X9_know : GoodIn wsX9_bends (wsV RX9 251 RX9 yX9_know wsX9_know) := goodIn_app (goodIn_of _ (by decide +kernel)) ggX9_bends_X9_know
set_option maxRecDepth 20000 in
theorem ggX9_bends_X9_isBend : GoodIn wsX9_bends wsX9_isBend := goodIn_r _ [99, 1, 100, 101, 102, 5, 103, 11, 104, 89, 90, 30, 91, 2, 3, 4, 6, 7, 8, 9, 10, 12, 13, 14, 15, 16, 17, 18, 19, 20, 21, 22, 23, 24, 25, 26, 27, 28, 29, 31, 32, 33, 34, 35, 36, 37, 38, 39, 40, 41, 42, 43, 44, 45, 46, 47, 48, 49, 50, 51, 52, 53, 54, 55, 56, 57, 58, 59, 60, 61, 62, 63, 64, 65, 66, 67, 68, 69, 70, 71, 72, 73, 74, 75, 76, 77, 78, 79, 80, 81, 82, 83, 84, 85, 86, 87, 88, 92, 93, 94, 95, 105, 106, 107, 108, 109, 110, 111, 112, 113, 114, 115, 116, 117, 118, 119, 120, 121, 122, 123, 124, 125, 126, 127, 128, 129, 130, 131, 132, 133, 134, 135, 136, 137, 138, 139, 140, 141] rfl (by decide +kernel)
set_option maxRecDepth 20000 in
theorem gX9_bends_X9_isBend : GoodIn wsX9_bends (wsV RX9 265 RX9 yX9_isBend wsX9_isBend) := goodIn_app (goodIn_of _ (by decide +kernel)) ggX9_bends_X9_isBend
theorem dX9_bends_0 : decode cX9_bends 0 = .ok (.aload_n 0, 1) := by decide +kernel
theorem dX9_bends_1 : decode cX9_bends 1 = .ok (.invokevirtual 251, 3) := by decide +kernel
theorem dX9_bends_4 : decode cX9_bends 4 = .ok (.iconst 0, 1) := by decide +kernel
theorem dX9_bends_5 : decode cX9_bends 5 = .ok (.istore_n 1, 1) := by decide +kernel
theorem dX9_bends_6 : decode cX9_bends 6 = .ok (.aload_n 0, 1) := by decide +kernel
theorem dX9_bends_7 : decode cX9_bends 7 = .ok (.getfield 235, 3) := by decide +kernel
theorem dX9_bends_10 : decode cX9_bends 10 = .ok (.istore_n 2, 1) := by decide +kernel
theorem dX9_bends_11 : decode cX9_bends 11 = .ok (.iload_n 2, 1) := by decide +kernel
theorem dX9_bends_12 : decode cX9_bends 12 = .ok (.sipush 720, 3) := by decide +kernel
theorem dX9_bends_15 : decode cX9_bends 15 = .ok (.if_icmp .gt 25, 3) := by decide +kernel
theorem dX9_bends_18 : decode cX9_bends 18 = .ok (.iload_n 1, 1) := by decide +kernel
theorem dX9_bends_19 : decode cX9_bends 19 = .ok (.aload_n 0, 1) := by decide +kernel
theorem dX9_bends_20 : decode cX9_bends 20 = .ok (.iload_n 2, 1) := by decide +kernel
theorem dX9_bends_21 : decode cX9_bends 21 = .ok (.invokevirtual 265, 3) := by decide +kernel
theorem dX9_bends_24 : decode cX9_bends 24 = .ok (.ifCond .eq 7, 3) := by decide +kernel
theorem dX9_bends_27 : decode cX9_bends 27 = .ok (.iconst 1, 1) := by decide +kernel
theorem dX9_bends_28 : decode cX9_bends 28 = .ok (.goto 4, 3) := by decide +kernel
theorem dX9_bends_31 : decode cX9_bends 31 = .ok (.iconst 0, 1) := by decide +kernel
theorem dX9_bends_32 : decode cX9_bends 32 = .ok (.iadd, 1) := by decide +kernel
theorem dX9_bends_33 : decode cX9_bends 33 = .ok (.istore_n 1, 1) := by decide +kernel
theorem dX9_bends_34 : decode cX9_bends 34 = .ok (.iinc 2 1, 3) := by decide +kernel
theorem dX9_bends_37 : decode cX9_bends 37 = .ok (.goto (-26), 3) := by decide +kernel
theorem dX9_bends_40 : decode cX9_bends 40 = .ok (.iload_n 1, 1) := by decide +kernel
theorem dX9_bends_41 : decode cX9_bends 41 = .ok (.ireturn, 1) := by decide +kernel
set_option maxRecDepth 20000 in
theorem ggX9_bend_X9_know : GoodIn wsX9_bend wsX9_know := goodIn_r _ [6, 7, 1, 8, 9, 10, 11, 12, 13, 14, 5, 15, 16, 17, 18, 19, 20, 21, 22, 23, 24, 25, 26, 27, 28, 29, 30, 31, 32, 33, 34, 35, 36, 37, 38, 39, 40, 41, 42, 43, 44, 45, 46, 47, 48, 49, 50, 51, 52, 53, 54, 55, 56, 57, 58, 59, 60, 61, 62, 63, 64, 65, 66, 67, 68, 69, 70, 71, 72, 73, 74, 75, 76, 77, 78, 79, 80, 81, 82, 83, 84, 85, 86, 87, 88, 89, 90, 91, 92, 93, 94, 95, 110, 111, 112, 113, 114, 115, 116, 117, 118, 119, 120, 121, 122, 123, 124, 125, 126, 127, 128, 129, 130, 131, 132, 133, 134, 135, 136, 137, 138, 139, 140, 141, 142, 143, 144, 145, 146] rfl (by decide +kernel)
set_option maxRecDepth 20000 in
theorem gX9_bend_X9_know : GoodIn wsX9_bend (wsV RX9 251 RX9 yX9_know wsX9_know) := goodIn_app (goodIn_of _ (by decide +kernel)) ggX9_bend_X9_know
set_option maxRecDepth 20000 in
theorem ggX9_bend_X9_isBend : GoodIn wsX9_bend wsX9_isBend := goodIn_r _ [99, 1, 100, 101, 102, 5, 103, 11, 104, 89, 90, 30, 91, 2, 3, 4, 6, 7, 8, 9, 10, 12, 13, 14, 15, 16, 17, 18, 19, 20, 21, 22, 23, 24, 25, 26, 27, 28, 29, 31, 32, 33, 34, 35, 36, 37, 38, 39, 40, 41, 42, 43, 44, 45, 46, 47, 48, 49, 50, 51, 52, 53, 54, 55, 56, 57, 58, 59, 60, 61, 62, 63, 64, 65, 66, 67, 68, 69, 70, 71, 72, 73, 74, 75, 76, 77, 78, 79, 80, 81, 82, 83, 84, 85, 86, 87, 88, 92, 93, 94, 95, 110, 111, 112, 113, 114, 115, 116, 117, 118, 119, 120, 121, 122, 123, 124, 125, 126, 127, 128, 129, 130, 131, 132, 133, 134, 135, 136, 137, 138, 139, 140, 141, 142, 143, 144, 145, 146] rfl (by decide +kernel)
set_option maxRecDepth 20000 in
theorem gX9_bend_X9_isBend : GoodIn wsX9_bend (wsV RX9 265 RX9 yX9_isBend wsX9_isBend) := goodIn_app (goodIn_of _ (by decide +kernel)) ggX9_bend_X9_isBend
set_option maxRecDepth 20000 in
theorem ggX9_bend_X9_found : GoodIn wsX9_bend wsX9_found := goodIn_r _ [108, 109, 110, 111, 112, 113, 114, 115, 116, 117, 118, 119, 120, 121, 122, 123, 124, 125, 126, 127, 128, 129, 130, 131, 132, 133, 134, 135, 136, 137, 138, 139, 140, 141] rfl (by decide +kernel)
set_option maxRecDepth 20000 in
theorem gX9_bend_X9_found : GoodIn wsX9_bend (wsV RX9 107 RX9 yX9_found wsX9_found) := goodIn_app (goodIn_of _ (by decide +kernel)) ggX9_bend_X9_found
