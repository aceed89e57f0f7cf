theorem dX9_plan_0 : decode cX9_plan 0 = .ok (.aload_n 0, 1) := by decide +kernel
theorem dX9_plan_1 : decode cX9_plan 1 = .ok (.iload_n 1, 1) := by decide +kernel
theorem dX9_plan_2 : decode cX9_plan 2 = .ok (.invokevirtual 262, 3) := by decide +kernel
theorem dX9_plan_5 : decode cX9_plan 5 = .ok (.istore_n 2, 1) := by decide +kernel
theorem dX9_plan_6 : decode cX9_plan 6 = .ok (.iload_n 2, 1) := by decide +kernel
theorem dX9_plan_7 : decode cX9_plan 7 = .ok (.ifCond .eq 9, 3) := by decide +kernel
theorem dX9_plan_10 : decode cX9_plan 10 = .ok (.aload_n 0, 1) := by decide +kernel
theorem dX9_plan_11 : decode cX9_plan 11 = .ok (.iload_n 2, 1) := by decide +kernel
theorem dX9_plan_12 : decode cX9_plan 12 = .ok (.invokevirtual 107, 3) := by decide +kernel
theorem dX9_plan_15 : decode cX9_plan 15 = .ok (.ireturn, 1) := by decide +kernel
theorem dX9_plan_16 : decode cX9_plan 16 = .ok (.aload_n 0, 1) := by decide +kernel
theorem dX9_plan_17 : decode cX9_plan 17 = .ok (.iload_n 1, 1) := by decide +kernel
theorem dX9_plan_18 : decode cX9_plan 18 = .ok (.invokevirtual 271, 3) := by decide +kernel
theorem dX9_plan_21 : decode cX9_plan 21 = .ok (.iconst 0, 1) := by decide +kernel
theorem dX9_plan_22 : decode cX9_plan 22 = .ok (.istore_n 3, 1) := by decide +kernel
theorem dX9_plan_23 : decode cX9_plan 23 = .ok (.iload_n 3, 1) := by decide +kernel
theorem dX9_plan_24 : decode cX9_plan 24 = .ok (.aload_n 0, 1) := by decide +kernel
theorem dX9_plan_25 : decode cX9_plan 25 = .ok (.getfield 10, 3) := by decide +kernel
theorem dX9_plan_28 : decode cX9_plan 28 = .ok (.getfield 94, 3) := by decide +kernel
theorem dX9_plan_31 : decode cX9_plan 31 = .ok (.if_icmp .ge 43, 3) := by decide +kernel
theorem dX9_plan_34 : decode cX9_plan 34 = .ok (.aload_n 0, 1) := by decide +kernel
theorem dX9_plan_35 : decode cX9_plan 35 = .ok (.getfield 81, 3) := by decide +kernel
theorem dX9_plan_38 : decode cX9_plan 38 = .ok (.iload_n 3, 1) := by decide +kernel
theorem dX9_plan_39 : decode cX9_plan 39 = .ok (.aload_n 0, 1) := by decide +kernel
theorem dX9_plan_40 : decode cX9_plan 40 = .ok (.getfield 60, 3) := by decide +kernel
theorem dX9_plan_43 : decode cX9_plan 43 = .ok (.iload_n 3, 1) := by decide +kernel
theorem dX9_plan_44 : decode cX9_plan 44 = .ok (.iaload, 1) := by decide +kernel
theorem dX9_plan_45 : decode cX9_plan 45 = .ok (.iastore, 1) := by decide +kernel
theorem dX9_plan_46 : decode cX9_plan 46 = .ok (.aload_n 0, 1) := by decide +kernel
theorem dX9_plan_47 : decode cX9_plan 47 = .ok (.getfield 84, 3) := by decide +kernel
theorem dX9_plan_50 : decode cX9_plan 50 = .ok (.iload_n 3, 1) := by decide +kernel
theorem dX9_plan_51 : decode cX9_plan 51 = .ok (.aload_n 0, 1) := by decide +kernel
theorem dX9_plan_52 : decode cX9_plan 52 = .ok (.getfield 60, 3) := by decide +kernel
theorem dX9_plan_55 : decode cX9_plan 55 = .ok (.bipush 12, 2) := by decide +kernel
theorem dX9_plan_57 : decode cX9_plan 57 = .ok (.iload_n 3, 1) := by decide +kernel
theorem dX9_plan_58 : decode cX9_plan 58 = .ok (.iadd, 1) := by decide +kernel
theorem dX9_plan_59 : decode cX9_plan 59 = .ok (.iaload, 1) := by decide +kernel
theorem dX9_plan_60 : decode cX9_plan 60 = .ok (.aload_n 0, 1) := by decide +kernel
theorem dX9_plan_61 : decode cX9_plan 61 = .ok (.getfield 60, 3) := by decide +kernel
theorem dX9_plan_64 : decode cX9_plan 64 = .ok (.iload_n 3, 1) := by decide +kernel
theorem dX9_plan_65 : decode cX9_plan 65 = .ok (.iaload, 1) := by decide +kernel
theorem dX9_plan_66 : decode cX9_plan 66 = .ok (.isub, 1) := by decide +kernel
theorem dX9_plan_67 : decode cX9_plan 67 = .ok (.iastore, 1) := by decide +kernel
theorem dX9_plan_68 : decode cX9_plan 68 = .ok (.iinc 3 1, 3) := by decide +kernel
theorem dX9_plan_71 : decode cX9_plan 71 = .ok (.goto (-48), 3) := by decide +kernel
theorem dX9_plan_74 : decode cX9_plan 74 = .ok (.aload_n 0, 1) := by decide +kernel
theorem dX9_plan_75 : decode cX9_plan 75 = .ok (.iconst 1, 1) := by decide +kernel
theorem dX9_plan_76 : decode cX9_plan 76 = .ok (.putfield 121, 3) := by decide +kernel
theorem dX9_plan_79 : decode cX9_plan 79 = .ok (.aload_n 0, 1) := by decide +kernel
theorem dX9_plan_80 : decode cX9_plan 80 = .ok (.invokevirtual 241, 3) := by decide +kernel
theorem dX9_plan_83 : decode cX9_plan 83 = .ok (.ireturn, 1) := by decide +kernel
set_option maxRecDepth 20000 in
theorem ggX9_planned_X9_found : GoodIn wsX9_planned wsX9_found := goodIn_r _ [8, 9, 19, 20, 21, 22, 23, 24, 25, 26, 27, 28, 29, 30, 31, 32, 33, 34, 35, 36, 37, 38, 39, 40, 41, 42, 43, 44, 45, 46, 47, 48, 49, 50] rfl (by decide +kernel)
set_option maxRecDepth 20000 in
theorem gX9_planned_X9_found : GoodIn wsX9_planned (wsV RX9 107 RX9 yX9_found wsX9_found) := goodIn_app (goodIn_of _ (by decide +kernel)) ggX9_planned_X9_found
set_option maxRecDepth 20000 in
theorem ggX9_planned_X9_isTask : GoodIn wsX9_planned wsX9_isTask := goodIn_r _ [13, 14, 15, 16, 17, 7, 18, 19, 20, 21, 22, 23, 24, 25, 26, 27, 28, 29, 30, 31, 32, 33, 34, 35, 36, 37, 38, 39, 40, 41, 42, 43, 44, 45, 46, 47, 48, 49, 50, 51, 52, 53, 54, 55] rfl (by decide +kernel)
set_option maxRecDepth 20000 in
theorem gX9_planned_X9_isTask : GoodIn wsX9_planned (wsV RX9 151 RX9 yX9_isTask wsX9_isTask) := goodIn_app (goodIn_of _ (by decide +kernel)) ggX9_planned_X9_isTask
theorem dX9_planned_0 : decode cX9_planned 0 = .ok (.aload_n 0, 1) := by decide +kernel
theorem dX9_planned_1 : decode cX9_planned 1 = .ok (.getfield 121, 3) := by decide +kernel
theorem dX9_planned_4 : decode cX9_planned 4 = .ok (.ifCond .ne 10, 3) := by decide +kernel
theorem dX9_planned_7 : decode cX9_planned 7 = .ok (.aload_n 0, 1) := by decide +kernel
theorem dX9_planned_8 : decode cX9_planned 8 = .ok (.bipush (-7), 2) := by decide +kernel
theorem dX9_planned_10 : decode cX9_planned 10 = .ok (.invokevirtual 107, 3) := by decide +kernel
theorem dX9_planned_13 : decode cX9_planned 13 = .ok (.ireturn, 1) := by decide +kernel
theorem dX9_planned_14 : decode cX9_planned 14 = .ok (.aload_n 0, 1) := by decide +kernel
theorem dX9_planned_15 : decode cX9_planned 15 = .ok (.iload_n 1, 1) := by decide +kernel
theorem dX9_planned_16 : decode cX9_planned 16 = .ok (.invokevirtual 151, 3) := by decide +kernel
theorem dX9_planned_19 : decode cX9_planned 19 = .ok (.ifCond .ne 9, 3) := by decide +kernel
theorem dX9_planned_22 : decode cX9_planned 22 = .ok (.aload_n 0, 1) := by decide +kernel
theorem dX9_planned_23 : decode cX9_planned 23 = .ok (.iconst (-1), 1) := by decide +kernel
theorem dX9_planned_24 : decode cX9_planned 24 = .ok (.invokevirtual 107, 3) := by decide +kernel
theorem dX9_planned_27 : decode cX9_planned 27 = .ok (.ireturn, 1) := by decide +kernel
theorem dX9_planned_28 : decode cX9_planned 28 = .ok (.iload_n 2, 1) := by decide +kernel
theorem dX9_planned_29 : decode cX9_planned 29 = .ok (.ifCond .eq 12, 3) := by decide +kernel
theorem dX9_planned_32 : decode cX9_planned 32 = .ok (.aload_n 0, 1) := by decide +kernel
theorem dX9_planned_33 : decode cX9_planned 33 = .ok (.getfield 84, 3) := by decide +kernel
theorem dX9_planned_36 : decode cX9_planned 36 = .ok (.iload_n 1, 1) := by decide +kernel
theorem dX9_planned_37 : decode cX9_planned 37 = .ok (.iaload, 1) := by decide +kernel
theorem dX9_planned_38 : decode cX9_planned 38 = .ok (.goto 9, 3) := by decide +kernel
theorem dX9_planned_41 : decode cX9_planned 41 = .ok (.aload_n 0, 1) := by decide +kernel
theorem dX9_planned_42 : decode cX9_planned 42 = .ok (.getfield 81, 3) := by decide +kernel
theorem dX9_planned_45 : decode cX9_planned 45 = .ok (.iload_n 1, 1) := by decide +kernel
theorem dX9_planned_46 : decode cX9_planned 46 = .ok (.iaload, 1) := by decide +kernel
theorem dX9_planned_47 : decode cX9_planned 47 = .ok (.ireturn, 1) := by decide +kernel
set_option maxRecDepth 20000 in
theorem ggX9_cost_X9_found : GoodIn wsX9_cost wsX9_found := goodIn_r _ [9, 10, 29, 30, 31, 32, 33, 34, 35, 36, 37, 38, 39, 40, 41, 42, 43, 44, 45, 46, 47, 48, 49, 50, 51, 52, 53, 54, 55, 56, 57, 58, 59, 60] rfl (by decide +kernel)
set_option maxRecDepth 20000 in
theorem gX9_cost_X9_found : GoodIn wsX9_cost (wsV RX9 107 RX9 yX9_found wsX9_found) := goodIn_app (goodIn_of _ (by decide +kernel)) ggX9_cost_X9_found
set_option maxRecDepth 20000 in
theorem ggX9_cost_X9_costOf : GoodIn wsX9_cost wsX9_costOf := goodIn_r _ [14, 15, 2, 16, 17, 18, 19, 20, 21, 22, 23, 8, 24, 25, 26, 27, 28, 29, 30, 31, 32, 33, 34, 35, 36, 37, 38, 39, 40, 41, 42, 43, 44, 45, 46, 47, 48, 49, 50, 51, 52, 53, 54, 55, 56, 57, 58, 59, 60, 61, 62, 63, 64, 65] rfl (by decide +kernel)
set_option maxRecDepth 20000 in
theorem gX9_cost_X9_costOf : GoodIn wsX9_cost (wsV RX9 199 RX9 yX9_costOf wsX9_costOf) := goodIn_app (goodIn_of _ (by decide +kernel)) ggX9_cost_X9_costOf
theorem dX9_cost_0 : decode cX9_cost 0 = .ok (.aload_n 0, 1) := by decide +kernel
theorem dX9_cost_1 : decode cX9_cost 1 = .ok (.getfield 121, 3) := by decide +kernel
theorem dX9_cost_4 : decode cX9_cost 4 = .ok (.ifCond .ne 11, 3) := by decide +kernel
theorem dX9_cost_7 : decode cX9_cost 7 = .ok (.aload_n 0, 1) := by decide +kernel
theorem dX9_cost_8 : decode cX9_cost 8 = .ok (.bipush (-7), 2) := by decide +kernel
theorem dX9_cost_10 : decode cX9_cost 10 = .ok (.invokevirtual 107, 3) := by decide +kernel
theorem dX9_cost_13 : decode cX9_cost 13 = .ok (.i2l, 1) := by decide +kernel
theorem dX9_cost_14 : decode cX9_cost 14 = .ok (.lreturn, 1) := by decide +kernel
theorem dX9_cost_15 : decode cX9_cost 15 = .ok (.lconst 0, 1) := by decide +kernel
theorem dX9_cost_16 : decode cX9_cost 16 = .ok (.lstore_n 1, 1) := by decide +kernel
theorem dX9_cost_17 : decode cX9_cost 17 = .ok (.iconst 0, 1) := by decide +kernel
theorem dX9_cost_18 : decode cX9_cost 18 = .ok (.istore_n 3, 1) := by decide +kernel
theorem dX9_cost_19 : decode cX9_cost 19 = .ok (.iload_n 3, 1) := by decide +kernel
theorem dX9_cost_20 : decode cX9_cost 20 = .ok (.aload_n 0, 1) := by decide +kernel
theorem dX9_cost_21 : decode cX9_cost 21 = .ok (.getfield 10, 3) := by decide +kernel
theorem dX9_cost_24 : decode cX9_cost 24 = .ok (.getfield 94, 3) := by decide +kernel
theorem dX9_cost_27 : decode cX9_cost 27 = .ok (.if_icmp .ge 23, 3) := by decide +kernel
theorem dX9_cost_30 : decode cX9_cost 30 = .ok (.lload_n 1, 1) := by decide +kernel
theorem dX9_cost_31 : decode cX9_cost 31 = .ok (.aload_n 0, 1) := by decide +kernel
theorem dX9_cost_32 : decode cX9_cost 32 = .ok (.iload_n 3, 1) := by decide +kernel
theorem dX9_cost_33 : decode cX9_cost 33 = .ok (.aload_n 0, 1) := by decide +kernel
theorem dX9_cost_34 : decode cX9_cost 34 = .ok (.getfield 84, 3) := by decide +kernel
theorem dX9_cost_37 : decode cX9_cost 37 = .ok (.iload_n 3, 1) := by decide +kernel
theorem dX9_cost_38 : decode cX9_cost 38 = .ok (.iaload, 1) := by decide +kernel
theorem dX9_cost_39 : decode cX9_cost 39 = .ok (.invokevirtual 199, 3) := by decide +kernel
theorem dX9_cost_42 : decode cX9_cost 42 = .ok (.ladd, 1) := by decide +kernel
theorem dX9_cost_43 : decode cX9_cost 43 = .ok (.lstore_n 1, 1) := by decide +kernel
theorem dX9_cost_44 : decode cX9_cost 44 = .ok (.iinc 3 1, 3) := by decide +kernel
theorem dX9_cost_47 : decode cX9_cost 47 = .ok (.goto (-28), 3) := by decide +kernel
theorem dX9_cost_50 : decode cX9_cost 50 = .ok (.lload_n 1, 1) := by decide +kernel
theorem dX9_cost_51 : decode cX9_cost 51 = .ok (.lreturn, 1) := by decide +kernel
set_option maxRecDepth 20000 in
theorem ggX9_hurried_X9_noLength : GoodIn wsX9_hurried wsX9_noLength := goodIn_r _ [9, 10, 11, 12, 13, 8, 14, 15, 1, 2, 16, 17, 18, 19, 20, 21, 22, 23, 24, 25, 26, 27, 28, 29, 30, 31, 32, 33, 34, 35, 36, 37, 38, 39, 40, 41, 42, 43, 44, 45, 46, 47, 48, 49, 50, 51, 52, 53, 54, 55, 56, 57, 58, 4, 59, 60, 61, 62, 63, 64, 65, 66, 67, 68, 69, 70, 71, 72, 73, 74, 75, 76, 77, 78, 79, 80, 81, 82, 83, 84, 85, 86, 87, 88, 89, 90, 91, 92, 93, 94, 95, 96, 97, 98, 99, 100, 110, 111, 112, 113, 114, 115, 116, 117, 118, 119, 120, 121, 122, 123, 124, 125, 126, 127, 128, 129, 130, 131, 132, 133, 134, 135, 136, 137, 138, 139, 140, 141, 142, 143, 144, 145, 146] rfl (by decide +kernel)
set_option maxRecDepth 20000 in
theorem gX9_hurried_X9_noLength : GoodIn wsX9_hurried (wsV RX9 262 RX9 yX9_noLength wsX9_noLength) := goodIn_app (goodIn_of _ (by decide +kernel)) ggX9_hurried_X9_noLength
set_option maxRecDepth 20000 in
theorem ggX9_hurried_X9_found : GoodIn wsX9_hurried wsX9_found := goodIn_r _ [104, 105, 110, 111, 112, 113, 114, 115, 116, 117, 118, 119, 120, 121, 122, 123, 124, 125, 126, 127, 128, 129, 130, 131, 132, 133, 134, 135, 136, 137, 138, 139, 140, 141] rfl (by decide +kernel)
set_option maxRecDepth 20000 in
theorem gX9_hurried_X9_found : GoodIn wsX9_hurried (wsV RX9 107 RX9 yX9_found wsX9_found) := goodIn_app (goodIn_of _ (by decide +kernel)) ggX9_hurried_X9_found
set_option maxRecDepth 20000 in
theorem ggX9_hurried_X9_rise : GoodIn wsX9_hurried wsX9_rise := goodIn_r _ [109, 18, 19, 20, 8, 21, 1, 2, 16, 22, 23, 24, 25, 26, 27, 28, 29, 30, 31, 32, 33, 34, 35, 36, 37, 38, 39, 40, 41, 42, 43, 44, 45, 55, 56, 57, 58, 4, 63, 64, 65, 66, 67, 68, 50, 69, 46, 47, 48, 49, 51, 52, 53, 54, 70, 71, 72, 73, 74, 75, 76, 77, 78, 79, 80, 81, 82, 83, 84, 85, 86, 87, 88, 89, 90, 91, 92, 93, 94, 95, 96, 97, 98, 99, 100, 110, 111, 112, 113, 114, 115, 116, 117, 118, 119, 120, 121, 122, 123, 124, 125, 126, 127, 128, 129, 130, 131, 132, 133, 134, 135, 136, 137, 138, 139, 140, 141, 142, 143, 144, 145, 146] rfl (by decide +kernel)
set_option maxRecDepth 20000 in
theorem gX9_hurried_X9_rise : GoodIn wsX9_hurried (wsV RX9 271 RX9 yX9_rise wsX9_rise) := goodIn_app (goodIn_of _ (by decide +kernel)) ggX9_hurried_X9_rise
