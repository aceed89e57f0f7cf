theorem dX9_init_0 : decode cX9_init 0 = .ok (.aload_n 0, 1) := by decide +kernel
theorem dX9_init_1 : decode cX9_init 1 = .ok (.invokespecial 1, 3) := by decide +kernel
theorem dX9_init_4 : decode cX9_init 4 = .ok (.aload_n 0, 1) := by decide +kernel
theorem dX9_init_5 : decode cX9_init 5 = .ok (.new 7, 3) := by decide +kernel
theorem dX9_init_8 : decode cX9_init 8 = .ok (.dup, 1) := by decide +kernel
theorem dX9_init_9 : decode cX9_init 9 = .ok (.invokespecial 9, 3) := by decide +kernel
theorem dX9_init_12 : decode cX9_init 12 = .ok (.putfield 10, 3) := by decide +kernel
theorem dX9_init_15 : decode cX9_init 15 = .ok (.aload_n 0, 1) := by decide +kernel
theorem dX9_init_16 : decode cX9_init 16 = .ok (.new 7, 3) := by decide +kernel
theorem dX9_init_19 : decode cX9_init 19 = .ok (.dup, 1) := by decide +kernel
theorem dX9_init_20 : decode cX9_init 20 = .ok (.invokespecial 9, 3) := by decide +kernel
theorem dX9_init_23 : decode cX9_init 23 = .ok (.putfield 16, 3) := by decide +kernel
theorem dX9_init_26 : decode cX9_init 26 = .ok (.aload_n 0, 1) := by decide +kernel
theorem dX9_init_27 : decode cX9_init 27 = .ok (.bipush 30, 2) := by decide +kernel
theorem dX9_init_29 : decode cX9_init 29 = .ok (.anewarray 7, 3) := by decide +kernel
theorem dX9_init_32 : decode cX9_init 32 = .ok (.putfield 19, 3) := by decide +kernel
theorem dX9_init_35 : decode cX9_init 35 = .ok (.aload_n 0, 1) := by decide +kernel
theorem dX9_init_36 : decode cX9_init 36 = .ok (.bipush 30, 2) := by decide +kernel
theorem dX9_init_38 : decode cX9_init 38 = .ok (.newarray .boolean, 2) := by decide +kernel
theorem dX9_init_40 : decode cX9_init 40 = .ok (.putfield 23, 3) := by decide +kernel
theorem dX9_init_43 : decode cX9_init 43 = .ok (.aload_n 0, 1) := by decide +kernel
theorem dX9_init_44 : decode cX9_init 44 = .ok (.lconst 1, 1) := by decide +kernel
theorem dX9_init_45 : decode cX9_init 45 = .ok (.putfield 27, 3) := by decide +kernel
theorem dX9_init_48 : decode cX9_init 48 = .ok (.aload_n 0, 1) := by decide +kernel
theorem dX9_init_49 : decode cX9_init 49 = .ok (.bipush 60, 2) := by decide +kernel
theorem dX9_init_51 : decode cX9_init 51 = .ok (.newarray .int, 2) := by decide +kernel
theorem dX9_init_53 : decode cX9_init 53 = .ok (.putfield 31, 3) := by decide +kernel
theorem dX9_init_56 : decode cX9_init 56 = .ok (.aload_n 0, 1) := by decide +kernel
theorem dX9_init_57 : decode cX9_init 57 = .ok (.iconst 4, 1) := by decide +kernel
theorem dX9_init_58 : decode cX9_init 58 = .ok (.newarray .int, 2) := by decide +kernel
theorem dX9_init_60 : decode cX9_init 60 = .ok (.putfield 35, 3) := by decide +kernel
theorem dX9_init_63 : decode cX9_init 63 = .ok (.aload_n 0, 1) := by decide +kernel
theorem dX9_init_64 : decode cX9_init 64 = .ok (.iconst 4, 1) := by decide +kernel
theorem dX9_init_65 : decode cX9_init 65 = .ok (.newarray .int, 2) := by decide +kernel
theorem dX9_init_67 : decode cX9_init 67 = .ok (.putfield 38, 3) := by decide +kernel
theorem dX9_init_70 : decode cX9_init 70 = .ok (.aload_n 0, 1) := by decide +kernel
theorem dX9_init_71 : decode cX9_init 71 = .ok (.bipush 96, 2) := by decide +kernel
theorem dX9_init_73 : decode cX9_init 73 = .ok (.newarray .long, 2) := by decide +kernel
theorem dX9_init_75 : decode cX9_init 75 = .ok (.putfield 41, 3) := by decide +kernel
theorem dX9_init_78 : decode cX9_init 78 = .ok (.aload_n 0, 1) := by decide +kernel
theorem dX9_init_79 : decode cX9_init 79 = .ok (.bipush 24, 2) := by decide +kernel
theorem dX9_init_81 : decode cX9_init 81 = .ok (.newarray .long, 2) := by decide +kernel
theorem dX9_init_83 : decode cX9_init 83 = .ok (.putfield 45, 3) := by decide +kernel
theorem dX9_init_86 : decode cX9_init 86 = .ok (.aload_n 0, 1) := by decide +kernel
theorem dX9_init_87 : decode cX9_init 87 = .ok (.bipush 12, 2) := by decide +kernel
theorem dX9_init_89 : decode cX9_init 89 = .ok (.newarray .int, 2) := by decide +kernel
theorem dX9_init_91 : decode cX9_init 91 = .ok (.putfield 48, 3) := by decide +kernel
theorem dX9_init_94 : decode cX9_init 94 = .ok (.aload_n 0, 1) := by decide +kernel
theorem dX9_init_95 : decode cX9_init 95 = .ok (.bipush 12, 2) := by decide +kernel
theorem dX9_init_97 : decode cX9_init 97 = .ok (.newarray .int, 2) := by decide +kernel
theorem dX9_init_99 : decode cX9_init 99 = .ok (.putfield 51, 3) := by decide +kernel
theorem dX9_init_102 : decode cX9_init 102 = .ok (.aload_n 0, 1) := by decide +kernel
theorem dX9_init_103 : decode cX9_init 103 = .ok (.bipush 12, 2) := by decide +kernel
theorem dX9_init_105 : decode cX9_init 105 = .ok (.newarray .int, 2) := by decide +kernel
theorem dX9_init_107 : decode cX9_init 107 = .ok (.putfield 54, 3) := by decide +kernel
theorem dX9_init_110 : decode cX9_init 110 = .ok (.aload_n 0, 1) := by decide +kernel
theorem dX9_init_111 : decode cX9_init 111 = .ok (.bipush 12, 2) := by decide +kernel
theorem dX9_init_113 : decode cX9_init 113 = .ok (.newarray .int, 2) := by decide +kernel
theorem dX9_init_115 : decode cX9_init 115 = .ok (.putfield 57, 3) := by decide +kernel
theorem dX9_init_118 : decode cX9_init 118 = .ok (.aload_n 0, 1) := by decide +kernel
theorem dX9_init_119 : decode cX9_init 119 = .ok (.bipush 24, 2) := by decide +kernel
theorem dX9_init_121 : decode cX9_init 121 = .ok (.newarray .int, 2) := by decide +kernel
theorem dX9_init_123 : decode cX9_init 123 = .ok (.putfield 60, 3) := by decide +kernel
theorem dX9_init_126 : decode cX9_init 126 = .ok (.aload_n 0, 1) := by decide +kernel
theorem dX9_init_127 : decode cX9_init 127 = .ok (.sipush 676, 3) := by decide +kernel
theorem dX9_init_130 : decode cX9_init 130 = .ok (.newarray .long, 2) := by decide +kernel
theorem dX9_init_132 : decode cX9_init 132 = .ok (.putfield 63, 3) := by decide +kernel
theorem dX9_init_135 : decode cX9_init 135 = .ok (.aload_n 0, 1) := by decide +kernel
theorem dX9_init_136 : decode cX9_init 136 = .ok (.bipush 24, 2) := by decide +kernel
theorem dX9_init_138 : decode cX9_init 138 = .ok (.newarray .long, 2) := by decide +kernel
theorem dX9_init_140 : decode cX9_init 140 = .ok (.putfield 66, 3) := by decide +kernel
theorem dX9_init_143 : decode cX9_init 143 = .ok (.aload_n 0, 1) := by decide +kernel
theorem dX9_init_144 : decode cX9_init 144 = .ok (.bipush 26, 2) := by decide +kernel
theorem dX9_init_146 : decode cX9_init 146 = .ok (.newarray .boolean, 2) := by decide +kernel
theorem dX9_init_148 : decode cX9_init 148 = .ok (.putfield 69, 3) := by decide +kernel
theorem dX9_init_151 : decode cX9_init 151 = .ok (.aload_n 0, 1) := by decide +kernel
theorem dX9_init_152 : decode cX9_init 152 = .ok (.bipush 26, 2) := by decide +kernel
theorem dX9_init_154 : decode cX9_init 154 = .ok (.newarray .int, 2) := by decide +kernel
theorem dX9_init_156 : decode cX9_init 156 = .ok (.putfield 72, 3) := by decide +kernel
theorem dX9_init_159 : decode cX9_init 159 = .ok (.aload_n 0, 1) := by decide +kernel
theorem dX9_init_160 : decode cX9_init 160 = .ok (.bipush 26, 2) := by decide +kernel
theorem dX9_init_162 : decode cX9_init 162 = .ok (.newarray .int, 2) := by decide +kernel
theorem dX9_init_164 : decode cX9_init 164 = .ok (.putfield 75, 3) := by decide +kernel
theorem dX9_init_167 : decode cX9_init 167 = .ok (.aload_n 0, 1) := by decide +kernel
theorem dX9_init_168 : decode cX9_init 168 = .ok (.sipush 721, 3) := by decide +kernel
theorem dX9_init_171 : decode cX9_init 171 = .ok (.newarray .long, 2) := by decide +kernel
theorem dX9_init_173 : decode cX9_init 173 = .ok (.putfield 78, 3) := by decide +kernel
theorem dX9_init_176 : decode cX9_init 176 = .ok (.aload_n 0, 1) := by decide +kernel
theorem dX9_init_177 : decode cX9_init 177 = .ok (.bipush 12, 2) := by decide +kernel
theorem dX9_init_179 : decode cX9_init 179 = .ok (.newarray .int, 2) := by decide +kernel
theorem dX9_init_181 : decode cX9_init 181 = .ok (.putfield 81, 3) := by decide +kernel
theorem dX9_init_184 : decode cX9_init 184 = .ok (.aload_n 0, 1) := by decide +kernel
theorem dX9_init_185 : decode cX9_init 185 = .ok (.bipush 12, 2) := by decide +kernel
theorem dX9_init_187 : decode cX9_init 187 = .ok (.newarray .int, 2) := by decide +kernel
theorem dX9_init_189 : decode cX9_init 189 = .ok (.putfield 84, 3) := by decide +kernel
theorem dX9_init_192 : decode cX9_init 192 = .ok (.aload_n 0, 1) := by decide +kernel
theorem dX9_init_193 : decode cX9_init 193 = .ok (.bipush 12, 2) := by decide +kernel
theorem dX9_init_195 : decode cX9_init 195 = .ok (.newarray .int, 2) := by decide +kernel
theorem dX9_init_197 : decode cX9_init 197 = .ok (.putfield 87, 3) := by decide +kernel
theorem dX9_init_200 : decode cX9_init 200 = .ok (.iconst 0, 1) := by decide +kernel
theorem dX9_init_201 : decode cX9_init 201 = .ok (.istore_n 1, 1) := by decide +kernel
theorem dX9_init_202 : decode cX9_init 202 = .ok (.iload_n 1, 1) := by decide +kernel
theorem dX9_init_203 : decode cX9_init 203 = .ok (.bipush 30, 2) := by decide +kernel
theorem dX9_init_205 : decode cX9_init 205 = .ok (.if_icmp .ge 22, 3) := by decide +kernel
theorem dX9_init_208 : decode cX9_init 208 = .ok (.aload_n 0, 1) := by decide +kernel
theorem dX9_init_209 : decode cX9_init 209 = .ok (.getfield 19, 3) := by decide +kernel
theorem dX9_init_212 : decode cX9_init 212 = .ok (.iload_n 1, 1) := by decide +kernel
theorem dX9_init_213 : decode cX9_init 213 = .ok (.new 7, 3) := by decide +kernel
theorem dX9_init_216 : decode cX9_init 216 = .ok (.dup, 1) := by decide +kernel
theorem dX9_init_217 : decode cX9_init 217 = .ok (.invokespecial 9, 3) := by decide +kernel
theorem dX9_init_220 : decode cX9_init 220 = .ok (.aastore, 1) := by decide +kernel
theorem dX9_init_221 : decode cX9_init 221 = .ok (.iinc 1 1, 3) := by decide +kernel
theorem dX9_init_224 : decode cX9_init 224 = .ok (.goto (-22), 3) := by decide +kernel
theorem dX9_init_227 : decode cX9_init 227 = .ok (.return_, 1) := by decide +kernel
theorem dX9_found_0 : decode cX9_found 0 = .ok (.iload_n 1, 1) := by decide +kernel
theorem dX9_found_1 : decode cX9_found 1 = .ok (.ifCond .ge 13, 3) := by decide +kernel
theorem dX9_found_4 : decode cX9_found 4 = .ok (.aload_n 0, 1) := by decide +kernel
theorem dX9_found_5 : decode cX9_found 5 = .ok (.dup, 1) := by decide +kernel
theorem dX9_found_6 : decode cX9_found 6 = .ok (.getfield 90, 3) := by decide +kernel
theorem dX9_found_9 : decode cX9_found 9 = .ok (.iconst 1, 1) := by decide +kernel
theorem dX9_found_10 : decode cX9_found 10 = .ok (.iadd, 1) := by decide +kernel
theorem dX9_found_11 : decode cX9_found 11 = .ok (.putfield 90, 3) := by decide +kernel
theorem dX9_found_14 : decode cX9_found 14 = .ok (.iload_n 1, 1) := by decide +kernel
theorem dX9_found_15 : decode cX9_found 15 = .ok (.ireturn, 1) := by decide +kernel
theorem dX9_in_0 : decode cX9_in 0 = .ok (.lload_n 0, 1) := by decide +kernel
theorem dX9_in_1 : decode cX9_in 1 = .ok (.lload_n 2, 1) := by decide +kernel
theorem dX9_in_2 : decode cX9_in 2 = .ok (.lcmp, 1) := by decide +kernel
theorem dX9_in_3 : decode cX9_in 3 = .ok (.ifCond .lt 14, 3) := by decide +kernel
theorem dX9_in_6 : decode cX9_in 6 = .ok (.lload_n 0, 1) := by decide +kernel
theorem dX9_in_7 : decode cX9_in 7 = .ok (.lload 4, 2) := by decide +kernel
theorem dX9_in_9 : decode cX9_in 9 = .ok (.lcmp, 1) := by decide +kernel
theorem dX9_in_10 : decode cX9_in 10 = .ok (.ifCond .gt 7, 3) := by decide +kernel
theorem dX9_in_13 : decode cX9_in 13 = .ok (.iconst 1, 1) := by decide +kernel
theorem dX9_in_14 : decode cX9_in 14 = .ok (.goto 4, 3) := by decide +kernel
theorem dX9_in_17 : decode cX9_in 17 = .ok (.iconst 0, 1) := by decide +kernel
theorem dX9_in_18 : decode cX9_in 18 = .ok (.ireturn, 1) := by decide +kernel
set_option maxRecDepth 20000 in
theorem ggX9_isTask_X9_in : GoodIn wsX9_isTask wsX9_in := goodIn_r _ [6] (by decide +kernel) (by decide +kernel)
set_option maxRecDepth 20000 in
theorem gX9_isTask_X9_in : GoodIn wsX9_isTask (va_wsS RX9 97 yX9_in wsX9_in) := goodIn_app (goodIn_of _ (by decide +kernel)) ggX9_isTask_X9_in
theorem dX9_isTask_0 : decode cX9_isTask 0 = .ok (.iload_n 1, 1) := by decide +kernel
theorem dX9_isTask_1 : decode cX9_isTask 1 = .ok (.i2l, 1) := by decide +kernel
theorem dX9_isTask_2 : decode cX9_isTask 2 = .ok (.lconst 0, 1) := by decide +kernel
theorem dX9_isTask_3 : decode cX9_isTask 3 = .ok (.aload_n 0, 1) := by decide +kernel
theorem dX9_isTask_4 : decode cX9_isTask 4 = .ok (.getfield 10, 3) := by decide +kernel
theorem dX9_isTask_7 : decode cX9_isTask 7 = .ok (.getfield 94, 3) := by decide +kernel
theorem dX9_isTask_10 : decode cX9_isTask 10 = .ok (.iconst 1, 1) := by decide +kernel
theorem dX9_isTask_11 : decode cX9_isTask 11 = .ok (.isub, 1) := by decide +kernel
theorem dX9_isTask_12 : decode cX9_isTask 12 = .ok (.i2l, 1) := by decide +kernel
theorem dX9_isTask_13 : decode cX9_isTask 13 = .ok (.invokestatic 97, 3) := by decide +kernel
theorem dX9_isTask_16 : decode cX9_isTask 16 = .ok (.ireturn, 1) := by decide +kernel
set_option maxRecDepth 20000 in
theorem ggX9_isBoard_X9_in : GoodIn wsX9_isBoard wsX9_in := goodIn_r _ [5] (by decide +kernel) (by decide +kernel)
set_option maxRecDepth 20000 in
theorem gX9_isBoard_X9_in : GoodIn wsX9_isBoard (va_wsS RX9 97 yX9_in wsX9_in) := goodIn_app (goodIn_of _ (by decide +kernel)) ggX9_isBoard_X9_in
theorem dX9_isBoard_0 : decode cX9_isBoard 0 = .ok (.iload_n 0, 1) := by decide +kernel
theorem dX9_isBoard_1 : decode cX9_isBoard 1 = .ok (.i2l, 1) := by decide +kernel
theorem dX9_isBoard_2 : decode cX9_isBoard 2 = .ok (.lconst 0, 1) := by decide +kernel
theorem dX9_isBoard_3 : decode cX9_isBoard 3 = .ok (.ldc2_w 101, 3) := by decide +kernel
theorem dX9_isBoard_6 : decode cX9_isBoard 6 = .ok (.invokestatic 97, 3) := by decide +kernel
theorem dX9_isBoard_9 : decode cX9_isBoard 9 = .ok (.ireturn, 1) := by decide +kernel
set_option maxRecDepth 20000 in
theorem ggX9_board_X9_isBoard : GoodIn wsX9_board wsX9_isBoard := goodIn_r _ [7, 8, 9, 10, 6, 11] (by decide +kernel) (by decide +kernel)
set_option maxRecDepth 20000 in
theorem gX9_board_X9_isBoard : GoodIn wsX9_board (va_wsS RX9 103 yX9_isBoard wsX9_isBoard) := goodIn_app (goodIn_of _ (by decide +kernel)) ggX9_board_X9_isBoard
set_option maxRecDepth 20000 in
theorem ggX9_board_X9_found : GoodIn wsX9_board wsX9_found := goodIn_r _ [15, 16, 17, 18, 19, 20, 21, 22, 23, 24, 25, 26, 27, 28, 29, 30, 31, 32, 33, 34, 35, 36, 37, 38, 39, 40, 41, 42, 43, 44, 45, 46, 47, 48] (by decide +kernel) (by decide +kernel)
set_option maxRecDepth 20000 in
theorem gX9_board_X9_found : GoodIn wsX9_board (wsV RX9 107 RX9 yX9_found wsX9_found) := goodIn_app (goodIn_of _ (by decide +kernel)) ggX9_board_X9_found
theorem dX9_board_0 : decode cX9_board 0 = .ok (.iload_n 1, 1) := by decide +kernel
theorem dX9_board_1 : decode cX9_board 1 = .ok (.invokestatic 103, 3) := by decide +kernel
theorem dX9_board_4 : decode cX9_board 4 = .ok (.ifCond .eq 19, 3) := by decide +kernel
theorem dX9_board_7 : decode cX9_board 7 = .ok (.iload_n 2, 1) := by decide +kernel
theorem dX9_board_8 : decode cX9_board 8 = .ok (.ifCond .eq 21, 3) := by decide +kernel
theorem dX9_board_11 : decode cX9_board 11 = .ok (.iload_n 2, 1) := by decide +kernel
theorem dX9_board_12 : decode cX9_board 12 = .ok (.bipush 32, 2) := by decide +kernel
theorem dX9_board_14 : decode cX9_board 14 = .ok (.if_icmp .eq 15, 3) := by decide +kernel
theorem dX9_board_17 : decode cX9_board 17 = .ok (.iload_n 2, 1) := by decide +kernel
theorem dX9_board_18 : decode cX9_board 18 = .ok (.bipush 64, 2) := by decide +kernel
theorem dX9_board_20 : decode cX9_board 20 = .ok (.if_icmp .eq 9, 3) := by decide +kernel
theorem dX9_board_23 : decode cX9_board 23 = .ok (.aload_n 0, 1) := by decide +kernel
theorem dX9_board_24 : decode cX9_board 24 = .ok (.iconst (-1), 1) := by decide +kernel
theorem dX9_board_25 : decode cX9_board 25 = .ok (.invokevirtual 107, 3) := by decide +kernel
theorem dX9_board_28 : decode cX9_board 28 = .ok (.ireturn, 1) := by decide +kernel
theorem dX9_board_29 : decode cX9_board 29 = .ok (.iload_n 3, 1) := by decide +kernel
theorem dX9_board_30 : decode cX9_board 30 = .ok (.ifCond .ge 10, 3) := by decide +kernel
theorem dX9_board_33 : decode cX9_board 33 = .ok (.aload_n 0, 1) := by decide +kernel
theorem dX9_board_34 : decode cX9_board 34 = .ok (.bipush (-3), 2) := by decide +kernel
theorem dX9_board_36 : decode cX9_board 36 = .ok (.invokevirtual 107, 3) := by decide +kernel
theorem dX9_board_39 : decode cX9_board 39 = .ok (.ireturn, 1) := by decide +kernel
theorem dX9_board_40 : decode cX9_board 40 = .ok (.iload_n 3, 1) := by decide +kernel
theorem dX9_board_41 : decode cX9_board 41 = .ok (.bipush 24, 2) := by decide +kernel
theorem dX9_board_43 : decode cX9_board 43 = .ok (.if_icmp .le 9, 3) := by decide +kernel
theorem dX9_board_46 : decode cX9_board 46 = .ok (.aload_n 0, 1) := by decide +kernel
theorem dX9_board_47 : decode cX9_board 47 = .ok (.iconst (-1), 1) := by decide +kernel
theorem dX9_board_48 : decode cX9_board 48 = .ok (.invokevirtual 107, 3) := by decide +kernel
theorem dX9_board_51 : decode cX9_board 51 = .ok (.ireturn, 1) := by decide +kernel
theorem dX9_board_52 : decode cX9_board 52 = .ok (.aload_n 0, 1) := by decide +kernel
theorem dX9_board_53 : decode cX9_board 53 = .ok (.getfield 35, 3) := by decide +kernel
theorem dX9_board_56 : decode cX9_board 56 = .ok (.iload_n 1, 1) := by decide +kernel
theorem dX9_board_57 : decode cX9_board 57 = .ok (.iload_n 2, 1) := by decide +kernel
theorem dX9_board_58 : decode cX9_board 58 = .ok (.iastore, 1) := by decide +kernel
theorem dX9_board_59 : decode cX9_board 59 = .ok (.aload_n 0, 1) := by decide +kernel
theorem dX9_board_60 : decode cX9_board 60 = .ok (.getfield 38, 3) := by decide +kernel
theorem dX9_board_63 : decode cX9_board 63 = .ok (.iload_n 1, 1) := by decide +kernel
theorem dX9_board_64 : decode cX9_board 64 = .ok (.iload_n 2, 1) := by decide +kernel
theorem dX9_board_65 : decode cX9_board 65 = .ok (.ifCond .ne 7, 3) := by decide +kernel
theorem dX9_board_68 : decode cX9_board 68 = .ok (.iconst 0, 1) := by decide +kernel
theorem dX9_board_69 : decode cX9_board 69 = .ok (.goto 4, 3) := by decide +kernel
theorem dX9_board_72 : decode cX9_board 72 = .ok (.iload_n 3, 1) := by decide +kernel
theorem dX9_board_73 : decode cX9_board 73 = .ok (.iastore, 1) := by decide +kernel
theorem dX9_board_74 : decode cX9_board 74 = .ok (.iconst 0, 1) := by decide +kernel
theorem dX9_board_75 : decode cX9_board 75 = .ok (.istore 4, 2) := by decide +kernel
theorem dX9_board_77 : decode cX9_board 77 = .ok (.iload 4, 2) := by decide +kernel
theorem dX9_board_79 : decode cX9_board 79 = .ok (.bipush 24, 2) := by decide +kernel
theorem dX9_board_81 : decode cX9_board 81 = .ok (.if_icmp .ge 22, 3) := by decide +kernel
theorem dX9_board_84 : decode cX9_board 84 = .ok (.aload_n 0, 1) := by decide +kernel
theorem dX9_board_85 : decode cX9_board 85 = .ok (.getfield 41, 3) := by decide +kernel
theorem dX9_board_88 : decode cX9_board 88 = .ok (.bipush 24, 2) := by decide +kernel
theorem dX9_board_90 : decode cX9_board 90 = .ok (.iload_n 1, 1) := by decide +kernel
theorem dX9_board_91 : decode cX9_board 91 = .ok (.imul, 1) := by decide +kernel
theorem dX9_board_92 : decode cX9_board 92 = .ok (.iload 4, 2) := by decide +kernel
theorem dX9_board_94 : decode cX9_board 94 = .ok (.iadd, 1) := by decide +kernel
theorem dX9_board_95 : decode cX9_board 95 = .ok (.lconst 0, 1) := by decide +kernel
theorem dX9_board_96 : decode cX9_board 96 = .ok (.lastore, 1) := by decide +kernel
theorem dX9_board_97 : decode cX9_board 97 = .ok (.iinc 4 1, 3) := by decide +kernel
theorem dX9_board_100 : decode cX9_board 100 = .ok (.goto (-23), 3) := by decide +kernel
theorem dX9_board_103 : decode cX9_board 103 = .ok (.aload_n 0, 1) := by decide +kernel
theorem dX9_board_104 : decode cX9_board 104 = .ok (.getfield 38, 3) := by decide +kernel
theorem dX9_board_107 : decode cX9_board 107 = .ok (.iload_n 1, 1) := by decide +kernel
theorem dX9_board_108 : decode cX9_board 108 = .ok (.iaload, 1) := by decide +kernel
theorem dX9_board_109 : decode cX9_board 109 = .ok (.ireturn, 1) := by decide +kernel
set_option maxRecDepth 20000 in
theorem ggX9_put_X9_isBoard : GoodIn wsX9_put wsX9_isBoard := goodIn_r _ [7, 8, 9, 10, 6, 11] (by decide +kernel) (by decide +kernel)
set_option maxRecDepth 20000 in
theorem gX9_put_X9_isBoard : GoodIn wsX9_put (va_wsS RX9 103 yX9_isBoard wsX9_isBoard) := goodIn_app (goodIn_of _ (by decide +kernel)) ggX9_put_X9_isBoard
set_option maxRecDepth 20000 in
theorem ggX9_put_X9_found : GoodIn wsX9_put wsX9_found := goodIn_r _ [15, 16, 17, 18, 19, 20, 21, 22, 23, 24, 25, 26, 27, 28, 29, 30, 31, 32, 33, 34, 35, 36, 37, 38, 39, 40, 41, 42, 43, 44, 45, 46, 47, 48] (by decide +kernel) (by decide +kernel)
set_option maxRecDepth 20000 in
theorem gX9_put_X9_found : GoodIn wsX9_put (wsV RX9 107 RX9 yX9_found wsX9_found) := goodIn_app (goodIn_of _ (by decide +kernel)) ggX9_put_X9_found
set_option maxRecDepth 20000 in
theorem ggX9_put_X9_in : GoodIn wsX9_put wsX9_in := goodIn_r _ [11] (by decide +kernel) (by decide +kernel)
set_option maxRecDepth 20000 in
theorem gX9_put_X9_in : GoodIn wsX9_put (va_wsS RX9 97 yX9_in wsX9_in) := goodIn_app (goodIn_of _ (by decide +kernel)) ggX9_put_X9_in
theorem dX9_put_0 : decode cX9_put 0 = .ok (.iload_n 1, 1) := by decide +kernel
theorem dX9_put_1 : decode cX9_put 1 = .ok (.invokestatic 103, 3) := by decide +kernel
theorem dX9_put_4 : decode cX9_put 4 = .ok (.ifCond .ne 9, 3) := by decide +kernel
theorem dX9_put_7 : decode cX9_put 7 = .ok (.aload_n 0, 1) := by decide +kernel
theorem dX9_put_8 : decode cX9_put 8 = .ok (.iconst (-1), 1) := by decide +kernel
theorem dX9_put_9 : decode cX9_put 9 = .ok (.invokevirtual 107, 3) := by decide +kernel
theorem dX9_put_12 : decode cX9_put 12 = .ok (.ireturn, 1) := by decide +kernel
theorem dX9_put_13 : decode cX9_put 13 = .ok (.aload_n 0, 1) := by decide +kernel
theorem dX9_put_14 : decode cX9_put 14 = .ok (.getfield 35, 3) := by decide +kernel
theorem dX9_put_17 : decode cX9_put 17 = .ok (.iload_n 1, 1) := by decide +kernel
theorem dX9_put_18 : decode cX9_put 18 = .ok (.iaload, 1) := by decide +kernel
theorem dX9_put_19 : decode cX9_put 19 = .ok (.ifCond .ne 10, 3) := by decide +kernel
theorem dX9_put_22 : decode cX9_put 22 = .ok (.aload_n 0, 1) := by decide +kernel
theorem dX9_put_23 : decode cX9_put 23 = .ok (.bipush (-2), 2) := by decide +kernel
theorem dX9_put_25 : decode cX9_put 25 = .ok (.invokevirtual 107, 3) := by decide +kernel
theorem dX9_put_28 : decode cX9_put 28 = .ok (.ireturn, 1) := by decide +kernel
theorem dX9_put_29 : decode cX9_put 29 = .ok (.iload_n 2, 1) := by decide +kernel
theorem dX9_put_30 : decode cX9_put 30 = .ok (.i2l, 1) := by decide +kernel
theorem dX9_put_31 : decode cX9_put 31 = .ok (.lconst 0, 1) := by decide +kernel
theorem dX9_put_32 : decode cX9_put 32 = .ok (.aload_n 0, 1) := by decide +kernel
theorem dX9_put_33 : decode cX9_put 33 = .ok (.getfield 38, 3) := by decide +kernel
theorem dX9_put_36 : decode cX9_put 36 = .ok (.iload_n 1, 1) := by decide +kernel
theorem dX9_put_37 : decode cX9_put 37 = .ok (.iaload, 1) := by decide +kernel
theorem dX9_put_38 : decode cX9_put 38 = .ok (.iconst 1, 1) := by decide +kernel
theorem dX9_put_39 : decode cX9_put 39 = .ok (.isub, 1) := by decide +kernel
theorem dX9_put_40 : decode cX9_put 40 = .ok (.i2l, 1) := by decide +kernel
theorem dX9_put_41 : decode cX9_put 41 = .ok (.invokestatic 97, 3) := by decide +kernel
theorem dX9_put_44 : decode cX9_put 44 = .ok (.ifCond .ne 9, 3) := by decide +kernel
theorem dX9_put_47 : decode cX9_put 47 = .ok (.aload_n 0, 1) := by decide +kernel
theorem dX9_put_48 : decode cX9_put 48 = .ok (.iconst (-1), 1) := by decide +kernel
theorem dX9_put_49 : decode cX9_put 49 = .ok (.invokevirtual 107, 3) := by decide +kernel
theorem dX9_put_52 : decode cX9_put 52 = .ok (.ireturn, 1) := by decide +kernel
theorem dX9_put_53 : decode cX9_put 53 = .ok (.aload_n 0, 1) := by decide +kernel
theorem dX9_put_54 : decode cX9_put 54 = .ok (.getfield 41, 3) := by decide +kernel
theorem dX9_put_57 : decode cX9_put 57 = .ok (.bipush 24, 2) := by decide +kernel
theorem dX9_put_59 : decode cX9_put 59 = .ok (.iload_n 1, 1) := by decide +kernel
theorem dX9_put_60 : decode cX9_put 60 = .ok (.imul, 1) := by decide +kernel
theorem dX9_put_61 : decode cX9_put 61 = .ok (.iload_n 2, 1) := by decide +kernel
theorem dX9_put_62 : decode cX9_put 62 = .ok (.iadd, 1) := by decide +kernel
theorem dX9_put_63 : decode cX9_put 63 = .ok (.lload_n 3, 1) := by decide +kernel
theorem dX9_put_64 : decode cX9_put 64 = .ok (.bipush 64, 2) := by decide +kernel
theorem dX9_put_66 : decode cX9_put 66 = .ok (.aload_n 0, 1) := by decide +kernel
theorem dX9_put_67 : decode cX9_put 67 = .ok (.getfield 35, 3) := by decide +kernel
theorem dX9_put_70 : decode cX9_put 70 = .ok (.iload_n 1, 1) := by decide +kernel
theorem dX9_put_71 : decode cX9_put 71 = .ok (.iaload, 1) := by decide +kernel
theorem dX9_put_72 : decode cX9_put 72 = .ok (.isub, 1) := by decide +kernel
theorem dX9_put_73 : decode cX9_put 73 = .ok (.lshl, 1) := by decide +kernel
theorem dX9_put_74 : decode cX9_put 74 = .ok (.bipush 64, 2) := by decide +kernel
theorem dX9_put_76 : decode cX9_put 76 = .ok (.aload_n 0, 1) := by decide +kernel
theorem dX9_put_77 : decode cX9_put 77 = .ok (.getfield 35, 3) := by decide +kernel
theorem dX9_put_80 : decode cX9_put 80 = .ok (.iload_n 1, 1) := by decide +kernel
theorem dX9_put_81 : decode cX9_put 81 = .ok (.iaload, 1) := by decide +kernel
theorem dX9_put_82 : decode cX9_put 82 = .ok (.isub, 1) := by decide +kernel
theorem dX9_put_83 : decode cX9_put 83 = .ok (.lshr, 1) := by decide +kernel
theorem dX9_put_84 : decode cX9_put 84 = .ok (.lastore, 1) := by decide +kernel
theorem dX9_put_85 : decode cX9_put 85 = .ok (.iconst 0, 1) := by decide +kernel
theorem dX9_put_86 : decode cX9_put 86 = .ok (.ireturn, 1) := by decide +kernel
set_option maxRecDepth 20000 in
theorem ggX9_copy_X9_isBoard : GoodIn wsX9_copy wsX9_isBoard := goodIn_r _ [8, 9, 10, 11, 7, 12] (by decide +kernel) (by decide +kernel)
set_option maxRecDepth 20000 in
theorem gX9_copy_X9_isBoard : GoodIn wsX9_copy (va_wsS RX9 103 yX9_isBoard wsX9_isBoard) := goodIn_app (goodIn_of _ (by decide +kernel)) ggX9_copy_X9_isBoard
set_option maxRecDepth 20000 in
theorem ggX9_copy_X9_found : GoodIn wsX9_copy wsX9_found := goodIn_r _ [16, 17, 18, 19, 20, 21, 22, 23, 24, 25, 26, 27, 28, 29, 30, 31, 32, 33, 34, 35, 36, 37, 38, 39, 40, 41, 42, 43, 44, 45, 46, 47, 48, 49] (by decide +kernel) (by decide +kernel)
set_option maxRecDepth 20000 in
theorem gX9_copy_X9_found : GoodIn wsX9_copy (wsV RX9 107 RX9 yX9_found wsX9_found) := goodIn_app (goodIn_of _ (by decide +kernel)) ggX9_copy_X9_found
theorem dX9_copy_0 : decode cX9_copy 0 = .ok (.iload_n 1, 1) := by decide +kernel
theorem dX9_copy_1 : decode cX9_copy 1 = .ok (.invokestatic 103, 3) := by decide +kernel
theorem dX9_copy_4 : decode cX9_copy 4 = .ok (.ifCond .eq 10, 3) := by decide +kernel
theorem dX9_copy_7 : decode cX9_copy 7 = .ok (.iload_n 3, 1) := by decide +kernel
theorem dX9_copy_8 : decode cX9_copy 8 = .ok (.invokestatic 103, 3) := by decide +kernel
theorem dX9_copy_11 : decode cX9_copy 11 = .ok (.ifCond .ne 9, 3) := by decide +kernel
theorem dX9_copy_14 : decode cX9_copy 14 = .ok (.aload_n 0, 1) := by decide +kernel
theorem dX9_copy_15 : decode cX9_copy 15 = .ok (.iconst (-1), 1) := by decide +kernel
theorem dX9_copy_16 : decode cX9_copy 16 = .ok (.invokevirtual 107, 3) := by decide +kernel
theorem dX9_copy_19 : decode cX9_copy 19 = .ok (.ireturn, 1) := by decide +kernel
theorem dX9_copy_20 : decode cX9_copy 20 = .ok (.aload_n 0, 1) := by decide +kernel
theorem dX9_copy_21 : decode cX9_copy 21 = .ok (.getfield 35, 3) := by decide +kernel
theorem dX9_copy_24 : decode cX9_copy 24 = .ok (.iload_n 1, 1) := by decide +kernel
theorem dX9_copy_25 : decode cX9_copy 25 = .ok (.iaload, 1) := by decide +kernel
theorem dX9_copy_26 : decode cX9_copy 26 = .ok (.ifCond .eq 12, 3) := by decide +kernel
theorem dX9_copy_29 : decode cX9_copy 29 = .ok (.aload_n 0, 1) := by decide +kernel
theorem dX9_copy_30 : decode cX9_copy 30 = .ok (.getfield 35, 3) := by decide +kernel
theorem dX9_copy_33 : decode cX9_copy 33 = .ok (.iload_n 3, 1) := by decide +kernel
theorem dX9_copy_34 : decode cX9_copy 34 = .ok (.iaload, 1) := by decide +kernel
theorem dX9_copy_35 : decode cX9_copy 35 = .ok (.ifCond .ne 10, 3) := by decide +kernel
theorem dX9_copy_38 : decode cX9_copy 38 = .ok (.aload_n 0, 1) := by decide +kernel
theorem dX9_copy_39 : decode cX9_copy 39 = .ok (.bipush (-2), 2) := by decide +kernel
theorem dX9_copy_41 : decode cX9_copy 41 = .ok (.invokevirtual 107, 3) := by decide +kernel
theorem dX9_copy_44 : decode cX9_copy 44 = .ok (.ireturn, 1) := by decide +kernel
theorem dX9_copy_45 : decode cX9_copy 45 = .ok (.aload_n 0, 1) := by decide +kernel
theorem dX9_copy_46 : decode cX9_copy 46 = .ok (.getfield 35, 3) := by decide +kernel
theorem dX9_copy_49 : decode cX9_copy 49 = .ok (.iload_n 1, 1) := by decide +kernel
theorem dX9_copy_50 : decode cX9_copy 50 = .ok (.iaload, 1) := by decide +kernel
theorem dX9_copy_51 : decode cX9_copy 51 = .ok (.aload_n 0, 1) := by decide +kernel
theorem dX9_copy_52 : decode cX9_copy 52 = .ok (.getfield 35, 3) := by decide +kernel
theorem dX9_copy_55 : decode cX9_copy 55 = .ok (.iload_n 3, 1) := by decide +kernel
theorem dX9_copy_56 : decode cX9_copy 56 = .ok (.iaload, 1) := by decide +kernel
theorem dX9_copy_57 : decode cX9_copy 57 = .ok (.if_icmp .eq 10, 3) := by decide +kernel
theorem dX9_copy_60 : decode cX9_copy 60 = .ok (.aload_n 0, 1) := by decide +kernel
theorem dX9_copy_61 : decode cX9_copy 61 = .ok (.bipush (-4), 2) := by decide +kernel
theorem dX9_copy_63 : decode cX9_copy 63 = .ok (.invokevirtual 107, 3) := by decide +kernel
theorem dX9_copy_66 : decode cX9_copy 66 = .ok (.ireturn, 1) := by decide +kernel
theorem dX9_copy_67 : decode cX9_copy 67 = .ok (.iload_n 2, 1) := by decide +kernel
theorem dX9_copy_68 : decode cX9_copy 68 = .ok (.ifCond .lt 48, 3) := by decide +kernel
theorem dX9_copy_71 : decode cX9_copy 71 = .ok (.iload 4, 2) := by decide +kernel
theorem dX9_copy_73 : decode cX9_copy 73 = .ok (.ifCond .lt 43, 3) := by decide +kernel
theorem dX9_copy_76 : decode cX9_copy 76 = .ok (.iload 5, 2) := by decide +kernel
theorem dX9_copy_78 : decode cX9_copy 78 = .ok (.ifCond .lt 38, 3) := by decide +kernel
theorem dX9_copy_81 : decode cX9_copy 81 = .ok (.iload_n 2, 1) := by decide +kernel
theorem dX9_copy_82 : decode cX9_copy 82 = .ok (.i2l, 1) := by decide +kernel
theorem dX9_copy_83 : decode cX9_copy 83 = .ok (.iload 5, 2) := by decide +kernel
theorem dX9_copy_85 : decode cX9_copy 85 = .ok (.i2l, 1) := by decide +kernel
theorem dX9_copy_86 : decode cX9_copy 86 = .ok (.ladd, 1) := by decide +kernel
theorem dX9_copy_87 : decode cX9_copy 87 = .ok (.aload_n 0, 1) := by decide +kernel
theorem dX9_copy_88 : decode cX9_copy 88 = .ok (.getfield 38, 3) := by decide +kernel
theorem dX9_copy_91 : decode cX9_copy 91 = .ok (.iload_n 1, 1) := by decide +kernel
theorem dX9_copy_92 : decode cX9_copy 92 = .ok (.iaload, 1) := by decide +kernel
theorem dX9_copy_93 : decode cX9_copy 93 = .ok (.i2l, 1) := by decide +kernel
theorem dX9_copy_94 : decode cX9_copy 94 = .ok (.lcmp, 1) := by decide +kernel
theorem dX9_copy_95 : decode cX9_copy 95 = .ok (.ifCond .gt 21, 3) := by decide +kernel
theorem dX9_copy_98 : decode cX9_copy 98 = .ok (.iload 4, 2) := by decide +kernel
theorem dX9_copy_100 : decode cX9_copy 100 = .ok (.i2l, 1) := by decide +kernel
theorem dX9_copy_101 : decode cX9_copy 101 = .ok (.iload 5, 2) := by decide +kernel
theorem dX9_copy_103 : decode cX9_copy 103 = .ok (.i2l, 1) := by decide +kernel
theorem dX9_copy_104 : decode cX9_copy 104 = .ok (.ladd, 1) := by decide +kernel
theorem dX9_copy_105 : decode cX9_copy 105 = .ok (.aload_n 0, 1) := by decide +kernel
theorem dX9_copy_106 : decode cX9_copy 106 = .ok (.getfield 38, 3) := by decide +kernel
theorem dX9_copy_109 : decode cX9_copy 109 = .ok (.iload_n 3, 1) := by decide +kernel
theorem dX9_copy_110 : decode cX9_copy 110 = .ok (.iaload, 1) := by decide +kernel
theorem dX9_copy_111 : decode cX9_copy 111 = .ok (.i2l, 1) := by decide +kernel
theorem dX9_copy_112 : decode cX9_copy 112 = .ok (.lcmp, 1) := by decide +kernel
theorem dX9_copy_113 : decode cX9_copy 113 = .ok (.ifCond .le 9, 3) := by decide +kernel
theorem dX9_copy_116 : decode cX9_copy 116 = .ok (.aload_n 0, 1) := by decide +kernel
theorem dX9_copy_117 : decode cX9_copy 117 = .ok (.iconst (-1), 1) := by decide +kernel
theorem dX9_copy_118 : decode cX9_copy 118 = .ok (.invokevirtual 107, 3) := by decide +kernel
theorem dX9_copy_121 : decode cX9_copy 121 = .ok (.ireturn, 1) := by decide +kernel
theorem dX9_copy_122 : decode cX9_copy 122 = .ok (.iconst 0, 1) := by decide +kernel
theorem dX9_copy_123 : decode cX9_copy 123 = .ok (.istore 6, 2) := by decide +kernel
theorem dX9_copy_125 : decode cX9_copy 125 = .ok (.iload 6, 2) := by decide +kernel
theorem dX9_copy_127 : decode cX9_copy 127 = .ok (.iload 5, 2) := by decide +kernel
theorem dX9_copy_129 : decode cX9_copy 129 = .ok (.if_icmp .ge 30, 3) := by decide +kernel
theorem dX9_copy_132 : decode cX9_copy 132 = .ok (.aload_n 0, 1) := by decide +kernel
theorem dX9_copy_133 : decode cX9_copy 133 = .ok (.getfield 45, 3) := by decide +kernel
theorem dX9_copy_136 : decode cX9_copy 136 = .ok (.iload 6, 2) := by decide +kernel
theorem dX9_copy_138 : decode cX9_copy 138 = .ok (.aload_n 0, 1) := by decide +kernel
theorem dX9_copy_139 : decode cX9_copy 139 = .ok (.getfield 41, 3) := by decide +kernel
theorem dX9_copy_142 : decode cX9_copy 142 = .ok (.bipush 24, 2) := by decide +kernel
theorem dX9_copy_144 : decode cX9_copy 144 = .ok (.iload_n 1, 1) := by decide +kernel
theorem dX9_copy_145 : decode cX9_copy 145 = .ok (.imul, 1) := by decide +kernel
theorem dX9_copy_146 : decode cX9_copy 146 = .ok (.iload_n 2, 1) := by decide +kernel
theorem dX9_copy_147 : decode cX9_copy 147 = .ok (.iadd, 1) := by decide +kernel
theorem dX9_copy_148 : decode cX9_copy 148 = .ok (.iload 6, 2) := by decide +kernel
theorem dX9_copy_150 : decode cX9_copy 150 = .ok (.iadd, 1) := by decide +kernel
theorem dX9_copy_151 : decode cX9_copy 151 = .ok (.laload, 1) := by decide +kernel
theorem dX9_copy_152 : decode cX9_copy 152 = .ok (.lastore, 1) := by decide +kernel
theorem dX9_copy_153 : decode cX9_copy 153 = .ok (.iinc 6 1, 3) := by decide +kernel
theorem dX9_copy_156 : decode cX9_copy 156 = .ok (.goto (-31), 3) := by decide +kernel
theorem dX9_copy_159 : decode cX9_copy 159 = .ok (.iconst 0, 1) := by decide +kernel
theorem dX9_copy_160 : decode cX9_copy 160 = .ok (.istore 6, 2) := by decide +kernel
theorem dX9_copy_162 : decode cX9_copy 162 = .ok (.iload 6, 2) := by decide +kernel
theorem dX9_copy_164 : decode cX9_copy 164 = .ok (.iload 5, 2) := by decide +kernel
theorem dX9_copy_166 : decode cX9_copy 166 = .ok (.if_icmp .ge 31, 3) := by decide +kernel
theorem dX9_copy_169 : decode cX9_copy 169 = .ok (.aload_n 0, 1) := by decide +kernel
theorem dX9_copy_170 : decode cX9_copy 170 = .ok (.getfield 41, 3) := by decide +kernel
theorem dX9_copy_173 : decode cX9_copy 173 = .ok (.bipush 24, 2) := by decide +kernel
theorem dX9_copy_175 : decode cX9_copy 175 = .ok (.iload_n 3, 1) := by decide +kernel
theorem dX9_copy_176 : decode cX9_copy 176 = .ok (.imul, 1) := by decide +kernel
theorem dX9_copy_177 : decode cX9_copy 177 = .ok (.iload 4, 2) := by decide +kernel
theorem dX9_copy_179 : decode cX9_copy 179 = .ok (.iadd, 1) := by decide +kernel
theorem dX9_copy_180 : decode cX9_copy 180 = .ok (.iload 6, 2) := by decide +kernel
theorem dX9_copy_182 : decode cX9_copy 182 = .ok (.iadd, 1) := by decide +kernel
theorem dX9_copy_183 : decode cX9_copy 183 = .ok (.aload_n 0, 1) := by decide +kernel
theorem dX9_copy_184 : decode cX9_copy 184 = .ok (.getfield 45, 3) := by decide +kernel
theorem dX9_copy_187 : decode cX9_copy 187 = .ok (.iload 6, 2) := by decide +kernel
theorem dX9_copy_189 : decode cX9_copy 189 = .ok (.laload, 1) := by decide +kernel
theorem dX9_copy_190 : decode cX9_copy 190 = .ok (.lastore, 1) := by decide +kernel
theorem dX9_copy_191 : decode cX9_copy 191 = .ok (.iinc 6 1, 3) := by decide +kernel
theorem dX9_copy_194 : decode cX9_copy 194 = .ok (.goto (-32), 3) := by decide +kernel
theorem dX9_copy_197 : decode cX9_copy 197 = .ok (.iload 5, 2) := by decide +kernel
theorem dX9_copy_199 : decode cX9_copy 199 = .ok (.ireturn, 1) := by decide +kernel
set_option maxRecDepth 20000 in
theorem ggX9_remember_X8_be : GoodIn wsX9_remember wsX8_be := goodIn_r _ [9, 10, 11, 12, 13, 14, 54, 55, 56, 57, 58] (by decide +kernel) (by decide +kernel)
set_option maxRecDepth 20000 in
theorem gX9_remember_X8_be : GoodIn wsX9_remember (wsV RX9 114 RX8 yX8_be wsX8_be) := goodIn_app (goodIn_of _ (by decide +kernel)) ggX9_remember_X8_be
set_option maxRecDepth 20000 in
theorem ggX9_remember_X9_changes : GoodIn wsX9_remember wsX9_changes := goodIn_r _ [19, 20, 21, 22, 23, 24, 25, 26, 27, 28, 29, 30, 31, 32, 33, 34, 35, 36, 37, 38, 39, 40, 41, 42, 43, 44, 45, 46, 47, 48, 49, 50, 51, 52, 53] (by decide +kernel) (by decide +kernel)
set_option maxRecDepth 20000 in
theorem gX9_remember_X9_changes : GoodIn wsX9_remember (wsV RX9 118 RX9 yX9_changes wsX9_changes) := goodIn_app (goodIn_of _ (by decide +kernel)) ggX9_remember_X9_changes
theorem dX9_remember_0 : decode cX9_remember 0 = .ok (.aload_n 0, 1) := by decide +kernel
theorem dX9_remember_1 : decode cX9_remember 1 = .ok (.getfield 111, 3) := by decide +kernel
theorem dX9_remember_4 : decode cX9_remember 4 = .ok (.bipush 30, 2) := by decide +kernel
theorem dX9_remember_6 : decode cX9_remember 6 = .ok (.if_icmp .ne 70, 3) := by decide +kernel
theorem dX9_remember_9 : decode cX9_remember 9 = .ok (.aload_n 0, 1) := by decide +kernel
theorem dX9_remember_10 : decode cX9_remember 10 = .ok (.getfield 19, 3) := by decide +kernel
theorem dX9_remember_13 : decode cX9_remember 13 = .ok (.iconst 0, 1) := by decide +kernel
theorem dX9_remember_14 : decode cX9_remember 14 = .ok (.aaload, 1) := by decide +kernel
theorem dX9_remember_15 : decode cX9_remember 15 = .ok (.astore_n 2, 1) := by decide +kernel
theorem dX9_remember_16 : decode cX9_remember 16 = .ok (.iconst 1, 1) := by decide +kernel
theorem dX9_remember_17 : decode cX9_remember 17 = .ok (.istore_n 3, 1) := by decide +kernel
theorem dX9_remember_18 : decode cX9_remember 18 = .ok (.iload_n 3, 1) := by decide +kernel
theorem dX9_remember_19 : decode cX9_remember 19 = .ok (.bipush 30, 2) := by decide +kernel
theorem dX9_remember_21 : decode cX9_remember 21 = .ok (.if_icmp .ge 37, 3) := by decide +kernel
theorem dX9_remember_24 : decode cX9_remember 24 = .ok (.aload_n 0, 1) := by decide +kernel
theorem dX9_remember_25 : decode cX9_remember 25 = .ok (.getfield 19, 3) := by decide +kernel
theorem dX9_remember_28 : decode cX9_remember 28 = .ok (.iload_n 3, 1) := by decide +kernel
theorem dX9_remember_29 : decode cX9_remember 29 = .ok (.iconst 1, 1) := by decide +kernel
theorem dX9_remember_30 : decode cX9_remember 30 = .ok (.isub, 1) := by decide +kernel
theorem dX9_remember_31 : decode cX9_remember 31 = .ok (.aload_n 0, 1) := by decide +kernel
theorem dX9_remember_32 : decode cX9_remember 32 = .ok (.getfield 19, 3) := by decide +kernel
theorem dX9_remember_35 : decode cX9_remember 35 = .ok (.iload_n 3, 1) := by decide +kernel
theorem dX9_remember_36 : decode cX9_remember 36 = .ok (.aaload, 1) := by decide +kernel
theorem dX9_remember_37 : decode cX9_remember 37 = .ok (.aastore, 1) := by decide +kernel
theorem dX9_remember_38 : decode cX9_remember 38 = .ok (.aload_n 0, 1) := by decide +kernel
theorem dX9_remember_39 : decode cX9_remember 39 = .ok (.getfield 23, 3) := by decide +kernel
theorem dX9_remember_42 : decode cX9_remember 42 = .ok (.iload_n 3, 1) := by decide +kernel
theorem dX9_remember_43 : decode cX9_remember 43 = .ok (.iconst 1, 1) := by decide +kernel
theorem dX9_remember_44 : decode cX9_remember 44 = .ok (.isub, 1) := by decide +kernel
theorem dX9_remember_45 : decode cX9_remember 45 = .ok (.aload_n 0, 1) := by decide +kernel
theorem dX9_remember_46 : decode cX9_remember 46 = .ok (.getfield 23, 3) := by decide +kernel
theorem dX9_remember_49 : decode cX9_remember 49 = .ok (.iload_n 3, 1) := by decide +kernel
theorem dX9_remember_50 : decode cX9_remember 50 = .ok (.baload, 1) := by decide +kernel
theorem dX9_remember_51 : decode cX9_remember 51 = .ok (.bastore, 1) := by decide +kernel
theorem dX9_remember_52 : decode cX9_remember 52 = .ok (.iinc 3 1, 3) := by decide +kernel
theorem dX9_remember_55 : decode cX9_remember 55 = .ok (.goto (-37), 3) := by decide +kernel
theorem dX9_remember_58 : decode cX9_remember 58 = .ok (.aload_n 0, 1) := by decide +kernel
theorem dX9_remember_59 : decode cX9_remember 59 = .ok (.getfield 19, 3) := by decide +kernel
theorem dX9_remember_62 : decode cX9_remember 62 = .ok (.bipush 29, 2) := by decide +kernel
theorem dX9_remember_64 : decode cX9_remember 64 = .ok (.aload_n 2, 1) := by decide +kernel
theorem dX9_remember_65 : decode cX9_remember 65 = .ok (.aastore, 1) := by decide +kernel
theorem dX9_remember_66 : decode cX9_remember 66 = .ok (.aload_n 0, 1) := by decide +kernel
theorem dX9_remember_67 : decode cX9_remember 67 = .ok (.dup, 1) := by decide +kernel
theorem dX9_remember_68 : decode cX9_remember 68 = .ok (.getfield 111, 3) := by decide +kernel
theorem dX9_remember_71 : decode cX9_remember 71 = .ok (.iconst 1, 1) := by decide +kernel
theorem dX9_remember_72 : decode cX9_remember 72 = .ok (.isub, 1) := by decide +kernel
theorem dX9_remember_73 : decode cX9_remember 73 = .ok (.putfield 111, 3) := by decide +kernel
theorem dX9_remember_76 : decode cX9_remember 76 = .ok (.aload_n 0, 1) := by decide +kernel
theorem dX9_remember_77 : decode cX9_remember 77 = .ok (.getfield 19, 3) := by decide +kernel
theorem dX9_remember_80 : decode cX9_remember 80 = .ok (.aload_n 0, 1) := by decide +kernel
theorem dX9_remember_81 : decode cX9_remember 81 = .ok (.getfield 111, 3) := by decide +kernel
theorem dX9_remember_84 : decode cX9_remember 84 = .ok (.aaload, 1) := by decide +kernel
theorem dX9_remember_85 : decode cX9_remember 85 = .ok (.aload_n 0, 1) := by decide +kernel
theorem dX9_remember_86 : decode cX9_remember 86 = .ok (.getfield 10, 3) := by decide +kernel
theorem dX9_remember_89 : decode cX9_remember 89 = .ok (.invokevirtual 114, 3) := by decide +kernel
theorem dX9_remember_92 : decode cX9_remember 92 = .ok (.aload_n 0, 1) := by decide +kernel
theorem dX9_remember_93 : decode cX9_remember 93 = .ok (.getfield 23, 3) := by decide +kernel
theorem dX9_remember_96 : decode cX9_remember 96 = .ok (.aload_n 0, 1) := by decide +kernel
theorem dX9_remember_97 : decode cX9_remember 97 = .ok (.getfield 111, 3) := by decide +kernel
theorem dX9_remember_100 : decode cX9_remember 100 = .ok (.iload_n 1, 1) := by decide +kernel
theorem dX9_remember_101 : decode cX9_remember 101 = .ok (.bastore, 1) := by decide +kernel
theorem dX9_remember_102 : decode cX9_remember 102 = .ok (.aload_n 0, 1) := by decide +kernel
theorem dX9_remember_103 : decode cX9_remember 103 = .ok (.dup, 1) := by decide +kernel
theorem dX9_remember_104 : decode cX9_remember 104 = .ok (.getfield 111, 3) := by decide +kernel
theorem dX9_remember_107 : decode cX9_remember 107 = .ok (.iconst 1, 1) := by decide +kernel
theorem dX9_remember_108 : decode cX9_remember 108 = .ok (.iadd, 1) := by decide +kernel
theorem dX9_remember_109 : decode cX9_remember 109 = .ok (.putfield 111, 3) := by decide +kernel
theorem dX9_remember_112 : decode cX9_remember 112 = .ok (.iload_n 1, 1) := by decide +kernel
theorem dX9_remember_113 : decode cX9_remember 113 = .ok (.ifCond .ne 7, 3) := by decide +kernel
theorem dX9_remember_116 : decode cX9_remember 116 = .ok (.aload_n 0, 1) := by decide +kernel
theorem dX9_remember_117 : decode cX9_remember 117 = .ok (.invokevirtual 118, 3) := by decide +kernel
theorem dX9_remember_120 : decode cX9_remember 120 = .ok (.return_, 1) := by decide +kernel
theorem dX9_changes_0 : decode cX9_changes 0 = .ok (.aload_n 0, 1) := by decide +kernel
theorem dX9_changes_1 : decode cX9_changes 1 = .ok (.iconst 0, 1) := by decide +kernel
theorem dX9_changes_2 : decode cX9_changes 2 = .ok (.putfield 121, 3) := by decide +kernel
theorem dX9_changes_5 : decode cX9_changes 5 = .ok (.aload_n 0, 1) := by decide +kernel
theorem dX9_changes_6 : decode cX9_changes 6 = .ok (.iconst 0, 1) := by decide +kernel
theorem dX9_changes_7 : decode cX9_changes 7 = .ok (.putfield 125, 3) := by decide +kernel
theorem dX9_changes_10 : decode cX9_changes 10 = .ok (.return_, 1) := by decide +kernel
theorem dX9_needs_0 : decode cX9_needs 0 = .ok (.iload_n 0, 1) := by decide +kernel
theorem dX9_needs_1 : decode cX9_needs 1 = .ok (.ifCond .ne 7, 3) := by decide +kernel
theorem dX9_needs_4 : decode cX9_needs 4 = .ok (.iconst 3, 1) := by decide +kernel
theorem dX9_needs_5 : decode cX9_needs 5 = .ok (.goto 22, 3) := by decide +kernel
theorem dX9_needs_8 : decode cX9_needs 8 = .ok (.iload_n 0, 1) := by decide +kernel
theorem dX9_needs_9 : decode cX9_needs 9 = .ok (.iconst 2, 1) := by decide +kernel
theorem dX9_needs_10 : decode cX9_needs 10 = .ok (.if_icmp .ne 7, 3) := by decide +kernel
theorem dX9_needs_13 : decode cX9_needs 13 = .ok (.iconst 5, 1) := by decide +kernel
theorem dX9_needs_14 : decode cX9_needs 14 = .ok (.goto 13, 3) := by decide +kernel
theorem dX9_needs_17 : decode cX9_needs 17 = .ok (.iload_n 0, 1) := by decide +kernel
theorem dX9_needs_18 : decode cX9_needs 18 = .ok (.iconst 4, 1) := by decide +kernel
theorem dX9_needs_19 : decode cX9_needs 19 = .ok (.if_icmp .ne 7, 3) := by decide +kernel
theorem dX9_needs_22 : decode cX9_needs 22 = .ok (.iconst 4, 1) := by decide +kernel
theorem dX9_needs_23 : decode cX9_needs 23 = .ok (.goto 4, 3) := by decide +kernel
theorem dX9_needs_26 : decode cX9_needs 26 = .ok (.iconst 1, 1) := by decide +kernel
theorem dX9_needs_27 : decode cX9_needs 27 = .ok (.ireturn, 1) := by decide +kernel
set_option maxRecDepth 20000 in
theorem ggX9_task_X9_in : GoodIn wsX9_task wsX9_in := goodIn_r _ [17] (by decide +kernel) (by decide +kernel)
set_option maxRecDepth 20000 in
theorem gX9_task_X9_in : GoodIn wsX9_task (va_wsS RX9 97 yX9_in wsX9_in) := goodIn_app (goodIn_of _ (by decide +kernel)) ggX9_task_X9_in
set_option maxRecDepth 20000 in
theorem ggX9_task_X9_isBoard : GoodIn wsX9_task wsX9_isBoard := goodIn_r _ [20, 21, 14, 15, 16, 17] (by decide +kernel) (by decide +kernel)
set_option maxRecDepth 20000 in
theorem gX9_task_X9_isBoard : GoodIn wsX9_task (va_wsS RX9 103 yX9_isBoard wsX9_isBoard) := goodIn_app (goodIn_of _ (by decide +kernel)) ggX9_task_X9_isBoard
set_option maxRecDepth 20000 in
theorem ggX9_task_X9_found : GoodIn wsX9_task wsX9_found := goodIn_r _ [25, 26, 53, 54, 55, 56, 57, 58, 59, 60, 61, 62, 63, 64, 65, 66, 67, 68, 69, 70, 71, 72, 73, 74, 75, 76, 77, 78, 79, 80, 81, 82, 83, 84] (by decide +kernel) (by decide +kernel)
set_option maxRecDepth 20000 in
theorem gX9_task_X9_found : GoodIn wsX9_task (wsV RX9 107 RX9 yX9_found wsX9_found) := goodIn_app (goodIn_of _ (by decide +kernel)) ggX9_task_X9_found
set_option maxRecDepth 20000 in
theorem ggX9_task_X9_needs : GoodIn wsX9_task wsX9_needs := goodIn_r _ [29] (by decide +kernel) (by decide +kernel)
set_option maxRecDepth 20000 in
theorem gX9_task_X9_needs : GoodIn wsX9_task (va_wsS RX9 130 yX9_needs wsX9_needs) := goodIn_app (goodIn_of _ (by decide +kernel)) ggX9_task_X9_needs
set_option maxRecDepth 20000 in
theorem ggX9_task_X9_remember : GoodIn wsX9_task wsX9_remember := goodIn_r _ [33, 34, 35, 36, 8, 37, 38, 39, 40, 41, 42, 43, 44, 45, 46, 47, 48, 49, 16, 50, 51, 52, 53, 54, 55, 56, 57, 58, 59, 60, 61, 62, 63, 64, 65, 66, 67, 68, 69, 70, 71, 72, 73, 74, 75, 76, 77, 78, 79, 80, 81, 82, 83, 84, 85, 86, 87, 88, 89] (by decide +kernel) (by decide +kernel)
set_option maxRecDepth 20000 in
theorem gX9_task_X9_remember : GoodIn wsX9_task (wsV RX9 137 RX9 yX9_remember wsX9_remember) := goodIn_app (goodIn_of _ (by decide +kernel)) ggX9_task_X9_remember
