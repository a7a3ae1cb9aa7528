theorem dX4_pickValues_35 : decode cX4_pickValues 35 = .ok (.iaload, 1) := by decide +kernel
theorem dX4_pickValues_36 : decode cX4_pickValues 36 = .ok (.iload_n 1, 1) := by decide +kernel
theorem dX4_pickValues_37 : decode cX4_pickValues 37 = .ok (.if_icmp .ne 38, 3) := by decide +kernel
theorem dX4_pickValues_40 : decode cX4_pickValues 40 = .ok (.iload 4, 2) := by decide +kernel
theorem dX4_pickValues_42 : decode cX4_pickValues 42 = .ok (.iconst (-1), 1) := by decide +kernel
theorem dX4_pickValues_43 : decode cX4_pickValues 43 = .ok (.if_icmp .eq 32, 3) := by decide +kernel
theorem dX4_pickValues_46 : decode cX4_pickValues 46 = .ok (.iload_n 2, 1) := by decide +kernel
theorem dX4_pickValues_47 : decode cX4_pickValues 47 = .ok (.ifCond .eq 19, 3) := by decide +kernel
theorem dX4_pickValues_50 : decode cX4_pickValues 50 = .ok (.aload_n 0, 1) := by decide +kernel
theorem dX4_pickValues_51 : decode cX4_pickValues 51 = .ok (.getfield 33, 3) := by decide +kernel
theorem dX4_pickValues_54 : decode cX4_pickValues 54 = .ok (.aload_n 0, 1) := by decide +kernel
theorem dX4_pickValues_55 : decode cX4_pickValues 55 = .ok (.getfield 10, 3) := by decide +kernel
theorem dX4_pickValues_58 : decode cX4_pickValues 58 = .ok (.iload 4, 2) := by decide +kernel
theorem dX4_pickValues_60 : decode cX4_pickValues 60 = .ok (.invokevirtual 201, 3) := by decide +kernel
theorem dX4_pickValues_63 : decode cX4_pickValues 63 = .ok (.ifCond .ne 12, 3) := by decide +kernel
theorem dX4_pickValues_66 : decode cX4_pickValues 66 = .ok (.aload_n 0, 1) := by decide +kernel
theorem dX4_pickValues_67 : decode cX4_pickValues 67 = .ok (.getfield 33, 3) := by decide +kernel
theorem dX4_pickValues_70 : decode cX4_pickValues 70 = .ok (.iload 4, 2) := by decide +kernel
theorem dX4_pickValues_72 : decode cX4_pickValues 72 = .ok (.invokevirtual 205, 3) := by decide +kernel
theorem dX4_pickValues_75 : decode cX4_pickValues 75 = .ok (.iinc 3 1, 3) := by decide +kernel
theorem dX4_pickValues_78 : decode cX4_pickValues 78 = .ok (.goto (-69), 3) := by decide +kernel
theorem dX4_pickValues_81 : decode cX4_pickValues 81 = .ok (.return_, 1) := by decide +kernel
set_option maxRecDepth 20000 in
theorem ggX4_reckon_X3_haveText : GoodIn wsX4_reckon wsX3_haveText := goodIn_r _ [13, 14, 15, 16, 17, 18, 19, 20, 21, 175, 176, 177, 178, 179, 180] (by decide +kernel) (by decide +kernel)
set_option maxRecDepth 20000 in
theorem gX4_reckon_X3_haveText : GoodIn wsX4_reckon (wsV RX4 207 RX3 yX3_haveText wsX3_haveText) := goodIn_app (goodIn_of _ (by decide +kernel)) ggX4_reckon_X3_haveText
set_option maxRecDepth 20000 in
theorem ggX4_reckon_X0_setError : GoodIn wsX4_reckon wsX0_setError := goodIn_r _ [26, 27, 28, 181, 182, 183, 184, 185, 186, 187, 188, 189, 190, 191, 192] (by decide +kernel) (by decide +kernel)
set_option maxRecDepth 20000 in
theorem gX4_reckon_X0_setError : GoodIn wsX4_reckon (wsV RX4 211 RX0 yX0_setError wsX0_setError) := goodIn_app (goodIn_of _ (by decide +kernel)) ggX4_reckon_X0_setError
set_option maxRecDepth 20000 in
theorem ggX4_reckon_X3_count : GoodIn wsX4_reckon wsX3_count := goodIn_r _ [32, 14, 175, 176] (by decide +kernel) (by decide +kernel)
set_option maxRecDepth 20000 in
theorem gX4_reckon_X3_count : GoodIn wsX4_reckon (wsV RX4 214 RX3 yX3_count wsX3_count) := goodIn_app (goodIn_of _ (by decide +kernel)) ggX4_reckon_X3_count
set_option maxRecDepth 20000 in
theorem ggX4_reckon_X0_setNumber : GoodIn wsX4_reckon wsX0_setNumber := goodIn_r _ [36, 37, 38, 7, 39, 27, 40, 41, 42, 43, 25, 44, 45, 46, 47, 181, 182, 183, 184, 185, 186, 187, 188, 189, 190, 191, 192] (by decide +kernel) (by decide +kernel)
set_option maxRecDepth 20000 in
theorem gX4_reckon_X0_setNumber : GoodIn wsX4_reckon (wsV RX4 215 RX0 yX0_setNumber wsX0_setNumber) := goodIn_app (goodIn_of _ (by decide +kernel)) ggX4_reckon_X0_setNumber
set_option maxRecDepth 20000 in
theorem ggX4_reckon_X3_sum : GoodIn wsX4_reckon wsX3_sum := goodIn_r _ [51, 14, 15, 52, 53, 54, 19, 55, 56, 57, 58, 175, 176, 177, 178, 179, 180] (by decide +kernel) (by decide +kernel)
set_option maxRecDepth 20000 in
theorem gX4_reckon_X3_sum : GoodIn wsX4_reckon (wsV RX4 219 RX3 yX3_sum wsX3_sum) := goodIn_app (goodIn_of _ (by decide +kernel)) ggX4_reckon_X3_sum
set_option maxRecDepth 20000 in
theorem ggX4_reckon_X3_least : GoodIn wsX4_reckon wsX3_least := goodIn_r _ [62, 14, 15, 63, 64, 65, 12, 66, 67, 68, 69, 19, 70, 21, 71, 53, 54, 55, 56, 57, 58, 72, 73, 74, 75, 175, 176, 177, 178, 179, 180] (by decide +kernel) (by decide +kernel)
set_option maxRecDepth 20000 in
theorem gX4_reckon_X3_least : GoodIn wsX4_reckon (wsV RX4 230 RX3 yX3_least wsX3_least) := goodIn_app (goodIn_of _ (by decide +kernel)) ggX4_reckon_X3_least
set_option maxRecDepth 20000 in
theorem ggX4_reckon_X4_setTerm : GoodIn wsX4_reckon wsX4_setTerm := goodIn_r _ [80, 2, 3, 4, 81, 17, 18, 19, 20, 21, 82, 83, 84, 25, 85, 86, 87, 88, 89, 90, 91, 56, 58, 92, 93, 94, 95, 96, 97, 98, 99, 100, 101, 102, 103, 104, 105, 106, 7, 107, 57, 108, 109, 110, 111, 27, 112, 113, 114, 115, 116, 117, 53, 54, 55, 33, 34, 35, 36, 37, 38, 39, 40, 41, 42, 43, 44, 45, 46, 47, 118, 119, 120, 121, 122, 167, 168, 169, 170, 171, 172, 173, 174, 177, 178, 179, 180, 181, 182, 183, 184, 185, 186, 187, 188, 189, 190, 191, 192] (by decide +kernel) (by decide +kernel)
set_option maxRecDepth 20000 in
theorem gX4_reckon_X4_setTerm : GoodIn wsX4_reckon (wsV RX4 234 RX4 yX4_setTerm wsX4_setTerm) := goodIn_app (goodIn_of _ (by decide +kernel)) ggX4_reckon_X4_setTerm
set_option maxRecDepth 20000 in
theorem ggX4_reckon_X3_greatest : GoodIn wsX4_reckon wsX3_greatest := goodIn_r _ [126, 14, 15, 63, 64, 65, 12, 66, 67, 68, 69, 19, 70, 21, 71, 53, 54, 55, 56, 57, 58, 72, 73, 74, 75, 175, 176, 177, 178, 179, 180] (by decide +kernel) (by decide +kernel)
set_option maxRecDepth 20000 in
theorem gX4_reckon_X3_greatest : GoodIn wsX4_reckon (wsV RX4 237 RX3 yX3_greatest wsX3_greatest) := goodIn_app (goodIn_of _ (by decide +kernel)) ggX4_reckon_X3_greatest
set_option maxRecDepth 20000 in
theorem ggX4_reckon_X3_first : GoodIn wsX4_reckon wsX3_first := goodIn_r _ [66, 14, 15, 175, 176] (by decide +kernel) (by decide +kernel)
set_option maxRecDepth 20000 in
theorem gX4_reckon_X3_first : GoodIn wsX4_reckon (wsV RX4 240 RX3 yX3_first wsX3_first) := goodIn_app (goodIn_of _ (by decide +kernel)) ggX4_reckon_X3_first
set_option maxRecDepth 20000 in
theorem ggX4_reckon_X4_join : GoodIn wsX4_reckon wsX4_join := goodIn_r _ [131, 3, 1, 132, 2, 82, 83, 84, 25, 85, 86, 87, 29, 30, 31, 12, 32, 14, 133, 114, 115, 116, 134, 98, 99, 100, 101, 135, 136, 137, 138, 15, 88, 89, 90, 19, 91, 21, 56, 58, 92, 17, 18, 20, 93, 94, 95, 96, 97, 102, 103, 104, 105, 106, 7, 107, 57, 22, 23, 24, 26, 27, 28, 108, 109, 110, 111, 112, 113, 167, 168, 169, 170, 171, 172, 173, 174, 181, 182, 183, 184, 185, 186, 187, 188, 189, 190, 191, 192, 175, 176, 177, 178, 179, 180] (by decide +kernel) (by decide +kernel)
set_option maxRecDepth 20000 in
theorem gX4_reckon_X4_join : GoodIn wsX4_reckon (wsV RX4 243 RX4 yX4_join wsX4_join) := goodIn_app (goodIn_of _ (by decide +kernel)) ggX4_reckon_X4_join
set_option maxRecDepth 20000 in
theorem ggX4_reckon_X4_reckonOwn : GoodIn wsX4_reckon wsX4_reckonOwn := goodIn_r _ [142, 143, 3, 1, 2, 4, 144, 145, 146, 12, 147, 14, 148, 124, 125, 126, 15, 63, 64, 65, 66, 67, 68, 69, 19, 70, 21, 71, 53, 54, 55, 56, 57, 58, 72, 73, 74, 75, 52, 149, 60, 61, 62, 33, 34, 35, 25, 36, 37, 38, 7, 39, 27, 40, 41, 42, 43, 44, 45, 46, 47, 150, 151, 152, 153, 154, 155, 156, 157, 76, 77, 78, 79, 80, 81, 17, 18, 20, 82, 83, 84, 85, 86, 87, 88, 89, 90, 91, 92, 93, 94, 95, 96, 97, 98, 99, 100, 101, 102, 103, 104, 105, 106, 107, 108, 109, 110, 111, 112, 113, 114, 115, 116, 117, 118, 119, 120, 121, 122, 158, 159, 160, 161, 29, 30, 31, 32, 22, 23, 24, 26, 28, 162, 163, 164, 165, 166, 167, 168, 169, 170, 171, 172, 173, 174, 175, 176, 177, 178, 179, 180, 181, 182, 183, 184, 185, 186, 187, 188, 189, 190, 191, 192] (by decide +kernel) (by decide +kernel)
set_option maxRecDepth 20000 in
theorem gX4_reckon_X4_reckonOwn : GoodIn wsX4_reckon (wsV RX4 246 RX4 yX4_reckonOwn wsX4_reckonOwn) := goodIn_app (goodIn_of _ (by decide +kernel)) ggX4_reckon_X4_reckonOwn
theorem dX4_reckon_0 : decode cX4_reckon 0 = .ok (.iload_n 2, 1) := by decide +kernel
theorem dX4_reckon_1 : decode cX4_reckon 1 = .ok (.iconst 1, 1) := by decide +kernel
theorem dX4_reckon_2 : decode cX4_reckon 2 = .ok (.if_icmp .eq 14, 3) := by decide +kernel
theorem dX4_reckon_5 : decode cX4_reckon 5 = .ok (.iload_n 2, 1) := by decide +kernel
theorem dX4_reckon_6 : decode cX4_reckon 6 = .ok (.iconst 2, 1) := by decide +kernel
theorem dX4_reckon_7 : decode cX4_reckon 7 = .ok (.if_icmp .eq 9, 3) := by decide +kernel
theorem dX4_reckon_10 : decode cX4_reckon 10 = .ok (.iload_n 2, 1) := by decide +kernel
theorem dX4_reckon_11 : decode cX4_reckon 11 = .ok (.bipush 7, 2) := by decide +kernel
theorem dX4_reckon_13 : decode cX4_reckon 13 = .ok (.if_icmp .ne 7, 3) := by decide +kernel
theorem dX4_reckon_16 : decode cX4_reckon 16 = .ok (.iconst 1, 1) := by decide +kernel
theorem dX4_reckon_17 : decode cX4_reckon 17 = .ok (.goto 4, 3) := by decide +kernel
theorem dX4_reckon_20 : decode cX4_reckon 20 = .ok (.iconst 0, 1) := by decide +kernel
theorem dX4_reckon_21 : decode cX4_reckon 21 = .ok (.istore_n 3, 1) := by decide +kernel
theorem dX4_reckon_22 : decode cX4_reckon 22 = .ok (.iload_n 3, 1) := by decide +kernel
theorem dX4_reckon_23 : decode cX4_reckon 23 = .ok (.ifCond .eq 27, 3) := by decide +kernel
theorem dX4_reckon_26 : decode cX4_reckon 26 = .ok (.aload_n 0, 1) := by decide +kernel
theorem dX4_reckon_27 : decode cX4_reckon 27 = .ok (.getfield 33, 3) := by decide +kernel
theorem dX4_reckon_30 : decode cX4_reckon 30 = .ok (.aload_n 0, 1) := by decide +kernel
theorem dX4_reckon_31 : decode cX4_reckon 31 = .ok (.getfield 10, 3) := by decide +kernel
theorem dX4_reckon_34 : decode cX4_reckon 34 = .ok (.invokevirtual 207, 3) := by decide +kernel
theorem dX4_reckon_37 : decode cX4_reckon 37 = .ok (.ifCond .eq 13, 3) := by decide +kernel
theorem dX4_reckon_40 : decode cX4_reckon 40 = .ok (.aload_n 0, 1) := by decide +kernel
theorem dX4_reckon_41 : decode cX4_reckon 41 = .ok (.getfield 26, 3) := by decide +kernel
theorem dX4_reckon_44 : decode cX4_reckon 44 = .ok (.iload_n 1, 1) := by decide +kernel
theorem dX4_reckon_45 : decode cX4_reckon 45 = .ok (.iconst 1, 1) := by decide +kernel
theorem dX4_reckon_46 : decode cX4_reckon 46 = .ok (.invokevirtual 211, 3) := by decide +kernel
theorem dX4_reckon_49 : decode cX4_reckon 49 = .ok (.return_, 1) := by decide +kernel
theorem dX4_reckon_50 : decode cX4_reckon 50 = .ok (.iload_n 2, 1) := by decide +kernel
theorem dX4_reckon_51 : decode cX4_reckon 51 = .ok (.tableswitch 185 0 6 #[41, 61, 86, 124, 143, 162, 177], 41) := by decide +kernel
theorem dX4_reckon_92 : decode cX4_reckon 92 = .ok (.aload_n 0, 1) := by decide +kernel
theorem dX4_reckon_93 : decode cX4_reckon 93 = .ok (.getfield 26, 3) := by decide +kernel
theorem dX4_reckon_96 : decode cX4_reckon 96 = .ok (.iload_n 1, 1) := by decide +kernel
theorem dX4_reckon_97 : decode cX4_reckon 97 = .ok (.aload_n 0, 1) := by decide +kernel
theorem dX4_reckon_98 : decode cX4_reckon 98 = .ok (.getfield 33, 3) := by decide +kernel
theorem dX4_reckon_101 : decode cX4_reckon 101 = .ok (.invokevirtual 214, 3) := by decide +kernel
theorem dX4_reckon_104 : decode cX4_reckon 104 = .ok (.i2l, 1) := by decide +kernel
theorem dX4_reckon_105 : decode cX4_reckon 105 = .ok (.lconst 1, 1) := by decide +kernel
theorem dX4_reckon_106 : decode cX4_reckon 106 = .ok (.invokevirtual 215, 3) := by decide +kernel
theorem dX4_reckon_109 : decode cX4_reckon 109 = .ok (.goto 132, 3) := by decide +kernel
theorem dX4_reckon_112 : decode cX4_reckon 112 = .ok (.aload_n 0, 1) := by decide +kernel
theorem dX4_reckon_113 : decode cX4_reckon 113 = .ok (.getfield 26, 3) := by decide +kernel
theorem dX4_reckon_116 : decode cX4_reckon 116 = .ok (.iload_n 1, 1) := by decide +kernel
theorem dX4_reckon_117 : decode cX4_reckon 117 = .ok (.aload_n 0, 1) := by decide +kernel
theorem dX4_reckon_118 : decode cX4_reckon 118 = .ok (.getfield 33, 3) := by decide +kernel
theorem dX4_reckon_121 : decode cX4_reckon 121 = .ok (.aload_n 0, 1) := by decide +kernel
theorem dX4_reckon_122 : decode cX4_reckon 122 = .ok (.getfield 10, 3) := by decide +kernel
theorem dX4_reckon_125 : decode cX4_reckon 125 = .ok (.invokevirtual 219, 3) := by decide +kernel
theorem dX4_reckon_128 : decode cX4_reckon 128 = .ok (.ldc2_w 223, 3) := by decide +kernel
theorem dX4_reckon_131 : decode cX4_reckon 131 = .ok (.invokevirtual 215, 3) := by decide +kernel
theorem dX4_reckon_134 : decode cX4_reckon 134 = .ok (.goto 107, 3) := by decide +kernel
theorem dX4_reckon_137 : decode cX4_reckon 137 = .ok (.aload_n 0, 1) := by decide +kernel
theorem dX4_reckon_138 : decode cX4_reckon 138 = .ok (.getfield 26, 3) := by decide +kernel
theorem dX4_reckon_141 : decode cX4_reckon 141 = .ok (.iload_n 1, 1) := by decide +kernel
theorem dX4_reckon_142 : decode cX4_reckon 142 = .ok (.aload_n 0, 1) := by decide +kernel
theorem dX4_reckon_143 : decode cX4_reckon 143 = .ok (.getfield 33, 3) := by decide +kernel
theorem dX4_reckon_146 : decode cX4_reckon 146 = .ok (.aload_n 0, 1) := by decide +kernel
theorem dX4_reckon_147 : decode cX4_reckon 147 = .ok (.getfield 10, 3) := by decide +kernel
theorem dX4_reckon_150 : decode cX4_reckon 150 = .ok (.invokevirtual 219, 3) := by decide +kernel
theorem dX4_reckon_153 : decode cX4_reckon 153 = .ok (.ldc2_w 223, 3) := by decide +kernel
theorem dX4_reckon_156 : decode cX4_reckon 156 = .ok (.iconst 1, 1) := by decide +kernel
theorem dX4_reckon_157 : decode cX4_reckon 157 = .ok (.aload_n 0, 1) := by decide +kernel
theorem dX4_reckon_158 : decode cX4_reckon 158 = .ok (.getfield 33, 3) := by decide +kernel
theorem dX4_reckon_161 : decode cX4_reckon 161 = .ok (.invokevirtual 214, 3) := by decide +kernel
theorem dX4_reckon_164 : decode cX4_reckon 164 = .ok (.invokestatic 225, 3) := by decide +kernel
theorem dX4_reckon_167 : decode cX4_reckon 167 = .ok (.i2l, 1) := by decide +kernel
theorem dX4_reckon_168 : decode cX4_reckon 168 = .ok (.lmul, 1) := by decide +kernel
theorem dX4_reckon_169 : decode cX4_reckon 169 = .ok (.invokevirtual 215, 3) := by decide +kernel
theorem dX4_reckon_172 : decode cX4_reckon 172 = .ok (.goto 69, 3) := by decide +kernel
theorem dX4_reckon_175 : decode cX4_reckon 175 = .ok (.aload_n 0, 1) := by decide +kernel
theorem dX4_reckon_176 : decode cX4_reckon 176 = .ok (.iload_n 1, 1) := by decide +kernel
theorem dX4_reckon_177 : decode cX4_reckon 177 = .ok (.aload_n 0, 1) := by decide +kernel
theorem dX4_reckon_178 : decode cX4_reckon 178 = .ok (.getfield 33, 3) := by decide +kernel
theorem dX4_reckon_181 : decode cX4_reckon 181 = .ok (.aload_n 0, 1) := by decide +kernel
theorem dX4_reckon_182 : decode cX4_reckon 182 = .ok (.getfield 10, 3) := by decide +kernel
theorem dX4_reckon_185 : decode cX4_reckon 185 = .ok (.invokevirtual 230, 3) := by decide +kernel
theorem dX4_reckon_188 : decode cX4_reckon 188 = .ok (.invokevirtual 234, 3) := by decide +kernel
theorem dX4_reckon_191 : decode cX4_reckon 191 = .ok (.goto 50, 3) := by decide +kernel
theorem dX4_reckon_194 : decode cX4_reckon 194 = .ok (.aload_n 0, 1) := by decide +kernel
theorem dX4_reckon_195 : decode cX4_reckon 195 = .ok (.iload_n 1, 1) := by decide +kernel
theorem dX4_reckon_196 : decode cX4_reckon 196 = .ok (.aload_n 0, 1) := by decide +kernel
theorem dX4_reckon_197 : decode cX4_reckon 197 = .ok (.getfield 33, 3) := by decide +kernel
theorem dX4_reckon_200 : decode cX4_reckon 200 = .ok (.aload_n 0, 1) := by decide +kernel
theorem dX4_reckon_201 : decode cX4_reckon 201 = .ok (.getfield 10, 3) := by decide +kernel
theorem dX4_reckon_204 : decode cX4_reckon 204 = .ok (.invokevirtual 237, 3) := by decide +kernel
theorem dX4_reckon_207 : decode cX4_reckon 207 = .ok (.invokevirtual 234, 3) := by decide +kernel
theorem dX4_reckon_210 : decode cX4_reckon 210 = .ok (.goto 31, 3) := by decide +kernel
theorem dX4_reckon_213 : decode cX4_reckon 213 = .ok (.aload_n 0, 1) := by decide +kernel
theorem dX4_reckon_214 : decode cX4_reckon 214 = .ok (.iload_n 1, 1) := by decide +kernel
theorem dX4_reckon_215 : decode cX4_reckon 215 = .ok (.aload_n 0, 1) := by decide +kernel
theorem dX4_reckon_216 : decode cX4_reckon 216 = .ok (.getfield 33, 3) := by decide +kernel
theorem dX4_reckon_219 : decode cX4_reckon 219 = .ok (.invokevirtual 240, 3) := by decide +kernel
theorem dX4_reckon_222 : decode cX4_reckon 222 = .ok (.invokevirtual 234, 3) := by decide +kernel
theorem dX4_reckon_225 : decode cX4_reckon 225 = .ok (.goto 16, 3) := by decide +kernel
theorem dX4_reckon_228 : decode cX4_reckon 228 = .ok (.aload_n 0, 1) := by decide +kernel
theorem dX4_reckon_229 : decode cX4_reckon 229 = .ok (.iload_n 1, 1) := by decide +kernel
theorem dX4_reckon_230 : decode cX4_reckon 230 = .ok (.invokevirtual 243, 3) := by decide +kernel
theorem dX4_reckon_233 : decode cX4_reckon 233 = .ok (.goto 8, 3) := by decide +kernel
theorem dX4_reckon_236 : decode cX4_reckon 236 = .ok (.aload_n 0, 1) := by decide +kernel
theorem dX4_reckon_237 : decode cX4_reckon 237 = .ok (.iload_n 1, 1) := by decide +kernel
theorem dX4_reckon_238 : decode cX4_reckon 238 = .ok (.invokevirtual 246, 3) := by decide +kernel
theorem dX4_reckon_241 : decode cX4_reckon 241 = .ok (.return_, 1) := by decide +kernel
set_option maxRecDepth 20000 in
theorem ggX4_reckonOwn_X3_span : GoodIn wsX4_reckonOwn wsX3_span := goodIn_r _ [10, 11, 12, 13, 14, 9, 15, 16, 17, 18, 19, 20, 21, 22, 23, 24, 25, 26, 27, 28, 29, 30, 31, 32, 33, 34, 35, 36, 37, 38, 39, 40, 41, 42, 145, 146, 147, 148, 149, 150] (by decide +kernel) (by decide +kernel)
set_option maxRecDepth 20000 in
theorem gX4_reckonOwn_X3_span : GoodIn wsX4_reckonOwn (wsV RX4 249 RX3 yX3_span wsX3_span) := goodIn_app (goodIn_of _ (by decide +kernel)) ggX4_reckonOwn_X3_span
set_option maxRecDepth 20000 in
theorem ggX4_reckonOwn_X0_setNumber : GoodIn wsX4_reckonOwn wsX0_setNumber := goodIn_r _ [47, 48, 49, 50, 51, 52, 53, 54, 55, 56, 46, 57, 58, 59, 60, 151, 152, 153, 154, 155, 156, 157, 158, 159, 160, 161, 162] (by decide +kernel) (by decide +kernel)
set_option maxRecDepth 20000 in
theorem gX4_reckonOwn_X0_setNumber : GoodIn wsX4_reckonOwn (wsV RX4 215 RX0 yX0_setNumber wsX0_setNumber) := goodIn_app (goodIn_of _ (by decide +kernel)) ggX4_reckonOwn_X0_setNumber
set_option maxRecDepth 20000 in
theorem ggX4_reckonOwn_X3_middle : GoodIn wsX4_reckonOwn wsX3_middle := goodIn_r _ [64, 11, 16, 65, 66, 67, 9, 68, 21, 22, 23, 24, 25, 26, 27, 28, 29, 30, 31, 32, 33, 34, 35, 36, 37, 145, 146, 147, 148, 149, 150] (by decide +kernel) (by decide +kernel)
set_option maxRecDepth 20000 in
theorem gX4_reckonOwn_X3_middle : GoodIn wsX4_reckonOwn (wsV RX4 252 RX3 yX3_middle wsX3_middle) := goodIn_app (goodIn_of _ (by decide +kernel)) ggX4_reckonOwn_X3_middle
set_option maxRecDepth 20000 in
theorem ggX4_reckonOwn_X4_setTerm : GoodIn wsX4_reckonOwn wsX4_setTerm := goodIn_r _ [73, 4, 2, 5, 74, 75, 76, 24, 77, 26, 78, 79, 80, 46, 81, 82, 83, 84, 85, 86, 87, 31, 33, 88, 89, 90, 91, 92, 93, 94, 95, 96, 97, 98, 99, 100, 101, 102, 50, 103, 32, 104, 105, 106, 107, 52, 108, 109, 110, 111, 112, 113, 28, 29, 30, 43, 44, 45, 47, 48, 49, 51, 53, 54, 55, 56, 57, 58, 59, 60, 114, 115, 116, 117, 118, 137, 138, 139, 140, 141, 142, 143, 144, 147, 148, 149, 150, 151, 152, 153, 154, 155, 156, 157, 158, 159, 160, 161, 162] (by decide +kernel) (by decide +kernel)
set_option maxRecDepth 20000 in
theorem gX4_reckonOwn_X4_setTerm : GoodIn wsX4_reckonOwn (wsV RX4 234 RX4 yX4_setTerm wsX4_setTerm) := goodIn_app (goodIn_of _ (by decide +kernel)) ggX4_reckonOwn_X4_setTerm
set_option maxRecDepth 20000 in
theorem ggX4_reckonOwn_X4_reckonShare : GoodIn wsX4_reckonOwn wsX4_reckonShare := goodIn_r _ [122, 3, 2, 4, 5, 123, 124, 125, 9, 126, 11, 127, 128, 129, 46, 130, 52, 131, 132, 133, 134, 135, 16, 136, 59, 50, 60, 38, 28, 29, 24, 30, 31, 32, 33, 43, 44, 45, 47, 48, 49, 51, 53, 54, 55, 56, 57, 58, 137, 138, 139, 140, 141, 142, 143, 144, 145, 146, 151, 152, 153, 154, 155, 156, 157, 158, 159, 160, 161, 162, 147, 148, 149, 150] (by decide +kernel) (by decide +kernel)
set_option maxRecDepth 20000 in
theorem gX4_reckonOwn_X4_reckonShare : GoodIn wsX4_reckonOwn (wsV RX4 255 RX4 yX4_reckonShare wsX4_reckonShare) := goodIn_app (goodIn_of _ (by decide +kernel)) ggX4_reckonOwn_X4_reckonShare
theorem dX4_reckonOwn_0 : decode cX4_reckonOwn 0 = .ok (.aload_n 0, 1) := by decide +kernel
theorem dX4_reckonOwn_1 : decode cX4_reckonOwn 1 = .ok (.getfield 48, 3) := by decide +kernel
theorem dX4_reckonOwn_4 : decode cX4_reckonOwn 4 = .ok (.lookupswitch 72 #[(0, 28), (1, 53)], 28) := by decide +kernel
theorem dX4_reckonOwn_32 : decode cX4_reckonOwn 32 = .ok (.aload_n 0, 1) := by decide +kernel
theorem dX4_reckonOwn_33 : decode cX4_reckonOwn 33 = .ok (.getfield 26, 3) := by decide +kernel
theorem dX4_reckonOwn_36 : decode cX4_reckonOwn 36 = .ok (.iload_n 1, 1) := by decide +kernel
theorem dX4_reckonOwn_37 : decode cX4_reckonOwn 37 = .ok (.aload_n 0, 1) := by decide +kernel
theorem dX4_reckonOwn_38 : decode cX4_reckonOwn 38 = .ok (.getfield 33, 3) := by decide +kernel
theorem dX4_reckonOwn_41 : decode cX4_reckonOwn 41 = .ok (.aload_n 0, 1) := by decide +kernel
theorem dX4_reckonOwn_42 : decode cX4_reckonOwn 42 = .ok (.getfield 10, 3) := by decide +kernel
theorem dX4_reckonOwn_45 : decode cX4_reckonOwn 45 = .ok (.invokevirtual 249, 3) := by decide +kernel
theorem dX4_reckonOwn_48 : decode cX4_reckonOwn 48 = .ok (.ldc2_w 223, 3) := by decide +kernel
theorem dX4_reckonOwn_51 : decode cX4_reckonOwn 51 = .ok (.invokevirtual 215, 3) := by decide +kernel
theorem dX4_reckonOwn_54 : decode cX4_reckonOwn 54 = .ok (.goto 27, 3) := by decide +kernel
theorem dX4_reckonOwn_57 : decode cX4_reckonOwn 57 = .ok (.aload_n 0, 1) := by decide +kernel
theorem dX4_reckonOwn_58 : decode cX4_reckonOwn 58 = .ok (.iload_n 1, 1) := by decide +kernel
theorem dX4_reckonOwn_59 : decode cX4_reckonOwn 59 = .ok (.aload_n 0, 1) := by decide +kernel
theorem dX4_reckonOwn_60 : decode cX4_reckonOwn 60 = .ok (.getfield 33, 3) := by decide +kernel
theorem dX4_reckonOwn_63 : decode cX4_reckonOwn 63 = .ok (.aload_n 0, 1) := by decide +kernel
theorem dX4_reckonOwn_64 : decode cX4_reckonOwn 64 = .ok (.getfield 10, 3) := by decide +kernel
theorem dX4_reckonOwn_67 : decode cX4_reckonOwn 67 = .ok (.invokevirtual 252, 3) := by decide +kernel
theorem dX4_reckonOwn_70 : decode cX4_reckonOwn 70 = .ok (.invokevirtual 234, 3) := by decide +kernel
theorem dX4_reckonOwn_73 : decode cX4_reckonOwn 73 = .ok (.goto 8, 3) := by decide +kernel
theorem dX4_reckonOwn_76 : decode cX4_reckonOwn 76 = .ok (.aload_n 0, 1) := by decide +kernel
theorem dX4_reckonOwn_77 : decode cX4_reckonOwn 77 = .ok (.iload_n 1, 1) := by decide +kernel
theorem dX4_reckonOwn_78 : decode cX4_reckonOwn 78 = .ok (.invokevirtual 255, 3) := by decide +kernel
theorem dX4_reckonOwn_81 : decode cX4_reckonOwn 81 = .ok (.return_, 1) := by decide +kernel
set_option maxRecDepth 20000 in
theorem ggX4_reckonShare_X3_count : GoodIn wsX4_reckonShare wsX3_count := goodIn_r _ [9, 10, 56, 57] (by decide +kernel) (by decide +kernel)
set_option maxRecDepth 20000 in
theorem gX4_reckonShare_X3_count : GoodIn wsX4_reckonShare (wsV RX4 214 RX3 yX3_count wsX3_count) := goodIn_app (goodIn_of _ (by decide +kernel)) ggX4_reckonShare_X3_count
set_option maxRecDepth 20000 in
theorem ggX4_reckonShare_X0_setError : GoodIn wsX4_reckonShare wsX0_setError := goodIn_r _ [15, 16, 17, 58, 59, 60, 61, 62, 63, 64, 65, 66, 67, 68, 69] (by decide +kernel) (by decide +kernel)
set_option maxRecDepth 20000 in
theorem gX4_reckonShare_X0_setError : GoodIn wsX4_reckonShare (wsV RX4 211 RX0 yX0_setError wsX0_setError) := goodIn_app (goodIn_of _ (by decide +kernel)) ggX4_reckonShare_X0_setError
set_option maxRecDepth 20000 in
theorem ggX4_reckonShare_X3_sumAboveZero : GoodIn wsX4_reckonShare wsX3_sumAboveZero := goodIn_r _ [21, 10, 22, 23, 24, 25, 26, 27, 28, 29, 30, 31, 32, 33, 34, 56, 57, 70, 71, 72, 73] (by decide +kernel) (by decide +kernel)
set_option maxRecDepth 20000 in
theorem gX4_reckonShare_X3_sumAboveZero : GoodIn wsX4_reckonShare (wsV RX4 258 RX3 yX3_sumAboveZero wsX3_sumAboveZero) := goodIn_app (goodIn_of _ (by decide +kernel)) ggX4_reckonShare_X3_sumAboveZero
set_option maxRecDepth 20000 in
theorem ggX4_reckonShare_X0_setNumber : GoodIn wsX4_reckonShare wsX0_setNumber := goodIn_r _ [38, 39, 40, 25, 41, 16, 42, 43, 44, 45, 14, 46, 47, 24, 26, 58, 59, 60, 61, 62, 63, 64, 65, 66, 67, 68, 69] (by decide +kernel) (by decide +kernel)
set_option maxRecDepth 20000 in
theorem gX4_reckonShare_X0_setNumber : GoodIn wsX4_reckonShare (wsV RX4 215 RX0 yX0_setNumber wsX0_setNumber) := goodIn_app (goodIn_of _ (by decide +kernel)) ggX4_reckonShare_X0_setNumber
theorem dX4_reckonShare_0 : decode cX4_reckonShare 0 = .ok (.aload_n 0, 1) := by decide +kernel
theorem dX4_reckonShare_1 : decode cX4_reckonShare 1 = .ok (.getfield 33, 3) := by decide +kernel
theorem dX4_reckonShare_4 : decode cX4_reckonShare 4 = .ok (.invokevirtual 214, 3) := by decide +kernel
theorem dX4_reckonShare_7 : decode cX4_reckonShare 7 = .ok (.ifCond .ne 15, 3) := by decide +kernel
theorem dX4_reckonShare_10 : decode cX4_reckonShare 10 = .ok (.aload_n 0, 1) := by decide +kernel
theorem dX4_reckonShare_11 : decode cX4_reckonShare 11 = .ok (.getfield 26, 3) := by decide +kernel
theorem dX4_reckonShare_14 : decode cX4_reckonShare 14 = .ok (.iload_n 1, 1) := by decide +kernel
theorem dX4_reckonShare_15 : decode cX4_reckonShare 15 = .ok (.iconst 3, 1) := by decide +kernel
theorem dX4_reckonShare_16 : decode cX4_reckonShare 16 = .ok (.invokevirtual 211, 3) := by decide +kernel
theorem dX4_reckonShare_19 : decode cX4_reckonShare 19 = .ok (.goto 34, 3) := by decide +kernel
theorem dX4_reckonShare_22 : decode cX4_reckonShare 22 = .ok (.aload_n 0, 1) := by decide +kernel
theorem dX4_reckonShare_23 : decode cX4_reckonShare 23 = .ok (.getfield 26, 3) := by decide +kernel
theorem dX4_reckonShare_26 : decode cX4_reckonShare 26 = .ok (.iload_n 1, 1) := by decide +kernel
theorem dX4_reckonShare_27 : decode cX4_reckonShare 27 = .ok (.aload_n 0, 1) := by decide +kernel
theorem dX4_reckonShare_28 : decode cX4_reckonShare 28 = .ok (.getfield 33, 3) := by decide +kernel
theorem dX4_reckonShare_31 : decode cX4_reckonShare 31 = .ok (.aload_n 0, 1) := by decide +kernel
theorem dX4_reckonShare_32 : decode cX4_reckonShare 32 = .ok (.getfield 10, 3) := by decide +kernel
theorem dX4_reckonShare_35 : decode cX4_reckonShare 35 = .ok (.invokevirtual 258, 3) := by decide +kernel
theorem dX4_reckonShare_38 : decode cX4_reckonShare 38 = .ok (.ldc2_w 223, 3) := by decide +kernel
theorem dX4_reckonShare_41 : decode cX4_reckonShare 41 = .ok (.aload_n 0, 1) := by decide +kernel
theorem dX4_reckonShare_42 : decode cX4_reckonShare 42 = .ok (.getfield 33, 3) := by decide +kernel
theorem dX4_reckonShare_45 : decode cX4_reckonShare 45 = .ok (.invokevirtual 214, 3) := by decide +kernel
theorem dX4_reckonShare_48 : decode cX4_reckonShare 48 = .ok (.i2l, 1) := by decide +kernel
theorem dX4_reckonShare_49 : decode cX4_reckonShare 49 = .ok (.lmul, 1) := by decide +kernel
theorem dX4_reckonShare_50 : decode cX4_reckonShare 50 = .ok (.invokevirtual 215, 3) := by decide +kernel
theorem dX4_reckonShare_53 : decode cX4_reckonShare 53 = .ok (.return_, 1) := by decide +kernel
set_option maxRecDepth 20000 in
theorem ggX4_setTerm_X2_isText : GoodIn wsX4_setTerm wsX2_isText := goodIn_r _ [8, 9, 83, 84, 85, 86] (by decide +kernel) (by decide +kernel)
set_option maxRecDepth 20000 in
theorem gX4_setTerm_X2_isText : GoodIn wsX4_setTerm (wsV RX4 261 RX2 yX2_isText wsX2_isText) := goodIn_app (goodIn_of _ (by decide +kernel)) ggX4_setTerm_X2_isText
set_option maxRecDepth 20000 in
theorem ggX4_setTerm_X0_beginText : GoodIn wsX4_setTerm wsX0_beginText := goodIn_r _ [14, 15, 16, 87, 88, 89, 90, 91, 92, 93, 94, 95, 96, 97, 98] (by decide +kernel) (by decide +kernel)
set_option maxRecDepth 20000 in
theorem gX4_setTerm_X0_beginText : GoodIn wsX4_setTerm (wsV RX4 264 RX0 yX0_beginText wsX0_beginText) := goodIn_app (goodIn_of _ (by decide +kernel)) ggX4_setTerm_X0_beginText
set_option maxRecDepth 20000 in
theorem ggX4_setTerm_X2_write : GoodIn wsX4_setTerm wsX2_write := goodIn_r _ [20, 9, 21, 22, 23, 5, 6, 7, 8, 24, 25, 26, 27, 28, 29, 30, 13, 31, 16, 32, 33, 34, 35, 36, 37, 38, 39, 40, 83, 84, 85, 86, 87, 88, 89, 90, 91, 92, 93, 94, 95, 96, 97, 98] (by decide +kernel) (by decide +kernel)
set_option maxRecDepth 20000 in
theorem gX4_setTerm_X2_write : GoodIn wsX4_setTerm (wsV RX4 267 RX2 yX2_write wsX2_write) := goodIn_app (goodIn_of _ (by decide +kernel)) ggX4_setTerm_X2_write
set_option maxRecDepth 20000 in
theorem ggX4_setTerm_X0_endText : GoodIn wsX4_setTerm wsX0_endText := goodIn_r _ [44, 45, 46, 47, 48, 49, 13, 50, 16, 15, 87, 88, 89, 90, 91, 92, 93, 94, 95, 96, 97, 98] (by decide +kernel) (by decide +kernel)
set_option maxRecDepth 20000 in
theorem gX4_setTerm_X0_endText : GoodIn wsX4_setTerm (wsV RX4 271 RX0 yX0_endText wsX0_endText) := goodIn_app (goodIn_of _ (by decide +kernel)) ggX4_setTerm_X0_endText
set_option maxRecDepth 20000 in
theorem ggX4_setTerm_X2_thousandths : GoodIn wsX4_setTerm wsX2_thousandths := goodIn_r _ [54, 21, 40, 22, 83, 84, 85, 86] (by decide +kernel) (by decide +kernel)
set_option maxRecDepth 20000 in
theorem gX4_setTerm_X2_thousandths : GoodIn wsX4_setTerm (wsV RX4 274 RX2 yX2_thousandths wsX2_thousandths) := goodIn_app (goodIn_of _ (by decide +kernel)) ggX4_setTerm_X2_thousandths
set_option maxRecDepth 20000 in
theorem ggX4_setTerm_X0_setNumber : GoodIn wsX4_setTerm wsX0_setNumber := goodIn_r _ [58, 59, 60, 38, 61, 45, 62, 63, 64, 65, 13, 66, 67, 68, 69, 87, 88, 89, 90, 91, 92, 93, 94, 95, 96, 97, 98] (by decide +kernel) (by decide +kernel)
set_option maxRecDepth 20000 in
theorem gX4_setTerm_X0_setNumber : GoodIn wsX4_setTerm (wsV RX4 215 RX0 yX0_setNumber wsX0_setNumber) := goodIn_app (goodIn_of _ (by decide +kernel)) ggX4_setTerm_X0_setNumber
set_option maxRecDepth 20000 in
theorem ggX4_setTerm_X0_setTermOfResult : GoodIn wsX4_setTerm wsX0_setTermOfResult := goodIn_r _ [73, 74, 87, 88, 89, 90, 91, 92, 93, 94, 95, 96, 97, 98] (by decide +kernel) (by decide +kernel)
set_option maxRecDepth 20000 in
theorem gX4_setTerm_X0_setTermOfResult : GoodIn wsX4_setTerm (wsV RX4 277 RX0 yX0_setTermOfResult wsX0_setTermOfResult) := goodIn_app (goodIn_of _ (by decide +kernel)) ggX4_setTerm_X0_setTermOfResult
theorem dX4_setTerm_0 : decode cX4_setTerm 0 = .ok (.iload_n 2, 1) := by decide +kernel
theorem dX4_setTerm_1 : decode cX4_setTerm 1 = .ok (.iconst (-1), 1) := by decide +kernel
theorem dX4_setTerm_2 : decode cX4_setTerm 2 = .ok (.if_icmp .ne 4, 3) := by decide +kernel
theorem dX4_setTerm_5 : decode cX4_setTerm 5 = .ok (.return_, 1) := by decide +kernel
theorem dX4_setTerm_6 : decode cX4_setTerm 6 = .ok (.aload_n 0, 1) := by decide +kernel
theorem dX4_setTerm_7 : decode cX4_setTerm 7 = .ok (.getfield 10, 3) := by decide +kernel
theorem dX4_setTerm_10 : decode cX4_setTerm 10 = .ok (.iload_n 2, 1) := by decide +kernel
theorem dX4_setTerm_11 : decode cX4_setTerm 11 = .ok (.invokevirtual 261, 3) := by decide +kernel
theorem dX4_setTerm_14 : decode cX4_setTerm 14 = .ok (.ifCond .eq 34, 3) := by decide +kernel
theorem dX4_setTerm_17 : decode cX4_setTerm 17 = .ok (.aload_n 0, 1) := by decide +kernel
theorem dX4_setTerm_18 : decode cX4_setTerm 18 = .ok (.getfield 26, 3) := by decide +kernel
theorem dX4_setTerm_21 : decode cX4_setTerm 21 = .ok (.iload_n 1, 1) := by decide +kernel
theorem dX4_setTerm_22 : decode cX4_setTerm 22 = .ok (.invokevirtual 264, 3) := by decide +kernel
theorem dX4_setTerm_25 : decode cX4_setTerm 25 = .ok (.aload_n 0, 1) := by decide +kernel
theorem dX4_setTerm_26 : decode cX4_setTerm 26 = .ok (.getfield 10, 3) := by decide +kernel
theorem dX4_setTerm_29 : decode cX4_setTerm 29 = .ok (.iload_n 2, 1) := by decide +kernel
theorem dX4_setTerm_30 : decode cX4_setTerm 30 = .ok (.aload_n 0, 1) := by decide +kernel
theorem dX4_setTerm_31 : decode cX4_setTerm 31 = .ok (.getfield 26, 3) := by decide +kernel
theorem dX4_setTerm_34 : decode cX4_setTerm 34 = .ok (.invokevirtual 267, 3) := by decide +kernel
theorem dX4_setTerm_37 : decode cX4_setTerm 37 = .ok (.aload_n 0, 1) := by decide +kernel
theorem dX4_setTerm_38 : decode cX4_setTerm 38 = .ok (.getfield 26, 3) := by decide +kernel
theorem dX4_setTerm_41 : decode cX4_setTerm 41 = .ok (.iload_n 1, 1) := by decide +kernel
theorem dX4_setTerm_42 : decode cX4_setTerm 42 = .ok (.invokevirtual 271, 3) := by decide +kernel
theorem dX4_setTerm_45 : decode cX4_setTerm 45 = .ok (.goto 22, 3) := by decide +kernel
theorem dX4_setTerm_48 : decode cX4_setTerm 48 = .ok (.aload_n 0, 1) := by decide +kernel
theorem dX4_setTerm_49 : decode cX4_setTerm 49 = .ok (.getfield 26, 3) := by decide +kernel
theorem dX4_setTerm_52 : decode cX4_setTerm 52 = .ok (.iload_n 1, 1) := by decide +kernel
theorem dX4_setTerm_53 : decode cX4_setTerm 53 = .ok (.aload_n 0, 1) := by decide +kernel
theorem dX4_setTerm_54 : decode cX4_setTerm 54 = .ok (.getfield 10, 3) := by decide +kernel
theorem dX4_setTerm_57 : decode cX4_setTerm 57 = .ok (.iload_n 2, 1) := by decide +kernel
theorem dX4_setTerm_58 : decode cX4_setTerm 58 = .ok (.invokevirtual 274, 3) := by decide +kernel
theorem dX4_setTerm_61 : decode cX4_setTerm 61 = .ok (.ldc2_w 223, 3) := by decide +kernel
theorem dX4_setTerm_64 : decode cX4_setTerm 64 = .ok (.invokevirtual 215, 3) := by decide +kernel
theorem dX4_setTerm_67 : decode cX4_setTerm 67 = .ok (.aload_n 0, 1) := by decide +kernel
theorem dX4_setTerm_68 : decode cX4_setTerm 68 = .ok (.getfield 26, 3) := by decide +kernel
theorem dX4_setTerm_71 : decode cX4_setTerm 71 = .ok (.iload_n 1, 1) := by decide +kernel
theorem dX4_setTerm_72 : decode cX4_setTerm 72 = .ok (.iload_n 2, 1) := by decide +kernel
theorem dX4_setTerm_73 : decode cX4_setTerm 73 = .ok (.invokevirtual 277, 3) := by decide +kernel
theorem dX4_setTerm_76 : decode cX4_setTerm 76 = .ok (.return_, 1) := by decide +kernel
set_option maxRecDepth 20000 in
theorem ggX4_join_X0_beginText : GoodIn wsX4_join wsX0_beginText := goodIn_r _ [9, 10, 11, 77, 78, 79, 80, 81, 82, 83, 84, 85, 86, 87, 88] (by decide +kernel) (by decide +kernel)
set_option maxRecDepth 20000 in
theorem gX4_join_X0_beginText : GoodIn wsX4_join (wsV RX4 264 RX0 yX0_beginText wsX0_beginText) := goodIn_app (goodIn_of _ (by decide +kernel)) ggX4_join_X0_beginText
set_option maxRecDepth 20000 in
theorem ggX4_join_X3_count : GoodIn wsX4_join wsX3_count := goodIn_r _ [16, 17, 89, 90] (by decide +kernel) (by decide +kernel)
set_option maxRecDepth 20000 in
theorem gX4_join_X3_count : GoodIn wsX4_join (wsV RX4 214 RX3 yX3_count wsX3_count) := goodIn_app (goodIn_of _ (by decide +kernel)) ggX4_join_X3_count
set_option maxRecDepth 20000 in
theorem ggX4_join_X0_openLength : GoodIn wsX4_join wsX0_openLength := goodIn_r _ [21, 11, 10, 77, 78, 79, 80, 81, 82, 83, 84, 85, 86, 87, 88] (by decide +kernel) (by decide +kernel)
set_option maxRecDepth 20000 in
theorem gX4_join_X0_openLength : GoodIn wsX4_join (wsV RX4 280 RX0 yX0_openLength wsX0_openLength) := goodIn_app (goodIn_of _ (by decide +kernel)) ggX4_join_X0_openLength
set_option maxRecDepth 20000 in
theorem ggX4_join_X0_put : GoodIn wsX4_join wsX0_put := goodIn_r _ [25, 11, 26, 77, 78, 79, 80, 81, 82, 83, 84, 85, 86, 87, 88] (by decide +kernel) (by decide +kernel)
set_option maxRecDepth 20000 in
theorem gX4_join_X0_put : GoodIn wsX4_join (wsV RX4 283 RX0 yX0_put wsX0_put) := goodIn_app (goodIn_of _ (by decide +kernel)) ggX4_join_X0_put
set_option maxRecDepth 20000 in
theorem ggX4_join_X3_at : GoodIn wsX4_join wsX3_at := goodIn_r _ [30, 31, 89, 90] (by decide +kernel) (by decide +kernel)
set_option maxRecDepth 20000 in
theorem gX4_join_X3_at : GoodIn wsX4_join (wsV RX4 287 RX3 yX3_at wsX3_at) := goodIn_app (goodIn_of _ (by decide +kernel)) ggX4_join_X3_at
set_option maxRecDepth 20000 in
theorem ggX4_join_X2_write : GoodIn wsX4_join wsX2_write := goodIn_r _ [36, 37, 38, 39, 40, 41, 42, 35, 43, 44, 45, 46, 47, 48, 23, 24, 8, 25, 11, 26, 49, 50, 51, 52, 53, 54, 55, 56, 91, 92, 93, 94, 77, 78, 79, 80, 81, 82, 83, 84, 85, 86, 87, 88] (by decide +kernel) (by decide +kernel)
set_option maxRecDepth 20000 in
theorem gX4_join_X2_write : GoodIn wsX4_join (wsV RX4 267 RX2 yX2_write wsX2_write) := goodIn_app (goodIn_of _ (by decide +kernel)) ggX4_join_X2_write
set_option maxRecDepth 20000 in
theorem ggX4_join_X0_setError : GoodIn wsX4_join wsX0_setError := goodIn_r _ [60, 61, 62, 77, 78, 79, 80, 81, 82, 83, 84, 85, 86, 87, 88] (by decide +kernel) (by decide +kernel)
set_option maxRecDepth 20000 in
theorem gX4_join_X0_setError : GoodIn wsX4_join (wsV RX4 211 RX0 yX0_setError wsX0_setError) := goodIn_app (goodIn_of _ (by decide +kernel)) ggX4_join_X0_setError
set_option maxRecDepth 20000 in
theorem ggX4_join_X0_endText : GoodIn wsX4_join wsX0_endText := goodIn_r _ [66, 61, 67, 68, 19, 20, 8, 21, 11, 10, 77, 78, 79, 80, 81, 82, 83, 84, 85, 86, 87, 88] (by decide +kernel) (by decide +kernel)
set_option maxRecDepth 20000 in
theorem gX4_join_X0_endText : GoodIn wsX4_join (wsV RX4 271 RX0 yX0_endText wsX0_endText) := goodIn_app (goodIn_of _ (by decide +kernel)) ggX4_join_X0_endText
theorem dX4_join_0 : decode cX4_join 0 = .ok (.aload_n 0, 1) := by decide +kernel
theorem dX4_join_1 : decode cX4_join 1 = .ok (.getfield 26, 3) := by decide +kernel
theorem dX4_join_4 : decode cX4_join 4 = .ok (.iload_n 1, 1) := by decide +kernel
theorem dX4_join_5 : decode cX4_join 5 = .ok (.invokevirtual 264, 3) := by decide +kernel
theorem dX4_join_8 : decode cX4_join 8 = .ok (.iconst 0, 1) := by decide +kernel
theorem dX4_join_9 : decode cX4_join 9 = .ok (.istore_n 2, 1) := by decide +kernel
theorem dX4_join_10 : decode cX4_join 10 = .ok (.iload_n 2, 1) := by decide +kernel
theorem dX4_join_11 : decode cX4_join 11 = .ok (.aload_n 0, 1) := by decide +kernel
theorem dX4_join_12 : decode cX4_join 12 = .ok (.getfield 33, 3) := by decide +kernel
theorem dX4_join_15 : decode cX4_join 15 = .ok (.invokevirtual 214, 3) := by decide +kernel
theorem dX4_join_18 : decode cX4_join 18 = .ok (.if_icmp .ge 64, 3) := by decide +kernel
theorem dX4_join_21 : decode cX4_join 21 = .ok (.aload_n 0, 1) := by decide +kernel
theorem dX4_join_22 : decode cX4_join 22 = .ok (.getfield 26, 3) := by decide +kernel
theorem dX4_join_25 : decode cX4_join 25 = .ok (.iload_n 1, 1) := by decide +kernel
theorem dX4_join_26 : decode cX4_join 26 = .ok (.invokevirtual 280, 3) := by decide +kernel
theorem dX4_join_29 : decode cX4_join 29 = .ok (.bipush 80, 2) := by decide +kernel
theorem dX4_join_31 : decode cX4_join 31 = .ok (.if_icmp .gt 51, 3) := by decide +kernel
theorem dX4_join_34 : decode cX4_join 34 = .ok (.iload_n 2, 1) := by decide +kernel
theorem dX4_join_35 : decode cX4_join 35 = .ok (.ifCond .le 22, 3) := by decide +kernel
theorem dX4_join_38 : decode cX4_join 38 = .ok (.aload_n 0, 1) := by decide +kernel
theorem dX4_join_39 : decode cX4_join 39 = .ok (.getfield 45, 3) := by decide +kernel
theorem dX4_join_42 : decode cX4_join 42 = .ok (.ifCond .eq 15, 3) := by decide +kernel
theorem dX4_join_45 : decode cX4_join 45 = .ok (.aload_n 0, 1) := by decide +kernel
theorem dX4_join_46 : decode cX4_join 46 = .ok (.getfield 26, 3) := by decide +kernel
theorem dX4_join_49 : decode cX4_join 49 = .ok (.aload_n 0, 1) := by decide +kernel
theorem dX4_join_50 : decode cX4_join 50 = .ok (.getfield 45, 3) := by decide +kernel
theorem dX4_join_53 : decode cX4_join 53 = .ok (.i2c, 1) := by decide +kernel
theorem dX4_join_54 : decode cX4_join 54 = .ok (.invokevirtual 283, 3) := by decide +kernel
theorem dX4_join_57 : decode cX4_join 57 = .ok (.aload_n 0, 1) := by decide +kernel
theorem dX4_join_58 : decode cX4_join 58 = .ok (.getfield 10, 3) := by decide +kernel
theorem dX4_join_61 : decode cX4_join 61 = .ok (.aload_n 0, 1) := by decide +kernel
theorem dX4_join_62 : decode cX4_join 62 = .ok (.getfield 33, 3) := by decide +kernel
theorem dX4_join_65 : decode cX4_join 65 = .ok (.iload_n 2, 1) := by decide +kernel
theorem dX4_join_66 : decode cX4_join 66 = .ok (.invokevirtual 287, 3) := by decide +kernel
theorem dX4_join_69 : decode cX4_join 69 = .ok (.aload_n 0, 1) := by decide +kernel
theorem dX4_join_70 : decode cX4_join 70 = .ok (.getfield 26, 3) := by decide +kernel
theorem dX4_join_73 : decode cX4_join 73 = .ok (.invokevirtual 267, 3) := by decide +kernel
theorem dX4_join_76 : decode cX4_join 76 = .ok (.iinc 2 1, 3) := by decide +kernel
theorem dX4_join_79 : decode cX4_join 79 = .ok (.goto (-69), 3) := by decide +kernel
theorem dX4_join_82 : decode cX4_join 82 = .ok (.aload_n 0, 1) := by decide +kernel
theorem dX4_join_83 : decode cX4_join 83 = .ok (.getfield 26, 3) := by decide +kernel
theorem dX4_join_86 : decode cX4_join 86 = .ok (.iload_n 1, 1) := by decide +kernel
theorem dX4_join_87 : decode cX4_join 87 = .ok (.invokevirtual 280, 3) := by decide +kernel
theorem dX4_join_90 : decode cX4_join 90 = .ok (.bipush 80, 2) := by decide +kernel
theorem dX4_join_92 : decode cX4_join 92 = .ok (.if_icmp .le 15, 3) := by decide +kernel
theorem dX4_join_95 : decode cX4_join 95 = .ok (.aload_n 0, 1) := by decide +kernel
theorem dX4_join_96 : decode cX4_join 96 = .ok (.getfield 26, 3) := by decide +kernel
theorem dX4_join_99 : decode cX4_join 99 = .ok (.iload_n 1, 1) := by decide +kernel
theorem dX4_join_100 : decode cX4_join 100 = .ok (.iconst 2, 1) := by decide +kernel
theorem dX4_join_101 : decode cX4_join 101 = .ok (.invokevirtual 211, 3) := by decide +kernel
theorem dX4_join_104 : decode cX4_join 104 = .ok (.goto 11, 3) := by decide +kernel
theorem dX4_join_107 : decode cX4_join 107 = .ok (.aload_n 0, 1) := by decide +kernel
theorem dX4_join_108 : decode cX4_join 108 = .ok (.getfield 26, 3) := by decide +kernel
theorem dX4_join_111 : decode cX4_join 111 = .ok (.iload_n 1, 1) := by decide +kernel
theorem dX4_join_112 : decode cX4_join 112 = .ok (.invokevirtual 271, 3) := by decide +kernel
theorem dX4_join_115 : decode cX4_join 115 = .ok (.return_, 1) := by decide +kernel
theorem dX5_init_0 : decode cX5_init 0 = .ok (.aload_n 0, 1) := by decide +kernel
theorem dX5_init_1 : decode cX5_init 1 = .ok (.invokespecial 1, 3) := by decide +kernel
theorem dX5_init_4 : decode cX5_init 4 = .ok (.aload_n 0, 1) := by decide +kernel
theorem dX5_init_5 : decode cX5_init 5 = .ok (.bipush 60, 2) := by decide +kernel
theorem dX5_init_7 : decode cX5_init 7 = .ok (.newarray .boolean, 2) := by decide +kernel
theorem dX5_init_9 : decode cX5_init 9 = .ok (.putfield 7, 3) := by decide +kernel
theorem dX5_init_12 : decode cX5_init 12 = .ok (.aload_n 0, 1) := by decide +kernel
theorem dX5_init_13 : decode cX5_init 13 = .ok (.bipush 60, 2) := by decide +kernel
theorem dX5_init_15 : decode cX5_init 15 = .ok (.newarray .int, 2) := by decide +kernel
theorem dX5_init_17 : decode cX5_init 17 = .ok (.putfield 13, 3) := by decide +kernel
theorem dX5_init_20 : decode cX5_init 20 = .ok (.aload_n 0, 1) := by decide +kernel
theorem dX5_init_21 : decode cX5_init 21 = .ok (.bipush 60, 2) := by decide +kernel
theorem dX5_init_23 : decode cX5_init 23 = .ok (.newarray .int, 2) := by decide +kernel
theorem dX5_init_25 : decode cX5_init 25 = .ok (.putfield 17, 3) := by decide +kernel
theorem dX5_init_28 : decode cX5_init 28 = .ok (.aload_n 0, 1) := by decide +kernel
theorem dX5_init_29 : decode cX5_init 29 = .ok (.bipush 60, 2) := by decide +kernel
theorem dX5_init_31 : decode cX5_init 31 = .ok (.newarray .int, 2) := by decide +kernel
theorem dX5_init_33 : decode cX5_init 33 = .ok (.putfield 20, 3) := by decide +kernel
theorem dX5_init_36 : decode cX5_init 36 = .ok (.aload_n 0, 1) := by decide +kernel
theorem dX5_init_37 : decode cX5_init 37 = .ok (.sipush 480, 3) := by decide +kernel
theorem dX5_init_40 : decode cX5_init 40 = .ok (.newarray .int, 2) := by decide +kernel
theorem dX5_init_42 : decode cX5_init 42 = .ok (.putfield 23, 3) := by decide +kernel
theorem dX5_init_45 : decode cX5_init 45 = .ok (.aload_n 0, 1) := by decide +kernel
theorem dX5_init_46 : decode cX5_init 46 = .ok (.bipush 60, 2) := by decide +kernel
theorem dX5_init_48 : decode cX5_init 48 = .ok (.newarray .int, 2) := by decide +kernel
theorem dX5_init_50 : decode cX5_init 50 = .ok (.putfield 26, 3) := by decide +kernel
theorem dX5_init_53 : decode cX5_init 53 = .ok (.aload_n 0, 1) := by decide +kernel
theorem dX5_init_54 : decode cX5_init 54 = .ok (.bipush 60, 2) := by decide +kernel
theorem dX5_init_56 : decode cX5_init 56 = .ok (.newarray .int, 2) := by decide +kernel
theorem dX5_init_58 : decode cX5_init 58 = .ok (.putfield 29, 3) := by decide +kernel
theorem dX5_init_61 : decode cX5_init 61 = .ok (.aload_n 0, 1) := by decide +kernel
theorem dX5_init_62 : decode cX5_init 62 = .ok (.bipush 60, 2) := by decide +kernel
theorem dX5_init_64 : decode cX5_init 64 = .ok (.newarray .int, 2) := by decide +kernel
theorem dX5_init_66 : decode cX5_init 66 = .ok (.putfield 32, 3) := by decide +kernel
theorem dX5_init_69 : decode cX5_init 69 = .ok (.aload_n 0, 1) := by decide +kernel
theorem dX5_init_70 : decode cX5_init 70 = .ok (.bipush 60, 2) := by decide +kernel
theorem dX5_init_72 : decode cX5_init 72 = .ok (.newarray .int, 2) := by decide +kernel
theorem dX5_init_74 : decode cX5_init 74 = .ok (.putfield 35, 3) := by decide +kernel
theorem dX5_init_77 : decode cX5_init 77 = .ok (.aload_n 0, 1) := by decide +kernel
theorem dX5_init_78 : decode cX5_init 78 = .ok (.bipush 60, 2) := by decide +kernel
theorem dX5_init_80 : decode cX5_init 80 = .ok (.newarray .int, 2) := by decide +kernel
theorem dX5_init_82 : decode cX5_init 82 = .ok (.putfield 38, 3) := by decide +kernel
theorem dX5_init_85 : decode cX5_init 85 = .ok (.aload_n 0, 1) := by decide +kernel
theorem dX5_init_86 : decode cX5_init 86 = .ok (.bipush 60, 2) := by decide +kernel
theorem dX5_init_88 : decode cX5_init 88 = .ok (.newarray .int, 2) := by decide +kernel
theorem dX5_init_90 : decode cX5_init 90 = .ok (.putfield 41, 3) := by decide +kernel
theorem dX5_init_93 : decode cX5_init 93 = .ok (.aload_n 0, 1) := by decide +kernel
theorem dX5_init_94 : decode cX5_init 94 = .ok (.bipush 60, 2) := by decide +kernel
theorem dX5_init_96 : decode cX5_init 96 = .ok (.newarray .int, 2) := by decide +kernel
theorem dX5_init_98 : decode cX5_init 98 = .ok (.putfield 44, 3) := by decide +kernel
theorem dX5_init_101 : decode cX5_init 101 = .ok (.aload_n 0, 1) := by decide +kernel
theorem dX5_init_102 : decode cX5_init 102 = .ok (.bipush 60, 2) := by decide +kernel
theorem dX5_init_104 : decode cX5_init 104 = .ok (.newarray .long, 2) := by decide +kernel
theorem dX5_init_106 : decode cX5_init 106 = .ok (.putfield 47, 3) := by decide +kernel
theorem dX5_init_109 : decode cX5_init 109 = .ok (.aload_n 0, 1) := by decide +kernel
theorem dX5_init_110 : decode cX5_init 110 = .ok (.bipush 60, 2) := by decide +kernel
theorem dX5_init_112 : decode cX5_init 112 = .ok (.newarray .long, 2) := by decide +kernel
theorem dX5_init_114 : decode cX5_init 114 = .ok (.putfield 51, 3) := by decide +kernel
theorem dX5_init_117 : decode cX5_init 117 = .ok (.aload_n 0, 1) := by decide +kernel
theorem dX5_init_118 : decode cX5_init 118 = .ok (.bipush 60, 2) := by decide +kernel
theorem dX5_init_120 : decode cX5_init 120 = .ok (.newarray .int, 2) := by decide +kernel
theorem dX5_init_122 : decode cX5_init 122 = .ok (.putfield 54, 3) := by decide +kernel
theorem dX5_init_125 : decode cX5_init 125 = .ok (.aload_n 0, 1) := by decide +kernel
theorem dX5_init_126 : decode cX5_init 126 = .ok (.bipush 60, 2) := by decide +kernel
theorem dX5_init_128 : decode cX5_init 128 = .ok (.newarray .int, 2) := by decide +kernel
theorem dX5_init_130 : decode cX5_init 130 = .ok (.putfield 57, 3) := by decide +kernel
theorem dX5_init_133 : decode cX5_init 133 = .ok (.aload_n 0, 1) := by decide +kernel
theorem dX5_init_134 : decode cX5_init 134 = .ok (.sipush 4800, 3) := by decide +kernel
theorem dX5_init_137 : decode cX5_init 137 = .ok (.newarray .int, 2) := by decide +kernel
theorem dX5_init_139 : decode cX5_init 139 = .ok (.putfield 60, 3) := by decide +kernel
theorem dX5_init_142 : decode cX5_init 142 = .ok (.aload_n 0, 1) := by decide +kernel
theorem dX5_init_143 : decode cX5_init 143 = .ok (.bipush 60, 2) := by decide +kernel
theorem dX5_init_145 : decode cX5_init 145 = .ok (.newarray .int, 2) := by decide +kernel
theorem dX5_init_147 : decode cX5_init 147 = .ok (.putfield 63, 3) := by decide +kernel
theorem dX5_init_150 : decode cX5_init 150 = .ok (.aload_n 0, 1) := by decide +kernel
theorem dX5_init_151 : decode cX5_init 151 = .ok (.bipush 60, 2) := by decide +kernel
theorem dX5_init_153 : decode cX5_init 153 = .ok (.newarray .int, 2) := by decide +kernel
theorem dX5_init_155 : decode cX5_init 155 = .ok (.putfield 66, 3) := by decide +kernel
theorem dX5_init_158 : decode cX5_init 158 = .ok (.aload_n 0, 1) := by decide +kernel
theorem dX5_init_159 : decode cX5_init 159 = .ok (.bipush 60, 2) := by decide +kernel
theorem dX5_init_161 : decode cX5_init 161 = .ok (.newarray .int, 2) := by decide +kernel
theorem dX5_init_163 : decode cX5_init 163 = .ok (.putfield 69, 3) := by decide +kernel
theorem dX5_init_166 : decode cX5_init 166 = .ok (.return_, 1) := by decide +kernel
theorem dX5_thrown_0 : decode cX5_thrown 0 = .ok (.aload_n 0, 1) := by decide +kernel
theorem dX5_thrown_1 : decode cX5_thrown 1 = .ok (.getfield 72, 3) := by decide +kernel
theorem dX5_thrown_4 : decode cX5_thrown 4 = .ok (.ireturn, 1) := by decide +kernel
theorem dX5_within_0 : decode cX5_within 0 = .ok (.lload_n 0, 1) := by decide +kernel
theorem dX5_within_1 : decode cX5_within 1 = .ok (.lload_n 2, 1) := by decide +kernel
theorem dX5_within_2 : decode cX5_within 2 = .ok (.lcmp, 1) := by decide +kernel
theorem dX5_within_3 : decode cX5_within 3 = .ok (.ifCond .lt 14, 3) := by decide +kernel
theorem dX5_within_6 : decode cX5_within 6 = .ok (.lload_n 0, 1) := by decide +kernel
theorem dX5_within_7 : decode cX5_within 7 = .ok (.lload 4, 2) := by decide +kernel
theorem dX5_within_9 : decode cX5_within 9 = .ok (.lcmp, 1) := by decide +kernel
theorem dX5_within_10 : decode cX5_within 10 = .ok (.ifCond .gt 7, 3) := by decide +kernel
theorem dX5_within_13 : decode cX5_within 13 = .ok (.iconst 1, 1) := by decide +kernel
theorem dX5_within_14 : decode cX5_within 14 = .ok (.goto 4, 3) := by decide +kernel
theorem dX5_within_17 : decode cX5_within 17 = .ok (.iconst 0, 1) := by decide +kernel
theorem dX5_within_18 : decode cX5_within 18 = .ok (.ireturn, 1) := by decide +kernel
set_option maxRecDepth 20000 in
theorem ggX5_number_X5_within : GoodIn wsX5_number wsX5_within := goodIn_r _ [12] (by decide +kernel) (by decide +kernel)
set_option maxRecDepth 20000 in
theorem gX5_number_X5_within : GoodIn wsX5_number (va_wsS RX5 80 yX5_within wsX5_within) := goodIn_app (goodIn_of _ (by decide +kernel)) ggX5_number_X5_within
theorem dX5_number_0 : decode cX5_number 0 = .ok (.aload_n 0, 1) := by decide +kernel
theorem dX5_number_1 : decode cX5_number 1 = .ok (.iload_n 1, 1) := by decide +kernel
theorem dX5_number_2 : decode cX5_number 2 = .ok (.i2l, 1) := by decide +kernel
theorem dX5_number_3 : decode cX5_number 3 = .ok (.ldc2_w 76, 3) := by decide +kernel
theorem dX5_number_6 : decode cX5_number 6 = .ok (.ldc2_w 78, 3) := by decide +kernel
theorem dX5_number_9 : decode cX5_number 9 = .ok (.invokestatic 80, 3) := by decide +kernel
theorem dX5_number_12 : decode cX5_number 12 = .ok (.ifCond .eq 19, 3) := by decide +kernel
theorem dX5_number_15 : decode cX5_number 15 = .ok (.iload_n 2, 1) := by decide +kernel
theorem dX5_number_16 : decode cX5_number 16 = .ok (.i2l, 1) := by decide +kernel
theorem dX5_number_17 : decode cX5_number 17 = .ok (.lconst 0, 1) := by decide +kernel
theorem dX5_number_18 : decode cX5_number 18 = .ok (.ldc2_w 84, 3) := by decide +kernel
theorem dX5_number_21 : decode cX5_number 21 = .ok (.invokestatic 80, 3) := by decide +kernel
theorem dX5_number_24 : decode cX5_number 24 = .ok (.ifCond .eq 7, 3) := by decide +kernel
theorem dX5_number_27 : decode cX5_number 27 = .ok (.iconst 0, 1) := by decide +kernel
theorem dX5_number_28 : decode cX5_number 28 = .ok (.goto 4, 3) := by decide +kernel
theorem dX5_number_31 : decode cX5_number 31 = .ok (.iconst 1, 1) := by decide +kernel
theorem dX5_number_32 : decode cX5_number 32 = .ok (.putfield 72, 3) := by decide +kernel
theorem dX5_number_35 : decode cX5_number 35 = .ok (.aload_n 0, 1) := by decide +kernel
theorem dX5_number_36 : decode cX5_number 36 = .ok (.getfield 72, 3) := by decide +kernel
theorem dX5_number_39 : decode cX5_number 39 = .ok (.ifCond .le 5, 3) := by decide +kernel
theorem dX5_number_42 : decode cX5_number 42 = .ok (.iconst 0, 1) := by decide +kernel
theorem dX5_number_43 : decode cX5_number 43 = .ok (.ireturn, 1) := by decide +kernel
theorem dX5_number_44 : decode cX5_number 44 = .ok (.iconst 0, 1) := by decide +kernel
theorem dX5_number_45 : decode cX5_number 45 = .ok (.istore_n 3, 1) := by decide +kernel
theorem dX5_number_46 : decode cX5_number 46 = .ok (.iload_n 3, 1) := by decide +kernel
theorem dX5_number_47 : decode cX5_number 47 = .ok (.aload_n 0, 1) := by decide +kernel
theorem dX5_number_48 : decode cX5_number 48 = .ok (.getfield 86, 3) := by decide +kernel
theorem dX5_number_51 : decode cX5_number 51 = .ok (.if_icmp .ge 40, 3) := by decide +kernel
theorem dX5_number_54 : decode cX5_number 54 = .ok (.aload_n 0, 1) := by decide +kernel
theorem dX5_number_55 : decode cX5_number 55 = .ok (.getfield 7, 3) := by decide +kernel
theorem dX5_number_58 : decode cX5_number 58 = .ok (.iload_n 3, 1) := by decide +kernel
theorem dX5_number_59 : decode cX5_number 59 = .ok (.baload, 1) := by decide +kernel
theorem dX5_number_60 : decode cX5_number 60 = .ok (.ifCond .ne 25, 3) := by decide +kernel
theorem dX5_number_63 : decode cX5_number 63 = .ok (.aload_n 0, 1) := by decide +kernel
theorem dX5_number_64 : decode cX5_number 64 = .ok (.getfield 13, 3) := by decide +kernel
theorem dX5_number_67 : decode cX5_number 67 = .ok (.iload_n 3, 1) := by decide +kernel
theorem dX5_number_68 : decode cX5_number 68 = .ok (.iaload, 1) := by decide +kernel
theorem dX5_number_69 : decode cX5_number 69 = .ok (.iload_n 1, 1) := by decide +kernel
theorem dX5_number_70 : decode cX5_number 70 = .ok (.if_icmp .ne 15, 3) := by decide +kernel
theorem dX5_number_73 : decode cX5_number 73 = .ok (.aload_n 0, 1) := by decide +kernel
theorem dX5_number_74 : decode cX5_number 74 = .ok (.getfield 17, 3) := by decide +kernel
theorem dX5_number_77 : decode cX5_number 77 = .ok (.iload_n 3, 1) := by decide +kernel
theorem dX5_number_78 : decode cX5_number 78 = .ok (.iaload, 1) := by decide +kernel
theorem dX5_number_79 : decode cX5_number 79 = .ok (.iload_n 2, 1) := by decide +kernel
theorem dX5_number_80 : decode cX5_number 80 = .ok (.if_icmp .ne 5, 3) := by decide +kernel
theorem dX5_number_83 : decode cX5_number 83 = .ok (.iload_n 3, 1) := by decide +kernel
theorem dX5_number_84 : decode cX5_number 84 = .ok (.ireturn, 1) := by decide +kernel
theorem dX5_number_85 : decode cX5_number 85 = .ok (.iinc 3 1, 3) := by decide +kernel
theorem dX5_number_88 : decode cX5_number 88 = .ok (.goto (-42), 3) := by decide +kernel
theorem dX5_number_91 : decode cX5_number 91 = .ok (.aload_n 0, 1) := by decide +kernel
theorem dX5_number_92 : decode cX5_number 92 = .ok (.aload_n 0, 1) := by decide +kernel
theorem dX5_number_93 : decode cX5_number 93 = .ok (.getfield 86, 3) := by decide +kernel
theorem dX5_number_96 : decode cX5_number 96 = .ok (.bipush 60, 2) := by decide +kernel
theorem dX5_number_98 : decode cX5_number 98 = .ok (.if_icmp .ne 7, 3) := by decide +kernel
theorem dX5_number_101 : decode cX5_number 101 = .ok (.iconst 2, 1) := by decide +kernel
theorem dX5_number_102 : decode cX5_number 102 = .ok (.goto 4, 3) := by decide +kernel
theorem dX5_number_105 : decode cX5_number 105 = .ok (.iconst 0, 1) := by decide +kernel
theorem dX5_number_106 : decode cX5_number 106 = .ok (.putfield 72, 3) := by decide +kernel
theorem dX5_number_109 : decode cX5_number 109 = .ok (.aload_n 0, 1) := by decide +kernel
theorem dX5_number_110 : decode cX5_number 110 = .ok (.getfield 72, 3) := by decide +kernel
theorem dX5_number_113 : decode cX5_number 113 = .ok (.ifCond .le 5, 3) := by decide +kernel
theorem dX5_number_116 : decode cX5_number 116 = .ok (.iconst 0, 1) := by decide +kernel
theorem dX5_number_117 : decode cX5_number 117 = .ok (.ireturn, 1) := by decide +kernel
theorem dX5_number_118 : decode cX5_number 118 = .ok (.aload_n 0, 1) := by decide +kernel
theorem dX5_number_119 : decode cX5_number 119 = .ok (.getfield 7, 3) := by decide +kernel
theorem dX5_number_122 : decode cX5_number 122 = .ok (.aload_n 0, 1) := by decide +kernel
theorem dX5_number_123 : decode cX5_number 123 = .ok (.getfield 86, 3) := by decide +kernel
theorem dX5_number_126 : decode cX5_number 126 = .ok (.iconst 0, 1) := by decide +kernel
theorem dX5_number_127 : decode cX5_number 127 = .ok (.bastore, 1) := by decide +kernel
theorem dX5_number_128 : decode cX5_number 128 = .ok (.aload_n 0, 1) := by decide +kernel
theorem dX5_number_129 : decode cX5_number 129 = .ok (.getfield 13, 3) := by decide +kernel
theorem dX5_number_132 : decode cX5_number 132 = .ok (.aload_n 0, 1) := by decide +kernel
theorem dX5_number_133 : decode cX5_number 133 = .ok (.getfield 86, 3) := by decide +kernel
theorem dX5_number_136 : decode cX5_number 136 = .ok (.iload_n 1, 1) := by decide +kernel
theorem dX5_number_137 : decode cX5_number 137 = .ok (.iastore, 1) := by decide +kernel
theorem dX5_number_138 : decode cX5_number 138 = .ok (.aload_n 0, 1) := by decide +kernel
theorem dX5_number_139 : decode cX5_number 139 = .ok (.getfield 17, 3) := by decide +kernel
theorem dX5_number_142 : decode cX5_number 142 = .ok (.aload_n 0, 1) := by decide +kernel
theorem dX5_number_143 : decode cX5_number 143 = .ok (.getfield 86, 3) := by decide +kernel
theorem dX5_number_146 : decode cX5_number 146 = .ok (.iload_n 2, 1) := by decide +kernel
theorem dX5_number_147 : decode cX5_number 147 = .ok (.iastore, 1) := by decide +kernel
theorem dX5_number_148 : decode cX5_number 148 = .ok (.aload_n 0, 1) := by decide +kernel
theorem dX5_number_149 : decode cX5_number 149 = .ok (.dup, 1) := by decide +kernel
theorem dX5_number_150 : decode cX5_number 150 = .ok (.getfield 86, 3) := by decide +kernel
theorem dX5_number_153 : decode cX5_number 153 = .ok (.iconst 1, 1) := by decide +kernel
theorem dX5_number_154 : decode cX5_number 154 = .ok (.iadd, 1) := by decide +kernel
theorem dX5_number_155 : decode cX5_number 155 = .ok (.putfield 86, 3) := by decide +kernel
theorem dX5_number_158 : decode cX5_number 158 = .ok (.aload_n 0, 1) := by decide +kernel
theorem dX5_number_159 : decode cX5_number 159 = .ok (.getfield 86, 3) := by decide +kernel
theorem dX5_number_162 : decode cX5_number 162 = .ok (.iconst 1, 1) := by decide +kernel
theorem dX5_number_163 : decode cX5_number 163 = .ok (.isub, 1) := by decide +kernel
theorem dX5_number_164 : decode cX5_number 164 = .ok (.ireturn, 1) := by decide +kernel
set_option maxRecDepth 20000 in
theorem ggX5_text_X5_isWord : GoodIn wsX5_text wsX5_isWord := goodIn_r _ [11, 2, 5, 6, 12, 13, 14, 15, 16, 17, 18, 19, 20, 21, 22, 23, 24, 25, 26, 27, 28, 29, 30, 31, 32, 33, 34, 35, 36, 37, 38, 39] (by decide +kernel) (by decide +kernel)
set_option maxRecDepth 20000 in
theorem gX5_text_X5_isWord : GoodIn wsX5_text (wsV RX5 91 RX5 yX5_isWord wsX5_isWord) := goodIn_app (goodIn_of _ (by decide +kernel)) ggX5_text_X5_isWord
theorem dX5_text_0 : decode cX5_text 0 = .ok (.iconst 0, 1) := by decide +kernel
theorem dX5_text_1 : decode cX5_text 1 = .ok (.istore_n 3, 1) := by decide +kernel
theorem dX5_text_2 : decode cX5_text 2 = .ok (.iconst 1, 1) := by decide +kernel
theorem dX5_text_3 : decode cX5_text 3 = .ok (.istore 4, 2) := by decide +kernel
theorem dX5_text_5 : decode cX5_text 5 = .ok (.aload_n 0, 1) := by decide +kernel
theorem dX5_text_6 : decode cX5_text 6 = .ok (.getfield 86, 3) := by decide +kernel
theorem dX5_text_9 : decode cX5_text 9 = .ok (.bipush 60, 2) := by decide +kernel
theorem dX5_text_11 : decode cX5_text 11 = .ok (.if_icmp .ne 8, 3) := by decide +kernel
theorem dX5_text_14 : decode cX5_text 14 = .ok (.bipush 59, 2) := by decide +kernel
theorem dX5_text_16 : decode cX5_text 16 = .ok (.goto 7, 3) := by decide +kernel
theorem dX5_text_19 : decode cX5_text 19 = .ok (.aload_n 0, 1) := by decide +kernel
theorem dX5_text_20 : decode cX5_text 20 = .ok (.getfield 86, 3) := by decide +kernel
theorem dX5_text_23 : decode cX5_text 23 = .ok (.istore 5, 2) := by decide +kernel
theorem dX5_text_25 : decode cX5_text 25 = .ok (.bipush 7, 2) := by decide +kernel
theorem dX5_text_27 : decode cX5_text 27 = .ok (.istore 6, 2) := by decide +kernel
theorem dX5_text_29 : decode cX5_text 29 = .ok (.iload 6, 2) := by decide +kernel
theorem dX5_text_31 : decode cX5_text 31 = .ok (.ifCond .lt 67, 3) := by decide +kernel
theorem dX5_text_34 : decode cX5_text 34 = .ok (.lload_n 1, 1) := by decide +kernel
theorem dX5_text_35 : decode cX5_text 35 = .ok (.bipush 8, 2) := by decide +kernel
theorem dX5_text_37 : decode cX5_text 37 = .ok (.iload 6, 2) := by decide +kernel
theorem dX5_text_39 : decode cX5_text 39 = .ok (.imul, 1) := by decide +kernel
theorem dX5_text_40 : decode cX5_text 40 = .ok (.lshr, 1) := by decide +kernel
theorem dX5_text_41 : decode cX5_text 41 = .ok (.ldc2_w 89, 3) := by decide +kernel
theorem dX5_text_44 : decode cX5_text 44 = .ok (.land, 1) := by decide +kernel
theorem dX5_text_45 : decode cX5_text 45 = .ok (.l2i, 1) := by decide +kernel
theorem dX5_text_46 : decode cX5_text 46 = .ok (.istore 7, 2) := by decide +kernel
theorem dX5_text_48 : decode cX5_text 48 = .ok (.iload 4, 2) := by decide +kernel
theorem dX5_text_50 : decode cX5_text 50 = .ok (.ifCond .eq 26, 3) := by decide +kernel
theorem dX5_text_53 : decode cX5_text 53 = .ok (.iload 7, 2) := by decide +kernel
theorem dX5_text_55 : decode cX5_text 55 = .ok (.ifCond .eq 17, 3) := by decide +kernel
theorem dX5_text_58 : decode cX5_text 58 = .ok (.iload 7, 2) := by decide +kernel
theorem dX5_text_60 : decode cX5_text 60 = .ok (.bipush 97, 2) := by decide +kernel
theorem dX5_text_62 : decode cX5_text 62 = .ok (.if_icmp .lt 14, 3) := by decide +kernel
theorem dX5_text_65 : decode cX5_text 65 = .ok (.iload 7, 2) := by decide +kernel
theorem dX5_text_67 : decode cX5_text 67 = .ok (.bipush 122, 2) := by decide +kernel
theorem dX5_text_69 : decode cX5_text 69 = .ok (.if_icmp .gt 7, 3) := by decide +kernel
theorem dX5_text_72 : decode cX5_text 72 = .ok (.iconst 1, 1) := by decide +kernel
theorem dX5_text_73 : decode cX5_text 73 = .ok (.goto 4, 3) := by decide +kernel
theorem dX5_text_76 : decode cX5_text 76 = .ok (.iconst 0, 1) := by decide +kernel
theorem dX5_text_77 : decode cX5_text 77 = .ok (.istore 4, 2) := by decide +kernel
theorem dX5_text_79 : decode cX5_text 79 = .ok (.iload_n 3, 1) := by decide +kernel
theorem dX5_text_80 : decode cX5_text 80 = .ok (.iload 7, 2) := by decide +kernel
theorem dX5_text_82 : decode cX5_text 82 = .ok (.ifCond .ne 7, 3) := by decide +kernel
theorem dX5_text_85 : decode cX5_text 85 = .ok (.iconst 0, 1) := by decide +kernel
theorem dX5_text_86 : decode cX5_text 86 = .ok (.goto 4, 3) := by decide +kernel
theorem dX5_text_89 : decode cX5_text 89 = .ok (.iconst 1, 1) := by decide +kernel
theorem dX5_text_90 : decode cX5_text 90 = .ok (.iadd, 1) := by decide +kernel
theorem dX5_text_91 : decode cX5_text 91 = .ok (.istore_n 3, 1) := by decide +kernel
theorem dX5_text_92 : decode cX5_text 92 = .ok (.iinc 6 (-1), 3) := by decide +kernel
theorem dX5_text_95 : decode cX5_text 95 = .ok (.goto (-66), 3) := by decide +kernel
theorem dX5_text_98 : decode cX5_text 98 = .ok (.aload_n 0, 1) := by decide +kernel
theorem dX5_text_99 : decode cX5_text 99 = .ok (.iload 4, 2) := by decide +kernel
theorem dX5_text_101 : decode cX5_text 101 = .ok (.ifCond .eq 11, 3) := by decide +kernel
theorem dX5_text_104 : decode cX5_text 104 = .ok (.iload_n 3, 1) := by decide +kernel
theorem dX5_text_105 : decode cX5_text 105 = .ok (.ifCond .le 7, 3) := by decide +kernel
theorem dX5_text_108 : decode cX5_text 108 = .ok (.iconst 0, 1) := by decide +kernel
theorem dX5_text_109 : decode cX5_text 109 = .ok (.goto 4, 3) := by decide +kernel
theorem dX5_text_112 : decode cX5_text 112 = .ok (.iconst 1, 1) := by decide +kernel
theorem dX5_text_113 : decode cX5_text 113 = .ok (.putfield 72, 3) := by decide +kernel
theorem dX5_text_116 : decode cX5_text 116 = .ok (.aload_n 0, 1) := by decide +kernel
theorem dX5_text_117 : decode cX5_text 117 = .ok (.getfield 72, 3) := by decide +kernel
theorem dX5_text_120 : decode cX5_text 120 = .ok (.ifCond .le 5, 3) := by decide +kernel
theorem dX5_text_123 : decode cX5_text 123 = .ok (.iconst 0, 1) := by decide +kernel
theorem dX5_text_124 : decode cX5_text 124 = .ok (.ireturn, 1) := by decide +kernel
theorem dX5_text_125 : decode cX5_text 125 = .ok (.iconst 0, 1) := by decide +kernel
theorem dX5_text_126 : decode cX5_text 126 = .ok (.istore 6, 2) := by decide +kernel
theorem dX5_text_128 : decode cX5_text 128 = .ok (.iload 6, 2) := by decide +kernel
theorem dX5_text_130 : decode cX5_text 130 = .ok (.aload_n 0, 1) := by decide +kernel
theorem dX5_text_131 : decode cX5_text 131 = .ok (.getfield 86, 3) := by decide +kernel
theorem dX5_text_134 : decode cX5_text 134 = .ok (.if_icmp .ge 43, 3) := by decide +kernel
theorem dX5_text_137 : decode cX5_text 137 = .ok (.aload_n 0, 1) := by decide +kernel
theorem dX5_text_138 : decode cX5_text 138 = .ok (.getfield 7, 3) := by decide +kernel
theorem dX5_text_141 : decode cX5_text 141 = .ok (.iload 6, 2) := by decide +kernel
theorem dX5_text_143 : decode cX5_text 143 = .ok (.baload, 1) := by decide +kernel
theorem dX5_text_144 : decode cX5_text 144 = .ok (.ifCond .eq 27, 3) := by decide +kernel
theorem dX5_text_147 : decode cX5_text 147 = .ok (.aload_n 0, 1) := by decide +kernel
theorem dX5_text_148 : decode cX5_text 148 = .ok (.getfield 20, 3) := by decide +kernel
theorem dX5_text_151 : decode cX5_text 151 = .ok (.iload 6, 2) := by decide +kernel
theorem dX5_text_153 : decode cX5_text 153 = .ok (.iaload, 1) := by decide +kernel
theorem dX5_text_154 : decode cX5_text 154 = .ok (.iload_n 3, 1) := by decide +kernel
theorem dX5_text_155 : decode cX5_text 155 = .ok (.if_icmp .ne 16, 3) := by decide +kernel
theorem dX5_text_158 : decode cX5_text 158 = .ok (.aload_n 0, 1) := by decide +kernel
theorem dX5_text_159 : decode cX5_text 159 = .ok (.iload 6, 2) := by decide +kernel
theorem dX5_text_161 : decode cX5_text 161 = .ok (.lload_n 1, 1) := by decide +kernel
theorem dX5_text_162 : decode cX5_text 162 = .ok (.invokevirtual 91, 3) := by decide +kernel
theorem dX5_text_165 : decode cX5_text 165 = .ok (.ifCond .eq 6, 3) := by decide +kernel
theorem dX5_text_168 : decode cX5_text 168 = .ok (.iload 6, 2) := by decide +kernel
theorem dX5_text_170 : decode cX5_text 170 = .ok (.ireturn, 1) := by decide +kernel
theorem dX5_text_171 : decode cX5_text 171 = .ok (.iinc 6 1, 3) := by decide +kernel
theorem dX5_text_174 : decode cX5_text 174 = .ok (.goto (-46), 3) := by decide +kernel
theorem dX5_text_177 : decode cX5_text 177 = .ok (.aload_n 0, 1) := by decide +kernel
theorem dX5_text_178 : decode cX5_text 178 = .ok (.aload_n 0, 1) := by decide +kernel
theorem dX5_text_179 : decode cX5_text 179 = .ok (.getfield 86, 3) := by decide +kernel
theorem dX5_text_182 : decode cX5_text 182 = .ok (.bipush 60, 2) := by decide +kernel
theorem dX5_text_184 : decode cX5_text 184 = .ok (.if_icmp .ne 7, 3) := by decide +kernel
theorem dX5_text_187 : decode cX5_text 187 = .ok (.iconst 2, 1) := by decide +kernel
theorem dX5_text_188 : decode cX5_text 188 = .ok (.goto 4, 3) := by decide +kernel
theorem dX5_text_191 : decode cX5_text 191 = .ok (.iconst 0, 1) := by decide +kernel
theorem dX5_text_192 : decode cX5_text 192 = .ok (.putfield 72, 3) := by decide +kernel
theorem dX5_text_195 : decode cX5_text 195 = .ok (.aload_n 0, 1) := by decide +kernel
theorem dX5_text_196 : decode cX5_text 196 = .ok (.getfield 72, 3) := by decide +kernel
theorem dX5_text_199 : decode cX5_text 199 = .ok (.ifCond .le 5, 3) := by decide +kernel
theorem dX5_text_202 : decode cX5_text 202 = .ok (.iconst 0, 1) := by decide +kernel
theorem dX5_text_203 : decode cX5_text 203 = .ok (.ireturn, 1) := by decide +kernel
theorem dX5_text_204 : decode cX5_text 204 = .ok (.iconst 0, 1) := by decide +kernel
theorem dX5_text_205 : decode cX5_text 205 = .ok (.istore 6, 2) := by decide +kernel
theorem dX5_text_207 : decode cX5_text 207 = .ok (.bipush 7, 2) := by decide +kernel
theorem dX5_text_209 : decode cX5_text 209 = .ok (.istore 7, 2) := by decide +kernel
theorem dX5_text_211 : decode cX5_text 211 = .ok (.iload 7, 2) := by decide +kernel
theorem dX5_text_213 : decode cX5_text 213 = .ok (.ifCond .lt 46, 3) := by decide +kernel
theorem dX5_text_216 : decode cX5_text 216 = .ok (.lload_n 1, 1) := by decide +kernel
theorem dX5_text_217 : decode cX5_text 217 = .ok (.bipush 8, 2) := by decide +kernel
theorem dX5_text_219 : decode cX5_text 219 = .ok (.iload 7, 2) := by decide +kernel
theorem dX5_text_221 : decode cX5_text 221 = .ok (.imul, 1) := by decide +kernel
theorem dX5_text_222 : decode cX5_text 222 = .ok (.lshr, 1) := by decide +kernel
theorem dX5_text_223 : decode cX5_text 223 = .ok (.ldc2_w 89, 3) := by decide +kernel
theorem dX5_text_226 : decode cX5_text 226 = .ok (.land, 1) := by decide +kernel
theorem dX5_text_227 : decode cX5_text 227 = .ok (.l2i, 1) := by decide +kernel
theorem dX5_text_228 : decode cX5_text 228 = .ok (.istore 8, 2) := by decide +kernel
theorem dX5_text_230 : decode cX5_text 230 = .ok (.iload 8, 2) := by decide +kernel
theorem dX5_text_232 : decode cX5_text 232 = .ok (.ifCond .eq 21, 3) := by decide +kernel
theorem dX5_text_235 : decode cX5_text 235 = .ok (.aload_n 0, 1) := by decide +kernel
theorem dX5_text_236 : decode cX5_text 236 = .ok (.getfield 23, 3) := by decide +kernel
theorem dX5_text_239 : decode cX5_text 239 = .ok (.bipush 8, 2) := by decide +kernel
theorem dX5_text_241 : decode cX5_text 241 = .ok (.iload 5, 2) := by decide +kernel
theorem dX5_text_243 : decode cX5_text 243 = .ok (.imul, 1) := by decide +kernel
theorem dX5_text_244 : decode cX5_text 244 = .ok (.iload 6, 2) := by decide +kernel
theorem dX5_text_246 : decode cX5_text 246 = .ok (.iadd, 1) := by decide +kernel
theorem dX5_text_247 : decode cX5_text 247 = .ok (.iload 8, 2) := by decide +kernel
theorem dX5_text_249 : decode cX5_text 249 = .ok (.iastore, 1) := by decide +kernel
theorem dX5_text_250 : decode cX5_text 250 = .ok (.iinc 6 1, 3) := by decide +kernel
theorem dX5_text_253 : decode cX5_text 253 = .ok (.iinc 7 (-1), 3) := by decide +kernel
theorem dX5_text_256 : decode cX5_text 256 = .ok (.goto (-45), 3) := by decide +kernel
theorem dX5_text_259 : decode cX5_text 259 = .ok (.aload_n 0, 1) := by decide +kernel
theorem dX5_text_260 : decode cX5_text 260 = .ok (.getfield 7, 3) := by decide +kernel
theorem dX5_text_263 : decode cX5_text 263 = .ok (.iload 5, 2) := by decide +kernel
theorem dX5_text_265 : decode cX5_text 265 = .ok (.iconst 1, 1) := by decide +kernel
theorem dX5_text_266 : decode cX5_text 266 = .ok (.bastore, 1) := by decide +kernel
theorem dX5_text_267 : decode cX5_text 267 = .ok (.aload_n 0, 1) := by decide +kernel
theorem dX5_text_268 : decode cX5_text 268 = .ok (.getfield 20, 3) := by decide +kernel
theorem dX5_text_271 : decode cX5_text 271 = .ok (.iload 5, 2) := by decide +kernel
theorem dX5_text_273 : decode cX5_text 273 = .ok (.iload_n 3, 1) := by decide +kernel
theorem dX5_text_274 : decode cX5_text 274 = .ok (.iastore, 1) := by decide +kernel
theorem dX5_text_275 : decode cX5_text 275 = .ok (.aload_n 0, 1) := by decide +kernel
theorem dX5_text_276 : decode cX5_text 276 = .ok (.dup, 1) := by decide +kernel
theorem dX5_text_277 : decode cX5_text 277 = .ok (.getfield 86, 3) := by decide +kernel
theorem dX5_text_280 : decode cX5_text 280 = .ok (.iconst 1, 1) := by decide +kernel
theorem dX5_text_281 : decode cX5_text 281 = .ok (.iadd, 1) := by decide +kernel
theorem dX5_text_282 : decode cX5_text 282 = .ok (.putfield 86, 3) := by decide +kernel
theorem dX5_text_285 : decode cX5_text 285 = .ok (.iload 5, 2) := by decide +kernel
theorem dX5_text_287 : decode cX5_text 287 = .ok (.ireturn, 1) := by decide +kernel
theorem dX5_isWord_0 : decode cX5_isWord 0 = .ok (.iconst 1, 1) := by decide +kernel
theorem dX5_isWord_1 : decode cX5_isWord 1 = .ok (.istore 4, 2) := by decide +kernel
theorem dX5_isWord_3 : decode cX5_isWord 3 = .ok (.iconst 0, 1) := by decide +kernel
theorem dX5_isWord_4 : decode cX5_isWord 4 = .ok (.istore 5, 2) := by decide +kernel
theorem dX5_isWord_6 : decode cX5_isWord 6 = .ok (.bipush 7, 2) := by decide +kernel
theorem dX5_isWord_8 : decode cX5_isWord 8 = .ok (.istore 6, 2) := by decide +kernel
theorem dX5_isWord_10 : decode cX5_isWord 10 = .ok (.iload 6, 2) := by decide +kernel
theorem dX5_isWord_12 : decode cX5_isWord 12 = .ok (.ifCond .lt 71, 3) := by decide +kernel
theorem dX5_isWord_15 : decode cX5_isWord 15 = .ok (.lload_n 2, 1) := by decide +kernel
theorem dX5_isWord_16 : decode cX5_isWord 16 = .ok (.bipush 8, 2) := by decide +kernel
theorem dX5_isWord_18 : decode cX5_isWord 18 = .ok (.iload 6, 2) := by decide +kernel
theorem dX5_isWord_20 : decode cX5_isWord 20 = .ok (.imul, 1) := by decide +kernel
theorem dX5_isWord_21 : decode cX5_isWord 21 = .ok (.lshr, 1) := by decide +kernel
theorem dX5_isWord_22 : decode cX5_isWord 22 = .ok (.ldc2_w 89, 3) := by decide +kernel
theorem dX5_isWord_25 : decode cX5_isWord 25 = .ok (.land, 1) := by decide +kernel
theorem dX5_isWord_26 : decode cX5_isWord 26 = .ok (.l2i, 1) := by decide +kernel
theorem dX5_isWord_27 : decode cX5_isWord 27 = .ok (.istore 7, 2) := by decide +kernel
theorem dX5_isWord_29 : decode cX5_isWord 29 = .ok (.iload 7, 2) := by decide +kernel
theorem dX5_isWord_31 : decode cX5_isWord 31 = .ok (.ifCond .eq 46, 3) := by decide +kernel
theorem dX5_isWord_34 : decode cX5_isWord 34 = .ok (.iload 4, 2) := by decide +kernel
theorem dX5_isWord_36 : decode cX5_isWord 36 = .ok (.ifCond .eq 35, 3) := by decide +kernel
theorem dX5_isWord_39 : decode cX5_isWord 39 = .ok (.iload 5, 2) := by decide +kernel
theorem dX5_isWord_41 : decode cX5_isWord 41 = .ok (.aload_n 0, 1) := by decide +kernel
theorem dX5_isWord_42 : decode cX5_isWord 42 = .ok (.getfield 20, 3) := by decide +kernel
theorem dX5_isWord_45 : decode cX5_isWord 45 = .ok (.iload_n 1, 1) := by decide +kernel
theorem dX5_isWord_46 : decode cX5_isWord 46 = .ok (.iaload, 1) := by decide +kernel
theorem dX5_isWord_47 : decode cX5_isWord 47 = .ok (.if_icmp .ge 24, 3) := by decide +kernel
theorem dX5_isWord_50 : decode cX5_isWord 50 = .ok (.aload_n 0, 1) := by decide +kernel
theorem dX5_isWord_51 : decode cX5_isWord 51 = .ok (.getfield 23, 3) := by decide +kernel
theorem dX5_isWord_54 : decode cX5_isWord 54 = .ok (.bipush 8, 2) := by decide +kernel
theorem dX5_isWord_56 : decode cX5_isWord 56 = .ok (.iload_n 1, 1) := by decide +kernel
theorem dX5_isWord_57 : decode cX5_isWord 57 = .ok (.imul, 1) := by decide +kernel
theorem dX5_isWord_58 : decode cX5_isWord 58 = .ok (.iload 5, 2) := by decide +kernel
theorem dX5_isWord_60 : decode cX5_isWord 60 = .ok (.iadd, 1) := by decide +kernel
theorem dX5_isWord_61 : decode cX5_isWord 61 = .ok (.iaload, 1) := by decide +kernel
theorem dX5_isWord_62 : decode cX5_isWord 62 = .ok (.iload 7, 2) := by decide +kernel
theorem dX5_isWord_64 : decode cX5_isWord 64 = .ok (.if_icmp .ne 7, 3) := by decide +kernel
theorem dX5_isWord_67 : decode cX5_isWord 67 = .ok (.iconst 1, 1) := by decide +kernel
theorem dX5_isWord_68 : decode cX5_isWord 68 = .ok (.goto 4, 3) := by decide +kernel
theorem dX5_isWord_71 : decode cX5_isWord 71 = .ok (.iconst 0, 1) := by decide +kernel
theorem dX5_isWord_72 : decode cX5_isWord 72 = .ok (.istore 4, 2) := by decide +kernel
theorem dX5_isWord_74 : decode cX5_isWord 74 = .ok (.iinc 5 1, 3) := by decide +kernel
theorem dX5_isWord_77 : decode cX5_isWord 77 = .ok (.iinc 6 (-1), 3) := by decide +kernel
theorem dX5_isWord_80 : decode cX5_isWord 80 = .ok (.goto (-70), 3) := by decide +kernel
theorem dX5_isWord_83 : decode cX5_isWord 83 = .ok (.iload 4, 2) := by decide +kernel
theorem dX5_isWord_85 : decode cX5_isWord 85 = .ok (.ifCond .eq 18, 3) := by decide +kernel
theorem dX5_isWord_88 : decode cX5_isWord 88 = .ok (.iload 5, 2) := by decide +kernel
theorem dX5_isWord_90 : decode cX5_isWord 90 = .ok (.aload_n 0, 1) := by decide +kernel
theorem dX5_isWord_91 : decode cX5_isWord 91 = .ok (.getfield 20, 3) := by decide +kernel
theorem dX5_isWord_94 : decode cX5_isWord 94 = .ok (.iload_n 1, 1) := by decide +kernel
theorem dX5_isWord_95 : decode cX5_isWord 95 = .ok (.iaload, 1) := by decide +kernel
theorem dX5_isWord_96 : decode cX5_isWord 96 = .ok (.if_icmp .ne 7, 3) := by decide +kernel
theorem dX5_isWord_99 : decode cX5_isWord 99 = .ok (.iconst 1, 1) := by decide +kernel
theorem dX5_isWord_100 : decode cX5_isWord 100 = .ok (.goto 4, 3) := by decide +kernel
theorem dX5_isWord_103 : decode cX5_isWord 103 = .ok (.iconst 0, 1) := by decide +kernel
theorem dX5_isWord_104 : decode cX5_isWord 104 = .ok (.ireturn, 1) := by decide +kernel
theorem dX5_thousandths_0 : decode cX5_thousandths 0 = .ok (.aload_n 0, 1) := by decide +kernel
theorem dX5_thousandths_1 : decode cX5_thousandths 1 = .ok (.getfield 13, 3) := by decide +kernel
theorem dX5_thousandths_4 : decode cX5_thousandths 4 = .ok (.iload_n 1, 1) := by decide +kernel
theorem dX5_thousandths_5 : decode cX5_thousandths 5 = .ok (.iaload, 1) := by decide +kernel
theorem dX5_thousandths_6 : decode cX5_thousandths 6 = .ok (.i2l, 1) := by decide +kernel
theorem dX5_thousandths_7 : decode cX5_thousandths 7 = .ok (.lstore_n 2, 1) := by decide +kernel
theorem dX5_thousandths_8 : decode cX5_thousandths 8 = .ok (.aload_n 0, 1) := by decide +kernel
theorem dX5_thousandths_9 : decode cX5_thousandths 9 = .ok (.getfield 17, 3) := by decide +kernel
theorem dX5_thousandths_12 : decode cX5_thousandths 12 = .ok (.iload_n 1, 1) := by decide +kernel
theorem dX5_thousandths_13 : decode cX5_thousandths 13 = .ok (.iaload, 1) := by decide +kernel
theorem dX5_thousandths_14 : decode cX5_thousandths 14 = .ok (.istore 4, 2) := by decide +kernel
theorem dX5_thousandths_16 : decode cX5_thousandths 16 = .ok (.iload 4, 2) := by decide +kernel
theorem dX5_thousandths_18 : decode cX5_thousandths 18 = .ok (.iconst 3, 1) := by decide +kernel
theorem dX5_thousandths_19 : decode cX5_thousandths 19 = .ok (.if_icmp .ge 15, 3) := by decide +kernel
theorem dX5_thousandths_22 : decode cX5_thousandths 22 = .ok (.lload_n 2, 1) := by decide +kernel
theorem dX5_thousandths_23 : decode cX5_thousandths 23 = .ok (.ldc2_w 95, 3) := by decide +kernel
theorem dX5_thousandths_26 : decode cX5_thousandths 26 = .ok (.lmul, 1) := by decide +kernel
theorem dX5_thousandths_27 : decode cX5_thousandths 27 = .ok (.lstore_n 2, 1) := by decide +kernel
theorem dX5_thousandths_28 : decode cX5_thousandths 28 = .ok (.iinc 4 1, 3) := by decide +kernel
theorem dX5_thousandths_31 : decode cX5_thousandths 31 = .ok (.goto (-15), 3) := by decide +kernel
theorem dX5_thousandths_34 : decode cX5_thousandths 34 = .ok (.lload_n 2, 1) := by decide +kernel
theorem dX5_thousandths_35 : decode cX5_thousandths 35 = .ok (.lreturn, 1) := by decide +kernel
set_option maxRecDepth 20000 in
theorem ggX5_compare_X5_thousandths : GoodIn wsX5_compare wsX5_thousandths := goodIn_r _ [8, 9, 10, 11, 12, 13, 14, 15, 16, 17, 18, 19, 20, 21, 22, 23, 24, 25, 26, 27, 28, 29, 30, 31, 32, 33, 34, 35, 36, 37, 38, 39] (by decide +kernel) (by decide +kernel)
set_option maxRecDepth 20000 in
theorem gX5_compare_X5_thousandths : GoodIn wsX5_compare (wsV RX5 97 RX5 yX5_thousandths wsX5_thousandths) := goodIn_app (goodIn_of _ (by decide +kernel)) ggX5_compare_X5_thousandths
theorem dX5_compare_0 : decode cX5_compare 0 = .ok (.aload_n 0, 1) := by decide +kernel
theorem dX5_compare_1 : decode cX5_compare 1 = .ok (.getfield 7, 3) := by decide +kernel
theorem dX5_compare_4 : decode cX5_compare 4 = .ok (.iload_n 1, 1) := by decide +kernel
theorem dX5_compare_5 : decode cX5_compare 5 = .ok (.baload, 1) := by decide +kernel
theorem dX5_compare_6 : decode cX5_compare 6 = .ok (.aload_n 0, 1) := by decide +kernel
theorem dX5_compare_7 : decode cX5_compare 7 = .ok (.getfield 7, 3) := by decide +kernel
theorem dX5_compare_10 : decode cX5_compare 10 = .ok (.iload_n 2, 1) := by decide +kernel
theorem dX5_compare_11 : decode cX5_compare 11 = .ok (.baload, 1) := by decide +kernel
theorem dX5_compare_12 : decode cX5_compare 12 = .ok (.if_icmp .eq 18, 3) := by decide +kernel
theorem dX5_compare_15 : decode cX5_compare 15 = .ok (.aload_n 0, 1) := by decide +kernel
theorem dX5_compare_16 : decode cX5_compare 16 = .ok (.getfield 7, 3) := by decide +kernel
theorem dX5_compare_19 : decode cX5_compare 19 = .ok (.iload_n 2, 1) := by decide +kernel
theorem dX5_compare_20 : decode cX5_compare 20 = .ok (.baload, 1) := by decide +kernel
theorem dX5_compare_21 : decode cX5_compare 21 = .ok (.ifCond .eq 7, 3) := by decide +kernel
theorem dX5_compare_24 : decode cX5_compare 24 = .ok (.iconst (-1), 1) := by decide +kernel
theorem dX5_compare_25 : decode cX5_compare 25 = .ok (.goto 4, 3) := by decide +kernel
theorem dX5_compare_28 : decode cX5_compare 28 = .ok (.iconst 1, 1) := by decide +kernel
theorem dX5_compare_29 : decode cX5_compare 29 = .ok (.ireturn, 1) := by decide +kernel
theorem dX5_compare_30 : decode cX5_compare 30 = .ok (.aload_n 0, 1) := by decide +kernel
theorem dX5_compare_31 : decode cX5_compare 31 = .ok (.getfield 7, 3) := by decide +kernel
theorem dX5_compare_34 : decode cX5_compare 34 = .ok (.iload_n 1, 1) := by decide +kernel
theorem dX5_compare_35 : decode cX5_compare 35 = .ok (.baload, 1) := by decide +kernel
theorem dX5_compare_36 : decode cX5_compare 36 = .ok (.ifCond .ne 40, 3) := by decide +kernel
theorem dX5_compare_39 : decode cX5_compare 39 = .ok (.aload_n 0, 1) := by decide +kernel
theorem dX5_compare_40 : decode cX5_compare 40 = .ok (.iload_n 1, 1) := by decide +kernel
theorem dX5_compare_41 : decode cX5_compare 41 = .ok (.invokevirtual 97, 3) := by decide +kernel
theorem dX5_compare_44 : decode cX5_compare 44 = .ok (.lstore_n 3, 1) := by decide +kernel
theorem dX5_compare_45 : decode cX5_compare 45 = .ok (.aload_n 0, 1) := by decide +kernel
theorem dX5_compare_46 : decode cX5_compare 46 = .ok (.iload_n 2, 1) := by decide +kernel
theorem dX5_compare_47 : decode cX5_compare 47 = .ok (.invokevirtual 97, 3) := by decide +kernel
theorem dX5_compare_50 : decode cX5_compare 50 = .ok (.lstore 5, 2) := by decide +kernel
theorem dX5_compare_52 : decode cX5_compare 52 = .ok (.lload_n 3, 1) := by decide +kernel
theorem dX5_compare_53 : decode cX5_compare 53 = .ok (.lload 5, 2) := by decide +kernel
theorem dX5_compare_55 : decode cX5_compare 55 = .ok (.lcmp, 1) := by decide +kernel
theorem dX5_compare_56 : decode cX5_compare 56 = .ok (.ifCond .ge 7, 3) := by decide +kernel
theorem dX5_compare_59 : decode cX5_compare 59 = .ok (.iconst (-1), 1) := by decide +kernel
theorem dX5_compare_60 : decode cX5_compare 60 = .ok (.goto 15, 3) := by decide +kernel
theorem dX5_compare_63 : decode cX5_compare 63 = .ok (.lload_n 3, 1) := by decide +kernel
theorem dX5_compare_64 : decode cX5_compare 64 = .ok (.lload 5, 2) := by decide +kernel
theorem dX5_compare_66 : decode cX5_compare 66 = .ok (.lcmp, 1) := by decide +kernel
theorem dX5_compare_67 : decode cX5_compare 67 = .ok (.ifCond .le 7, 3) := by decide +kernel
theorem dX5_compare_70 : decode cX5_compare 70 = .ok (.iconst 1, 1) := by decide +kernel
theorem dX5_compare_71 : decode cX5_compare 71 = .ok (.goto 4, 3) := by decide +kernel
theorem dX5_compare_74 : decode cX5_compare 74 = .ok (.iconst 0, 1) := by decide +kernel
theorem dX5_compare_75 : decode cX5_compare 75 = .ok (.ireturn, 1) := by decide +kernel
theorem dX5_compare_76 : decode cX5_compare 76 = .ok (.iconst 0, 1) := by decide +kernel
theorem dX5_compare_77 : decode cX5_compare 77 = .ok (.istore_n 3, 1) := by decide +kernel
theorem dX5_compare_78 : decode cX5_compare 78 = .ok (.iload_n 3, 1) := by decide +kernel
theorem dX5_compare_79 : decode cX5_compare 79 = .ok (.aload_n 0, 1) := by decide +kernel
theorem dX5_compare_80 : decode cX5_compare 80 = .ok (.getfield 20, 3) := by decide +kernel
theorem dX5_compare_83 : decode cX5_compare 83 = .ok (.iload_n 1, 1) := by decide +kernel
theorem dX5_compare_84 : decode cX5_compare 84 = .ok (.iaload, 1) := by decide +kernel
theorem dX5_compare_85 : decode cX5_compare 85 = .ok (.if_icmp .ge 68, 3) := by decide +kernel
theorem dX5_compare_88 : decode cX5_compare 88 = .ok (.iload_n 3, 1) := by decide +kernel
theorem dX5_compare_89 : decode cX5_compare 89 = .ok (.aload_n 0, 1) := by decide +kernel
theorem dX5_compare_90 : decode cX5_compare 90 = .ok (.getfield 20, 3) := by decide +kernel
theorem dX5_compare_93 : decode cX5_compare 93 = .ok (.iload_n 2, 1) := by decide +kernel
theorem dX5_compare_94 : decode cX5_compare 94 = .ok (.iaload, 1) := by decide +kernel
theorem dX5_compare_95 : decode cX5_compare 95 = .ok (.if_icmp .ge 58, 3) := by decide +kernel
theorem dX5_compare_98 : decode cX5_compare 98 = .ok (.aload_n 0, 1) := by decide +kernel
theorem dX5_compare_99 : decode cX5_compare 99 = .ok (.getfield 23, 3) := by decide +kernel
theorem dX5_compare_102 : decode cX5_compare 102 = .ok (.bipush 8, 2) := by decide +kernel
theorem dX5_compare_104 : decode cX5_compare 104 = .ok (.iload_n 1, 1) := by decide +kernel
theorem dX5_compare_105 : decode cX5_compare 105 = .ok (.imul, 1) := by decide +kernel
theorem dX5_compare_106 : decode cX5_compare 106 = .ok (.iload_n 3, 1) := by decide +kernel
theorem dX5_compare_107 : decode cX5_compare 107 = .ok (.iadd, 1) := by decide +kernel
theorem dX5_compare_108 : decode cX5_compare 108 = .ok (.iaload, 1) := by decide +kernel
theorem dX5_compare_109 : decode cX5_compare 109 = .ok (.aload_n 0, 1) := by decide +kernel
theorem dX5_compare_110 : decode cX5_compare 110 = .ok (.getfield 23, 3) := by decide +kernel
theorem dX5_compare_113 : decode cX5_compare 113 = .ok (.bipush 8, 2) := by decide +kernel
theorem dX5_compare_115 : decode cX5_compare 115 = .ok (.iload_n 2, 1) := by decide +kernel
theorem dX5_compare_116 : decode cX5_compare 116 = .ok (.imul, 1) := by decide +kernel
theorem dX5_compare_117 : decode cX5_compare 117 = .ok (.iload_n 3, 1) := by decide +kernel
theorem dX5_compare_118 : decode cX5_compare 118 = .ok (.iadd, 1) := by decide +kernel
theorem dX5_compare_119 : decode cX5_compare 119 = .ok (.iaload, 1) := by decide +kernel
theorem dX5_compare_120 : decode cX5_compare 120 = .ok (.if_icmp .eq 27, 3) := by decide +kernel
theorem dX5_compare_123 : decode cX5_compare 123 = .ok (.aload_n 0, 1) := by decide +kernel
theorem dX5_compare_124 : decode cX5_compare 124 = .ok (.getfield 23, 3) := by decide +kernel
theorem dX5_compare_127 : decode cX5_compare 127 = .ok (.bipush 8, 2) := by decide +kernel
theorem dX5_compare_129 : decode cX5_compare 129 = .ok (.iload_n 1, 1) := by decide +kernel
theorem dX5_compare_130 : decode cX5_compare 130 = .ok (.imul, 1) := by decide +kernel
theorem dX5_compare_131 : decode cX5_compare 131 = .ok (.iload_n 3, 1) := by decide +kernel
theorem dX5_compare_132 : decode cX5_compare 132 = .ok (.iadd, 1) := by decide +kernel
theorem dX5_compare_133 : decode cX5_compare 133 = .ok (.iaload, 1) := by decide +kernel
