theorem dX3_least_0 : decode cX3_least 0 = .ok (.aload_n 0, 1) := by decide +kernel
theorem dX3_least_1 : decode cX3_least 1 = .ok (.invokevirtual 39, 3) := by decide +kernel
theorem dX3_least_4 : decode cX3_least 4 = .ok (.istore_n 2, 1) := by decide +kernel
theorem dX3_least_5 : decode cX3_least 5 = .ok (.iconst 1, 1) := by decide +kernel
theorem dX3_least_6 : decode cX3_least 6 = .ok (.istore_n 3, 1) := by decide +kernel
theorem dX3_least_7 : decode cX3_least 7 = .ok (.iload_n 3, 1) := by decide +kernel
theorem dX3_least_8 : decode cX3_least 8 = .ok (.aload_n 0, 1) := by decide +kernel
theorem dX3_least_9 : decode cX3_least 9 = .ok (.getfield 15, 3) := by decide +kernel
theorem dX3_least_12 : decode cX3_least 12 = .ok (.if_icmp .ge 30, 3) := by decide +kernel
theorem dX3_least_15 : decode cX3_least 15 = .ok (.aload_n 1, 1) := by decide +kernel
theorem dX3_least_16 : decode cX3_least 16 = .ok (.aload_n 0, 1) := by decide +kernel
theorem dX3_least_17 : decode cX3_least 17 = .ok (.getfield 9, 3) := by decide +kernel
theorem dX3_least_20 : decode cX3_least 20 = .ok (.iload_n 3, 1) := by decide +kernel
theorem dX3_least_21 : decode cX3_least 21 = .ok (.iaload, 1) := by decide +kernel
theorem dX3_least_22 : decode cX3_least 22 = .ok (.iload_n 2, 1) := by decide +kernel
theorem dX3_least_23 : decode cX3_least 23 = .ok (.invokevirtual 19, 3) := by decide +kernel
theorem dX3_least_26 : decode cX3_least 26 = .ok (.ifCond .ge 10, 3) := by decide +kernel
theorem dX3_least_29 : decode cX3_least 29 = .ok (.aload_n 0, 1) := by decide +kernel
theorem dX3_least_30 : decode cX3_least 30 = .ok (.getfield 9, 3) := by decide +kernel
theorem dX3_least_33 : decode cX3_least 33 = .ok (.iload_n 3, 1) := by decide +kernel
theorem dX3_least_34 : decode cX3_least 34 = .ok (.iaload, 1) := by decide +kernel
theorem dX3_least_35 : decode cX3_least 35 = .ok (.istore_n 2, 1) := by decide +kernel
theorem dX3_least_36 : decode cX3_least 36 = .ok (.iinc 3 1, 3) := by decide +kernel
theorem dX3_least_39 : decode cX3_least 39 = .ok (.goto (-32), 3) := by decide +kernel
theorem dX3_least_42 : decode cX3_least 42 = .ok (.iload_n 2, 1) := by decide +kernel
theorem dX3_least_43 : decode cX3_least 43 = .ok (.ireturn, 1) := by decide +kernel
set_option maxRecDepth 20000 in
theorem ggX3_greatest_X3_first : GoodIn wsX3_greatest wsX3_first := goodIn_r _ [7, 1, 2, 25, 26] (by decide +kernel) (by decide +kernel)
set_option maxRecDepth 20000 in
theorem gX3_greatest_X3_first : GoodIn wsX3_greatest (wsV RX3 39 RX3 yX3_first wsX3_first) := goodIn_app (goodIn_of _ (by decide +kernel)) ggX3_greatest_X3_first
set_option maxRecDepth 20000 in
theorem ggX3_greatest_X2_order : GoodIn wsX3_greatest wsX2_order := goodIn_r _ [12, 13, 14, 15, 16, 11, 17, 18, 19, 20, 21, 22, 23, 24, 27, 28, 29, 30] (by decide +kernel) (by decide +kernel)
set_option maxRecDepth 20000 in
theorem gX3_greatest_X2_order : GoodIn wsX3_greatest (wsV RX3 19 RX2 yX2_order wsX2_order) := goodIn_app (goodIn_of _ (by decide +kernel)) ggX3_greatest_X2_order
theorem dX3_greatest_0 : decode cX3_greatest 0 = .ok (.aload_n 0, 1) := by decide +kernel
theorem dX3_greatest_1 : decode cX3_greatest 1 = .ok (.invokevirtual 39, 3) := by decide +kernel
theorem dX3_greatest_4 : decode cX3_greatest 4 = .ok (.istore_n 2, 1) := by decide +kernel
theorem dX3_greatest_5 : decode cX3_greatest 5 = .ok (.iconst 1, 1) := by decide +kernel
theorem dX3_greatest_6 : decode cX3_greatest 6 = .ok (.istore_n 3, 1) := by decide +kernel
theorem dX3_greatest_7 : decode cX3_greatest 7 = .ok (.iload_n 3, 1) := by decide +kernel
theorem dX3_greatest_8 : decode cX3_greatest 8 = .ok (.aload_n 0, 1) := by decide +kernel
theorem dX3_greatest_9 : decode cX3_greatest 9 = .ok (.getfield 15, 3) := by decide +kernel
theorem dX3_greatest_12 : decode cX3_greatest 12 = .ok (.if_icmp .ge 30, 3) := by decide +kernel
theorem dX3_greatest_15 : decode cX3_greatest 15 = .ok (.aload_n 1, 1) := by decide +kernel
theorem dX3_greatest_16 : decode cX3_greatest 16 = .ok (.aload_n 0, 1) := by decide +kernel
theorem dX3_greatest_17 : decode cX3_greatest 17 = .ok (.getfield 9, 3) := by decide +kernel
theorem dX3_greatest_20 : decode cX3_greatest 20 = .ok (.iload_n 3, 1) := by decide +kernel
theorem dX3_greatest_21 : decode cX3_greatest 21 = .ok (.iaload, 1) := by decide +kernel
theorem dX3_greatest_22 : decode cX3_greatest 22 = .ok (.iload_n 2, 1) := by decide +kernel
theorem dX3_greatest_23 : decode cX3_greatest 23 = .ok (.invokevirtual 19, 3) := by decide +kernel
theorem dX3_greatest_26 : decode cX3_greatest 26 = .ok (.ifCond .le 10, 3) := by decide +kernel
theorem dX3_greatest_29 : decode cX3_greatest 29 = .ok (.aload_n 0, 1) := by decide +kernel
theorem dX3_greatest_30 : decode cX3_greatest 30 = .ok (.getfield 9, 3) := by decide +kernel
theorem dX3_greatest_33 : decode cX3_greatest 33 = .ok (.iload_n 3, 1) := by decide +kernel
theorem dX3_greatest_34 : decode cX3_greatest 34 = .ok (.iaload, 1) := by decide +kernel
theorem dX3_greatest_35 : decode cX3_greatest 35 = .ok (.istore_n 2, 1) := by decide +kernel
theorem dX3_greatest_36 : decode cX3_greatest 36 = .ok (.iinc 3 1, 3) := by decide +kernel
theorem dX3_greatest_39 : decode cX3_greatest 39 = .ok (.goto (-32), 3) := by decide +kernel
theorem dX3_greatest_42 : decode cX3_greatest 42 = .ok (.iload_n 2, 1) := by decide +kernel
theorem dX3_greatest_43 : decode cX3_greatest 43 = .ok (.ireturn, 1) := by decide +kernel
set_option maxRecDepth 20000 in
theorem ggX3_span_X3_greatest : GoodIn wsX3_span wsX3_greatest := goodIn_r _ [6, 1, 7, 8, 9, 10, 5, 11, 12, 13, 14, 15, 16, 17, 18, 19, 20, 21, 22, 23, 24, 25, 26, 27, 28, 34, 35, 36, 37, 38, 39] (by decide +kernel) (by decide +kernel)
set_option maxRecDepth 20000 in
theorem gX3_span_X3_greatest : GoodIn wsX3_span (wsV RX3 43 RX3 yX3_greatest wsX3_greatest) := goodIn_app (goodIn_of _ (by decide +kernel)) ggX3_span_X3_greatest
set_option maxRecDepth 20000 in
theorem ggX3_span_X2_thousandths : GoodIn wsX3_span wsX2_thousandths := goodIn_r _ [21, 22, 23, 24, 36, 37, 38, 39] (by decide +kernel) (by decide +kernel)
set_option maxRecDepth 20000 in
theorem gX3_span_X2_thousandths : GoodIn wsX3_span (wsV RX3 29 RX2 yX2_thousandths wsX2_thousandths) := goodIn_app (goodIn_of _ (by decide +kernel)) ggX3_span_X2_thousandths
set_option maxRecDepth 20000 in
theorem ggX3_span_X3_least : GoodIn wsX3_span wsX3_least := goodIn_r _ [33, 1, 7, 8, 9, 10, 5, 11, 12, 13, 14, 15, 16, 17, 18, 19, 20, 21, 22, 23, 24, 25, 26, 27, 28, 34, 35, 36, 37, 38, 39] (by decide +kernel) (by decide +kernel)
set_option maxRecDepth 20000 in
theorem gX3_span_X3_least : GoodIn wsX3_span (wsV RX3 47 RX3 yX3_least wsX3_least) := goodIn_app (goodIn_of _ (by decide +kernel)) ggX3_span_X3_least
theorem dX3_span_0 : decode cX3_span 0 = .ok (.aload_n 0, 1) := by decide +kernel
theorem dX3_span_1 : decode cX3_span 1 = .ok (.getfield 15, 3) := by decide +kernel
theorem dX3_span_4 : decode cX3_span 4 = .ok (.ifCond .le 25, 3) := by decide +kernel
theorem dX3_span_7 : decode cX3_span 7 = .ok (.aload_n 1, 1) := by decide +kernel
theorem dX3_span_8 : decode cX3_span 8 = .ok (.aload_n 0, 1) := by decide +kernel
theorem dX3_span_9 : decode cX3_span 9 = .ok (.aload_n 1, 1) := by decide +kernel
theorem dX3_span_10 : decode cX3_span 10 = .ok (.invokevirtual 43, 3) := by decide +kernel
theorem dX3_span_13 : decode cX3_span 13 = .ok (.invokevirtual 29, 3) := by decide +kernel
theorem dX3_span_16 : decode cX3_span 16 = .ok (.aload_n 1, 1) := by decide +kernel
theorem dX3_span_17 : decode cX3_span 17 = .ok (.aload_n 0, 1) := by decide +kernel
theorem dX3_span_18 : decode cX3_span 18 = .ok (.aload_n 1, 1) := by decide +kernel
theorem dX3_span_19 : decode cX3_span 19 = .ok (.invokevirtual 47, 3) := by decide +kernel
theorem dX3_span_22 : decode cX3_span 22 = .ok (.invokevirtual 29, 3) := by decide +kernel
theorem dX3_span_25 : decode cX3_span 25 = .ok (.lsub, 1) := by decide +kernel
theorem dX3_span_26 : decode cX3_span 26 = .ok (.goto 4, 3) := by decide +kernel
theorem dX3_span_29 : decode cX3_span 29 = .ok (.lconst 0, 1) := by decide +kernel
theorem dX3_span_30 : decode cX3_span 30 = .ok (.lreturn, 1) := by decide +kernel
set_option maxRecDepth 20000 in
theorem ggX3_middle_X3_howManyBefore : GoodIn wsX3_middle wsX3_howManyBefore := goodIn_r _ [7, 1, 2, 8, 9, 10, 11, 12, 13, 14, 15, 16, 17, 18, 19, 20, 21, 22, 23, 24, 25, 26, 27, 28, 29, 30] (by decide +kernel) (by decide +kernel)
set_option maxRecDepth 20000 in
theorem gX3_middle_X3_howManyBefore : GoodIn wsX3_middle (wsV RX3 50 RX3 yX3_howManyBefore wsX3_howManyBefore) := goodIn_app (goodIn_of _ (by decide +kernel)) ggX3_middle_X3_howManyBefore
theorem dX3_middle_0 : decode cX3_middle 0 = .ok (.iconst 0, 1) := by decide +kernel
theorem dX3_middle_1 : decode cX3_middle 1 = .ok (.istore_n 2, 1) := by decide +kernel
theorem dX3_middle_2 : decode cX3_middle 2 = .ok (.iload_n 2, 1) := by decide +kernel
theorem dX3_middle_3 : decode cX3_middle 3 = .ok (.aload_n 0, 1) := by decide +kernel
theorem dX3_middle_4 : decode cX3_middle 4 = .ok (.getfield 15, 3) := by decide +kernel
theorem dX3_middle_7 : decode cX3_middle 7 = .ok (.if_icmp .ge 33, 3) := by decide +kernel
theorem dX3_middle_10 : decode cX3_middle 10 = .ok (.aload_n 0, 1) := by decide +kernel
theorem dX3_middle_11 : decode cX3_middle 11 = .ok (.aload_n 1, 1) := by decide +kernel
theorem dX3_middle_12 : decode cX3_middle 12 = .ok (.iload_n 2, 1) := by decide +kernel
theorem dX3_middle_13 : decode cX3_middle 13 = .ok (.invokevirtual 50, 3) := by decide +kernel
theorem dX3_middle_16 : decode cX3_middle 16 = .ok (.aload_n 0, 1) := by decide +kernel
theorem dX3_middle_17 : decode cX3_middle 17 = .ok (.getfield 15, 3) := by decide +kernel
theorem dX3_middle_20 : decode cX3_middle 20 = .ok (.iconst 1, 1) := by decide +kernel
theorem dX3_middle_21 : decode cX3_middle 21 = .ok (.isub, 1) := by decide +kernel
theorem dX3_middle_22 : decode cX3_middle 22 = .ok (.iconst 2, 1) := by decide +kernel
theorem dX3_middle_23 : decode cX3_middle 23 = .ok (.idiv, 1) := by decide +kernel
theorem dX3_middle_24 : decode cX3_middle 24 = .ok (.if_icmp .ne 10, 3) := by decide +kernel
theorem dX3_middle_27 : decode cX3_middle 27 = .ok (.aload_n 0, 1) := by decide +kernel
theorem dX3_middle_28 : decode cX3_middle 28 = .ok (.getfield 9, 3) := by decide +kernel
theorem dX3_middle_31 : decode cX3_middle 31 = .ok (.iload_n 2, 1) := by decide +kernel
theorem dX3_middle_32 : decode cX3_middle 32 = .ok (.iaload, 1) := by decide +kernel
theorem dX3_middle_33 : decode cX3_middle 33 = .ok (.ireturn, 1) := by decide +kernel
theorem dX3_middle_34 : decode cX3_middle 34 = .ok (.iinc 2 1, 3) := by decide +kernel
theorem dX3_middle_37 : decode cX3_middle 37 = .ok (.goto (-35), 3) := by decide +kernel
theorem dX3_middle_40 : decode cX3_middle 40 = .ok (.iconst (-1), 1) := by decide +kernel
theorem dX3_middle_41 : decode cX3_middle 41 = .ok (.ireturn, 1) := by decide +kernel
set_option maxRecDepth 20000 in
theorem ggX3_howManyBefore_X2_order : GoodIn wsX3_howManyBefore wsX2_order := goodIn_r _ [7, 8, 9, 10, 11, 6, 12, 13, 14, 15, 16, 17, 18, 19, 22, 23, 24, 25] (by decide +kernel) (by decide +kernel)
set_option maxRecDepth 20000 in
theorem gX3_howManyBefore_X2_order : GoodIn wsX3_howManyBefore (wsV RX3 19 RX2 yX2_order wsX2_order) := goodIn_app (goodIn_of _ (by decide +kernel)) ggX3_howManyBefore_X2_order
theorem dX3_howManyBefore_0 : decode cX3_howManyBefore 0 = .ok (.iconst 0, 1) := by decide +kernel
theorem dX3_howManyBefore_1 : decode cX3_howManyBefore 1 = .ok (.istore_n 3, 1) := by decide +kernel
theorem dX3_howManyBefore_2 : decode cX3_howManyBefore 2 = .ok (.iconst 0, 1) := by decide +kernel
theorem dX3_howManyBefore_3 : decode cX3_howManyBefore 3 = .ok (.istore 4, 2) := by decide +kernel
theorem dX3_howManyBefore_5 : decode cX3_howManyBefore 5 = .ok (.iload 4, 2) := by decide +kernel
theorem dX3_howManyBefore_7 : decode cX3_howManyBefore 7 = .ok (.aload_n 0, 1) := by decide +kernel
theorem dX3_howManyBefore_8 : decode cX3_howManyBefore 8 = .ok (.getfield 15, 3) := by decide +kernel
theorem dX3_howManyBefore_11 : decode cX3_howManyBefore 11 = .ok (.if_icmp .ge 47, 3) := by decide +kernel
theorem dX3_howManyBefore_14 : decode cX3_howManyBefore 14 = .ok (.aload_n 1, 1) := by decide +kernel
theorem dX3_howManyBefore_15 : decode cX3_howManyBefore 15 = .ok (.aload_n 0, 1) := by decide +kernel
theorem dX3_howManyBefore_16 : decode cX3_howManyBefore 16 = .ok (.getfield 9, 3) := by decide +kernel
theorem dX3_howManyBefore_19 : decode cX3_howManyBefore 19 = .ok (.iload 4, 2) := by decide +kernel
theorem dX3_howManyBefore_21 : decode cX3_howManyBefore 21 = .ok (.iaload, 1) := by decide +kernel
theorem dX3_howManyBefore_22 : decode cX3_howManyBefore 22 = .ok (.aload_n 0, 1) := by decide +kernel
theorem dX3_howManyBefore_23 : decode cX3_howManyBefore 23 = .ok (.getfield 9, 3) := by decide +kernel
theorem dX3_howManyBefore_26 : decode cX3_howManyBefore 26 = .ok (.iload_n 2, 1) := by decide +kernel
theorem dX3_howManyBefore_27 : decode cX3_howManyBefore 27 = .ok (.iaload, 1) := by decide +kernel
theorem dX3_howManyBefore_28 : decode cX3_howManyBefore 28 = .ok (.invokevirtual 19, 3) := by decide +kernel
theorem dX3_howManyBefore_31 : decode cX3_howManyBefore 31 = .ok (.istore 5, 2) := by decide +kernel
theorem dX3_howManyBefore_33 : decode cX3_howManyBefore 33 = .ok (.iload 5, 2) := by decide +kernel
theorem dX3_howManyBefore_35 : decode cX3_howManyBefore 35 = .ok (.ifCond .lt 14, 3) := by decide +kernel
theorem dX3_howManyBefore_38 : decode cX3_howManyBefore 38 = .ok (.iload 5, 2) := by decide +kernel
theorem dX3_howManyBefore_40 : decode cX3_howManyBefore 40 = .ok (.ifCond .ne 12, 3) := by decide +kernel
theorem dX3_howManyBefore_43 : decode cX3_howManyBefore 43 = .ok (.iload 4, 2) := by decide +kernel
theorem dX3_howManyBefore_45 : decode cX3_howManyBefore 45 = .ok (.iload_n 2, 1) := by decide +kernel
theorem dX3_howManyBefore_46 : decode cX3_howManyBefore 46 = .ok (.if_icmp .ge 6, 3) := by decide +kernel
theorem dX3_howManyBefore_49 : decode cX3_howManyBefore 49 = .ok (.iinc 3 1, 3) := by decide +kernel
theorem dX3_howManyBefore_52 : decode cX3_howManyBefore 52 = .ok (.iinc 4 1, 3) := by decide +kernel
theorem dX3_howManyBefore_55 : decode cX3_howManyBefore 55 = .ok (.goto (-50), 3) := by decide +kernel
theorem dX3_howManyBefore_58 : decode cX3_howManyBefore 58 = .ok (.iload_n 3, 1) := by decide +kernel
theorem dX3_howManyBefore_59 : decode cX3_howManyBefore 59 = .ok (.ireturn, 1) := by decide +kernel
set_option maxRecDepth 20000 in
theorem ggX4_init_X2_init : GoodIn wsX4_init wsX2_init := goodIn_r _ [26, 27, 2, 3, 28, 29, 20, 30, 31, 32, 61, 62, 63, 64] (by decide +kernel) (by decide +kernel)
set_option maxRecDepth 20000 in
theorem gX4_init_X2_init_n9 : GoodIn wsX4_init (wsX2_init) := ggX4_init_X2_init
set_option maxRecDepth 20000 in
theorem ggX4_init_X1_init : GoodIn wsX4_init wsX1_init := goodIn_r _ [34, 35, 2, 3, 20, 36, 37, 38, 39, 73, 74, 75, 76] (by decide +kernel) (by decide +kernel)
set_option maxRecDepth 20000 in
theorem gX4_init_X1_init_n18 : GoodIn wsX4_init (wsX1_init) := ggX4_init_X1_init
set_option maxRecDepth 20000 in
theorem ggX4_init_X0_init : GoodIn wsX4_init wsX0_init := goodIn_r _ [41, 42, 2, 3, 20, 43, 44, 45, 46, 28, 47, 48, 49, 50, 51, 52, 53, 54, 55, 77, 78, 79, 80, 81, 82, 83, 84, 85, 86, 87, 88] (by decide +kernel) (by decide +kernel)
set_option maxRecDepth 20000 in
theorem gX4_init_X0_init_n25 : GoodIn wsX4_init (wsX0_init) := ggX4_init_X0_init
set_option maxRecDepth 20000 in
theorem ggX4_init_X3_init : GoodIn wsX4_init wsX3_init := goodIn_r _ [57, 58, 2, 3, 20, 59, 60, 89, 90] (by decide +kernel) (by decide +kernel)
set_option maxRecDepth 20000 in
theorem gX4_init_X3_init_n32 : GoodIn wsX4_init (wsX3_init) := ggX4_init_X3_init
theorem dX4_init_0 : decode cX4_init 0 = .ok (.aload_n 0, 1) := by decide +kernel
theorem dX4_init_1 : decode cX4_init 1 = .ok (.invokespecial 1, 3) := by decide +kernel
theorem dX4_init_4 : decode cX4_init 4 = .ok (.aload_n 0, 1) := by decide +kernel
theorem dX4_init_5 : decode cX4_init 5 = .ok (.new 7, 3) := by decide +kernel
theorem dX4_init_8 : decode cX4_init 8 = .ok (.dup, 1) := by decide +kernel
theorem dX4_init_9 : decode cX4_init 9 = .ok (.invokespecial 9, 3) := by decide +kernel
theorem dX4_init_12 : decode cX4_init 12 = .ok (.putfield 10, 3) := by decide +kernel
theorem dX4_init_15 : decode cX4_init 15 = .ok (.aload_n 0, 1) := by decide +kernel
theorem dX4_init_16 : decode cX4_init 16 = .ok (.new 16, 3) := by decide +kernel
theorem dX4_init_19 : decode cX4_init 19 = .ok (.dup, 1) := by decide +kernel
theorem dX4_init_20 : decode cX4_init 20 = .ok (.invokespecial 18, 3) := by decide +kernel
theorem dX4_init_23 : decode cX4_init 23 = .ok (.putfield 19, 3) := by decide +kernel
theorem dX4_init_26 : decode cX4_init 26 = .ok (.aload_n 0, 1) := by decide +kernel
theorem dX4_init_27 : decode cX4_init 27 = .ok (.new 23, 3) := by decide +kernel
theorem dX4_init_30 : decode cX4_init 30 = .ok (.dup, 1) := by decide +kernel
theorem dX4_init_31 : decode cX4_init 31 = .ok (.invokespecial 25, 3) := by decide +kernel
theorem dX4_init_34 : decode cX4_init 34 = .ok (.putfield 26, 3) := by decide +kernel
theorem dX4_init_37 : decode cX4_init 37 = .ok (.aload_n 0, 1) := by decide +kernel
theorem dX4_init_38 : decode cX4_init 38 = .ok (.new 30, 3) := by decide +kernel
theorem dX4_init_41 : decode cX4_init 41 = .ok (.dup, 1) := by decide +kernel
theorem dX4_init_42 : decode cX4_init 42 = .ok (.invokespecial 32, 3) := by decide +kernel
theorem dX4_init_45 : decode cX4_init 45 = .ok (.putfield 33, 3) := by decide +kernel
theorem dX4_init_48 : decode cX4_init 48 = .ok (.aload_n 0, 1) := by decide +kernel
theorem dX4_init_49 : decode cX4_init 49 = .ok (.bipush 60, 2) := by decide +kernel
theorem dX4_init_51 : decode cX4_init 51 = .ok (.newarray .int, 2) := by decide +kernel
theorem dX4_init_53 : decode cX4_init 53 = .ok (.putfield 37, 3) := by decide +kernel
theorem dX4_init_56 : decode cX4_init 56 = .ok (.aload_n 0, 1) := by decide +kernel
theorem dX4_init_57 : decode cX4_init 57 = .ok (.iconst 0, 1) := by decide +kernel
theorem dX4_init_58 : decode cX4_init 58 = .ok (.putfield 41, 3) := by decide +kernel
theorem dX4_init_61 : decode cX4_init 61 = .ok (.aload_n 0, 1) := by decide +kernel
theorem dX4_init_62 : decode cX4_init 62 = .ok (.iconst 0, 1) := by decide +kernel
theorem dX4_init_63 : decode cX4_init 63 = .ok (.putfield 45, 3) := by decide +kernel
theorem dX4_init_66 : decode cX4_init 66 = .ok (.aload_n 0, 1) := by decide +kernel
theorem dX4_init_67 : decode cX4_init 67 = .ok (.iconst 0, 1) := by decide +kernel
theorem dX4_init_68 : decode cX4_init 68 = .ok (.putfield 48, 3) := by decide +kernel
theorem dX4_init_71 : decode cX4_init 71 = .ok (.return_, 1) := by decide +kernel
set_option maxRecDepth 20000 in
theorem ggX4_number_X4_termOf : GoodIn wsX4_number wsX4_termOf := goodIn_ca (goodIn_r _ [9, 10, 11, 12, 13, 14, 15, 16, 17, 18, 19, 20, 21, 22, 23, 24, 25, 26, 27, 28, 29, 30, 31, 32, 33, 34, 35, 36, 37, 38, 39, 40, 41] (by decide +kernel) (by decide +kernel)) (goodIn_sub (fun _ h => List.mem_cons_of_mem _ (List.mem_append_right _ h)) (by decide +kernel))
set_option maxRecDepth 20000 in
theorem gX4_number_X4_termOf : GoodIn wsX4_number (wsV RX4 60 RX4 yX4_termOf wsX4_termOf) := goodIn_app (goodIn_of _ (by decide +kernel)) ggX4_number_X4_termOf
theorem dX4_number_0 : decode cX4_number 0 = .ok (.iload_n 1, 1) := by decide +kernel
theorem dX4_number_1 : decode cX4_number 1 = .ok (.ldc 51, 2) := by decide +kernel
theorem dX4_number_3 : decode cX4_number 3 = .ok (.if_icmp .lt 18, 3) := by decide +kernel
theorem dX4_number_6 : decode cX4_number 6 = .ok (.iload_n 1, 1) := by decide +kernel
theorem dX4_number_7 : decode cX4_number 7 = .ok (.ldc 52, 2) := by decide +kernel
theorem dX4_number_9 : decode cX4_number 9 = .ok (.if_icmp .gt 12, 3) := by decide +kernel
theorem dX4_number_12 : decode cX4_number 12 = .ok (.iload_n 2, 1) := by decide +kernel
theorem dX4_number_13 : decode cX4_number 13 = .ok (.ifCond .lt 8, 3) := by decide +kernel
theorem dX4_number_16 : decode cX4_number 16 = .ok (.iload_n 2, 1) := by decide +kernel
theorem dX4_number_17 : decode cX4_number 17 = .ok (.iconst 3, 1) := by decide +kernel
theorem dX4_number_18 : decode cX4_number 18 = .ok (.if_icmp .le 13, 3) := by decide +kernel
theorem dX4_number_21 : decode cX4_number 21 = .ok (.new 53, 3) := by decide +kernel
theorem dX4_number_24 : decode cX4_number 24 = .ok (.dup, 1) := by decide +kernel
theorem dX4_number_25 : decode cX4_number 25 = .ok (.ldc 55, 2) := by decide +kernel
theorem dX4_number_27 : decode cX4_number 27 = .ok (.invokespecial 57, 3) := by decide +kernel
theorem dX4_number_30 : decode cX4_number 30 = .ok (.athrow, 1) := by decide +kernel
theorem dX4_number_31 : decode cX4_number 31 = .ok (.aload_n 0, 1) := by decide +kernel
theorem dX4_number_32 : decode cX4_number 32 = .ok (.lconst 0, 1) := by decide +kernel
theorem dX4_number_33 : decode cX4_number 33 = .ok (.iload_n 1, 1) := by decide +kernel
theorem dX4_number_34 : decode cX4_number 34 = .ok (.iload_n 2, 1) := by decide +kernel
theorem dX4_number_35 : decode cX4_number 35 = .ok (.invokevirtual 60, 3) := by decide +kernel
theorem dX4_number_38 : decode cX4_number 38 = .ok (.ireturn, 1) := by decide +kernel
set_option maxRecDepth 20000 in
theorem ggX4_text_X2_aligned : GoodIn wsX4_text wsX2_aligned := goodIn_r _ [6, 7, 8, 9] (by decide +kernel) (by decide +kernel)
set_option maxRecDepth 20000 in
theorem gX4_text_X2_aligned : GoodIn wsX4_text (va_wsS RX4 64 yX2_aligned wsX2_aligned) := goodIn_app (goodIn_of _ (by decide +kernel)) ggX4_text_X2_aligned
set_option maxRecDepth 20000 in
theorem ggX4_text_X4_termOf : GoodIn wsX4_text wsX4_termOf := goodIn_ca (goodIn_r _ [14, 15, 16, 17, 18, 19, 20, 5, 21, 22, 23, 24, 25, 26, 27, 28, 29, 30, 31, 32, 33, 34, 35, 36, 37, 38, 39, 40, 41, 42, 43, 44, 45] (by decide +kernel) (by decide +kernel)) (goodIn_sub (fun _ h => List.mem_cons_of_mem _ (List.mem_append_right _ h)) (by decide +kernel))
set_option maxRecDepth 20000 in
theorem gX4_text_X4_termOf : GoodIn wsX4_text (wsV RX4 60 RX4 yX4_termOf wsX4_termOf) := goodIn_app (goodIn_of _ (by decide +kernel)) ggX4_text_X4_termOf
theorem dX4_text_0 : decode cX4_text 0 = .ok (.lload_n 1, 1) := by decide +kernel
theorem dX4_text_1 : decode cX4_text 1 = .ok (.invokestatic 64, 3) := by decide +kernel
theorem dX4_text_4 : decode cX4_text 4 = .ok (.lstore_n 3, 1) := by decide +kernel
theorem dX4_text_5 : decode cX4_text 5 = .ok (.lload_n 3, 1) := by decide +kernel
theorem dX4_text_6 : decode cX4_text 6 = .ok (.lconst 0, 1) := by decide +kernel
theorem dX4_text_7 : decode cX4_text 7 = .ok (.lcmp, 1) := by decide +kernel
theorem dX4_text_8 : decode cX4_text 8 = .ok (.ifCond .ne 13, 3) := by decide +kernel
theorem dX4_text_11 : decode cX4_text 11 = .ok (.new 53, 3) := by decide +kernel
theorem dX4_text_14 : decode cX4_text 14 = .ok (.dup, 1) := by decide +kernel
theorem dX4_text_15 : decode cX4_text 15 = .ok (.ldc 68, 2) := by decide +kernel
theorem dX4_text_17 : decode cX4_text 17 = .ok (.invokespecial 57, 3) := by decide +kernel
theorem dX4_text_20 : decode cX4_text 20 = .ok (.athrow, 1) := by decide +kernel
theorem dX4_text_21 : decode cX4_text 21 = .ok (.aload_n 0, 1) := by decide +kernel
theorem dX4_text_22 : decode cX4_text 22 = .ok (.lload_n 3, 1) := by decide +kernel
theorem dX4_text_23 : decode cX4_text 23 = .ok (.iconst 0, 1) := by decide +kernel
theorem dX4_text_24 : decode cX4_text 24 = .ok (.iconst 0, 1) := by decide +kernel
theorem dX4_text_25 : decode cX4_text 25 = .ok (.invokevirtual 60, 3) := by decide +kernel
theorem dX4_text_28 : decode cX4_text 28 = .ok (.ireturn, 1) := by decide +kernel
set_option maxRecDepth 20000 in
theorem ggX4_row_X2_has : GoodIn wsX4_row wsX2_has := goodIn_r _ [11, 12, 38, 39, 40, 41] (by decide +kernel) (by decide +kernel)
set_option maxRecDepth 20000 in
theorem gX4_row_X2_has : GoodIn wsX4_row (wsV RX4 70 RX2 yX2_has wsX2_has) := goodIn_app (goodIn_of _ (by decide +kernel)) ggX4_row_X2_has
set_option maxRecDepth 20000 in
theorem ggX4_row_X1_isFull : GoodIn wsX4_row wsX1_isFull := goodIn_r _ [17, 18, 42, 43, 44, 45] (by decide +kernel) (by decide +kernel)
set_option maxRecDepth 20000 in
theorem gX4_row_X1_isFull : GoodIn wsX4_row (wsV RX4 76 RX1 yX1_isFull wsX1_isFull) := goodIn_app (goodIn_of _ (by decide +kernel)) ggX4_row_X1_isFull
set_option maxRecDepth 20000 in
theorem ggX4_row_X1_add : GoodIn wsX4_row wsX1_add := goodIn_r _ [22, 18, 23, 24, 25, 42, 43, 44, 45] (by decide +kernel) (by decide +kernel)
set_option maxRecDepth 20000 in
theorem gX4_row_X1_add : GoodIn wsX4_row (wsV RX4 85 RX1 yX1_add wsX1_add) := goodIn_app (goodIn_of _ (by decide +kernel)) ggX4_row_X1_add
set_option maxRecDepth 20000 in
theorem ggX4_row_X1_count : GoodIn wsX4_row wsX1_count := goodIn_r _ [29, 18, 42, 43, 44, 45] (by decide +kernel) (by decide +kernel)
set_option maxRecDepth 20000 in
theorem gX4_row_X1_count : GoodIn wsX4_row (wsV RX4 89 RX1 yX1_count wsX1_count) := goodIn_app (goodIn_of _ (by decide +kernel)) ggX4_row_X1_count
theorem dX4_row_0 : decode cX4_row 0 = .ok (.iload_n 1, 1) := by decide +kernel
theorem dX4_row_1 : decode cX4_row 1 = .ok (.ifCond .lt 12, 3) := by decide +kernel
theorem dX4_row_4 : decode cX4_row 4 = .ok (.iload_n 1, 1) := by decide +kernel
theorem dX4_row_5 : decode cX4_row 5 = .ok (.iconst 2, 1) := by decide +kernel
theorem dX4_row_6 : decode cX4_row 6 = .ok (.if_icmp .gt 7, 3) := by decide +kernel
theorem dX4_row_9 : decode cX4_row 9 = .ok (.iconst 1, 1) := by decide +kernel
theorem dX4_row_10 : decode cX4_row 10 = .ok (.goto 4, 3) := by decide +kernel
theorem dX4_row_13 : decode cX4_row 13 = .ok (.iconst 0, 1) := by decide +kernel
theorem dX4_row_14 : decode cX4_row 14 = .ok (.istore 4, 2) := by decide +kernel
theorem dX4_row_16 : decode cX4_row 16 = .ok (.iload_n 3, 1) := by decide +kernel
theorem dX4_row_17 : decode cX4_row 17 = .ok (.iconst (-1), 1) := by decide +kernel
theorem dX4_row_18 : decode cX4_row 18 = .ok (.if_icmp .eq 14, 3) := by decide +kernel
theorem dX4_row_21 : decode cX4_row 21 = .ok (.aload_n 0, 1) := by decide +kernel
theorem dX4_row_22 : decode cX4_row 22 = .ok (.getfield 10, 3) := by decide +kernel
theorem dX4_row_25 : decode cX4_row 25 = .ok (.iload_n 3, 1) := by decide +kernel
theorem dX4_row_26 : decode cX4_row 26 = .ok (.invokevirtual 70, 3) := by decide +kernel
theorem dX4_row_29 : decode cX4_row 29 = .ok (.ifCond .eq 7, 3) := by decide +kernel
theorem dX4_row_32 : decode cX4_row 32 = .ok (.iconst 1, 1) := by decide +kernel
theorem dX4_row_33 : decode cX4_row 33 = .ok (.goto 4, 3) := by decide +kernel
theorem dX4_row_36 : decode cX4_row 36 = .ok (.iconst 0, 1) := by decide +kernel
theorem dX4_row_37 : decode cX4_row 37 = .ok (.istore 5, 2) := by decide +kernel
theorem dX4_row_39 : decode cX4_row 39 = .ok (.iload 4, 2) := by decide +kernel
theorem dX4_row_41 : decode cX4_row 41 = .ok (.ifCond .eq 19, 3) := by decide +kernel
theorem dX4_row_44 : decode cX4_row 44 = .ok (.aload_n 0, 1) := by decide +kernel
theorem dX4_row_45 : decode cX4_row 45 = .ok (.getfield 10, 3) := by decide +kernel
theorem dX4_row_48 : decode cX4_row 48 = .ok (.iload_n 2, 1) := by decide +kernel
theorem dX4_row_49 : decode cX4_row 49 = .ok (.invokevirtual 70, 3) := by decide +kernel
theorem dX4_row_52 : decode cX4_row 52 = .ok (.ifCond .eq 8, 3) := by decide +kernel
theorem dX4_row_55 : decode cX4_row 55 = .ok (.iload 5, 2) := by decide +kernel
theorem dX4_row_57 : decode cX4_row 57 = .ok (.ifCond .ne 13, 3) := by decide +kernel
theorem dX4_row_60 : decode cX4_row 60 = .ok (.new 53, 3) := by decide +kernel
theorem dX4_row_63 : decode cX4_row 63 = .ok (.dup, 1) := by decide +kernel
theorem dX4_row_64 : decode cX4_row 64 = .ok (.ldc 74, 2) := by decide +kernel
theorem dX4_row_66 : decode cX4_row 66 = .ok (.invokespecial 57, 3) := by decide +kernel
theorem dX4_row_69 : decode cX4_row 69 = .ok (.athrow, 1) := by decide +kernel
theorem dX4_row_70 : decode cX4_row 70 = .ok (.aload_n 0, 1) := by decide +kernel
theorem dX4_row_71 : decode cX4_row 71 = .ok (.getfield 19, 3) := by decide +kernel
theorem dX4_row_74 : decode cX4_row 74 = .ok (.invokevirtual 76, 3) := by decide +kernel
theorem dX4_row_77 : decode cX4_row 77 = .ok (.ifCond .eq 13, 3) := by decide +kernel
theorem dX4_row_80 : decode cX4_row 80 = .ok (.new 80, 3) := by decide +kernel
theorem dX4_row_83 : decode cX4_row 83 = .ok (.dup, 1) := by decide +kernel
theorem dX4_row_84 : decode cX4_row 84 = .ok (.ldc 82, 2) := by decide +kernel
theorem dX4_row_86 : decode cX4_row 86 = .ok (.invokespecial 84, 3) := by decide +kernel
theorem dX4_row_89 : decode cX4_row 89 = .ok (.athrow, 1) := by decide +kernel
theorem dX4_row_90 : decode cX4_row 90 = .ok (.aload_n 0, 1) := by decide +kernel
theorem dX4_row_91 : decode cX4_row 91 = .ok (.getfield 19, 3) := by decide +kernel
theorem dX4_row_94 : decode cX4_row 94 = .ok (.iload_n 1, 1) := by decide +kernel
theorem dX4_row_95 : decode cX4_row 95 = .ok (.iload_n 2, 1) := by decide +kernel
theorem dX4_row_96 : decode cX4_row 96 = .ok (.iload_n 3, 1) := by decide +kernel
theorem dX4_row_97 : decode cX4_row 97 = .ok (.invokevirtual 85, 3) := by decide +kernel
theorem dX4_row_100 : decode cX4_row 100 = .ok (.aload_n 0, 1) := by decide +kernel
theorem dX4_row_101 : decode cX4_row 101 = .ok (.getfield 19, 3) := by decide +kernel
theorem dX4_row_104 : decode cX4_row 104 = .ok (.invokevirtual 89, 3) := by decide +kernel
theorem dX4_row_107 : decode cX4_row 107 = .ok (.ireturn, 1) := by decide +kernel
theorem dX4_by_0 : decode cX4_by 0 = .ok (.iload_n 1, 1) := by decide +kernel
theorem dX4_by_1 : decode cX4_by 1 = .ok (.ifCond .lt 8, 3) := by decide +kernel
theorem dX4_by_4 : decode cX4_by 4 = .ok (.iload_n 1, 1) := by decide +kernel
theorem dX4_by_5 : decode cX4_by 5 = .ok (.iconst 2, 1) := by decide +kernel
theorem dX4_by_6 : decode cX4_by 6 = .ok (.if_icmp .le 13, 3) := by decide +kernel
theorem dX4_by_9 : decode cX4_by 9 = .ok (.new 53, 3) := by decide +kernel
theorem dX4_by_12 : decode cX4_by 12 = .ok (.dup, 1) := by decide +kernel
theorem dX4_by_13 : decode cX4_by 13 = .ok (.ldc 93, 2) := by decide +kernel
theorem dX4_by_15 : decode cX4_by 15 = .ok (.invokespecial 57, 3) := by decide +kernel
theorem dX4_by_18 : decode cX4_by 18 = .ok (.athrow, 1) := by decide +kernel
theorem dX4_by_19 : decode cX4_by 19 = .ok (.aload_n 0, 1) := by decide +kernel
theorem dX4_by_20 : decode cX4_by 20 = .ok (.getfield 41, 3) := by decide +kernel
theorem dX4_by_23 : decode cX4_by 23 = .ok (.istore_n 2, 1) := by decide +kernel
theorem dX4_by_24 : decode cX4_by 24 = .ok (.aload_n 0, 1) := by decide +kernel
theorem dX4_by_25 : decode cX4_by 25 = .ok (.iload_n 1, 1) := by decide +kernel
theorem dX4_by_26 : decode cX4_by 26 = .ok (.putfield 41, 3) := by decide +kernel
theorem dX4_by_29 : decode cX4_by 29 = .ok (.iload_n 2, 1) := by decide +kernel
theorem dX4_by_30 : decode cX4_by 30 = .ok (.ireturn, 1) := by decide +kernel
theorem dX4_separator_0 : decode cX4_separator 0 = .ok (.iload_n 1, 1) := by decide +kernel
theorem dX4_separator_1 : decode cX4_separator 1 = .ok (.ifCond .eq 25, 3) := by decide +kernel
theorem dX4_separator_4 : decode cX4_separator 4 = .ok (.iload_n 1, 1) := by decide +kernel
theorem dX4_separator_5 : decode cX4_separator 5 = .ok (.bipush 32, 2) := by decide +kernel
theorem dX4_separator_7 : decode cX4_separator 7 = .ok (.if_icmp .lt 9, 3) := by decide +kernel
theorem dX4_separator_10 : decode cX4_separator 10 = .ok (.iload_n 1, 1) := by decide +kernel
theorem dX4_separator_11 : decode cX4_separator 11 = .ok (.bipush 126, 2) := by decide +kernel
theorem dX4_separator_13 : decode cX4_separator 13 = .ok (.if_icmp .le 13, 3) := by decide +kernel
theorem dX4_separator_16 : decode cX4_separator 16 = .ok (.new 53, 3) := by decide +kernel
theorem dX4_separator_19 : decode cX4_separator 19 = .ok (.dup, 1) := by decide +kernel
theorem dX4_separator_20 : decode cX4_separator 20 = .ok (.ldc 95, 2) := by decide +kernel
theorem dX4_separator_22 : decode cX4_separator 22 = .ok (.invokespecial 57, 3) := by decide +kernel
theorem dX4_separator_25 : decode cX4_separator 25 = .ok (.athrow, 1) := by decide +kernel
theorem dX4_separator_26 : decode cX4_separator 26 = .ok (.aload_n 0, 1) := by decide +kernel
theorem dX4_separator_27 : decode cX4_separator 27 = .ok (.getfield 45, 3) := by decide +kernel
theorem dX4_separator_30 : decode cX4_separator 30 = .ok (.istore_n 2, 1) := by decide +kernel
theorem dX4_separator_31 : decode cX4_separator 31 = .ok (.aload_n 0, 1) := by decide +kernel
theorem dX4_separator_32 : decode cX4_separator 32 = .ok (.iload_n 1, 1) := by decide +kernel
theorem dX4_separator_33 : decode cX4_separator 33 = .ok (.putfield 45, 3) := by decide +kernel
theorem dX4_separator_36 : decode cX4_separator 36 = .ok (.iload_n 2, 1) := by decide +kernel
theorem dX4_separator_37 : decode cX4_separator 37 = .ok (.ireturn, 1) := by decide +kernel
theorem dX4_own_0 : decode cX4_own 0 = .ok (.iload_n 1, 1) := by decide +kernel
theorem dX4_own_1 : decode cX4_own 1 = .ok (.ifCond .lt 8, 3) := by decide +kernel
theorem dX4_own_4 : decode cX4_own 4 = .ok (.iload_n 1, 1) := by decide +kernel
theorem dX4_own_5 : decode cX4_own 5 = .ok (.iconst 2, 1) := by decide +kernel
theorem dX4_own_6 : decode cX4_own 6 = .ok (.if_icmp .le 13, 3) := by decide +kernel
theorem dX4_own_9 : decode cX4_own 9 = .ok (.new 53, 3) := by decide +kernel
theorem dX4_own_12 : decode cX4_own 12 = .ok (.dup, 1) := by decide +kernel
theorem dX4_own_13 : decode cX4_own 13 = .ok (.ldc 97, 2) := by decide +kernel
theorem dX4_own_15 : decode cX4_own 15 = .ok (.invokespecial 57, 3) := by decide +kernel
theorem dX4_own_18 : decode cX4_own 18 = .ok (.athrow, 1) := by decide +kernel
theorem dX4_own_19 : decode cX4_own 19 = .ok (.aload_n 0, 1) := by decide +kernel
theorem dX4_own_20 : decode cX4_own 20 = .ok (.getfield 48, 3) := by decide +kernel
theorem dX4_own_23 : decode cX4_own 23 = .ok (.istore_n 2, 1) := by decide +kernel
theorem dX4_own_24 : decode cX4_own 24 = .ok (.aload_n 0, 1) := by decide +kernel
theorem dX4_own_25 : decode cX4_own 25 = .ok (.iload_n 1, 1) := by decide +kernel
theorem dX4_own_26 : decode cX4_own 26 = .ok (.putfield 48, 3) := by decide +kernel
theorem dX4_own_29 : decode cX4_own 29 = .ok (.iload_n 2, 1) := by decide +kernel
theorem dX4_own_30 : decode cX4_own 30 = .ok (.ireturn, 1) := by decide +kernel
set_option maxRecDepth 20000 in
theorem ggX4_run_X4_makeGroups : GoodIn wsX4_run wsX4_makeGroups := goodIn_r _ [8, 3, 9, 10, 11, 12, 13, 14, 15, 16, 17, 18, 19, 20, 21, 22, 23, 24, 25, 26, 27, 28, 29, 30, 31, 32, 7, 33, 34, 35, 36, 37, 38, 39, 40, 41, 42, 43, 44, 45, 46, 47, 48, 49, 50, 51, 52, 53, 54, 55, 56, 57, 58, 59, 60, 61, 62, 63, 64, 65, 66, 67, 68, 69, 70, 71, 72, 73, 74, 75, 76, 77, 78, 79, 80, 244, 245, 246, 247, 248, 249, 250, 251, 252, 253, 254, 255, 256, 257, 258, 259, 260, 261, 262, 263, 264, 265, 266, 267, 268, 269, 270, 271] (by decide +kernel) (by decide +kernel)
set_option maxRecDepth 20000 in
theorem gX4_run_X4_makeGroups : GoodIn wsX4_run (wsV RX4 101 RX4 yX4_makeGroups wsX4_makeGroups) := goodIn_app (goodIn_of _ (by decide +kernel)) ggX4_run_X4_makeGroups
set_option maxRecDepth 20000 in
theorem ggX4_run_X0_count : GoodIn wsX4_run wsX0_count := goodIn_r _ [37, 17, 252, 253, 254, 255, 256, 257, 258, 259, 260, 261, 262, 263] (by decide +kernel) (by decide +kernel)
set_option maxRecDepth 20000 in
theorem gX4_run_X0_count : GoodIn wsX4_run (wsV RX4 104 RX0 yX0_count wsX0_count) := goodIn_app (goodIn_of _ (by decide +kernel)) ggX4_run_X0_count
set_option maxRecDepth 20000 in
theorem ggX4_run_X4_pickValues : GoodIn wsX4_run wsX4_pickValues := goodIn_r _ [84, 85, 9, 10, 47, 86, 87, 88, 89, 90, 91, 19, 20, 21, 22, 23, 24, 92, 93, 94, 95, 96, 97, 98, 99, 100, 101, 102, 49, 50, 51, 52, 53, 54, 55, 56, 57, 58, 59, 60, 61, 62, 63, 64, 103, 104, 105, 106, 244, 245, 246, 247, 248, 249, 250, 251, 272, 273, 264, 265, 266, 267, 268, 269, 270, 271] (by decide +kernel) (by decide +kernel)
set_option maxRecDepth 20000 in
theorem gX4_run_X4_pickValues : GoodIn wsX4_run (wsV RX4 105 RX4 yX4_pickValues wsX4_pickValues) := goodIn_app (goodIn_of _ (by decide +kernel)) ggX4_run_X4_pickValues
set_option maxRecDepth 20000 in
theorem ggX4_run_X4_reckon : GoodIn wsX4_run wsX4_reckon := goodIn_r _ [110, 85, 47, 3, 111, 112, 113, 114, 115, 116, 117, 118, 89, 119, 91, 101, 120, 121, 122, 51, 123, 53, 124, 125, 126, 15, 127, 70, 71, 128, 129, 130, 131, 132, 133, 134, 135, 136, 137, 138, 72, 73, 139, 140, 141, 142, 143, 144, 145, 146, 147, 148, 149, 55, 56, 57, 58, 59, 60, 150, 151, 152, 153, 154, 155, 156, 157, 102, 49, 50, 52, 54, 61, 62, 63, 64, 158, 159, 160, 7, 161, 162, 163, 164, 165, 166, 75, 18, 167, 168, 169, 170, 171, 172, 173, 174, 175, 176, 177, 178, 179, 180, 181, 182, 183, 184, 185, 186, 187, 188, 189, 190, 76, 191, 192, 193, 194, 195, 196, 197, 198, 199, 74, 200, 201, 202, 203, 204, 205, 206, 207, 208, 209, 210, 211, 212, 213, 214, 215, 216, 217, 218, 219, 220, 221, 222, 223, 224, 225, 226, 227, 228, 229, 230, 231, 232, 233, 234, 235, 236, 237, 238, 239, 240, 241, 242, 243, 244, 245, 246, 247, 248, 249, 250, 251, 272, 273, 268, 269, 270, 271, 252, 253, 254, 255, 256, 257, 258, 259, 260, 261, 262, 263] (by decide +kernel) (by decide +kernel)
set_option maxRecDepth 20000 in
theorem gX4_run_X4_reckon : GoodIn wsX4_run (wsV RX4 109 RX4 yX4_reckon wsX4_reckon) := goodIn_app (goodIn_of _ (by decide +kernel)) ggX4_run_X4_reckon
theorem dX4_run_0 : decode cX4_run 0 = .ok (.iload_n 1, 1) := by decide +kernel
theorem dX4_run_1 : decode cX4_run 1 = .ok (.ifCond .lt 9, 3) := by decide +kernel
theorem dX4_run_4 : decode cX4_run 4 = .ok (.iload_n 1, 1) := by decide +kernel
theorem dX4_run_5 : decode cX4_run 5 = .ok (.bipush 7, 2) := by decide +kernel
theorem dX4_run_7 : decode cX4_run 7 = .ok (.if_icmp .le 13, 3) := by decide +kernel
theorem dX4_run_10 : decode cX4_run 10 = .ok (.new 53, 3) := by decide +kernel
theorem dX4_run_13 : decode cX4_run 13 = .ok (.dup, 1) := by decide +kernel
theorem dX4_run_14 : decode cX4_run 14 = .ok (.ldc 99, 2) := by decide +kernel
theorem dX4_run_16 : decode cX4_run 16 = .ok (.invokespecial 57, 3) := by decide +kernel
theorem dX4_run_19 : decode cX4_run 19 = .ok (.athrow, 1) := by decide +kernel
theorem dX4_run_20 : decode cX4_run 20 = .ok (.aload_n 0, 1) := by decide +kernel
theorem dX4_run_21 : decode cX4_run 21 = .ok (.invokevirtual 101, 3) := by decide +kernel
theorem dX4_run_24 : decode cX4_run 24 = .ok (.iconst 0, 1) := by decide +kernel
theorem dX4_run_25 : decode cX4_run 25 = .ok (.istore_n 3, 1) := by decide +kernel
theorem dX4_run_26 : decode cX4_run 26 = .ok (.iload_n 3, 1) := by decide +kernel
theorem dX4_run_27 : decode cX4_run 27 = .ok (.aload_n 0, 1) := by decide +kernel
theorem dX4_run_28 : decode cX4_run 28 = .ok (.getfield 26, 3) := by decide +kernel
theorem dX4_run_31 : decode cX4_run 31 = .ok (.invokevirtual 104, 3) := by decide +kernel
theorem dX4_run_34 : decode cX4_run 34 = .ok (.if_icmp .ge 21, 3) := by decide +kernel
theorem dX4_run_37 : decode cX4_run 37 = .ok (.aload_n 0, 1) := by decide +kernel
theorem dX4_run_38 : decode cX4_run 38 = .ok (.iload_n 3, 1) := by decide +kernel
theorem dX4_run_39 : decode cX4_run 39 = .ok (.iload_n 2, 1) := by decide +kernel
theorem dX4_run_40 : decode cX4_run 40 = .ok (.invokevirtual 105, 3) := by decide +kernel
theorem dX4_run_43 : decode cX4_run 43 = .ok (.aload_n 0, 1) := by decide +kernel
theorem dX4_run_44 : decode cX4_run 44 = .ok (.iload_n 3, 1) := by decide +kernel
theorem dX4_run_45 : decode cX4_run 45 = .ok (.iload_n 1, 1) := by decide +kernel
theorem dX4_run_46 : decode cX4_run 46 = .ok (.invokevirtual 109, 3) := by decide +kernel
theorem dX4_run_49 : decode cX4_run 49 = .ok (.iinc 3 1, 3) := by decide +kernel
theorem dX4_run_52 : decode cX4_run 52 = .ok (.goto (-26), 3) := by decide +kernel
theorem dX4_run_55 : decode cX4_run 55 = .ok (.aload_n 0, 1) := by decide +kernel
theorem dX4_run_56 : decode cX4_run 56 = .ok (.getfield 26, 3) := by decide +kernel
theorem dX4_run_59 : decode cX4_run 59 = .ok (.invokevirtual 104, 3) := by decide +kernel
theorem dX4_run_62 : decode cX4_run 62 = .ok (.ireturn, 1) := by decide +kernel
set_option maxRecDepth 20000 in
theorem ggX4_key_X4_needGroup : GoodIn wsX4_key wsX4_needGroup := goodIn_ca (goodIn_r _ [6, 7, 8, 1, 9, 10, 11, 12, 13, 14, 20, 21, 22, 23, 24, 25, 26, 27, 28, 29, 30, 31, 32, 33, 34, 35, 36, 37, 38, 39] (by decide +kernel) (by decide +kernel)) (goodIn_sub (fun _ h => List.mem_cons_of_mem _ (List.mem_append_right _ h)) (by decide +kernel))
set_option maxRecDepth 20000 in
theorem gX4_key_X4_needGroup : GoodIn wsX4_key (wsV RX4 113 RX4 yX4_needGroup wsX4_needGroup) := goodIn_app (goodIn_of _ (by decide +kernel)) ggX4_key_X4_needGroup
set_option maxRecDepth 20000 in
theorem ggX4_key_X0_firstKey : GoodIn wsX4_key wsX0_firstKey := goodIn_r _ [18, 19, 28, 29, 30, 31, 32, 33, 34, 35, 36, 37, 38, 39] (by decide +kernel) (by decide +kernel)
set_option maxRecDepth 20000 in
theorem gX4_key_X0_firstKey : GoodIn wsX4_key (wsV RX4 117 RX0 yX0_firstKey wsX0_firstKey) := goodIn_app (goodIn_of _ (by decide +kernel)) ggX4_key_X0_firstKey
theorem dX4_key_0 : decode cX4_key 0 = .ok (.aload_n 0, 1) := by decide +kernel
theorem dX4_key_1 : decode cX4_key 1 = .ok (.iload_n 1, 1) := by decide +kernel
theorem dX4_key_2 : decode cX4_key 2 = .ok (.invokevirtual 113, 3) := by decide +kernel
theorem dX4_key_5 : decode cX4_key 5 = .ok (.aload_n 0, 1) := by decide +kernel
theorem dX4_key_6 : decode cX4_key 6 = .ok (.getfield 26, 3) := by decide +kernel
theorem dX4_key_9 : decode cX4_key 9 = .ok (.iload_n 1, 1) := by decide +kernel
theorem dX4_key_10 : decode cX4_key 10 = .ok (.invokevirtual 117, 3) := by decide +kernel
theorem dX4_key_13 : decode cX4_key 13 = .ok (.ireturn, 1) := by decide +kernel
set_option maxRecDepth 20000 in
theorem ggX4_rows_X4_needGroup : GoodIn wsX4_rows wsX4_needGroup := goodIn_ca (goodIn_r _ [6, 7, 8, 1, 9, 10, 11, 12, 13, 14, 20, 21, 22, 23, 24, 25, 26, 27, 28, 29, 30, 31, 32, 33, 34, 35, 36, 37, 38, 39] (by decide +kernel) (by decide +kernel)) (goodIn_sub (fun _ h => List.mem_cons_of_mem _ (List.mem_append_right _ h)) (by decide +kernel))
set_option maxRecDepth 20000 in
theorem gX4_rows_X4_needGroup : GoodIn wsX4_rows (wsV RX4 113 RX4 yX4_needGroup wsX4_needGroup) := goodIn_app (goodIn_of _ (by decide +kernel)) ggX4_rows_X4_needGroup
set_option maxRecDepth 20000 in
theorem ggX4_rows_X0_rowCount : GoodIn wsX4_rows wsX0_rowCount := goodIn_r _ [18, 19, 28, 29, 30, 31, 32, 33, 34, 35, 36, 37, 38, 39] (by decide +kernel) (by decide +kernel)
set_option maxRecDepth 20000 in
theorem gX4_rows_X0_rowCount : GoodIn wsX4_rows (wsV RX4 121 RX0 yX0_rowCount wsX0_rowCount) := goodIn_app (goodIn_of _ (by decide +kernel)) ggX4_rows_X0_rowCount
theorem dX4_rows_0 : decode cX4_rows 0 = .ok (.aload_n 0, 1) := by decide +kernel
theorem dX4_rows_1 : decode cX4_rows 1 = .ok (.iload_n 1, 1) := by decide +kernel
theorem dX4_rows_2 : decode cX4_rows 2 = .ok (.invokevirtual 113, 3) := by decide +kernel
theorem dX4_rows_5 : decode cX4_rows 5 = .ok (.aload_n 0, 1) := by decide +kernel
theorem dX4_rows_6 : decode cX4_rows 6 = .ok (.getfield 26, 3) := by decide +kernel
theorem dX4_rows_9 : decode cX4_rows 9 = .ok (.iload_n 1, 1) := by decide +kernel
theorem dX4_rows_10 : decode cX4_rows 10 = .ok (.invokevirtual 121, 3) := by decide +kernel
theorem dX4_rows_13 : decode cX4_rows 13 = .ok (.ireturn, 1) := by decide +kernel
set_option maxRecDepth 20000 in
theorem ggX4_sort_X4_needGroup : GoodIn wsX4_sort wsX4_needGroup := goodIn_ca (goodIn_r _ [6, 7, 8, 1, 9, 10, 11, 12, 13, 14, 20, 21, 22, 23, 24, 25, 26, 27, 28, 29, 30, 31, 32, 33, 34, 35, 36, 37, 38, 39] (by decide +kernel) (by decide +kernel)) (goodIn_sub (fun _ h => List.mem_cons_of_mem _ (List.mem_append_right _ h)) (by decide +kernel))
set_option maxRecDepth 20000 in
theorem gX4_sort_X4_needGroup : GoodIn wsX4_sort (wsV RX4 113 RX4 yX4_needGroup wsX4_needGroup) := goodIn_app (goodIn_of _ (by decide +kernel)) ggX4_sort_X4_needGroup
set_option maxRecDepth 20000 in
theorem ggX4_sort_X0_sortOf : GoodIn wsX4_sort wsX0_sortOf := goodIn_r _ [18, 19, 28, 29, 30, 31, 32, 33, 34, 35, 36, 37, 38, 39] (by decide +kernel) (by decide +kernel)
set_option maxRecDepth 20000 in
theorem gX4_sort_X0_sortOf : GoodIn wsX4_sort (wsV RX4 124 RX0 yX0_sortOf wsX0_sortOf) := goodIn_app (goodIn_of _ (by decide +kernel)) ggX4_sort_X0_sortOf
theorem dX4_sort_0 : decode cX4_sort 0 = .ok (.aload_n 0, 1) := by decide +kernel
theorem dX4_sort_1 : decode cX4_sort 1 = .ok (.iload_n 1, 1) := by decide +kernel
theorem dX4_sort_2 : decode cX4_sort 2 = .ok (.invokevirtual 113, 3) := by decide +kernel
theorem dX4_sort_5 : decode cX4_sort 5 = .ok (.aload_n 0, 1) := by decide +kernel
theorem dX4_sort_6 : decode cX4_sort 6 = .ok (.getfield 26, 3) := by decide +kernel
theorem dX4_sort_9 : decode cX4_sort 9 = .ok (.iload_n 1, 1) := by decide +kernel
theorem dX4_sort_10 : decode cX4_sort 10 = .ok (.invokevirtual 124, 3) := by decide +kernel
theorem dX4_sort_13 : decode cX4_sort 13 = .ok (.ireturn, 1) := by decide +kernel
set_option maxRecDepth 20000 in
theorem ggX4_why_X4_needGroup : GoodIn wsX4_why wsX4_needGroup := goodIn_ca (goodIn_r _ [6, 7, 8, 1, 9, 10, 11, 12, 13, 14, 20, 21, 22, 23, 24, 25, 26, 27, 28, 29, 30, 31, 32, 33, 34, 35, 36, 37, 38, 39] (by decide +kernel) (by decide +kernel)) (goodIn_sub (fun _ h => List.mem_cons_of_mem _ (List.mem_append_right _ h)) (by decide +kernel))
set_option maxRecDepth 20000 in
theorem gX4_why_X4_needGroup : GoodIn wsX4_why (wsV RX4 113 RX4 yX4_needGroup wsX4_needGroup) := goodIn_app (goodIn_of _ (by decide +kernel)) ggX4_why_X4_needGroup
set_option maxRecDepth 20000 in
theorem ggX4_why_X0_reason : GoodIn wsX4_why wsX0_reason := goodIn_r _ [18, 19, 28, 29, 30, 31, 32, 33, 34, 35, 36, 37, 38, 39] (by decide +kernel) (by decide +kernel)
set_option maxRecDepth 20000 in
theorem gX4_why_X0_reason : GoodIn wsX4_why (wsV RX4 127 RX0 yX0_reason wsX0_reason) := goodIn_app (goodIn_of _ (by decide +kernel)) ggX4_why_X0_reason
theorem dX4_why_0 : decode cX4_why 0 = .ok (.aload_n 0, 1) := by decide +kernel
theorem dX4_why_1 : decode cX4_why 1 = .ok (.iload_n 1, 1) := by decide +kernel
theorem dX4_why_2 : decode cX4_why 2 = .ok (.invokevirtual 113, 3) := by decide +kernel
theorem dX4_why_5 : decode cX4_why 5 = .ok (.aload_n 0, 1) := by decide +kernel
theorem dX4_why_6 : decode cX4_why 6 = .ok (.getfield 26, 3) := by decide +kernel
theorem dX4_why_9 : decode cX4_why 9 = .ok (.iload_n 1, 1) := by decide +kernel
theorem dX4_why_10 : decode cX4_why 10 = .ok (.invokevirtual 127, 3) := by decide +kernel
theorem dX4_why_13 : decode cX4_why 13 = .ok (.ireturn, 1) := by decide +kernel
set_option maxRecDepth 20000 in
theorem ggX4_value_X4_needGroup : GoodIn wsX4_value wsX4_needGroup := goodIn_ca (goodIn_r _ [8, 9, 10, 3, 11, 12, 13, 14, 15, 16, 27, 28, 29, 30, 31, 32, 33, 34, 35, 36, 37, 38, 39, 40, 41, 42, 43, 44, 45, 46] (by decide +kernel) (by decide +kernel)) (goodIn_sub (fun _ h => List.mem_cons_of_mem _ (List.mem_append_right _ h)) (by decide +kernel))
set_option maxRecDepth 20000 in
theorem gX4_value_X4_needGroup : GoodIn wsX4_value (wsV RX4 113 RX4 yX4_needGroup wsX4_needGroup) := goodIn_app (goodIn_of _ (by decide +kernel)) ggX4_value_X4_needGroup
set_option maxRecDepth 20000 in
theorem ggX4_value_X0_upper : GoodIn wsX4_value wsX0_upper := goodIn_r _ [20, 21, 35, 36, 37, 38, 39, 40, 41, 42, 43, 44, 45, 46] (by decide +kernel) (by decide +kernel)
set_option maxRecDepth 20000 in
theorem gX4_value_X0_upper : GoodIn wsX4_value (wsV RX4 132 RX0 yX0_upper wsX0_upper) := goodIn_app (goodIn_of _ (by decide +kernel)) ggX4_value_X0_upper
set_option maxRecDepth 20000 in
theorem ggX4_value_X0_lower : GoodIn wsX4_value wsX0_lower := goodIn_r _ [25, 26, 35, 36, 37, 38, 39, 40, 41, 42, 43, 44, 45, 46] (by decide +kernel) (by decide +kernel)
set_option maxRecDepth 20000 in
theorem gX4_value_X0_lower : GoodIn wsX4_value (wsV RX4 136 RX0 yX0_lower wsX0_lower) := goodIn_app (goodIn_of _ (by decide +kernel)) ggX4_value_X0_lower
theorem dX4_value_0 : decode cX4_value 0 = .ok (.aload_n 0, 1) := by decide +kernel
theorem dX4_value_1 : decode cX4_value 1 = .ok (.iload_n 1, 1) := by decide +kernel
theorem dX4_value_2 : decode cX4_value 2 = .ok (.invokevirtual 113, 3) := by decide +kernel
theorem dX4_value_5 : decode cX4_value 5 = .ok (.iload_n 2, 1) := by decide +kernel
theorem dX4_value_6 : decode cX4_value 6 = .ok (.ifCond .lt 8, 3) := by decide +kernel
theorem dX4_value_9 : decode cX4_value 9 = .ok (.iload_n 2, 1) := by decide +kernel
theorem dX4_value_10 : decode cX4_value 10 = .ok (.iconst 1, 1) := by decide +kernel
theorem dX4_value_11 : decode cX4_value 11 = .ok (.if_icmp .le 13, 3) := by decide +kernel
theorem dX4_value_14 : decode cX4_value 14 = .ok (.new 53, 3) := by decide +kernel
theorem dX4_value_17 : decode cX4_value 17 = .ok (.dup, 1) := by decide +kernel
theorem dX4_value_18 : decode cX4_value 18 = .ok (.ldc 130, 2) := by decide +kernel
theorem dX4_value_20 : decode cX4_value 20 = .ok (.invokespecial 57, 3) := by decide +kernel
theorem dX4_value_23 : decode cX4_value 23 = .ok (.athrow, 1) := by decide +kernel
theorem dX4_value_24 : decode cX4_value 24 = .ok (.iload_n 2, 1) := by decide +kernel
theorem dX4_value_25 : decode cX4_value 25 = .ok (.ifCond .ne 14, 3) := by decide +kernel
theorem dX4_value_28 : decode cX4_value 28 = .ok (.aload_n 0, 1) := by decide +kernel
theorem dX4_value_29 : decode cX4_value 29 = .ok (.getfield 26, 3) := by decide +kernel
theorem dX4_value_32 : decode cX4_value 32 = .ok (.iload_n 1, 1) := by decide +kernel
theorem dX4_value_33 : decode cX4_value 33 = .ok (.invokevirtual 132, 3) := by decide +kernel
theorem dX4_value_36 : decode cX4_value 36 = .ok (.goto 11, 3) := by decide +kernel
theorem dX4_value_39 : decode cX4_value 39 = .ok (.aload_n 0, 1) := by decide +kernel
theorem dX4_value_40 : decode cX4_value 40 = .ok (.getfield 26, 3) := by decide +kernel
theorem dX4_value_43 : decode cX4_value 43 = .ok (.iload_n 1, 1) := by decide +kernel
theorem dX4_value_44 : decode cX4_value 44 = .ok (.invokevirtual 136, 3) := by decide +kernel
theorem dX4_value_47 : decode cX4_value 47 = .ok (.lreturn, 1) := by decide +kernel
set_option maxRecDepth 20000 in
theorem ggX4_term_X4_needGroup : GoodIn wsX4_term wsX4_needGroup := goodIn_ca (goodIn_r _ [6, 7, 8, 1, 9, 10, 11, 12, 13, 14, 20, 21, 22, 23, 24, 25, 26, 27, 28, 29, 30, 31, 32, 33, 34, 35, 36, 37, 38, 39] (by decide +kernel) (by decide +kernel)) (goodIn_sub (fun _ h => List.mem_cons_of_mem _ (List.mem_append_right _ h)) (by decide +kernel))
set_option maxRecDepth 20000 in
theorem gX4_term_X4_needGroup : GoodIn wsX4_term (wsV RX4 113 RX4 yX4_needGroup wsX4_needGroup) := goodIn_app (goodIn_of _ (by decide +kernel)) ggX4_term_X4_needGroup
set_option maxRecDepth 20000 in
theorem ggX4_term_X0_termOfResult : GoodIn wsX4_term wsX0_termOfResult := goodIn_r _ [18, 19, 28, 29, 30, 31, 32, 33, 34, 35, 36, 37, 38, 39] (by decide +kernel) (by decide +kernel)
set_option maxRecDepth 20000 in
theorem gX4_term_X0_termOfResult : GoodIn wsX4_term (wsV RX4 139 RX0 yX0_termOfResult wsX0_termOfResult) := goodIn_app (goodIn_of _ (by decide +kernel)) ggX4_term_X0_termOfResult
theorem dX4_term_0 : decode cX4_term 0 = .ok (.aload_n 0, 1) := by decide +kernel
theorem dX4_term_1 : decode cX4_term 1 = .ok (.iload_n 1, 1) := by decide +kernel
theorem dX4_term_2 : decode cX4_term 2 = .ok (.invokevirtual 113, 3) := by decide +kernel
theorem dX4_term_5 : decode cX4_term 5 = .ok (.aload_n 0, 1) := by decide +kernel
theorem dX4_term_6 : decode cX4_term 6 = .ok (.getfield 26, 3) := by decide +kernel
theorem dX4_term_9 : decode cX4_term 9 = .ok (.iload_n 1, 1) := by decide +kernel
theorem dX4_term_10 : decode cX4_term 10 = .ok (.invokevirtual 139, 3) := by decide +kernel
theorem dX4_term_13 : decode cX4_term 13 = .ok (.ireturn, 1) := by decide +kernel
set_option maxRecDepth 20000 in
theorem ggX4_length_X4_needGroup : GoodIn wsX4_length wsX4_needGroup := goodIn_ca (goodIn_r _ [6, 7, 8, 1, 9, 10, 11, 12, 13, 14, 20, 21, 22, 23, 24, 25, 26, 27, 28, 29, 30, 31, 32, 33, 34, 35, 36, 37, 38, 39] (by decide +kernel) (by decide +kernel)) (goodIn_sub (fun _ h => List.mem_cons_of_mem _ (List.mem_append_right _ h)) (by decide +kernel))
set_option maxRecDepth 20000 in
theorem gX4_length_X4_needGroup : GoodIn wsX4_length (wsV RX4 113 RX4 yX4_needGroup wsX4_needGroup) := goodIn_app (goodIn_of _ (by decide +kernel)) ggX4_length_X4_needGroup
set_option maxRecDepth 20000 in
theorem ggX4_length_X0_textLength : GoodIn wsX4_length wsX0_textLength := goodIn_r _ [18, 19, 28, 29, 30, 31, 32, 33, 34, 35, 36, 37, 38, 39] (by decide +kernel) (by decide +kernel)
set_option maxRecDepth 20000 in
theorem gX4_length_X0_textLength : GoodIn wsX4_length (wsV RX4 142 RX0 yX0_textLength wsX0_textLength) := goodIn_app (goodIn_of _ (by decide +kernel)) ggX4_length_X0_textLength
theorem dX4_length_0 : decode cX4_length 0 = .ok (.aload_n 0, 1) := by decide +kernel
theorem dX4_length_1 : decode cX4_length 1 = .ok (.iload_n 1, 1) := by decide +kernel
theorem dX4_length_2 : decode cX4_length 2 = .ok (.invokevirtual 113, 3) := by decide +kernel
theorem dX4_length_5 : decode cX4_length 5 = .ok (.aload_n 0, 1) := by decide +kernel
theorem dX4_length_6 : decode cX4_length 6 = .ok (.getfield 26, 3) := by decide +kernel
theorem dX4_length_9 : decode cX4_length 9 = .ok (.iload_n 1, 1) := by decide +kernel
theorem dX4_length_10 : decode cX4_length 10 = .ok (.invokevirtual 142, 3) := by decide +kernel
theorem dX4_length_13 : decode cX4_length 13 = .ok (.ireturn, 1) := by decide +kernel
set_option maxRecDepth 20000 in
theorem ggX4_charAt_X4_needGroup : GoodIn wsX4_charAt wsX4_needGroup := goodIn_ca (goodIn_r _ [8, 1, 2, 3, 9, 10, 11, 12, 13, 14, 26, 27, 28, 29, 30, 31, 32, 33, 34, 35, 36, 37, 38, 39, 40, 41, 42, 43, 44, 45] (by decide +kernel) (by decide +kernel)) (goodIn_sub (fun _ h => List.mem_cons_of_mem _ (List.mem_append_right _ h)) (by decide +kernel))
set_option maxRecDepth 20000 in
theorem gX4_charAt_X4_needGroup : GoodIn wsX4_charAt (wsV RX4 113 RX4 yX4_needGroup wsX4_needGroup) := goodIn_app (goodIn_of _ (by decide +kernel)) ggX4_charAt_X4_needGroup
set_option maxRecDepth 20000 in
theorem ggX4_charAt_X0_textLength : GoodIn wsX4_charAt wsX0_textLength := goodIn_r _ [18, 19, 34, 35, 36, 37, 38, 39, 40, 41, 42, 43, 44, 45] (by decide +kernel) (by decide +kernel)
set_option maxRecDepth 20000 in
theorem gX4_charAt_X0_textLength : GoodIn wsX4_charAt (wsV RX4 142 RX0 yX0_textLength wsX0_textLength) := goodIn_app (goodIn_of _ (by decide +kernel)) ggX4_charAt_X0_textLength
set_option maxRecDepth 20000 in
theorem ggX4_charAt_X0_character : GoodIn wsX4_charAt wsX0_character := goodIn_r _ [23, 24, 25, 34, 35, 36, 37, 38, 39, 40, 41, 42, 43, 44, 45] (by decide +kernel) (by decide +kernel)
set_option maxRecDepth 20000 in
theorem gX4_charAt_X0_character : GoodIn wsX4_charAt (wsV RX4 150 RX0 yX0_character wsX0_character) := goodIn_app (goodIn_of _ (by decide +kernel)) ggX4_charAt_X0_character
theorem dX4_charAt_0 : decode cX4_charAt 0 = .ok (.aload_n 0, 1) := by decide +kernel
theorem dX4_charAt_1 : decode cX4_charAt 1 = .ok (.iload_n 1, 1) := by decide +kernel
theorem dX4_charAt_2 : decode cX4_charAt 2 = .ok (.invokevirtual 113, 3) := by decide +kernel
theorem dX4_charAt_5 : decode cX4_charAt 5 = .ok (.iload_n 2, 1) := by decide +kernel
theorem dX4_charAt_6 : decode cX4_charAt 6 = .ok (.ifCond .lt 15, 3) := by decide +kernel
theorem dX4_charAt_9 : decode cX4_charAt 9 = .ok (.iload_n 2, 1) := by decide +kernel
theorem dX4_charAt_10 : decode cX4_charAt 10 = .ok (.aload_n 0, 1) := by decide +kernel
theorem dX4_charAt_11 : decode cX4_charAt 11 = .ok (.getfield 26, 3) := by decide +kernel
theorem dX4_charAt_14 : decode cX4_charAt 14 = .ok (.iload_n 1, 1) := by decide +kernel
theorem dX4_charAt_15 : decode cX4_charAt 15 = .ok (.invokevirtual 142, 3) := by decide +kernel
theorem dX4_charAt_18 : decode cX4_charAt 18 = .ok (.if_icmp .lt 13, 3) := by decide +kernel
theorem dX4_charAt_21 : decode cX4_charAt 21 = .ok (.new 145, 3) := by decide +kernel
theorem dX4_charAt_24 : decode cX4_charAt 24 = .ok (.dup, 1) := by decide +kernel
theorem dX4_charAt_25 : decode cX4_charAt 25 = .ok (.ldc 147, 2) := by decide +kernel
theorem dX4_charAt_27 : decode cX4_charAt 27 = .ok (.invokespecial 149, 3) := by decide +kernel
theorem dX4_charAt_30 : decode cX4_charAt 30 = .ok (.athrow, 1) := by decide +kernel
theorem dX4_charAt_31 : decode cX4_charAt 31 = .ok (.aload_n 0, 1) := by decide +kernel
theorem dX4_charAt_32 : decode cX4_charAt 32 = .ok (.getfield 26, 3) := by decide +kernel
theorem dX4_charAt_35 : decode cX4_charAt 35 = .ok (.iload_n 1, 1) := by decide +kernel
theorem dX4_charAt_36 : decode cX4_charAt 36 = .ok (.iload_n 2, 1) := by decide +kernel
theorem dX4_charAt_37 : decode cX4_charAt 37 = .ok (.invokevirtual 150, 3) := by decide +kernel
theorem dX4_charAt_40 : decode cX4_charAt 40 = .ok (.ireturn, 1) := by decide +kernel
set_option maxRecDepth 20000 in
theorem ggX4_having_X4_needGroup : GoodIn wsX4_having wsX4_needGroup := goodIn_ca (goodIn_r _ [11, 12, 13, 6, 14, 15, 16, 17, 18, 19, 35, 36, 37, 38, 39, 40, 41, 42, 43, 44, 45, 46, 47, 48, 49, 50, 51, 52, 53, 54] (by decide +kernel) (by decide +kernel)) (goodIn_sub (fun _ h => List.mem_cons_of_mem _ (List.mem_append_right _ h)) (by decide +kernel))
set_option maxRecDepth 20000 in
theorem gX4_having_X4_needGroup : GoodIn wsX4_having (wsV RX4 113 RX4 yX4_needGroup wsX4_needGroup) := goodIn_app (goodIn_of _ (by decide +kernel)) ggX4_having_X4_needGroup
set_option maxRecDepth 20000 in
theorem ggX4_having_X0_sortOf : GoodIn wsX4_having wsX0_sortOf := goodIn_r _ [23, 24, 43, 44, 45, 46, 47, 48, 49, 50, 51, 52, 53, 54] (by decide +kernel) (by decide +kernel)
set_option maxRecDepth 20000 in
theorem gX4_having_X0_sortOf : GoodIn wsX4_having (wsV RX4 124 RX0 yX0_sortOf wsX0_sortOf) := goodIn_app (goodIn_of _ (by decide +kernel)) ggX4_having_X0_sortOf
set_option maxRecDepth 20000 in
theorem ggX4_having_X0_upper : GoodIn wsX4_having wsX0_upper := goodIn_r _ [28, 29, 43, 44, 45, 46, 47, 48, 49, 50, 51, 52, 53, 54] (by decide +kernel) (by decide +kernel)
set_option maxRecDepth 20000 in
theorem gX4_having_X0_upper : GoodIn wsX4_having (wsV RX4 132 RX0 yX0_upper wsX0_upper) := goodIn_app (goodIn_of _ (by decide +kernel)) ggX4_having_X0_upper
set_option maxRecDepth 20000 in
theorem ggX4_having_X0_lower : GoodIn wsX4_having wsX0_lower := goodIn_r _ [33, 34, 43, 44, 45, 46, 47, 48, 49, 50, 51, 52, 53, 54] (by decide +kernel) (by decide +kernel)
set_option maxRecDepth 20000 in
theorem gX4_having_X0_lower : GoodIn wsX4_having (wsV RX4 136 RX0 yX0_lower wsX0_lower) := goodIn_app (goodIn_of _ (by decide +kernel)) ggX4_having_X0_lower
theorem dX4_having_0 : decode cX4_having 0 = .ok (.aload_n 0, 1) := by decide +kernel
theorem dX4_having_1 : decode cX4_having 1 = .ok (.iload_n 1, 1) := by decide +kernel
theorem dX4_having_2 : decode cX4_having 2 = .ok (.invokevirtual 113, 3) := by decide +kernel
theorem dX4_having_5 : decode cX4_having 5 = .ok (.lload_n 3, 1) := by decide +kernel
theorem dX4_having_6 : decode cX4_having 6 = .ok (.ldc2_w 154, 3) := by decide +kernel
theorem dX4_having_9 : decode cX4_having 9 = .ok (.lcmp, 1) := by decide +kernel
theorem dX4_having_10 : decode cX4_having 10 = .ok (.ifCond .lt 15, 3) := by decide +kernel
theorem dX4_having_13 : decode cX4_having 13 = .ok (.lload_n 3, 1) := by decide +kernel
theorem dX4_having_14 : decode cX4_having 14 = .ok (.ldc2_w 156, 3) := by decide +kernel
theorem dX4_having_17 : decode cX4_having 17 = .ok (.lcmp, 1) := by decide +kernel
theorem dX4_having_18 : decode cX4_having 18 = .ok (.ifCond .gt 7, 3) := by decide +kernel
theorem dX4_having_21 : decode cX4_having 21 = .ok (.iconst 1, 1) := by decide +kernel
theorem dX4_having_22 : decode cX4_having 22 = .ok (.goto 4, 3) := by decide +kernel
theorem dX4_having_25 : decode cX4_having 25 = .ok (.iconst 0, 1) := by decide +kernel
theorem dX4_having_26 : decode cX4_having 26 = .ok (.istore 7, 2) := by decide +kernel
theorem dX4_having_28 : decode cX4_having 28 = .ok (.lload 5, 2) := by decide +kernel
theorem dX4_having_30 : decode cX4_having 30 = .ok (.lconst 1, 1) := by decide +kernel
theorem dX4_having_31 : decode cX4_having 31 = .ok (.lcmp, 1) := by decide +kernel
theorem dX4_having_32 : decode cX4_having 32 = .ok (.ifCond .lt 16, 3) := by decide +kernel
theorem dX4_having_35 : decode cX4_having 35 = .ok (.lload 5, 2) := by decide +kernel
theorem dX4_having_37 : decode cX4_having 37 = .ok (.ldc2_w 158, 3) := by decide +kernel
theorem dX4_having_40 : decode cX4_having 40 = .ok (.lcmp, 1) := by decide +kernel
theorem dX4_having_41 : decode cX4_having 41 = .ok (.ifCond .gt 7, 3) := by decide +kernel
theorem dX4_having_44 : decode cX4_having 44 = .ok (.iconst 1, 1) := by decide +kernel
theorem dX4_having_45 : decode cX4_having 45 = .ok (.goto 4, 3) := by decide +kernel
theorem dX4_having_48 : decode cX4_having 48 = .ok (.iconst 0, 1) := by decide +kernel
theorem dX4_having_49 : decode cX4_having 49 = .ok (.istore 8, 2) := by decide +kernel
theorem dX4_having_51 : decode cX4_having 51 = .ok (.iload_n 2, 1) := by decide +kernel
theorem dX4_having_52 : decode cX4_having 52 = .ok (.ifCond .lt 18, 3) := by decide +kernel
theorem dX4_having_55 : decode cX4_having 55 = .ok (.iload_n 2, 1) := by decide +kernel
theorem dX4_having_56 : decode cX4_having 56 = .ok (.iconst 2, 1) := by decide +kernel
theorem dX4_having_57 : decode cX4_having 57 = .ok (.if_icmp .gt 13, 3) := by decide +kernel
theorem dX4_having_60 : decode cX4_having 60 = .ok (.iload 7, 2) := by decide +kernel
theorem dX4_having_62 : decode cX4_having 62 = .ok (.ifCond .eq 8, 3) := by decide +kernel
theorem dX4_having_65 : decode cX4_having 65 = .ok (.iload 8, 2) := by decide +kernel
theorem dX4_having_67 : decode cX4_having 67 = .ok (.ifCond .ne 13, 3) := by decide +kernel
theorem dX4_having_70 : decode cX4_having 70 = .ok (.new 53, 3) := by decide +kernel
theorem dX4_having_73 : decode cX4_having 73 = .ok (.dup, 1) := by decide +kernel
theorem dX4_having_74 : decode cX4_having 74 = .ok (.ldc 160, 2) := by decide +kernel
theorem dX4_having_76 : decode cX4_having 76 = .ok (.invokespecial 57, 3) := by decide +kernel
theorem dX4_having_79 : decode cX4_having 79 = .ok (.athrow, 1) := by decide +kernel
theorem dX4_having_80 : decode cX4_having 80 = .ok (.aload_n 0, 1) := by decide +kernel
theorem dX4_having_81 : decode cX4_having 81 = .ok (.getfield 26, 3) := by decide +kernel
theorem dX4_having_84 : decode cX4_having 84 = .ok (.iload_n 1, 1) := by decide +kernel
theorem dX4_having_85 : decode cX4_having 85 = .ok (.invokevirtual 124, 3) := by decide +kernel
theorem dX4_having_88 : decode cX4_having 88 = .ok (.ifCond .eq 5, 3) := by decide +kernel
theorem dX4_having_91 : decode cX4_having 91 = .ok (.iconst 0, 1) := by decide +kernel
theorem dX4_having_92 : decode cX4_having 92 = .ok (.ireturn, 1) := by decide +kernel
theorem dX4_having_93 : decode cX4_having 93 = .ok (.aload_n 0, 1) := by decide +kernel
theorem dX4_having_94 : decode cX4_having 94 = .ok (.getfield 26, 3) := by decide +kernel
theorem dX4_having_97 : decode cX4_having 97 = .ok (.iload_n 1, 1) := by decide +kernel
theorem dX4_having_98 : decode cX4_having 98 = .ok (.invokevirtual 132, 3) := by decide +kernel
theorem dX4_having_101 : decode cX4_having 101 = .ok (.lload 5, 2) := by decide +kernel
theorem dX4_having_103 : decode cX4_having 103 = .ok (.lmul, 1) := by decide +kernel
theorem dX4_having_104 : decode cX4_having 104 = .ok (.lstore 9, 2) := by decide +kernel
theorem dX4_having_106 : decode cX4_having 106 = .ok (.lload_n 3, 1) := by decide +kernel
theorem dX4_having_107 : decode cX4_having 107 = .ok (.aload_n 0, 1) := by decide +kernel
theorem dX4_having_108 : decode cX4_having 108 = .ok (.getfield 26, 3) := by decide +kernel
theorem dX4_having_111 : decode cX4_having 111 = .ok (.iload_n 1, 1) := by decide +kernel
theorem dX4_having_112 : decode cX4_having 112 = .ok (.invokevirtual 136, 3) := by decide +kernel
theorem dX4_having_115 : decode cX4_having 115 = .ok (.lmul, 1) := by decide +kernel
theorem dX4_having_116 : decode cX4_having 116 = .ok (.lstore 11, 2) := by decide +kernel
theorem dX4_having_118 : decode cX4_having 118 = .ok (.iload_n 2, 1) := by decide +kernel
theorem dX4_having_119 : decode cX4_having 119 = .ok (.ifCond .ne 19, 3) := by decide +kernel
theorem dX4_having_122 : decode cX4_having 122 = .ok (.lload 9, 2) := by decide +kernel
theorem dX4_having_124 : decode cX4_having 124 = .ok (.lload 11, 2) := by decide +kernel
theorem dX4_having_126 : decode cX4_having 126 = .ok (.lcmp, 1) := by decide +kernel
theorem dX4_having_127 : decode cX4_having 127 = .ok (.ifCond .ge 7, 3) := by decide +kernel
theorem dX4_having_130 : decode cX4_having 130 = .ok (.iconst 1, 1) := by decide +kernel
theorem dX4_having_131 : decode cX4_having 131 = .ok (.goto 41, 3) := by decide +kernel
theorem dX4_having_134 : decode cX4_having 134 = .ok (.iconst 0, 1) := by decide +kernel
theorem dX4_having_135 : decode cX4_having 135 = .ok (.goto 37, 3) := by decide +kernel
theorem dX4_having_138 : decode cX4_having 138 = .ok (.iload_n 2, 1) := by decide +kernel
theorem dX4_having_139 : decode cX4_having 139 = .ok (.iconst 1, 1) := by decide +kernel
theorem dX4_having_140 : decode cX4_having 140 = .ok (.if_icmp .ne 19, 3) := by decide +kernel
theorem dX4_having_143 : decode cX4_having 143 = .ok (.lload 9, 2) := by decide +kernel
theorem dX4_having_145 : decode cX4_having 145 = .ok (.lload 11, 2) := by decide +kernel
theorem dX4_having_147 : decode cX4_having 147 = .ok (.lcmp, 1) := by decide +kernel
theorem dX4_having_148 : decode cX4_having 148 = .ok (.ifCond .ne 7, 3) := by decide +kernel
theorem dX4_having_151 : decode cX4_having 151 = .ok (.iconst 1, 1) := by decide +kernel
theorem dX4_having_152 : decode cX4_having 152 = .ok (.goto 20, 3) := by decide +kernel
theorem dX4_having_155 : decode cX4_having 155 = .ok (.iconst 0, 1) := by decide +kernel
theorem dX4_having_156 : decode cX4_having 156 = .ok (.goto 16, 3) := by decide +kernel
theorem dX4_having_159 : decode cX4_having 159 = .ok (.lload 9, 2) := by decide +kernel
theorem dX4_having_161 : decode cX4_having 161 = .ok (.lload 11, 2) := by decide +kernel
theorem dX4_having_163 : decode cX4_having 163 = .ok (.lcmp, 1) := by decide +kernel
theorem dX4_having_164 : decode cX4_having 164 = .ok (.ifCond .le 7, 3) := by decide +kernel
theorem dX4_having_167 : decode cX4_having 167 = .ok (.iconst 1, 1) := by decide +kernel
theorem dX4_having_168 : decode cX4_having 168 = .ok (.goto 4, 3) := by decide +kernel
theorem dX4_having_171 : decode cX4_having 171 = .ok (.iconst 0, 1) := by decide +kernel
theorem dX4_having_172 : decode cX4_having 172 = .ok (.ireturn, 1) := by decide +kernel
set_option maxRecDepth 20000 in
theorem ggX4_told_X2_count : GoodIn wsX4_told wsX2_count := goodIn_r _ [10, 11, 32, 33, 34, 35] (by decide +kernel) (by decide +kernel)
set_option maxRecDepth 20000 in
theorem gX4_told_X2_count : GoodIn wsX4_told (wsV RX4 164 RX2 yX2_count wsX2_count) := goodIn_app (goodIn_of _ (by decide +kernel)) ggX4_told_X2_count
set_option maxRecDepth 20000 in
theorem ggX4_told_X1_count : GoodIn wsX4_told wsX1_count := goodIn_r _ [16, 17, 36, 37, 38, 39] (by decide +kernel) (by decide +kernel)
set_option maxRecDepth 20000 in
theorem gX4_told_X1_count : GoodIn wsX4_told (wsV RX4 89 RX1 yX1_count wsX1_count) := goodIn_app (goodIn_of _ (by decide +kernel)) ggX4_told_X1_count
set_option maxRecDepth 20000 in
theorem ggX4_told_X0_count : GoodIn wsX4_told wsX0_count := goodIn_r _ [22, 23, 40, 41, 42, 43, 44, 45, 46, 47, 48, 49, 50, 51] (by decide +kernel) (by decide +kernel)
set_option maxRecDepth 20000 in
theorem gX4_told_X0_count : GoodIn wsX4_told (wsV RX4 104 RX0 yX0_count wsX0_count) := goodIn_app (goodIn_of _ (by decide +kernel)) ggX4_told_X0_count
theorem dX4_told_0 : decode cX4_told 0 = .ok (.iload_n 1, 1) := by decide +kernel
theorem dX4_told_1 : decode cX4_told 1 = .ok (.ifCond .lt 8, 3) := by decide +kernel
theorem dX4_told_4 : decode cX4_told 4 = .ok (.iload_n 1, 1) := by decide +kernel
theorem dX4_told_5 : decode cX4_told 5 = .ok (.iconst 2, 1) := by decide +kernel
theorem dX4_told_6 : decode cX4_told 6 = .ok (.if_icmp .le 13, 3) := by decide +kernel
theorem dX4_told_9 : decode cX4_told 9 = .ok (.new 53, 3) := by decide +kernel
theorem dX4_told_12 : decode cX4_told 12 = .ok (.dup, 1) := by decide +kernel
theorem dX4_told_13 : decode cX4_told 13 = .ok (.ldc 162, 2) := by decide +kernel
theorem dX4_told_15 : decode cX4_told 15 = .ok (.invokespecial 57, 3) := by decide +kernel
theorem dX4_told_18 : decode cX4_told 18 = .ok (.athrow, 1) := by decide +kernel
theorem dX4_told_19 : decode cX4_told 19 = .ok (.iload_n 1, 1) := by decide +kernel
theorem dX4_told_20 : decode cX4_told 20 = .ok (.ifCond .ne 13, 3) := by decide +kernel
theorem dX4_told_23 : decode cX4_told 23 = .ok (.aload_n 0, 1) := by decide +kernel
theorem dX4_told_24 : decode cX4_told 24 = .ok (.getfield 10, 3) := by decide +kernel
theorem dX4_told_27 : decode cX4_told 27 = .ok (.invokevirtual 164, 3) := by decide +kernel
theorem dX4_told_30 : decode cX4_told 30 = .ok (.goto 25, 3) := by decide +kernel
theorem dX4_told_33 : decode cX4_told 33 = .ok (.iload_n 1, 1) := by decide +kernel
theorem dX4_told_34 : decode cX4_told 34 = .ok (.iconst 1, 1) := by decide +kernel
theorem dX4_told_35 : decode cX4_told 35 = .ok (.if_icmp .ne 13, 3) := by decide +kernel
theorem dX4_told_38 : decode cX4_told 38 = .ok (.aload_n 0, 1) := by decide +kernel
theorem dX4_told_39 : decode cX4_told 39 = .ok (.getfield 19, 3) := by decide +kernel
theorem dX4_told_42 : decode cX4_told 42 = .ok (.invokevirtual 89, 3) := by decide +kernel
theorem dX4_told_45 : decode cX4_told 45 = .ok (.goto 10, 3) := by decide +kernel
theorem dX4_told_48 : decode cX4_told 48 = .ok (.aload_n 0, 1) := by decide +kernel
theorem dX4_told_49 : decode cX4_told 49 = .ok (.getfield 26, 3) := by decide +kernel
theorem dX4_told_52 : decode cX4_told 52 = .ok (.invokevirtual 104, 3) := by decide +kernel
theorem dX4_told_55 : decode cX4_told 55 = .ok (.ireturn, 1) := by decide +kernel
set_option maxRecDepth 20000 in
theorem ggX4_termOf_X2_find : GoodIn wsX4_termOf wsX2_find := goodIn_r _ [8, 9, 10, 11, 12, 29, 30, 31, 32] (by decide +kernel) (by decide +kernel)
set_option maxRecDepth 20000 in
theorem gX4_termOf_X2_find : GoodIn wsX4_termOf (wsV RX4 165 RX2 yX2_find wsX2_find) := goodIn_app (goodIn_of _ (by decide +kernel)) ggX4_termOf_X2_find
set_option maxRecDepth 20000 in
theorem ggX4_termOf_X2_isFull : GoodIn wsX4_termOf wsX2_isFull := goodIn_r _ [16, 9, 29, 30, 31, 32] (by decide +kernel) (by decide +kernel)
set_option maxRecDepth 20000 in
theorem gX4_termOf_X2_isFull : GoodIn wsX4_termOf (wsV RX4 168 RX2 yX2_isFull wsX2_isFull) := goodIn_app (goodIn_of _ (by decide +kernel)) ggX4_termOf_X2_isFull
set_option maxRecDepth 20000 in
theorem ggX4_termOf_X2_add : GoodIn wsX4_termOf wsX2_add := goodIn_r _ [20, 9, 10, 11, 12, 29, 30, 31, 32] (by decide +kernel) (by decide +kernel)
set_option maxRecDepth 20000 in
theorem gX4_termOf_X2_add : GoodIn wsX4_termOf (wsV RX4 171 RX2 yX2_add wsX2_add) := goodIn_app (goodIn_of _ (by decide +kernel)) ggX4_termOf_X2_add
theorem dX4_termOf_0 : decode cX4_termOf 0 = .ok (.aload_n 0, 1) := by decide +kernel
theorem dX4_termOf_1 : decode cX4_termOf 1 = .ok (.getfield 10, 3) := by decide +kernel
theorem dX4_termOf_4 : decode cX4_termOf 4 = .ok (.lload_n 1, 1) := by decide +kernel
theorem dX4_termOf_5 : decode cX4_termOf 5 = .ok (.iload_n 3, 1) := by decide +kernel
theorem dX4_termOf_6 : decode cX4_termOf 6 = .ok (.iload 4, 2) := by decide +kernel
theorem dX4_termOf_8 : decode cX4_termOf 8 = .ok (.invokevirtual 165, 3) := by decide +kernel
theorem dX4_termOf_11 : decode cX4_termOf 11 = .ok (.istore 5, 2) := by decide +kernel
theorem dX4_termOf_13 : decode cX4_termOf 13 = .ok (.iload 5, 2) := by decide +kernel
theorem dX4_termOf_15 : decode cX4_termOf 15 = .ok (.iconst (-1), 1) := by decide +kernel
theorem dX4_termOf_16 : decode cX4_termOf 16 = .ok (.if_icmp .eq 6, 3) := by decide +kernel
theorem dX4_termOf_19 : decode cX4_termOf 19 = .ok (.iload 5, 2) := by decide +kernel
theorem dX4_termOf_21 : decode cX4_termOf 21 = .ok (.ireturn, 1) := by decide +kernel
theorem dX4_termOf_22 : decode cX4_termOf 22 = .ok (.aload_n 0, 1) := by decide +kernel
theorem dX4_termOf_23 : decode cX4_termOf 23 = .ok (.getfield 10, 3) := by decide +kernel
theorem dX4_termOf_26 : decode cX4_termOf 26 = .ok (.invokevirtual 168, 3) := by decide +kernel
theorem dX4_termOf_29 : decode cX4_termOf 29 = .ok (.ifCond .eq 13, 3) := by decide +kernel
theorem dX4_termOf_32 : decode cX4_termOf 32 = .ok (.new 80, 3) := by decide +kernel
theorem dX4_termOf_35 : decode cX4_termOf 35 = .ok (.dup, 1) := by decide +kernel
theorem dX4_termOf_36 : decode cX4_termOf 36 = .ok (.ldc 169, 2) := by decide +kernel
theorem dX4_termOf_38 : decode cX4_termOf 38 = .ok (.invokespecial 84, 3) := by decide +kernel
theorem dX4_termOf_41 : decode cX4_termOf 41 = .ok (.athrow, 1) := by decide +kernel
theorem dX4_termOf_42 : decode cX4_termOf 42 = .ok (.aload_n 0, 1) := by decide +kernel
theorem dX4_termOf_43 : decode cX4_termOf 43 = .ok (.getfield 10, 3) := by decide +kernel
theorem dX4_termOf_46 : decode cX4_termOf 46 = .ok (.lload_n 1, 1) := by decide +kernel
theorem dX4_termOf_47 : decode cX4_termOf 47 = .ok (.iload_n 3, 1) := by decide +kernel
theorem dX4_termOf_48 : decode cX4_termOf 48 = .ok (.iload 4, 2) := by decide +kernel
theorem dX4_termOf_50 : decode cX4_termOf 50 = .ok (.invokevirtual 171, 3) := by decide +kernel
theorem dX4_termOf_53 : decode cX4_termOf 53 = .ok (.ireturn, 1) := by decide +kernel
set_option maxRecDepth 20000 in
theorem ggX4_needGroup_X0_count : GoodIn wsX4_needGroup wsX0_count := goodIn_r _ [8, 9, 18, 19, 20, 21, 22, 23, 24, 25, 26, 27, 28, 29] (by decide +kernel) (by decide +kernel)
set_option maxRecDepth 20000 in
theorem gX4_needGroup_X0_count : GoodIn wsX4_needGroup (wsV RX4 104 RX0 yX0_count wsX0_count) := goodIn_app (goodIn_of _ (by decide +kernel)) ggX4_needGroup_X0_count
theorem dX4_needGroup_0 : decode cX4_needGroup 0 = .ok (.iload_n 1, 1) := by decide +kernel
theorem dX4_needGroup_1 : decode cX4_needGroup 1 = .ok (.ifCond .lt 14, 3) := by decide +kernel
theorem dX4_needGroup_4 : decode cX4_needGroup 4 = .ok (.iload_n 1, 1) := by decide +kernel
theorem dX4_needGroup_5 : decode cX4_needGroup 5 = .ok (.aload_n 0, 1) := by decide +kernel
theorem dX4_needGroup_6 : decode cX4_needGroup 6 = .ok (.getfield 26, 3) := by decide +kernel
theorem dX4_needGroup_9 : decode cX4_needGroup 9 = .ok (.invokevirtual 104, 3) := by decide +kernel
theorem dX4_needGroup_12 : decode cX4_needGroup 12 = .ok (.if_icmp .lt 13, 3) := by decide +kernel
theorem dX4_needGroup_15 : decode cX4_needGroup 15 = .ok (.new 145, 3) := by decide +kernel
theorem dX4_needGroup_18 : decode cX4_needGroup 18 = .ok (.dup, 1) := by decide +kernel
theorem dX4_needGroup_19 : decode cX4_needGroup 19 = .ok (.ldc 173, 2) := by decide +kernel
theorem dX4_needGroup_21 : decode cX4_needGroup 21 = .ok (.invokespecial 149, 3) := by decide +kernel
theorem dX4_needGroup_24 : decode cX4_needGroup 24 = .ok (.athrow, 1) := by decide +kernel
theorem dX4_needGroup_25 : decode cX4_needGroup 25 = .ok (.return_, 1) := by decide +kernel
set_option maxRecDepth 20000 in
theorem ggX4_makeGroups_X0_clear : GoodIn wsX4_makeGroups wsX0_clear := goodIn_r _ [9, 10, 11, 83, 84, 85, 86, 87, 88, 89, 90, 91, 92, 93, 94] (by decide +kernel) (by decide +kernel)
set_option maxRecDepth 20000 in
theorem gX4_makeGroups_X0_clear : GoodIn wsX4_makeGroups (wsV RX4 175 RX0 yX0_clear wsX0_clear) := goodIn_app (goodIn_of _ (by decide +kernel)) ggX4_makeGroups_X0_clear
set_option maxRecDepth 20000 in
theorem ggX4_makeGroups_X1_count : GoodIn wsX4_makeGroups wsX1_count := goodIn_r _ [16, 17, 95, 96, 97, 98] (by decide +kernel) (by decide +kernel)
set_option maxRecDepth 20000 in
theorem gX4_makeGroups_X1_count : GoodIn wsX4_makeGroups (wsV RX4 89 RX1 yX1_count wsX1_count) := goodIn_app (goodIn_of _ (by decide +kernel)) ggX4_makeGroups_X1_count
set_option maxRecDepth 20000 in
theorem ggX4_makeGroups_X1_keyAt : GoodIn wsX4_makeGroups wsX1_keyAt := goodIn_r _ [21, 22, 95, 96, 97, 98] (by decide +kernel) (by decide +kernel)
set_option maxRecDepth 20000 in
theorem gX4_makeGroups_X1_keyAt : GoodIn wsX4_makeGroups (wsV RX4 178 RX1 yX1_keyAt wsX1_keyAt) := goodIn_app (goodIn_of _ (by decide +kernel)) ggX4_makeGroups_X1_keyAt
set_option maxRecDepth 20000 in
theorem ggX4_makeGroups_X4_groupOfKey : GoodIn wsX4_makeGroups wsX4_groupOfKey := goodIn_r _ [27, 1, 28, 29, 30, 8, 31, 10, 32, 33, 34, 35, 36, 37, 38, 39, 26, 40, 4, 41, 42, 43, 44, 45, 46, 47, 48, 49, 50, 51, 52, 53, 54, 55, 56, 57, 58, 75, 76, 77, 78, 79, 80, 81, 82, 83, 84, 85, 86, 87, 88, 89, 90, 91, 92, 93, 94, 99, 100, 101, 102] (by decide +kernel) (by decide +kernel)
set_option maxRecDepth 20000 in
theorem gX4_makeGroups_X4_groupOfKey : GoodIn wsX4_makeGroups (wsV RX4 181 RX4 yX4_groupOfKey wsX4_groupOfKey) := goodIn_app (goodIn_of _ (by decide +kernel)) ggX4_makeGroups_X4_groupOfKey
set_option maxRecDepth 20000 in
theorem ggX4_makeGroups_X0_count : GoodIn wsX4_makeGroups wsX0_count := goodIn_r _ [31, 10, 83, 84, 85, 86, 87, 88, 89, 90, 91, 92, 93, 94] (by decide +kernel) (by decide +kernel)
set_option maxRecDepth 20000 in
theorem gX4_makeGroups_X0_count : GoodIn wsX4_makeGroups (wsV RX4 104 RX0 yX0_count wsX0_count) := goodIn_app (goodIn_of _ (by decide +kernel)) ggX4_makeGroups_X0_count
set_option maxRecDepth 20000 in
theorem ggX4_makeGroups_X0_open : GoodIn wsX4_makeGroups wsX0_open := goodIn_r _ [62, 36, 10, 63, 64, 65, 66, 67, 68, 69, 70, 83, 84, 85, 86, 87, 88, 89, 90, 91, 92, 93, 94] (by decide +kernel) (by decide +kernel)
set_option maxRecDepth 20000 in
theorem gX4_makeGroups_X0_open : GoodIn wsX4_makeGroups (wsV RX4 184 RX0 yX0_open wsX0_open) := goodIn_app (goodIn_of _ (by decide +kernel)) ggX4_makeGroups_X0_open
set_option maxRecDepth 20000 in
theorem ggX4_makeGroups_X0_addRow : GoodIn wsX4_makeGroups wsX0_addRow := goodIn_r _ [74, 63, 83, 84, 85, 86, 87, 88, 89, 90, 91, 92, 93, 94] (by decide +kernel) (by decide +kernel)
set_option maxRecDepth 20000 in
theorem gX4_makeGroups_X0_addRow : GoodIn wsX4_makeGroups (wsV RX4 187 RX0 yX0_addRow wsX0_addRow) := goodIn_app (goodIn_of _ (by decide +kernel)) ggX4_makeGroups_X0_addRow
theorem dX4_makeGroups_0 : decode cX4_makeGroups 0 = .ok (.aload_n 0, 1) := by decide +kernel
theorem dX4_makeGroups_1 : decode cX4_makeGroups 1 = .ok (.getfield 26, 3) := by decide +kernel
theorem dX4_makeGroups_4 : decode cX4_makeGroups 4 = .ok (.invokevirtual 175, 3) := by decide +kernel
theorem dX4_makeGroups_7 : decode cX4_makeGroups 7 = .ok (.iconst 0, 1) := by decide +kernel
theorem dX4_makeGroups_8 : decode cX4_makeGroups 8 = .ok (.istore_n 1, 1) := by decide +kernel
theorem dX4_makeGroups_9 : decode cX4_makeGroups 9 = .ok (.iload_n 1, 1) := by decide +kernel
theorem dX4_makeGroups_10 : decode cX4_makeGroups 10 = .ok (.aload_n 0, 1) := by decide +kernel
theorem dX4_makeGroups_11 : decode cX4_makeGroups 11 = .ok (.getfield 19, 3) := by decide +kernel
theorem dX4_makeGroups_14 : decode cX4_makeGroups 14 = .ok (.invokevirtual 89, 3) := by decide +kernel
theorem dX4_makeGroups_17 : decode cX4_makeGroups 17 = .ok (.if_icmp .ge 63, 3) := by decide +kernel
theorem dX4_makeGroups_20 : decode cX4_makeGroups 20 = .ok (.aload_n 0, 1) := by decide +kernel
theorem dX4_makeGroups_21 : decode cX4_makeGroups 21 = .ok (.aload_n 0, 1) := by decide +kernel
theorem dX4_makeGroups_22 : decode cX4_makeGroups 22 = .ok (.getfield 19, 3) := by decide +kernel
theorem dX4_makeGroups_25 : decode cX4_makeGroups 25 = .ok (.iload_n 1, 1) := by decide +kernel
theorem dX4_makeGroups_26 : decode cX4_makeGroups 26 = .ok (.invokevirtual 178, 3) := by decide +kernel
theorem dX4_makeGroups_29 : decode cX4_makeGroups 29 = .ok (.invokevirtual 181, 3) := by decide +kernel
theorem dX4_makeGroups_32 : decode cX4_makeGroups 32 = .ok (.istore_n 2, 1) := by decide +kernel
theorem dX4_makeGroups_33 : decode cX4_makeGroups 33 = .ok (.iload_n 2, 1) := by decide +kernel
theorem dX4_makeGroups_34 : decode cX4_makeGroups 34 = .ok (.aload_n 0, 1) := by decide +kernel
theorem dX4_makeGroups_35 : decode cX4_makeGroups 35 = .ok (.getfield 26, 3) := by decide +kernel
theorem dX4_makeGroups_38 : decode cX4_makeGroups 38 = .ok (.invokevirtual 104, 3) := by decide +kernel
theorem dX4_makeGroups_41 : decode cX4_makeGroups 41 = .ok (.if_icmp .ne 18, 3) := by decide +kernel
theorem dX4_makeGroups_44 : decode cX4_makeGroups 44 = .ok (.aload_n 0, 1) := by decide +kernel
theorem dX4_makeGroups_45 : decode cX4_makeGroups 45 = .ok (.getfield 26, 3) := by decide +kernel
theorem dX4_makeGroups_48 : decode cX4_makeGroups 48 = .ok (.aload_n 0, 1) := by decide +kernel
theorem dX4_makeGroups_49 : decode cX4_makeGroups 49 = .ok (.getfield 19, 3) := by decide +kernel
theorem dX4_makeGroups_52 : decode cX4_makeGroups 52 = .ok (.iload_n 1, 1) := by decide +kernel
theorem dX4_makeGroups_53 : decode cX4_makeGroups 53 = .ok (.invokevirtual 178, 3) := by decide +kernel
theorem dX4_makeGroups_56 : decode cX4_makeGroups 56 = .ok (.invokevirtual 184, 3) := by decide +kernel
theorem dX4_makeGroups_59 : decode cX4_makeGroups 59 = .ok (.aload_n 0, 1) := by decide +kernel
theorem dX4_makeGroups_60 : decode cX4_makeGroups 60 = .ok (.getfield 26, 3) := by decide +kernel
theorem dX4_makeGroups_63 : decode cX4_makeGroups 63 = .ok (.iload_n 2, 1) := by decide +kernel
theorem dX4_makeGroups_64 : decode cX4_makeGroups 64 = .ok (.invokevirtual 187, 3) := by decide +kernel
theorem dX4_makeGroups_67 : decode cX4_makeGroups 67 = .ok (.aload_n 0, 1) := by decide +kernel
theorem dX4_makeGroups_68 : decode cX4_makeGroups 68 = .ok (.getfield 37, 3) := by decide +kernel
theorem dX4_makeGroups_71 : decode cX4_makeGroups 71 = .ok (.iload_n 1, 1) := by decide +kernel
theorem dX4_makeGroups_72 : decode cX4_makeGroups 72 = .ok (.iload_n 2, 1) := by decide +kernel
theorem dX4_makeGroups_73 : decode cX4_makeGroups 73 = .ok (.iastore, 1) := by decide +kernel
theorem dX4_makeGroups_74 : decode cX4_makeGroups 74 = .ok (.iinc 1 1, 3) := by decide +kernel
theorem dX4_makeGroups_77 : decode cX4_makeGroups 77 = .ok (.goto (-68), 3) := by decide +kernel
theorem dX4_makeGroups_80 : decode cX4_makeGroups 80 = .ok (.aload_n 0, 1) := by decide +kernel
theorem dX4_makeGroups_81 : decode cX4_makeGroups 81 = .ok (.getfield 41, 3) := by decide +kernel
theorem dX4_makeGroups_84 : decode cX4_makeGroups 84 = .ok (.iconst 2, 1) := by decide +kernel
theorem dX4_makeGroups_85 : decode cX4_makeGroups 85 = .ok (.if_icmp .ne 21, 3) := by decide +kernel
theorem dX4_makeGroups_88 : decode cX4_makeGroups 88 = .ok (.aload_n 0, 1) := by decide +kernel
theorem dX4_makeGroups_89 : decode cX4_makeGroups 89 = .ok (.getfield 26, 3) := by decide +kernel
theorem dX4_makeGroups_92 : decode cX4_makeGroups 92 = .ok (.invokevirtual 104, 3) := by decide +kernel
theorem dX4_makeGroups_95 : decode cX4_makeGroups 95 = .ok (.ifCond .ne 11, 3) := by decide +kernel
theorem dX4_makeGroups_98 : decode cX4_makeGroups 98 = .ok (.aload_n 0, 1) := by decide +kernel
theorem dX4_makeGroups_99 : decode cX4_makeGroups 99 = .ok (.getfield 26, 3) := by decide +kernel
theorem dX4_makeGroups_102 : decode cX4_makeGroups 102 = .ok (.iconst (-1), 1) := by decide +kernel
theorem dX4_makeGroups_103 : decode cX4_makeGroups 103 = .ok (.invokevirtual 184, 3) := by decide +kernel
theorem dX4_makeGroups_106 : decode cX4_makeGroups 106 = .ok (.return_, 1) := by decide +kernel
set_option maxRecDepth 20000 in
theorem ggX4_groupOfKey_X0_count : GoodIn wsX4_groupOfKey wsX0_count := goodIn_r _ [6, 7, 45, 46, 47, 48, 49, 50, 51, 52, 53, 54, 55, 56] (by decide +kernel) (by decide +kernel)
set_option maxRecDepth 20000 in
theorem gX4_groupOfKey_X0_count : GoodIn wsX4_groupOfKey (wsV RX4 104 RX0 yX0_count wsX0_count) := goodIn_app (goodIn_of _ (by decide +kernel)) ggX4_groupOfKey_X0_count
set_option maxRecDepth 20000 in
theorem ggX4_groupOfKey_X0_firstKey : GoodIn wsX4_groupOfKey wsX0_firstKey := goodIn_r _ [11, 12, 45, 46, 47, 48, 49, 50, 51, 52, 53, 54, 55, 56] (by decide +kernel) (by decide +kernel)
set_option maxRecDepth 20000 in
theorem gX4_groupOfKey_X0_firstKey : GoodIn wsX4_groupOfKey (wsV RX4 117 RX0 yX0_firstKey wsX0_firstKey) := goodIn_app (goodIn_of _ (by decide +kernel)) ggX4_groupOfKey_X0_firstKey
set_option maxRecDepth 20000 in
theorem ggX4_groupOfKey_X4_belongTogether : GoodIn wsX4_groupOfKey wsX4_belongTogether := goodIn_r _ [17, 18, 19, 20, 21, 22, 23, 24, 25, 26, 27, 28, 29, 30, 31, 32, 33, 34, 35, 36, 37, 38, 39, 40, 41, 42, 43, 44, 57, 58, 59, 60] (by decide +kernel) (by decide +kernel)
set_option maxRecDepth 20000 in
theorem gX4_groupOfKey_X4_belongTogether : GoodIn wsX4_groupOfKey (wsV RX4 190 RX4 yX4_belongTogether wsX4_belongTogether) := goodIn_app (goodIn_of _ (by decide +kernel)) ggX4_groupOfKey_X4_belongTogether
theorem dX4_groupOfKey_0 : decode cX4_groupOfKey 0 = .ok (.iconst 0, 1) := by decide +kernel
theorem dX4_groupOfKey_1 : decode cX4_groupOfKey 1 = .ok (.istore_n 2, 1) := by decide +kernel
theorem dX4_groupOfKey_2 : decode cX4_groupOfKey 2 = .ok (.iload_n 2, 1) := by decide +kernel
theorem dX4_groupOfKey_3 : decode cX4_groupOfKey 3 = .ok (.aload_n 0, 1) := by decide +kernel
theorem dX4_groupOfKey_4 : decode cX4_groupOfKey 4 = .ok (.getfield 26, 3) := by decide +kernel
theorem dX4_groupOfKey_7 : decode cX4_groupOfKey 7 = .ok (.invokevirtual 104, 3) := by decide +kernel
theorem dX4_groupOfKey_10 : decode cX4_groupOfKey 10 = .ok (.if_icmp .ge 27, 3) := by decide +kernel
theorem dX4_groupOfKey_13 : decode cX4_groupOfKey 13 = .ok (.aload_n 0, 1) := by decide +kernel
theorem dX4_groupOfKey_14 : decode cX4_groupOfKey 14 = .ok (.aload_n 0, 1) := by decide +kernel
theorem dX4_groupOfKey_15 : decode cX4_groupOfKey 15 = .ok (.getfield 26, 3) := by decide +kernel
theorem dX4_groupOfKey_18 : decode cX4_groupOfKey 18 = .ok (.iload_n 2, 1) := by decide +kernel
theorem dX4_groupOfKey_19 : decode cX4_groupOfKey 19 = .ok (.invokevirtual 117, 3) := by decide +kernel
theorem dX4_groupOfKey_22 : decode cX4_groupOfKey 22 = .ok (.iload_n 1, 1) := by decide +kernel
theorem dX4_groupOfKey_23 : decode cX4_groupOfKey 23 = .ok (.invokevirtual 190, 3) := by decide +kernel
theorem dX4_groupOfKey_26 : decode cX4_groupOfKey 26 = .ok (.ifCond .eq 5, 3) := by decide +kernel
theorem dX4_groupOfKey_29 : decode cX4_groupOfKey 29 = .ok (.iload_n 2, 1) := by decide +kernel
theorem dX4_groupOfKey_30 : decode cX4_groupOfKey 30 = .ok (.ireturn, 1) := by decide +kernel
theorem dX4_groupOfKey_31 : decode cX4_groupOfKey 31 = .ok (.iinc 2 1, 3) := by decide +kernel
theorem dX4_groupOfKey_34 : decode cX4_groupOfKey 34 = .ok (.goto (-32), 3) := by decide +kernel
theorem dX4_groupOfKey_37 : decode cX4_groupOfKey 37 = .ok (.aload_n 0, 1) := by decide +kernel
theorem dX4_groupOfKey_38 : decode cX4_groupOfKey 38 = .ok (.getfield 26, 3) := by decide +kernel
theorem dX4_groupOfKey_41 : decode cX4_groupOfKey 41 = .ok (.invokevirtual 104, 3) := by decide +kernel
theorem dX4_groupOfKey_44 : decode cX4_groupOfKey 44 = .ok (.ireturn, 1) := by decide +kernel
set_option maxRecDepth 20000 in
theorem ggX4_belongTogether_X2_order : GoodIn wsX4_belongTogether wsX2_order := goodIn_r _ [7, 8, 9, 10, 11, 6, 12, 13, 14, 15, 16, 17, 18, 19, 28, 29, 30, 31] (by decide +kernel) (by decide +kernel)
set_option maxRecDepth 20000 in
theorem gX4_belongTogether_X2_order : GoodIn wsX4_belongTogether (wsV RX4 194 RX2 yX2_order wsX2_order) := goodIn_app (goodIn_of _ (by decide +kernel)) ggX4_belongTogether_X2_order
theorem dX4_belongTogether_0 : decode cX4_belongTogether 0 = .ok (.aload_n 0, 1) := by decide +kernel
theorem dX4_belongTogether_1 : decode cX4_belongTogether 1 = .ok (.getfield 41, 3) := by decide +kernel
theorem dX4_belongTogether_4 : decode cX4_belongTogether 4 = .ok (.lookupswitch 57 #[(0, 28), (1, 39)], 28) := by decide +kernel
theorem dX4_belongTogether_32 : decode cX4_belongTogether 32 = .ok (.iload_n 1, 1) := by decide +kernel
theorem dX4_belongTogether_33 : decode cX4_belongTogether 33 = .ok (.iload_n 2, 1) := by decide +kernel
theorem dX4_belongTogether_34 : decode cX4_belongTogether 34 = .ok (.if_icmp .ne 7, 3) := by decide +kernel
theorem dX4_belongTogether_37 : decode cX4_belongTogether 37 = .ok (.iconst 1, 1) := by decide +kernel
theorem dX4_belongTogether_38 : decode cX4_belongTogether 38 = .ok (.goto 4, 3) := by decide +kernel
theorem dX4_belongTogether_41 : decode cX4_belongTogether 41 = .ok (.iconst 0, 1) := by decide +kernel
theorem dX4_belongTogether_42 : decode cX4_belongTogether 42 = .ok (.ireturn, 1) := by decide +kernel
theorem dX4_belongTogether_43 : decode cX4_belongTogether 43 = .ok (.aload_n 0, 1) := by decide +kernel
theorem dX4_belongTogether_44 : decode cX4_belongTogether 44 = .ok (.getfield 10, 3) := by decide +kernel
theorem dX4_belongTogether_47 : decode cX4_belongTogether 47 = .ok (.iload_n 1, 1) := by decide +kernel
theorem dX4_belongTogether_48 : decode cX4_belongTogether 48 = .ok (.iload_n 2, 1) := by decide +kernel
theorem dX4_belongTogether_49 : decode cX4_belongTogether 49 = .ok (.invokevirtual 194, 3) := by decide +kernel
theorem dX4_belongTogether_52 : decode cX4_belongTogether 52 = .ok (.ifCond .ne 7, 3) := by decide +kernel
theorem dX4_belongTogether_55 : decode cX4_belongTogether 55 = .ok (.iconst 1, 1) := by decide +kernel
theorem dX4_belongTogether_56 : decode cX4_belongTogether 56 = .ok (.goto 4, 3) := by decide +kernel
theorem dX4_belongTogether_59 : decode cX4_belongTogether 59 = .ok (.iconst 0, 1) := by decide +kernel
theorem dX4_belongTogether_60 : decode cX4_belongTogether 60 = .ok (.ireturn, 1) := by decide +kernel
theorem dX4_belongTogether_61 : decode cX4_belongTogether 61 = .ok (.iconst 1, 1) := by decide +kernel
theorem dX4_belongTogether_62 : decode cX4_belongTogether 62 = .ok (.ireturn, 1) := by decide +kernel
set_option maxRecDepth 20000 in
theorem ggX4_pickValues_X3_clear : GoodIn wsX4_pickValues wsX3_clear := goodIn_r _ [9, 10, 56, 57] (by decide +kernel) (by decide +kernel)
set_option maxRecDepth 20000 in
theorem gX4_pickValues_X3_clear : GoodIn wsX4_pickValues (wsV RX4 197 RX3 yX3_clear wsX3_clear) := goodIn_app (goodIn_of _ (by decide +kernel)) ggX4_pickValues_X3_clear
set_option maxRecDepth 20000 in
theorem ggX4_pickValues_X1_count : GoodIn wsX4_pickValues wsX1_count := goodIn_r _ [15, 16, 58, 59, 60, 61] (by decide +kernel) (by decide +kernel)
set_option maxRecDepth 20000 in
theorem gX4_pickValues_X1_count : GoodIn wsX4_pickValues (wsV RX4 89 RX1 yX1_count wsX1_count) := goodIn_app (goodIn_of _ (by decide +kernel)) ggX4_pickValues_X1_count
set_option maxRecDepth 20000 in
theorem ggX4_pickValues_X1_valueAt : GoodIn wsX4_pickValues wsX1_valueAt := goodIn_r _ [20, 21, 58, 59, 60, 61] (by decide +kernel) (by decide +kernel)
set_option maxRecDepth 20000 in
theorem gX4_pickValues_X1_valueAt : GoodIn wsX4_pickValues (wsV RX4 198 RX1 yX1_valueAt wsX1_valueAt) := goodIn_app (goodIn_of _ (by decide +kernel)) ggX4_pickValues_X1_valueAt
set_option maxRecDepth 20000 in
theorem ggX4_pickValues_X3_haveEqual : GoodIn wsX4_pickValues wsX3_haveEqual := goodIn_r _ [25, 10, 26, 27, 28, 29, 30, 31, 32, 33, 34, 35, 36, 37, 38, 39, 40, 41, 42, 43, 56, 57, 62, 63, 64, 65] (by decide +kernel) (by decide +kernel)
set_option maxRecDepth 20000 in
theorem gX4_pickValues_X3_haveEqual : GoodIn wsX4_pickValues (wsV RX4 201 RX3 yX3_haveEqual wsX3_haveEqual) := goodIn_app (goodIn_of _ (by decide +kernel)) ggX4_pickValues_X3_haveEqual
set_option maxRecDepth 20000 in
theorem ggX4_pickValues_X3_add : GoodIn wsX4_pickValues wsX3_add := goodIn_r _ [47, 26, 10, 56, 57] (by decide +kernel) (by decide +kernel)
set_option maxRecDepth 20000 in
theorem gX4_pickValues_X3_add : GoodIn wsX4_pickValues (wsV RX4 205 RX3 yX3_add wsX3_add) := goodIn_app (goodIn_of _ (by decide +kernel)) ggX4_pickValues_X3_add
theorem dX4_pickValues_0 : decode cX4_pickValues 0 = .ok (.aload_n 0, 1) := by decide +kernel
theorem dX4_pickValues_1 : decode cX4_pickValues 1 = .ok (.getfield 33, 3) := by decide +kernel
theorem dX4_pickValues_4 : decode cX4_pickValues 4 = .ok (.invokevirtual 197, 3) := by decide +kernel
theorem dX4_pickValues_7 : decode cX4_pickValues 7 = .ok (.iconst 0, 1) := by decide +kernel
theorem dX4_pickValues_8 : decode cX4_pickValues 8 = .ok (.istore_n 3, 1) := by decide +kernel
theorem dX4_pickValues_9 : decode cX4_pickValues 9 = .ok (.iload_n 3, 1) := by decide +kernel
theorem dX4_pickValues_10 : decode cX4_pickValues 10 = .ok (.aload_n 0, 1) := by decide +kernel
theorem dX4_pickValues_11 : decode cX4_pickValues 11 = .ok (.getfield 19, 3) := by decide +kernel
theorem dX4_pickValues_14 : decode cX4_pickValues 14 = .ok (.invokevirtual 89, 3) := by decide +kernel
theorem dX4_pickValues_17 : decode cX4_pickValues 17 = .ok (.if_icmp .ge 64, 3) := by decide +kernel
theorem dX4_pickValues_20 : decode cX4_pickValues 20 = .ok (.aload_n 0, 1) := by decide +kernel
theorem dX4_pickValues_21 : decode cX4_pickValues 21 = .ok (.getfield 19, 3) := by decide +kernel
theorem dX4_pickValues_24 : decode cX4_pickValues 24 = .ok (.iload_n 3, 1) := by decide +kernel
theorem dX4_pickValues_25 : decode cX4_pickValues 25 = .ok (.invokevirtual 198, 3) := by decide +kernel
theorem dX4_pickValues_28 : decode cX4_pickValues 28 = .ok (.istore 4, 2) := by decide +kernel
theorem dX4_pickValues_30 : decode cX4_pickValues 30 = .ok (.aload_n 0, 1) := by decide +kernel
theorem dX4_pickValues_31 : decode cX4_pickValues 31 = .ok (.getfield 37, 3) := by decide +kernel
theorem dX4_pickValues_34 : decode cX4_pickValues 34 = .ok (.iload_n 3, 1) := by decide +kernel
