set_option maxRecDepth 20000 in
theorem ggL_number_X4_number : GoodIn wsL_number wsX4_number := goodIn_ca (goodIn_ca (goodIn_r _ [7, 8, 9, 10, 11, 12, 13, 14, 6, 15, 16, 17, 18, 19, 20, 21, 22, 23, 24, 25, 26, 27, 28, 29, 30, 31, 32, 33, 34, 35, 36, 37, 38, 39, 40, 41, 42, 43, 44, 45, 46, 47] (by decide +kernel) (by decide +kernel)) (goodIn_sub (fun _ h => List.mem_cons_of_mem _ (List.mem_append_left _ (List.mem_append_right _ h))) (by decide +kernel))) (goodIn_sub (fun _ h => List.mem_cons_of_mem _ (List.mem_append_right _ h)) (by decide +kernel))
set_option maxRecDepth 20000 in
theorem gL_number_X4_number : GoodIn wsL_number (wsV RL 7 RX4 yX4_number wsX4_number) := goodIn_app (goodIn_of _ (by decide +kernel)) ggL_number_X4_number
theorem dL_number_0 : decode cL_number 0 = .ok (.aload_n 3, 1) := by decide +kernel
theorem dL_number_1 : decode cL_number 1 = .ok (.iconst 0, 1) := by decide +kernel
theorem dL_number_2 : decode cL_number 2 = .ok (.aload_n 0, 1) := by decide +kernel
theorem dL_number_3 : decode cL_number 3 = .ok (.iload_n 1, 1) := by decide +kernel
theorem dL_number_4 : decode cL_number 4 = .ok (.iload_n 2, 1) := by decide +kernel
theorem dL_number_5 : decode cL_number 5 = .ok (.invokevirtual 7, 3) := by decide +kernel
theorem dL_number_8 : decode cL_number 8 = .ok (.i2l, 1) := by decide +kernel
theorem dL_number_9 : decode cL_number 9 = .ok (.lastore, 1) := by decide +kernel
theorem dL_number_10 : decode cL_number 10 = .ok (.goto 11, 3) := by decide +kernel
theorem dL_number_13 : decode cL_number 13 = .ok (.astore 4, 2) := by decide +kernel
theorem dL_number_15 : decode cL_number 15 = .ok (.iconst 1, 1) := by decide +kernel
theorem dL_number_16 : decode cL_number 16 = .ok (.ireturn, 1) := by decide +kernel
theorem dL_number_17 : decode cL_number 17 = .ok (.astore 4, 2) := by decide +kernel
theorem dL_number_19 : decode cL_number 19 = .ok (.iconst 2, 1) := by decide +kernel
theorem dL_number_20 : decode cL_number 20 = .ok (.ireturn, 1) := by decide +kernel
theorem dL_number_21 : decode cL_number 21 = .ok (.iconst 0, 1) := by decide +kernel
theorem dL_number_22 : decode cL_number 22 = .ok (.ireturn, 1) := by decide +kernel
set_option maxRecDepth 20000 in
theorem ggL_text_X4_text : GoodIn wsL_text wsX4_text := goodIn_ca (goodIn_ca (goodIn_r _ [7, 8, 9, 10, 11, 12, 13, 14, 15, 16, 17, 18, 19, 6, 20, 21, 22, 23, 24, 25, 26, 27, 28, 29, 30, 31, 32, 33, 34, 35, 36, 37, 38, 39, 40, 41, 42, 43, 44, 45, 46, 47, 48, 49, 50, 51] (by decide +kernel) (by decide +kernel)) (goodIn_sub (fun _ h => List.mem_cons_of_mem _ (List.mem_append_left _ (List.mem_append_right _ h))) (by decide +kernel))) (goodIn_sub (fun _ h => List.mem_cons_of_mem _ (List.mem_append_right _ h)) (by decide +kernel))
set_option maxRecDepth 20000 in
theorem gL_text_X4_text : GoodIn wsL_text (wsV RL 17 RX4 yX4_text wsX4_text) := goodIn_app (goodIn_of _ (by decide +kernel)) ggL_text_X4_text
theorem dL_text_0 : decode cL_text 0 = .ok (.aload_n 3, 1) := by decide +kernel
theorem dL_text_1 : decode cL_text 1 = .ok (.iconst 0, 1) := by decide +kernel
theorem dL_text_2 : decode cL_text 2 = .ok (.aload_n 0, 1) := by decide +kernel
theorem dL_text_3 : decode cL_text 3 = .ok (.lload_n 1, 1) := by decide +kernel
theorem dL_text_4 : decode cL_text 4 = .ok (.invokevirtual 17, 3) := by decide +kernel
theorem dL_text_7 : decode cL_text 7 = .ok (.i2l, 1) := by decide +kernel
theorem dL_text_8 : decode cL_text 8 = .ok (.lastore, 1) := by decide +kernel
theorem dL_text_9 : decode cL_text 9 = .ok (.goto 11, 3) := by decide +kernel
theorem dL_text_12 : decode cL_text 12 = .ok (.astore 4, 2) := by decide +kernel
theorem dL_text_14 : decode cL_text 14 = .ok (.iconst 1, 1) := by decide +kernel
theorem dL_text_15 : decode cL_text 15 = .ok (.ireturn, 1) := by decide +kernel
theorem dL_text_16 : decode cL_text 16 = .ok (.astore 4, 2) := by decide +kernel
theorem dL_text_18 : decode cL_text 18 = .ok (.iconst 2, 1) := by decide +kernel
theorem dL_text_19 : decode cL_text 19 = .ok (.ireturn, 1) := by decide +kernel
theorem dL_text_20 : decode cL_text 20 = .ok (.iconst 0, 1) := by decide +kernel
theorem dL_text_21 : decode cL_text 21 = .ok (.ireturn, 1) := by decide +kernel
set_option maxRecDepth 20000 in
theorem ggL_row_X4_row : GoodIn wsL_row wsX4_row := goodIn_ca (goodIn_ca (goodIn_r _ [7, 8, 9, 10, 11, 12, 13, 14, 15, 16, 17, 18, 19, 20, 21, 22, 23, 24, 25, 26, 27, 28, 29, 30, 31, 32, 33, 34, 35, 36, 37, 38, 39, 40, 41, 42, 43, 44, 45, 46, 47, 48, 49, 50, 51, 52] (by decide +kernel) (by decide +kernel)) (goodIn_sub (fun _ h => List.mem_cons_of_mem _ (List.mem_append_left _ (List.mem_append_right _ h))) (by decide +kernel))) (goodIn_sub (fun _ h => List.mem_cons_of_mem _ (List.mem_append_right _ h)) (by decide +kernel))
set_option maxRecDepth 20000 in
theorem gL_row_X4_row : GoodIn wsL_row (wsV RL 21 RX4 yX4_row wsX4_row) := goodIn_app (goodIn_of _ (by decide +kernel)) ggL_row_X4_row
theorem dL_row_0 : decode cL_row 0 = .ok (.aload 4, 2) := by decide +kernel
theorem dL_row_2 : decode cL_row 2 = .ok (.iconst 0, 1) := by decide +kernel
theorem dL_row_3 : decode cL_row 3 = .ok (.aload_n 0, 1) := by decide +kernel
theorem dL_row_4 : decode cL_row 4 = .ok (.iload_n 1, 1) := by decide +kernel
theorem dL_row_5 : decode cL_row 5 = .ok (.iload_n 2, 1) := by decide +kernel
theorem dL_row_6 : decode cL_row 6 = .ok (.iload_n 3, 1) := by decide +kernel
theorem dL_row_7 : decode cL_row 7 = .ok (.invokevirtual 21, 3) := by decide +kernel
theorem dL_row_10 : decode cL_row 10 = .ok (.i2l, 1) := by decide +kernel
theorem dL_row_11 : decode cL_row 11 = .ok (.lastore, 1) := by decide +kernel
theorem dL_row_12 : decode cL_row 12 = .ok (.goto 11, 3) := by decide +kernel
theorem dL_row_15 : decode cL_row 15 = .ok (.astore 5, 2) := by decide +kernel
theorem dL_row_17 : decode cL_row 17 = .ok (.iconst 1, 1) := by decide +kernel
theorem dL_row_18 : decode cL_row 18 = .ok (.ireturn, 1) := by decide +kernel
theorem dL_row_19 : decode cL_row 19 = .ok (.astore 5, 2) := by decide +kernel
theorem dL_row_21 : decode cL_row 21 = .ok (.iconst 2, 1) := by decide +kernel
theorem dL_row_22 : decode cL_row 22 = .ok (.ireturn, 1) := by decide +kernel
theorem dL_row_23 : decode cL_row 23 = .ok (.iconst 0, 1) := by decide +kernel
theorem dL_row_24 : decode cL_row 24 = .ok (.ireturn, 1) := by decide +kernel
set_option maxRecDepth 20000 in
theorem ggL_by_X4_by : GoodIn wsL_by wsX4_by := goodIn_ca (goodIn_r _ [6, 7, 8, 9, 10, 11, 12, 13, 14, 15, 16, 17] (by decide +kernel) (by decide +kernel)) (goodIn_sub (fun _ h => List.mem_cons_of_mem _ (List.mem_append_right _ h)) (by decide +kernel))
set_option maxRecDepth 20000 in
theorem gL_by_X4_by : GoodIn wsL_by (wsV RL 25 RX4 yX4_by wsX4_by) := goodIn_app (goodIn_of _ (by decide +kernel)) ggL_by_X4_by
theorem dL_by_0 : decode cL_by 0 = .ok (.aload_n 2, 1) := by decide +kernel
theorem dL_by_1 : decode cL_by 1 = .ok (.iconst 0, 1) := by decide +kernel
theorem dL_by_2 : decode cL_by 2 = .ok (.aload_n 0, 1) := by decide +kernel
theorem dL_by_3 : decode cL_by 3 = .ok (.iload_n 1, 1) := by decide +kernel
theorem dL_by_4 : decode cL_by 4 = .ok (.invokevirtual 25, 3) := by decide +kernel
theorem dL_by_7 : decode cL_by 7 = .ok (.i2l, 1) := by decide +kernel
theorem dL_by_8 : decode cL_by 8 = .ok (.lastore, 1) := by decide +kernel
theorem dL_by_9 : decode cL_by 9 = .ok (.goto 6, 3) := by decide +kernel
theorem dL_by_12 : decode cL_by 12 = .ok (.astore_n 3, 1) := by decide +kernel
theorem dL_by_13 : decode cL_by 13 = .ok (.iconst 1, 1) := by decide +kernel
theorem dL_by_14 : decode cL_by 14 = .ok (.ireturn, 1) := by decide +kernel
theorem dL_by_15 : decode cL_by 15 = .ok (.iconst 0, 1) := by decide +kernel
theorem dL_by_16 : decode cL_by 16 = .ok (.ireturn, 1) := by decide +kernel
set_option maxRecDepth 20000 in
theorem ggL_separator_X4_separator : GoodIn wsL_separator wsX4_separator := goodIn_ca (goodIn_r _ [6, 7, 8, 9, 10, 11, 12, 13, 14, 15, 16, 17] (by decide +kernel) (by decide +kernel)) (goodIn_sub (fun _ h => List.mem_cons_of_mem _ (List.mem_append_right _ h)) (by decide +kernel))
set_option maxRecDepth 20000 in
theorem gL_separator_X4_separator : GoodIn wsL_separator (wsV RL 29 RX4 yX4_separator wsX4_separator) := goodIn_app (goodIn_of _ (by decide +kernel)) ggL_separator_X4_separator
theorem dL_separator_0 : decode cL_separator 0 = .ok (.aload_n 2, 1) := by decide +kernel
theorem dL_separator_1 : decode cL_separator 1 = .ok (.iconst 0, 1) := by decide +kernel
theorem dL_separator_2 : decode cL_separator 2 = .ok (.aload_n 0, 1) := by decide +kernel
theorem dL_separator_3 : decode cL_separator 3 = .ok (.iload_n 1, 1) := by decide +kernel
theorem dL_separator_4 : decode cL_separator 4 = .ok (.invokevirtual 29, 3) := by decide +kernel
theorem dL_separator_7 : decode cL_separator 7 = .ok (.i2l, 1) := by decide +kernel
theorem dL_separator_8 : decode cL_separator 8 = .ok (.lastore, 1) := by decide +kernel
theorem dL_separator_9 : decode cL_separator 9 = .ok (.goto 6, 3) := by decide +kernel
theorem dL_separator_12 : decode cL_separator 12 = .ok (.astore_n 3, 1) := by decide +kernel
theorem dL_separator_13 : decode cL_separator 13 = .ok (.iconst 1, 1) := by decide +kernel
theorem dL_separator_14 : decode cL_separator 14 = .ok (.ireturn, 1) := by decide +kernel
theorem dL_separator_15 : decode cL_separator 15 = .ok (.iconst 0, 1) := by decide +kernel
theorem dL_separator_16 : decode cL_separator 16 = .ok (.ireturn, 1) := by decide +kernel
set_option maxRecDepth 20000 in
theorem ggL_own_X4_own : GoodIn wsL_own wsX4_own := goodIn_ca (goodIn_r _ [6, 7, 8, 9, 10, 11, 12, 13, 14, 15, 16, 17] (by decide +kernel) (by decide +kernel)) (goodIn_sub (fun _ h => List.mem_cons_of_mem _ (List.mem_append_right _ h)) (by decide +kernel))
set_option maxRecDepth 20000 in
theorem gL_own_X4_own : GoodIn wsL_own (wsV RL 32 RX4 yX4_own wsX4_own) := goodIn_app (goodIn_of _ (by decide +kernel)) ggL_own_X4_own
theorem dL_own_0 : decode cL_own 0 = .ok (.aload_n 2, 1) := by decide +kernel
theorem dL_own_1 : decode cL_own 1 = .ok (.iconst 0, 1) := by decide +kernel
theorem dL_own_2 : decode cL_own 2 = .ok (.aload_n 0, 1) := by decide +kernel
theorem dL_own_3 : decode cL_own 3 = .ok (.iload_n 1, 1) := by decide +kernel
theorem dL_own_4 : decode cL_own 4 = .ok (.invokevirtual 32, 3) := by decide +kernel
theorem dL_own_7 : decode cL_own 7 = .ok (.i2l, 1) := by decide +kernel
theorem dL_own_8 : decode cL_own 8 = .ok (.lastore, 1) := by decide +kernel
theorem dL_own_9 : decode cL_own 9 = .ok (.goto 6, 3) := by decide +kernel
theorem dL_own_12 : decode cL_own 12 = .ok (.astore_n 3, 1) := by decide +kernel
theorem dL_own_13 : decode cL_own 13 = .ok (.iconst 1, 1) := by decide +kernel
theorem dL_own_14 : decode cL_own 14 = .ok (.ireturn, 1) := by decide +kernel
theorem dL_own_15 : decode cL_own 15 = .ok (.iconst 0, 1) := by decide +kernel
theorem dL_own_16 : decode cL_own 16 = .ok (.ireturn, 1) := by decide +kernel
set_option maxRecDepth 20000 in
theorem ggL_run_X4_run : GoodIn wsL_run wsX4_run := goodIn_ca (goodIn_r _ [6, 7, 8, 9, 10, 11, 12, 5, 13, 14, 15, 16, 17, 18, 19, 20, 21, 22, 23, 24, 25, 26, 27, 28, 29, 30, 31, 32, 33, 34, 35, 36, 37, 38, 39, 40, 41, 42, 43, 44, 45, 46, 47, 48, 49, 50, 51, 52, 53, 54, 55, 56, 57, 58, 59, 60, 61, 62, 63, 64, 65, 66, 67, 68, 69, 70, 71, 72, 73, 74, 75, 76, 77, 78, 79, 80, 81, 82, 83, 84, 85, 86, 87, 88, 89, 90, 91, 92, 93, 94, 95, 96, 97, 98, 99, 100, 101, 102, 103, 104, 105, 106, 107, 108, 109, 110, 111, 112, 113, 114, 115, 116, 117, 118, 119, 120, 121, 122, 123, 124, 125, 126, 127, 128, 129, 130, 131, 132, 133, 134, 135, 136, 137, 138, 139, 140, 141, 142, 143, 144, 145, 146, 147, 148, 149, 150, 151, 152, 153, 154, 155, 156, 157, 158, 159, 160, 161, 162, 163, 164, 165, 166, 167, 168, 169, 170, 171, 172, 173, 174, 175, 176, 177, 178, 179, 180, 181, 182, 183, 184, 185, 186, 187, 188, 189, 190, 191, 192, 193, 194, 195, 196, 197, 198, 199, 200, 201, 202, 203, 204, 205, 206, 207, 208, 209, 210, 211, 212, 213, 214, 215, 216, 217, 218, 219, 220, 221, 222, 223, 224, 225, 226, 227, 228, 229, 230, 231, 232, 233, 234, 235, 236, 237, 238, 239, 240, 241, 242, 243, 244, 245, 246, 247, 248, 249, 250, 251, 252, 253, 254, 255, 256, 257, 258, 259, 260, 261, 262, 263, 264, 265, 266, 267, 268, 269, 270, 271, 272, 273, 274, 275, 276, 277, 278] (by decide +kernel) (by decide +kernel)) (goodIn_sub (fun _ h => List.mem_cons_of_mem _ (List.mem_append_right _ h)) (by decide +kernel))
set_option maxRecDepth 20000 in
theorem gL_run_X4_run : GoodIn wsL_run (wsV RL 35 RX4 yX4_run wsX4_run) := goodIn_app (goodIn_of _ (by decide +kernel)) ggL_run_X4_run
theorem dL_run_0 : decode cL_run 0 = .ok (.aload_n 3, 1) := by decide +kernel
theorem dL_run_1 : decode cL_run 1 = .ok (.iconst 0, 1) := by decide +kernel
theorem dL_run_2 : decode cL_run 2 = .ok (.aload_n 0, 1) := by decide +kernel
theorem dL_run_3 : decode cL_run 3 = .ok (.iload_n 1, 1) := by decide +kernel
theorem dL_run_4 : decode cL_run 4 = .ok (.iload_n 2, 1) := by decide +kernel
theorem dL_run_5 : decode cL_run 5 = .ok (.invokevirtual 35, 3) := by decide +kernel
theorem dL_run_8 : decode cL_run 8 = .ok (.i2l, 1) := by decide +kernel
theorem dL_run_9 : decode cL_run 9 = .ok (.lastore, 1) := by decide +kernel
theorem dL_run_10 : decode cL_run 10 = .ok (.goto 7, 3) := by decide +kernel
theorem dL_run_13 : decode cL_run 13 = .ok (.astore 4, 2) := by decide +kernel
theorem dL_run_15 : decode cL_run 15 = .ok (.iconst 1, 1) := by decide +kernel
theorem dL_run_16 : decode cL_run 16 = .ok (.ireturn, 1) := by decide +kernel
theorem dL_run_17 : decode cL_run 17 = .ok (.iconst 0, 1) := by decide +kernel
theorem dL_run_18 : decode cL_run 18 = .ok (.ireturn, 1) := by decide +kernel
set_option maxRecDepth 20000 in
theorem ggL_key_X4_key : GoodIn wsL_key wsX4_key := goodIn_ca (goodIn_r _ [6, 7, 8, 9, 10, 5, 11, 12, 13, 14, 15, 16, 17, 18, 19, 20, 21, 22, 23, 24, 25, 26, 27, 28, 29, 30, 31, 32, 33, 34, 35, 36, 37, 38, 39, 40, 41, 42, 43, 44] (by decide +kernel) (by decide +kernel)) (goodIn_sub (fun _ h => List.mem_cons_of_mem _ (List.mem_append_right _ h)) (by decide +kernel))
set_option maxRecDepth 20000 in
theorem gL_key_X4_key : GoodIn wsL_key (wsV RL 39 RX4 yX4_key wsX4_key) := goodIn_app (goodIn_of _ (by decide +kernel)) ggL_key_X4_key
theorem dL_key_0 : decode cL_key 0 = .ok (.aload_n 2, 1) := by decide +kernel
theorem dL_key_1 : decode cL_key 1 = .ok (.iconst 0, 1) := by decide +kernel
theorem dL_key_2 : decode cL_key 2 = .ok (.aload_n 0, 1) := by decide +kernel
theorem dL_key_3 : decode cL_key 3 = .ok (.iload_n 1, 1) := by decide +kernel
theorem dL_key_4 : decode cL_key 4 = .ok (.invokevirtual 39, 3) := by decide +kernel
theorem dL_key_7 : decode cL_key 7 = .ok (.i2l, 1) := by decide +kernel
theorem dL_key_8 : decode cL_key 8 = .ok (.lastore, 1) := by decide +kernel
theorem dL_key_9 : decode cL_key 9 = .ok (.goto 6, 3) := by decide +kernel
theorem dL_key_12 : decode cL_key 12 = .ok (.astore_n 3, 1) := by decide +kernel
theorem dL_key_13 : decode cL_key 13 = .ok (.iconst 1, 1) := by decide +kernel
theorem dL_key_14 : decode cL_key 14 = .ok (.ireturn, 1) := by decide +kernel
theorem dL_key_15 : decode cL_key 15 = .ok (.iconst 0, 1) := by decide +kernel
theorem dL_key_16 : decode cL_key 16 = .ok (.ireturn, 1) := by decide +kernel
set_option maxRecDepth 20000 in
theorem ggL_rows_X4_rows : GoodIn wsL_rows wsX4_rows := goodIn_ca (goodIn_r _ [6, 7, 8, 9, 10, 5, 11, 12, 13, 14, 15, 16, 17, 18, 19, 20, 21, 22, 23, 24, 25, 26, 27, 28, 29, 30, 31, 32, 33, 34, 35, 36, 37, 38, 39, 40, 41, 42, 43, 44] (by decide +kernel) (by decide +kernel)) (goodIn_sub (fun _ h => List.mem_cons_of_mem _ (List.mem_append_right _ h)) (by decide +kernel))
set_option maxRecDepth 20000 in
theorem gL_rows_X4_rows : GoodIn wsL_rows (wsV RL 44 RX4 yX4_rows wsX4_rows) := goodIn_app (goodIn_of _ (by decide +kernel)) ggL_rows_X4_rows
theorem dL_rows_0 : decode cL_rows 0 = .ok (.aload_n 2, 1) := by decide +kernel
theorem dL_rows_1 : decode cL_rows 1 = .ok (.iconst 0, 1) := by decide +kernel
theorem dL_rows_2 : decode cL_rows 2 = .ok (.aload_n 0, 1) := by decide +kernel
theorem dL_rows_3 : decode cL_rows 3 = .ok (.iload_n 1, 1) := by decide +kernel
theorem dL_rows_4 : decode cL_rows 4 = .ok (.invokevirtual 44, 3) := by decide +kernel
theorem dL_rows_7 : decode cL_rows 7 = .ok (.i2l, 1) := by decide +kernel
theorem dL_rows_8 : decode cL_rows 8 = .ok (.lastore, 1) := by decide +kernel
theorem dL_rows_9 : decode cL_rows 9 = .ok (.goto 6, 3) := by decide +kernel
theorem dL_rows_12 : decode cL_rows 12 = .ok (.astore_n 3, 1) := by decide +kernel
theorem dL_rows_13 : decode cL_rows 13 = .ok (.iconst 1, 1) := by decide +kernel
theorem dL_rows_14 : decode cL_rows 14 = .ok (.ireturn, 1) := by decide +kernel
theorem dL_rows_15 : decode cL_rows 15 = .ok (.iconst 0, 1) := by decide +kernel
theorem dL_rows_16 : decode cL_rows 16 = .ok (.ireturn, 1) := by decide +kernel
set_option maxRecDepth 20000 in
theorem ggL_sort_X4_sort : GoodIn wsL_sort wsX4_sort := goodIn_ca (goodIn_r _ [6, 7, 8, 9, 10, 5, 11, 12, 13, 14, 15, 16, 17, 18, 19, 20, 21, 22, 23, 24, 25, 26, 27, 28, 29, 30, 31, 32, 33, 34, 35, 36, 37, 38, 39, 40, 41, 42, 43, 44] (by decide +kernel) (by decide +kernel)) (goodIn_sub (fun _ h => List.mem_cons_of_mem _ (List.mem_append_right _ h)) (by decide +kernel))
set_option maxRecDepth 20000 in
theorem gL_sort_X4_sort : GoodIn wsL_sort (wsV RL 47 RX4 yX4_sort wsX4_sort) := goodIn_app (goodIn_of _ (by decide +kernel)) ggL_sort_X4_sort
theorem dL_sort_0 : decode cL_sort 0 = .ok (.aload_n 2, 1) := by decide +kernel
theorem dL_sort_1 : decode cL_sort 1 = .ok (.iconst 0, 1) := by decide +kernel
theorem dL_sort_2 : decode cL_sort 2 = .ok (.aload_n 0, 1) := by decide +kernel
theorem dL_sort_3 : decode cL_sort 3 = .ok (.iload_n 1, 1) := by decide +kernel
theorem dL_sort_4 : decode cL_sort 4 = .ok (.invokevirtual 47, 3) := by decide +kernel
theorem dL_sort_7 : decode cL_sort 7 = .ok (.i2l, 1) := by decide +kernel
theorem dL_sort_8 : decode cL_sort 8 = .ok (.lastore, 1) := by decide +kernel
theorem dL_sort_9 : decode cL_sort 9 = .ok (.goto 6, 3) := by decide +kernel
theorem dL_sort_12 : decode cL_sort 12 = .ok (.astore_n 3, 1) := by decide +kernel
theorem dL_sort_13 : decode cL_sort 13 = .ok (.iconst 1, 1) := by decide +kernel
theorem dL_sort_14 : decode cL_sort 14 = .ok (.ireturn, 1) := by decide +kernel
theorem dL_sort_15 : decode cL_sort 15 = .ok (.iconst 0, 1) := by decide +kernel
theorem dL_sort_16 : decode cL_sort 16 = .ok (.ireturn, 1) := by decide +kernel
set_option maxRecDepth 20000 in
theorem ggL_why_X4_why : GoodIn wsL_why wsX4_why := goodIn_ca (goodIn_r _ [6, 7, 8, 9, 10, 5, 11, 12, 13, 14, 15, 16, 17, 18, 19, 20, 21, 22, 23, 24, 25, 26, 27, 28, 29, 30, 31, 32, 33, 34, 35, 36, 37, 38, 39, 40, 41, 42, 43, 44] (by decide +kernel) (by decide +kernel)) (goodIn_sub (fun _ h => List.mem_cons_of_mem _ (List.mem_append_right _ h)) (by decide +kernel))
set_option maxRecDepth 20000 in
theorem gL_why_X4_why : GoodIn wsL_why (wsV RL 50 RX4 yX4_why wsX4_why) := goodIn_app (goodIn_of _ (by decide +kernel)) ggL_why_X4_why
theorem dL_why_0 : decode cL_why 0 = .ok (.aload_n 2, 1) := by decide +kernel
theorem dL_why_1 : decode cL_why 1 = .ok (.iconst 0, 1) := by decide +kernel
theorem dL_why_2 : decode cL_why 2 = .ok (.aload_n 0, 1) := by decide +kernel
theorem dL_why_3 : decode cL_why 3 = .ok (.iload_n 1, 1) := by decide +kernel
theorem dL_why_4 : decode cL_why 4 = .ok (.invokevirtual 50, 3) := by decide +kernel
theorem dL_why_7 : decode cL_why 7 = .ok (.i2l, 1) := by decide +kernel
theorem dL_why_8 : decode cL_why 8 = .ok (.lastore, 1) := by decide +kernel
theorem dL_why_9 : decode cL_why 9 = .ok (.goto 6, 3) := by decide +kernel
theorem dL_why_12 : decode cL_why 12 = .ok (.astore_n 3, 1) := by decide +kernel
theorem dL_why_13 : decode cL_why 13 = .ok (.iconst 1, 1) := by decide +kernel
theorem dL_why_14 : decode cL_why 14 = .ok (.ireturn, 1) := by decide +kernel
theorem dL_why_15 : decode cL_why 15 = .ok (.iconst 0, 1) := by decide +kernel
theorem dL_why_16 : decode cL_why 16 = .ok (.ireturn, 1) := by decide +kernel
set_option maxRecDepth 20000 in
theorem ggL_value_X4_value : GoodIn wsL_value wsX4_value := goodIn_ca (goodIn_ca (goodIn_r _ [7, 8, 9, 10, 11, 12, 13, 6, 14, 15, 16, 17, 18, 19, 20, 21, 22, 23, 24, 25, 26, 27, 28, 29, 30, 31, 32, 33, 34, 35, 36, 37, 38, 39, 40, 41, 42, 43, 44, 45, 46, 47, 48, 49, 50, 51, 52] (by decide +kernel) (by decide +kernel)) (goodIn_sub (fun _ h => List.mem_cons_of_mem _ (List.mem_append_left _ (List.mem_append_right _ h))) (by decide +kernel))) (goodIn_sub (fun _ h => List.mem_cons_of_mem _ (List.mem_append_right _ h)) (by decide +kernel))
set_option maxRecDepth 20000 in
theorem gL_value_X4_value : GoodIn wsL_value (wsV RL 53 RX4 yX4_value wsX4_value) := goodIn_app (goodIn_of _ (by decide +kernel)) ggL_value_X4_value
theorem dL_value_0 : decode cL_value 0 = .ok (.aload_n 3, 1) := by decide +kernel
theorem dL_value_1 : decode cL_value 1 = .ok (.iconst 0, 1) := by decide +kernel
theorem dL_value_2 : decode cL_value 2 = .ok (.aload_n 0, 1) := by decide +kernel
theorem dL_value_3 : decode cL_value 3 = .ok (.iload_n 1, 1) := by decide +kernel
theorem dL_value_4 : decode cL_value 4 = .ok (.iload_n 2, 1) := by decide +kernel
theorem dL_value_5 : decode cL_value 5 = .ok (.invokevirtual 53, 3) := by decide +kernel
theorem dL_value_8 : decode cL_value 8 = .ok (.lastore, 1) := by decide +kernel
theorem dL_value_9 : decode cL_value 9 = .ok (.goto 11, 3) := by decide +kernel
theorem dL_value_12 : decode cL_value 12 = .ok (.astore 4, 2) := by decide +kernel
theorem dL_value_14 : decode cL_value 14 = .ok (.iconst 1, 1) := by decide +kernel
theorem dL_value_15 : decode cL_value 15 = .ok (.ireturn, 1) := by decide +kernel
theorem dL_value_16 : decode cL_value 16 = .ok (.astore 4, 2) := by decide +kernel
theorem dL_value_18 : decode cL_value 18 = .ok (.iconst 2, 1) := by decide +kernel
theorem dL_value_19 : decode cL_value 19 = .ok (.ireturn, 1) := by decide +kernel
theorem dL_value_20 : decode cL_value 20 = .ok (.iconst 0, 1) := by decide +kernel
theorem dL_value_21 : decode cL_value 21 = .ok (.ireturn, 1) := by decide +kernel
set_option maxRecDepth 20000 in
theorem ggL_term_X4_term : GoodIn wsL_term wsX4_term := goodIn_ca (goodIn_r _ [6, 7, 8, 9, 10, 5, 11, 12, 13, 14, 15, 16, 17, 18, 19, 20, 21, 22, 23, 24, 25, 26, 27, 28, 29, 30, 31, 32, 33, 34, 35, 36, 37, 38, 39, 40, 41, 42, 43, 44] (by decide +kernel) (by decide +kernel)) (goodIn_sub (fun _ h => List.mem_cons_of_mem _ (List.mem_append_right _ h)) (by decide +kernel))
set_option maxRecDepth 20000 in
theorem gL_term_X4_term : GoodIn wsL_term (wsV RL 57 RX4 yX4_term wsX4_term) := goodIn_app (goodIn_of _ (by decide +kernel)) ggL_term_X4_term
theorem dL_term_0 : decode cL_term 0 = .ok (.aload_n 2, 1) := by decide +kernel
theorem dL_term_1 : decode cL_term 1 = .ok (.iconst 0, 1) := by decide +kernel
theorem dL_term_2 : decode cL_term 2 = .ok (.aload_n 0, 1) := by decide +kernel
theorem dL_term_3 : decode cL_term 3 = .ok (.iload_n 1, 1) := by decide +kernel
theorem dL_term_4 : decode cL_term 4 = .ok (.invokevirtual 57, 3) := by decide +kernel
theorem dL_term_7 : decode cL_term 7 = .ok (.i2l, 1) := by decide +kernel
theorem dL_term_8 : decode cL_term 8 = .ok (.lastore, 1) := by decide +kernel
theorem dL_term_9 : decode cL_term 9 = .ok (.goto 6, 3) := by decide +kernel
theorem dL_term_12 : decode cL_term 12 = .ok (.astore_n 3, 1) := by decide +kernel
theorem dL_term_13 : decode cL_term 13 = .ok (.iconst 1, 1) := by decide +kernel
theorem dL_term_14 : decode cL_term 14 = .ok (.ireturn, 1) := by decide +kernel
theorem dL_term_15 : decode cL_term 15 = .ok (.iconst 0, 1) := by decide +kernel
theorem dL_term_16 : decode cL_term 16 = .ok (.ireturn, 1) := by decide +kernel
set_option maxRecDepth 20000 in
theorem ggL_length_X4_length : GoodIn wsL_length wsX4_length := goodIn_ca (goodIn_r _ [6, 7, 8, 9, 10, 5, 11, 12, 13, 14, 15, 16, 17, 18, 19, 20, 21, 22, 23, 24, 25, 26, 27, 28, 29, 30, 31, 32, 33, 34, 35, 36, 37, 38, 39, 40, 41, 42, 43, 44] (by decide +kernel) (by decide +kernel)) (goodIn_sub (fun _ h => List.mem_cons_of_mem _ (List.mem_append_right _ h)) (by decide +kernel))
set_option maxRecDepth 20000 in
theorem gL_length_X4_length : GoodIn wsL_length (wsV RL 60 RX4 yX4_length wsX4_length) := goodIn_app (goodIn_of _ (by decide +kernel)) ggL_length_X4_length
theorem dL_length_0 : decode cL_length 0 = .ok (.aload_n 2, 1) := by decide +kernel
theorem dL_length_1 : decode cL_length 1 = .ok (.iconst 0, 1) := by decide +kernel
theorem dL_length_2 : decode cL_length 2 = .ok (.aload_n 0, 1) := by decide +kernel
theorem dL_length_3 : decode cL_length 3 = .ok (.iload_n 1, 1) := by decide +kernel
theorem dL_length_4 : decode cL_length 4 = .ok (.invokevirtual 60, 3) := by decide +kernel
theorem dL_length_7 : decode cL_length 7 = .ok (.i2l, 1) := by decide +kernel
theorem dL_length_8 : decode cL_length 8 = .ok (.lastore, 1) := by decide +kernel
theorem dL_length_9 : decode cL_length 9 = .ok (.goto 6, 3) := by decide +kernel
theorem dL_length_12 : decode cL_length 12 = .ok (.astore_n 3, 1) := by decide +kernel
theorem dL_length_13 : decode cL_length 13 = .ok (.iconst 1, 1) := by decide +kernel
theorem dL_length_14 : decode cL_length 14 = .ok (.ireturn, 1) := by decide +kernel
theorem dL_length_15 : decode cL_length 15 = .ok (.iconst 0, 1) := by decide +kernel
theorem dL_length_16 : decode cL_length 16 = .ok (.ireturn, 1) := by decide +kernel
set_option maxRecDepth 20000 in
theorem ggL_charAt_X4_charAt : GoodIn wsL_charAt wsX4_charAt := goodIn_ca (goodIn_r _ [6, 7, 8, 9, 10, 11, 12, 5, 13, 14, 15, 16, 17, 18, 19, 20, 21, 22, 23, 24, 25, 26, 27, 28, 29, 30, 31, 32, 33, 34, 35, 36, 37, 38, 39, 40, 41, 42, 43, 44, 45, 46, 47, 48, 49, 50] (by decide +kernel) (by decide +kernel)) (goodIn_sub (fun _ h => List.mem_cons_of_mem _ (List.mem_append_right _ h)) (by decide +kernel))
set_option maxRecDepth 20000 in
theorem gL_charAt_X4_charAt : GoodIn wsL_charAt (wsV RL 63 RX4 yX4_charAt wsX4_charAt) := goodIn_app (goodIn_of _ (by decide +kernel)) ggL_charAt_X4_charAt
theorem dL_charAt_0 : decode cL_charAt 0 = .ok (.aload_n 3, 1) := by decide +kernel
theorem dL_charAt_1 : decode cL_charAt 1 = .ok (.iconst 0, 1) := by decide +kernel
theorem dL_charAt_2 : decode cL_charAt 2 = .ok (.aload_n 0, 1) := by decide +kernel
theorem dL_charAt_3 : decode cL_charAt 3 = .ok (.iload_n 1, 1) := by decide +kernel
theorem dL_charAt_4 : decode cL_charAt 4 = .ok (.iload_n 2, 1) := by decide +kernel
theorem dL_charAt_5 : decode cL_charAt 5 = .ok (.invokevirtual 63, 3) := by decide +kernel
theorem dL_charAt_8 : decode cL_charAt 8 = .ok (.i2l, 1) := by decide +kernel
theorem dL_charAt_9 : decode cL_charAt 9 = .ok (.lastore, 1) := by decide +kernel
theorem dL_charAt_10 : decode cL_charAt 10 = .ok (.goto 7, 3) := by decide +kernel
theorem dL_charAt_13 : decode cL_charAt 13 = .ok (.astore 4, 2) := by decide +kernel
theorem dL_charAt_15 : decode cL_charAt 15 = .ok (.iconst 1, 1) := by decide +kernel
theorem dL_charAt_16 : decode cL_charAt 16 = .ok (.ireturn, 1) := by decide +kernel
theorem dL_charAt_17 : decode cL_charAt 17 = .ok (.iconst 0, 1) := by decide +kernel
theorem dL_charAt_18 : decode cL_charAt 18 = .ok (.ireturn, 1) := by decide +kernel
set_option maxRecDepth 20000 in
theorem ggL_having_X4_having : GoodIn wsL_having wsX4_having := goodIn_ca (goodIn_ca (goodIn_r _ [7, 8, 9, 10, 11, 12, 13, 14, 15, 16, 6, 17, 18, 19, 20, 21, 22, 23, 24, 25, 26, 27, 28, 29, 30, 31, 32, 33, 34, 35, 36, 37, 38, 39, 40, 41, 42, 43, 44, 45, 46, 47, 48, 49, 50, 51, 52, 53, 54, 55, 56, 57, 58, 59, 60] (by decide +kernel) (by decide +kernel)) (goodIn_sub (fun _ h => List.mem_cons_of_mem _ (List.mem_append_left _ (List.mem_append_right _ h))) (by decide +kernel))) (goodIn_sub (fun _ h => List.mem_cons_of_mem _ (List.mem_append_right _ h)) (by decide +kernel))
set_option maxRecDepth 20000 in
theorem gL_having_X4_having : GoodIn wsL_having (wsV RL 66 RX4 yX4_having wsX4_having) := goodIn_app (goodIn_of _ (by decide +kernel)) ggL_having_X4_having
theorem dL_having_0 : decode cL_having 0 = .ok (.aload 7, 2) := by decide +kernel
theorem dL_having_2 : decode cL_having 2 = .ok (.iconst 0, 1) := by decide +kernel
theorem dL_having_3 : decode cL_having 3 = .ok (.aload_n 0, 1) := by decide +kernel
theorem dL_having_4 : decode cL_having 4 = .ok (.iload_n 1, 1) := by decide +kernel
theorem dL_having_5 : decode cL_having 5 = .ok (.iload_n 2, 1) := by decide +kernel
theorem dL_having_6 : decode cL_having 6 = .ok (.lload_n 3, 1) := by decide +kernel
theorem dL_having_7 : decode cL_having 7 = .ok (.lload 5, 2) := by decide +kernel
theorem dL_having_9 : decode cL_having 9 = .ok (.invokevirtual 66, 3) := by decide +kernel
theorem dL_having_12 : decode cL_having 12 = .ok (.ifCond .eq 7, 3) := by decide +kernel
theorem dL_having_15 : decode cL_having 15 = .ok (.lconst 1, 1) := by decide +kernel
theorem dL_having_16 : decode cL_having 16 = .ok (.goto 4, 3) := by decide +kernel
theorem dL_having_19 : decode cL_having 19 = .ok (.lconst 0, 1) := by decide +kernel
theorem dL_having_20 : decode cL_having 20 = .ok (.lastore, 1) := by decide +kernel
theorem dL_having_21 : decode cL_having 21 = .ok (.goto 11, 3) := by decide +kernel
theorem dL_having_24 : decode cL_having 24 = .ok (.astore 8, 2) := by decide +kernel
theorem dL_having_26 : decode cL_having 26 = .ok (.iconst 1, 1) := by decide +kernel
theorem dL_having_27 : decode cL_having 27 = .ok (.ireturn, 1) := by decide +kernel
theorem dL_having_28 : decode cL_having 28 = .ok (.astore 8, 2) := by decide +kernel
theorem dL_having_30 : decode cL_having 30 = .ok (.iconst 2, 1) := by decide +kernel
theorem dL_having_31 : decode cL_having 31 = .ok (.ireturn, 1) := by decide +kernel
theorem dL_having_32 : decode cL_having 32 = .ok (.iconst 0, 1) := by decide +kernel
theorem dL_having_33 : decode cL_having 33 = .ok (.ireturn, 1) := by decide +kernel
set_option maxRecDepth 20000 in
theorem ggL_told_X4_told : GoodIn wsL_told wsX4_told := goodIn_ca (goodIn_r _ [6, 7, 8, 9, 10, 11, 12, 13, 14, 15, 16, 17, 18, 19, 20, 21, 22, 23, 24, 25, 26, 27, 28, 29, 30, 31, 32, 33, 34, 35, 36, 37, 38, 39, 40, 41, 42, 43, 44, 45, 46, 47, 48, 49, 50, 51, 52, 53, 54, 55, 56, 57] (by decide +kernel) (by decide +kernel)) (goodIn_sub (fun _ h => List.mem_cons_of_mem _ (List.mem_append_right _ h)) (by decide +kernel))
set_option maxRecDepth 20000 in
theorem gL_told_X4_told : GoodIn wsL_told (wsV RL 70 RX4 yX4_told wsX4_told) := goodIn_app (goodIn_of _ (by decide +kernel)) ggL_told_X4_told
theorem dL_told_0 : decode cL_told 0 = .ok (.aload_n 2, 1) := by decide +kernel
theorem dL_told_1 : decode cL_told 1 = .ok (.iconst 0, 1) := by decide +kernel
theorem dL_told_2 : decode cL_told 2 = .ok (.aload_n 0, 1) := by decide +kernel
theorem dL_told_3 : decode cL_told 3 = .ok (.iload_n 1, 1) := by decide +kernel
theorem dL_told_4 : decode cL_told 4 = .ok (.invokevirtual 70, 3) := by decide +kernel
theorem dL_told_7 : decode cL_told 7 = .ok (.i2l, 1) := by decide +kernel
theorem dL_told_8 : decode cL_told 8 = .ok (.lastore, 1) := by decide +kernel
theorem dL_told_9 : decode cL_told 9 = .ok (.goto 6, 3) := by decide +kernel
theorem dL_told_12 : decode cL_told 12 = .ok (.astore_n 3, 1) := by decide +kernel
theorem dL_told_13 : decode cL_told 13 = .ok (.iconst 1, 1) := by decide +kernel
theorem dL_told_14 : decode cL_told 14 = .ok (.ireturn, 1) := by decide +kernel
theorem dL_told_15 : decode cL_told 15 = .ok (.iconst 0, 1) := by decide +kernel
theorem dL_told_16 : decode cL_told 16 = .ok (.ireturn, 1) := by decide +kernel
set_option maxRecDepth 20000 in
theorem ggL_law_X4_init : GoodIn wsL_law wsX4_init := goodIn_r _ [10, 11, 12, 13, 14, 15, 16, 17, 18, 19, 20, 21, 22, 23, 24, 25, 26, 27, 28, 29, 30, 31, 32, 33, 34, 35, 36, 37, 6, 38, 39, 40, 41, 42, 43, 44, 45, 46, 47, 48, 49, 50, 51, 52, 53, 54, 55, 56, 57, 58, 59, 60, 61, 62, 63, 64, 65, 66, 67, 68, 69, 725, 726, 727, 728, 689, 690, 691, 692, 693, 694, 695, 696, 729, 730, 731, 732, 733, 734, 735, 736, 737, 738, 739, 740, 741, 742, 743, 744, 745, 746] (by decide +kernel) (by decide +kernel)
set_option maxRecDepth 20000 in
theorem gL_law_X4_init : GoodIn wsL_law (wsX4_init) := ggL_law_X4_init
set_option maxRecDepth 20000 in
theorem ggL_law_X5_init : GoodIn wsL_law wsX5_init := goodIn_r _ [72, 73, 12, 13, 74, 75, 30, 76, 77, 78, 79, 80, 81, 82, 83, 84, 85, 86, 6, 87, 88, 89, 90, 91, 92, 93, 94, 697, 698, 699, 700, 701, 702, 703, 704, 705, 706, 707, 708, 709, 710, 711, 712, 713, 714, 715, 716, 717, 718, 719, 720, 721, 722, 723, 724] (by decide +kernel) (by decide +kernel)
set_option maxRecDepth 20000 in
theorem gL_law_X5_init : GoodIn wsL_law (wsX5_init) := ggL_law_X5_init
set_option maxRecDepth 20000 in
theorem ggL_law_L_number : GoodIn wsL_law wsL_number := goodIn_ca (goodIn_ca (goodIn_r _ [98, 99, 100, 101, 102, 103, 2, 104, 105, 106, 107, 108, 109, 110, 111, 112, 113, 114, 17, 115, 116, 117, 16, 118, 41, 38, 39, 40, 119, 120, 121, 122, 123, 124, 125, 126, 689, 690, 691, 692, 693, 694, 695, 696, 725, 726, 727, 728] (by decide +kernel) (by decide +kernel)) (goodIn_sub (fun _ h => List.mem_append_left _ (List.mem_append_left _ (List.mem_append_right _ h))) (by decide +kernel))) (goodIn_sub (fun _ h => List.mem_append_left _ (List.mem_append_right _ h)) (by decide +kernel))
set_option maxRecDepth 20000 in
theorem gL_law_L_number : GoodIn wsL_law (va_wsS RL 77 yL_number wsL_number) := goodIn_app (goodIn_of _ (by decide +kernel)) ggL_law_L_number
set_option maxRecDepth 20000 in
theorem ggL_law_X5_number : GoodIn wsL_law wsX5_number := goodIn_r _ [130, 131, 132, 133, 134, 135, 75, 76, 77, 136, 137, 5, 138, 697, 698, 699, 700, 701, 702, 703, 704, 705, 706, 707, 708, 709, 710, 711, 712, 713, 714, 715, 716, 717, 718, 719, 720, 721, 722, 723, 724] (by decide +kernel) (by decide +kernel)
set_option maxRecDepth 20000 in
theorem gL_law_X5_number : GoodIn wsL_law (wsV RL 82 RX5 yX5_number wsX5_number) := goodIn_app (goodIn_of _ (by decide +kernel)) ggL_law_X5_number
set_option maxRecDepth 20000 in
theorem ggL_law_X5_thrown : GoodIn wsL_law wsX5_thrown := goodIn_r _ [142, 134, 697, 698, 699, 700, 701, 702, 703, 704, 705, 706, 707, 708, 709, 710, 711, 712, 713, 714, 715, 716, 717, 718, 719, 720, 721, 722, 723, 724] (by decide +kernel) (by decide +kernel)
set_option maxRecDepth 20000 in
theorem gL_law_X5_thrown : GoodIn wsL_law (wsV RL 83 RX5 yX5_thrown wsX5_thrown) := goodIn_app (goodIn_of _ (by decide +kernel)) ggL_law_X5_thrown
set_option maxRecDepth 20000 in
theorem ggL_law_L_text : GoodIn wsL_law wsL_text := goodIn_ca (goodIn_ca (goodIn_r _ [145, 99, 100, 146, 147, 148, 2, 149, 105, 106, 150, 151, 16, 152, 153, 154, 155, 109, 110, 111, 112, 113, 114, 17, 115, 116, 117, 118, 41, 38, 39, 40, 119, 120, 121, 122, 123, 124, 125, 126, 689, 690, 691, 692, 693, 694, 695, 696, 725, 726, 727, 728] (by decide +kernel) (by decide +kernel)) (goodIn_sub (fun _ h => List.mem_append_left _ (List.mem_append_left _ (List.mem_append_right _ h))) (by decide +kernel))) (goodIn_sub (fun _ h => List.mem_append_left _ (List.mem_append_right _ h)) (by decide +kernel))
set_option maxRecDepth 20000 in
theorem gL_law_L_text : GoodIn wsL_law (va_wsS RL 89 yL_text wsL_text) := goodIn_app (goodIn_of _ (by decide +kernel)) ggL_law_L_text
set_option maxRecDepth 20000 in
theorem ggL_law_X5_text : GoodIn wsL_law wsX5_text := goodIn_r _ [159, 135, 160, 134, 75, 78, 79, 161, 162, 163, 5, 164, 697, 698, 699, 700, 701, 702, 703, 704, 705, 706, 707, 708, 709, 710, 711, 712, 713, 714, 715, 716, 717, 718, 719, 720, 721, 722, 723, 724] (by decide +kernel) (by decide +kernel)
set_option maxRecDepth 20000 in
theorem gL_law_X5_text : GoodIn wsL_law (wsV RL 92 RX5 yX5_text wsX5_text) := goodIn_app (goodIn_of _ (by decide +kernel)) ggL_law_X5_text
set_option maxRecDepth 20000 in
theorem ggL_law_L_row : GoodIn wsL_law wsL_row := goodIn_ca (goodIn_ca (goodIn_r _ [167, 99, 100, 168, 169, 170, 2, 171, 105, 106, 113, 114, 17, 21, 172, 173, 174, 16, 175, 41, 176, 177, 178, 20, 179, 48, 180, 181, 182, 183, 45, 46, 47, 184, 185, 186, 187, 689, 690, 691, 692, 693, 694, 695, 696, 725, 726, 727, 728, 729, 730, 731, 732] (by decide +kernel) (by decide +kernel)) (goodIn_sub (fun _ h => List.mem_append_left _ (List.mem_append_left _ (List.mem_append_right _ h))) (by decide +kernel))) (goodIn_sub (fun _ h => List.mem_append_left _ (List.mem_append_right _ h)) (by decide +kernel))
set_option maxRecDepth 20000 in
theorem gL_law_L_row : GoodIn wsL_law (va_wsS RL 93 yL_row wsL_row) := goodIn_app (goodIn_of _ (by decide +kernel)) ggL_law_L_row
set_option maxRecDepth 20000 in
theorem ggL_law_X5_row : GoodIn wsL_law wsX5_row := goodIn_r _ [191, 192, 193, 134, 80, 81, 82, 136, 137, 5, 138, 194, 195, 196, 197, 135, 697, 698, 699, 700, 701, 702, 703, 704, 705, 706, 707, 708, 709, 710, 711, 712, 713, 714, 715, 716, 717, 718, 719, 720, 721, 722, 723, 724] (by decide +kernel) (by decide +kernel)
set_option maxRecDepth 20000 in
theorem gL_law_X5_row : GoodIn wsL_law (wsV RL 96 RX5 yX5_row wsX5_row) := goodIn_app (goodIn_of _ (by decide +kernel)) ggL_law_X5_row
set_option maxRecDepth 20000 in
theorem ggL_law_L_by : GoodIn wsL_law wsL_by := goodIn_ca (goodIn_r _ [200, 99, 201, 202, 203, 2, 204, 105, 106, 32, 689, 690, 691, 692, 693, 694, 695, 696] (by decide +kernel) (by decide +kernel)) (goodIn_sub (fun _ h => List.mem_append_left _ (List.mem_append_left _ (List.mem_append_right _ h))) (by decide +kernel))
set_option maxRecDepth 20000 in
theorem gL_law_L_by : GoodIn wsL_law (va_wsS RL 97 yL_by wsL_by) := goodIn_app (goodIn_of _ (by decide +kernel)) ggL_law_L_by
set_option maxRecDepth 20000 in
theorem ggL_law_X5_by : GoodIn wsL_law wsX5_by := goodIn_r _ [208, 192, 134, 209, 136, 137, 5, 138, 697, 698, 699, 700, 701, 702, 703, 704, 705, 706, 707, 708, 709, 710, 711, 712, 713, 714, 715, 716, 717, 718, 719, 720, 721, 722, 723, 724] (by decide +kernel) (by decide +kernel)
set_option maxRecDepth 20000 in
theorem gL_law_X5_by : GoodIn wsL_law (wsV RL 100 RX5 yX5_by wsX5_by) := goodIn_app (goodIn_of _ (by decide +kernel)) ggL_law_X5_by
set_option maxRecDepth 20000 in
theorem ggL_law_L_separator : GoodIn wsL_law wsL_separator := goodIn_ca (goodIn_r _ [212, 99, 213, 214, 215, 2, 216, 105, 106, 33, 689, 690, 691, 692, 693, 694, 695, 696] (by decide +kernel) (by decide +kernel)) (goodIn_sub (fun _ h => List.mem_append_left _ (List.mem_append_left _ (List.mem_append_right _ h))) (by decide +kernel))
set_option maxRecDepth 20000 in
theorem gL_law_L_separator : GoodIn wsL_law (va_wsS RL 101 yL_separator wsL_separator) := goodIn_app (goodIn_of _ (by decide +kernel)) ggL_law_L_separator
set_option maxRecDepth 20000 in
theorem ggL_law_X5_separator : GoodIn wsL_law wsX5_separator := goodIn_r _ [220, 221, 222, 134, 223, 136, 137, 5, 138, 697, 698, 699, 700, 701, 702, 703, 704, 705, 706, 707, 708, 709, 710, 711, 712, 713, 714, 715, 716, 717, 718, 719, 720, 721, 722, 723, 724] (by decide +kernel) (by decide +kernel)
set_option maxRecDepth 20000 in
theorem gL_law_X5_separator : GoodIn wsL_law (wsV RL 103 RX5 yX5_separator wsX5_separator) := goodIn_app (goodIn_of _ (by decide +kernel)) ggL_law_X5_separator
set_option maxRecDepth 20000 in
theorem ggL_law_L_own : GoodIn wsL_law wsL_own := goodIn_ca (goodIn_r _ [226, 99, 227, 228, 229, 2, 230, 105, 106, 34, 689, 690, 691, 692, 693, 694, 695, 696] (by decide +kernel) (by decide +kernel)) (goodIn_sub (fun _ h => List.mem_append_left _ (List.mem_append_left _ (List.mem_append_right _ h))) (by decide +kernel))
set_option maxRecDepth 20000 in
theorem gL_law_L_own : GoodIn wsL_law (va_wsS RL 104 yL_own wsL_own) := goodIn_app (goodIn_of _ (by decide +kernel)) ggL_law_L_own
set_option maxRecDepth 20000 in
theorem ggL_law_X5_own : GoodIn wsL_law wsX5_own := goodIn_r _ [234, 192, 134, 235, 136, 137, 5, 138, 697, 698, 699, 700, 701, 702, 703, 704, 705, 706, 707, 708, 709, 710, 711, 712, 713, 714, 715, 716, 717, 718, 719, 720, 721, 722, 723, 724] (by decide +kernel) (by decide +kernel)
set_option maxRecDepth 20000 in
theorem gL_law_X5_own : GoodIn wsL_law (wsV RL 106 RX5 yX5_own wsX5_own) := goodIn_app (goodIn_of _ (by decide +kernel)) ggL_law_X5_own
set_option maxRecDepth 20000 in
theorem ggL_law_L_run : GoodIn wsL_law wsL_run := goodIn_ca (goodIn_r _ [238, 99, 239, 240, 241, 2, 242, 105, 106, 25, 243, 244, 245, 246, 21, 31, 32, 247, 248, 249, 24, 250, 64, 63, 184, 185, 186, 20, 187, 48, 251, 252, 253, 254, 46, 255, 256, 257, 258, 259, 260, 261, 262, 263, 264, 265, 266, 52, 267, 268, 269, 270, 17, 271, 272, 273, 16, 274, 38, 275, 276, 277, 278, 39, 279, 40, 280, 281, 282, 283, 284, 285, 286, 287, 53, 54, 55, 56, 57, 58, 59, 60, 288, 289, 290, 291, 292, 293, 294, 295, 29, 296, 297, 298, 28, 299, 69, 300, 301, 302, 303, 47, 304, 305, 306, 307, 68, 308, 309, 310, 311, 312, 313, 314, 315, 316, 317, 318, 319, 320, 321, 322, 323, 324, 325, 326, 327, 328, 329, 330, 331, 332, 333, 334, 335, 336, 337, 338, 339, 340, 341, 342, 343, 344, 345, 346, 347, 348, 349, 350, 351, 352, 353, 354, 355, 356, 357, 358, 359, 360, 361, 362, 363, 364, 365, 366, 367, 368, 369, 370, 371, 372, 373, 374, 375, 376, 377, 378, 379, 380, 153, 381, 382, 383, 384, 62, 385, 386, 387, 388, 389, 390, 391, 392, 393, 394, 395, 396, 397, 398, 399, 400, 401, 402, 403, 404, 405, 406, 407, 408, 409, 410, 411, 412, 33, 413, 414, 415, 416, 417, 418, 419, 420, 421, 422, 34, 423, 424, 425, 426, 427, 428, 429, 430, 431, 432, 433, 434, 435, 436, 437, 438, 439, 440, 441, 442, 443, 444, 445, 689, 690, 691, 692, 693, 694, 695, 696, 733, 734, 735, 736, 737, 738, 739, 740, 741, 742, 743, 744, 729, 730, 731, 732, 725, 726, 727, 728, 745, 746] (by decide +kernel) (by decide +kernel)) (goodIn_sub (fun _ h => List.mem_append_left _ (List.mem_append_left _ (List.mem_append_right _ h))) (by decide +kernel))
set_option maxRecDepth 20000 in
theorem gL_law_L_run : GoodIn wsL_law (va_wsS RL 107 yL_run wsL_run) := goodIn_app (goodIn_of _ (by decide +kernel)) ggL_law_L_run
set_option maxRecDepth 20000 in
theorem ggL_law_X5_run : GoodIn wsL_law wsX5_run := goodIn_r _ [449, 450, 134, 451, 136, 137, 5, 138, 452, 453, 454, 455, 193, 80, 92, 456, 457, 458, 459, 209, 83, 84, 81, 93, 460, 461, 462, 463, 464, 465, 466, 467, 75, 78, 79, 468, 469, 470, 471, 76, 77, 472, 473, 474, 475, 476, 477, 82, 94, 478, 479, 480, 481, 86, 87, 88, 89, 90, 482, 483, 484, 485, 486, 487, 488, 489, 490, 85, 491, 492, 493, 494, 495, 496, 497, 498, 499, 500, 501, 502, 503, 504, 505, 506, 507, 508, 509, 510, 511, 512, 513, 514, 91, 515, 516, 517, 518, 223, 519, 520, 521, 522, 235, 523, 524, 525, 526, 697, 698, 699, 700, 701, 702, 703, 704, 705, 706, 707, 708, 709, 710, 711, 712, 713, 714, 715, 716, 717, 718, 719, 720, 721, 722, 723, 724] (by decide +kernel) (by decide +kernel)
set_option maxRecDepth 20000 in
theorem gL_law_X5_run : GoodIn wsL_law (wsV RL 110 RX5 yX5_run wsX5_run) := goodIn_app (goodIn_of _ (by decide +kernel)) ggL_law_X5_run
set_option maxRecDepth 20000 in
theorem ggL_law_L_key : GoodIn wsL_law wsL_key := goodIn_ca (goodIn_r _ [529, 530, 531, 532, 533, 2, 534, 25, 535, 536, 537, 538, 539, 540, 259, 260, 261, 24, 262, 64, 263, 264, 265, 266, 52, 689, 690, 691, 692, 693, 694, 695, 696, 733, 734, 735, 736, 737, 738, 739, 740, 741, 742, 743, 744] (by decide +kernel) (by decide +kernel)) (goodIn_sub (fun _ h => List.mem_append_right _ h) (by decide +kernel))
set_option maxRecDepth 20000 in
theorem gL_law_L_key : GoodIn wsL_law (va_wsS RL 111 yL_key wsL_key) := goodIn_app (goodIn_of _ (by decide +kernel)) ggL_law_L_key
set_option maxRecDepth 20000 in
theorem ggL_law_X5_key : GoodIn wsL_law wsX5_key := goodIn_r _ [544, 83, 545, 546, 547, 5, 548, 451, 134, 697, 698, 699, 700, 701, 702, 703, 704, 705, 706, 707, 708, 709, 710, 711, 712, 713, 714, 715, 716, 717, 718, 719, 720, 721, 722, 723, 724] (by decide +kernel) (by decide +kernel)
set_option maxRecDepth 20000 in
theorem gL_law_X5_key : GoodIn wsL_law (wsV RL 113 RX5 yX5_key wsX5_key) := goodIn_app (goodIn_of _ (by decide +kernel)) ggL_law_X5_key
set_option maxRecDepth 20000 in
theorem ggL_law_L_rows : GoodIn wsL_law wsL_rows := goodIn_ca (goodIn_r _ [551, 530, 552, 553, 554, 2, 555, 25, 535, 536, 537, 538, 539, 540, 259, 260, 261, 24, 262, 64, 556, 557, 558, 559, 53, 689, 690, 691, 692, 693, 694, 695, 696, 733, 734, 735, 736, 737, 738, 739, 740, 741, 742, 743, 744] (by decide +kernel) (by decide +kernel)) (goodIn_sub (fun _ h => List.mem_append_right _ h) (by decide +kernel))
set_option maxRecDepth 20000 in
theorem gL_law_L_rows : GoodIn wsL_law (va_wsS RL 114 yL_rows wsL_rows) := goodIn_app (goodIn_of _ (by decide +kernel)) ggL_law_L_rows
set_option maxRecDepth 20000 in
theorem ggL_law_X5_rows : GoodIn wsL_law wsX5_rows := goodIn_r _ [563, 84, 545, 546, 547, 5, 548, 451, 134, 697, 698, 699, 700, 701, 702, 703, 704, 705, 706, 707, 708, 709, 710, 711, 712, 713, 714, 715, 716, 717, 718, 719, 720, 721, 722, 723, 724] (by decide +kernel) (by decide +kernel)
set_option maxRecDepth 20000 in
theorem gL_law_X5_rows : GoodIn wsL_law (wsV RL 116 RX5 yX5_rows wsX5_rows) := goodIn_app (goodIn_of _ (by decide +kernel)) ggL_law_X5_rows
set_option maxRecDepth 20000 in
theorem ggL_law_L_sort : GoodIn wsL_law wsL_sort := goodIn_ca (goodIn_r _ [566, 530, 567, 568, 569, 2, 570, 25, 535, 536, 537, 538, 539, 540, 259, 260, 261, 24, 262, 64, 571, 572, 573, 574, 54, 689, 690, 691, 692, 693, 694, 695, 696, 733, 734, 735, 736, 737, 738, 739, 740, 741, 742, 743, 744] (by decide +kernel) (by decide +kernel)) (goodIn_sub (fun _ h => List.mem_append_right _ h) (by decide +kernel))
set_option maxRecDepth 20000 in
theorem gL_law_L_sort : GoodIn wsL_law (va_wsS RL 117 yL_sort wsL_sort) := goodIn_app (goodIn_of _ (by decide +kernel)) ggL_law_L_sort
set_option maxRecDepth 20000 in
theorem ggL_law_X5_sort : GoodIn wsL_law wsX5_sort := goodIn_r _ [578, 85, 545, 546, 547, 5, 548, 451, 134, 697, 698, 699, 700, 701, 702, 703, 704, 705, 706, 707, 708, 709, 710, 711, 712, 713, 714, 715, 716, 717, 718, 719, 720, 721, 722, 723, 724] (by decide +kernel) (by decide +kernel)
set_option maxRecDepth 20000 in
theorem gL_law_X5_sort : GoodIn wsL_law (wsV RL 119 RX5 yX5_sort wsX5_sort) := goodIn_app (goodIn_of _ (by decide +kernel)) ggL_law_X5_sort
set_option maxRecDepth 20000 in
theorem ggL_law_L_why : GoodIn wsL_law wsL_why := goodIn_ca (goodIn_r _ [581, 530, 582, 583, 584, 2, 585, 25, 535, 536, 537, 538, 539, 540, 259, 260, 261, 24, 262, 64, 586, 587, 588, 589, 55, 689, 690, 691, 692, 693, 694, 695, 696, 733, 734, 735, 736, 737, 738, 739, 740, 741, 742, 743, 744] (by decide +kernel) (by decide +kernel)) (goodIn_sub (fun _ h => List.mem_append_right _ h) (by decide +kernel))
set_option maxRecDepth 20000 in
theorem gL_law_L_why : GoodIn wsL_law (va_wsS RL 120 yL_why wsL_why) := goodIn_app (goodIn_of _ (by decide +kernel)) ggL_law_L_why
set_option maxRecDepth 20000 in
theorem ggL_law_X5_why : GoodIn wsL_law wsX5_why := goodIn_r _ [593, 86, 545, 546, 547, 5, 548, 451, 134, 697, 698, 699, 700, 701, 702, 703, 704, 705, 706, 707, 708, 709, 710, 711, 712, 713, 714, 715, 716, 717, 718, 719, 720, 721, 722, 723, 724] (by decide +kernel) (by decide +kernel)
set_option maxRecDepth 20000 in
theorem gL_law_X5_why : GoodIn wsL_law (wsV RL 122 RX5 yX5_why wsX5_why) := goodIn_app (goodIn_of _ (by decide +kernel)) ggL_law_X5_why
set_option maxRecDepth 20000 in
theorem ggL_law_L_value : GoodIn wsL_law wsL_value := goodIn_ca (goodIn_ca (goodIn_r _ [596, 530, 99, 597, 598, 599, 2, 600, 105, 106, 25, 535, 536, 537, 538, 539, 540, 259, 260, 261, 24, 262, 64, 601, 602, 603, 604, 56, 605, 606, 607, 608, 57, 689, 690, 691, 692, 693, 694, 695, 696, 733, 734, 735, 736, 737, 738, 739, 740, 741, 742, 743, 744] (by decide +kernel) (by decide +kernel)) (goodIn_sub (fun _ h => List.mem_append_left _ (List.mem_append_left _ (List.mem_append_right _ h))) (by decide +kernel))) (goodIn_sub (fun _ h => List.mem_append_right _ h) (by decide +kernel))
set_option maxRecDepth 20000 in
theorem gL_law_L_value : GoodIn wsL_law (va_wsS RL 123 yL_value wsL_value) := goodIn_app (goodIn_of _ (by decide +kernel)) ggL_law_L_value
set_option maxRecDepth 20000 in
theorem ggL_law_X5_value : GoodIn wsL_law wsX5_value := goodIn_r _ [612, 134, 87, 88, 545, 546, 547, 5, 548, 451, 136, 137, 138, 697, 698, 699, 700, 701, 702, 703, 704, 705, 706, 707, 708, 709, 710, 711, 712, 713, 714, 715, 716, 717, 718, 719, 720, 721, 722, 723, 724] (by decide +kernel) (by decide +kernel)
set_option maxRecDepth 20000 in
theorem gL_law_X5_value : GoodIn wsL_law (wsV RL 125 RX5 yX5_value wsX5_value) := goodIn_app (goodIn_of _ (by decide +kernel)) ggL_law_X5_value
set_option maxRecDepth 20000 in
theorem ggL_law_L_term : GoodIn wsL_law wsL_term := goodIn_ca (goodIn_r _ [615, 530, 616, 617, 618, 2, 619, 25, 535, 536, 537, 538, 539, 540, 259, 260, 261, 24, 262, 64, 620, 621, 622, 623, 58, 689, 690, 691, 692, 693, 694, 695, 696, 733, 734, 735, 736, 737, 738, 739, 740, 741, 742, 743, 744] (by decide +kernel) (by decide +kernel)) (goodIn_sub (fun _ h => List.mem_append_right _ h) (by decide +kernel))
set_option maxRecDepth 20000 in
theorem gL_law_L_term : GoodIn wsL_law (va_wsS RL 126 yL_term wsL_term) := goodIn_app (goodIn_of _ (by decide +kernel)) ggL_law_L_term
set_option maxRecDepth 20000 in
theorem ggL_law_X5_term : GoodIn wsL_law wsX5_term := goodIn_r _ [627, 89, 545, 546, 547, 5, 548, 451, 134, 697, 698, 699, 700, 701, 702, 703, 704, 705, 706, 707, 708, 709, 710, 711, 712, 713, 714, 715, 716, 717, 718, 719, 720, 721, 722, 723, 724] (by decide +kernel) (by decide +kernel)
set_option maxRecDepth 20000 in
theorem gL_law_X5_term : GoodIn wsL_law (wsV RL 128 RX5 yX5_term wsX5_term) := goodIn_app (goodIn_of _ (by decide +kernel)) ggL_law_X5_term
set_option maxRecDepth 20000 in
theorem ggL_law_L_length : GoodIn wsL_law wsL_length := goodIn_ca (goodIn_r _ [630, 530, 631, 632, 633, 2, 634, 25, 535, 536, 537, 538, 539, 540, 259, 260, 261, 24, 262, 64, 635, 636, 637, 638, 60, 689, 690, 691, 692, 693, 694, 695, 696, 733, 734, 735, 736, 737, 738, 739, 740, 741, 742, 743, 744] (by decide +kernel) (by decide +kernel)) (goodIn_sub (fun _ h => List.mem_append_right _ h) (by decide +kernel))
set_option maxRecDepth 20000 in
theorem gL_law_L_length : GoodIn wsL_law (va_wsS RL 129 yL_length wsL_length) := goodIn_app (goodIn_of _ (by decide +kernel)) ggL_law_L_length
set_option maxRecDepth 20000 in
theorem ggL_law_X5_length : GoodIn wsL_law wsX5_length := goodIn_r _ [642, 90, 545, 546, 547, 5, 548, 451, 134, 697, 698, 699, 700, 701, 702, 703, 704, 705, 706, 707, 708, 709, 710, 711, 712, 713, 714, 715, 716, 717, 718, 719, 720, 721, 722, 723, 724] (by decide +kernel) (by decide +kernel)
set_option maxRecDepth 20000 in
theorem gL_law_X5_length : GoodIn wsL_law (wsV RL 131 RX5 yX5_length wsX5_length) := goodIn_app (goodIn_of _ (by decide +kernel)) ggL_law_X5_length
set_option maxRecDepth 20000 in
theorem ggL_law_L_charAt : GoodIn wsL_law wsL_charAt := goodIn_ca (goodIn_r _ [645, 530, 646, 647, 648, 2, 649, 539, 540, 25, 535, 536, 537, 538, 259, 260, 261, 24, 262, 64, 635, 636, 637, 638, 60, 650, 651, 652, 653, 62, 59, 689, 690, 691, 692, 693, 694, 695, 696, 733, 734, 735, 736, 737, 738, 739, 740, 741, 742, 743, 744] (by decide +kernel) (by decide +kernel)) (goodIn_sub (fun _ h => List.mem_append_right _ h) (by decide +kernel))
set_option maxRecDepth 20000 in
theorem gL_law_L_charAt : GoodIn wsL_law (va_wsS RL 132 yL_charAt wsL_charAt) := goodIn_app (goodIn_of _ (by decide +kernel)) ggL_law_L_charAt
set_option maxRecDepth 20000 in
theorem ggL_law_X5_charAt : GoodIn wsL_law wsX5_charAt := goodIn_r _ [657, 90, 134, 91, 545, 546, 547, 5, 548, 451, 697, 698, 699, 700, 701, 702, 703, 704, 705, 706, 707, 708, 709, 710, 711, 712, 713, 714, 715, 716, 717, 718, 719, 720, 721, 722, 723, 724] (by decide +kernel) (by decide +kernel)
set_option maxRecDepth 20000 in
theorem gL_law_X5_charAt : GoodIn wsL_law (wsV RL 134 RX5 yX5_charAt wsX5_charAt) := goodIn_app (goodIn_of _ (by decide +kernel)) ggL_law_X5_charAt
set_option maxRecDepth 20000 in
theorem ggL_law_L_having : GoodIn wsL_law wsL_having := goodIn_ca (goodIn_ca (goodIn_r _ [660, 530, 99, 661, 662, 663, 2, 664, 105, 106, 665, 666, 667, 25, 535, 536, 537, 538, 539, 540, 259, 260, 261, 24, 262, 64, 571, 572, 573, 574, 54, 601, 602, 603, 604, 56, 605, 606, 607, 608, 57, 689, 690, 691, 692, 693, 694, 695, 696, 733, 734, 735, 736, 737, 738, 739, 740, 741, 742, 743, 744] (by decide +kernel) (by decide +kernel)) (goodIn_sub (fun _ h => List.mem_append_left _ (List.mem_append_left _ (List.mem_append_right _ h))) (by decide +kernel))) (goodIn_sub (fun _ h => List.mem_append_right _ h) (by decide +kernel))
set_option maxRecDepth 20000 in
theorem gL_law_L_having : GoodIn wsL_law (va_wsS RL 135 yL_having wsL_having) := goodIn_app (goodIn_of _ (by decide +kernel)) ggL_law_L_having
set_option maxRecDepth 20000 in
theorem ggL_law_X5_having : GoodIn wsL_law wsX5_having := goodIn_r _ [671, 192, 672, 673, 132, 134, 85, 87, 88, 545, 546, 547, 5, 548, 451, 136, 137, 138, 697, 698, 699, 700, 701, 702, 703, 704, 705, 706, 707, 708, 709, 710, 711, 712, 713, 714, 715, 716, 717, 718, 719, 720, 721, 722, 723, 724] (by decide +kernel) (by decide +kernel)
set_option maxRecDepth 20000 in
theorem gL_law_X5_having : GoodIn wsL_law (wsV RL 138 RX5 yX5_having wsX5_having) := goodIn_app (goodIn_of _ (by decide +kernel)) ggL_law_X5_having
set_option maxRecDepth 20000 in
theorem ggL_law_L_told : GoodIn wsL_law wsL_told := goodIn_ca (goodIn_r _ [676, 99, 677, 678, 679, 2, 680, 105, 106, 17, 21, 25, 681, 682, 683, 16, 684, 41, 184, 185, 186, 20, 187, 48, 259, 260, 261, 24, 262, 64, 689, 690, 691, 692, 693, 694, 695, 696, 725, 726, 727, 728, 729, 730, 731, 732, 733, 734, 735, 736, 737, 738, 739, 740, 741, 742, 743, 744] (by decide +kernel) (by decide +kernel)) (goodIn_sub (fun _ h => List.mem_append_left _ (List.mem_append_left _ (List.mem_append_right _ h))) (by decide +kernel))
set_option maxRecDepth 20000 in
theorem gL_law_L_told : GoodIn wsL_law (va_wsS RL 139 yL_told wsL_told) := goodIn_app (goodIn_of _ (by decide +kernel)) ggL_law_L_told
set_option maxRecDepth 20000 in
theorem ggL_law_X5_told : GoodIn wsL_law wsX5_told := goodIn_r _ [688, 192, 134, 135, 193, 451, 136, 137, 5, 138, 697, 698, 699, 700, 701, 702, 703, 704, 705, 706, 707, 708, 709, 710, 711, 712, 713, 714, 715, 716, 717, 718, 719, 720, 721, 722, 723, 724] (by decide +kernel) (by decide +kernel)
set_option maxRecDepth 20000 in
theorem gL_law_X5_told : GoodIn wsL_law (wsV RL 141 RX5 yX5_told wsX5_told) := goodIn_app (goodIn_of _ (by decide +kernel)) ggL_law_X5_told
theorem dL_law_0 : decode cL_law 0 = .ok (.new 8, 3) := by decide +kernel
theorem dL_law_3 : decode cL_law 3 = .ok (.dup, 1) := by decide +kernel
theorem dL_law_4 : decode cL_law 4 = .ok (.invokespecial 73, 3) := by decide +kernel
theorem dL_law_7 : decode cL_law 7 = .ok (.astore_n 1, 1) := by decide +kernel
theorem dL_law_8 : decode cL_law 8 = .ok (.new 74, 3) := by decide +kernel
theorem dL_law_11 : decode cL_law 11 = .ok (.dup, 1) := by decide +kernel
theorem dL_law_12 : decode cL_law 12 = .ok (.invokespecial 76, 3) := by decide +kernel
theorem dL_law_15 : decode cL_law 15 = .ok (.astore_n 2, 1) := by decide +kernel
theorem dL_law_16 : decode cL_law 16 = .ok (.iconst 1, 1) := by decide +kernel
theorem dL_law_17 : decode cL_law 17 = .ok (.newarray .long, 2) := by decide +kernel
theorem dL_law_19 : decode cL_law 19 = .ok (.astore_n 3, 1) := by decide +kernel
theorem dL_law_20 : decode cL_law 20 = .ok (.iconst 0, 1) := by decide +kernel
theorem dL_law_21 : decode cL_law 21 = .ok (.istore 4, 2) := by decide +kernel
theorem dL_law_23 : decode cL_law 23 = .ok (.iload 4, 2) := by decide +kernel
theorem dL_law_25 : decode cL_law 25 = .ok (.aload_n 0, 1) := by decide +kernel
theorem dL_law_26 : decode cL_law 26 = .ok (.arraylength, 1) := by decide +kernel
theorem dL_law_27 : decode cL_law 27 = .ok (.bipush 7, 2) := by decide +kernel
theorem dL_law_29 : decode cL_law 29 = .ok (.isub, 1) := by decide +kernel
theorem dL_law_30 : decode cL_law 30 = .ok (.if_icmp .gt 1280, 3) := by decide +kernel
theorem dL_law_33 : decode cL_law 33 = .ok (.aload_n 0, 1) := by decide +kernel
theorem dL_law_34 : decode cL_law 34 = .ok (.iload 4, 2) := by decide +kernel
theorem dL_law_36 : decode cL_law 36 = .ok (.iaload, 1) := by decide +kernel
theorem dL_law_37 : decode cL_law 37 = .ok (.bipush 31, 2) := by decide +kernel
theorem dL_law_39 : decode cL_law 39 = .ok (.iand, 1) := by decide +kernel
theorem dL_law_40 : decode cL_law 40 = .ok (.tableswitch 1264 0 16 #[84, 152, 240, 320, 376, 432, 488, 572, 628, 684, 740, 796, 863, 919, 975, 1043, 1208], 84) := by decide +kernel
theorem dL_law_124 : decode cL_law 124 = .ok (.aload_n 1, 1) := by decide +kernel
theorem dL_law_125 : decode cL_law 125 = .ok (.aload_n 0, 1) := by decide +kernel
theorem dL_law_126 : decode cL_law 126 = .ok (.iload 4, 2) := by decide +kernel
theorem dL_law_128 : decode cL_law 128 = .ok (.iconst 1, 1) := by decide +kernel
theorem dL_law_129 : decode cL_law 129 = .ok (.iadd, 1) := by decide +kernel
theorem dL_law_130 : decode cL_law 130 = .ok (.iaload, 1) := by decide +kernel
theorem dL_law_131 : decode cL_law 131 = .ok (.aload_n 0, 1) := by decide +kernel
theorem dL_law_132 : decode cL_law 132 = .ok (.iload 4, 2) := by decide +kernel
theorem dL_law_134 : decode cL_law 134 = .ok (.iconst 2, 1) := by decide +kernel
theorem dL_law_135 : decode cL_law 135 = .ok (.iadd, 1) := by decide +kernel
theorem dL_law_136 : decode cL_law 136 = .ok (.iaload, 1) := by decide +kernel
theorem dL_law_137 : decode cL_law 137 = .ok (.aload_n 3, 1) := by decide +kernel
theorem dL_law_138 : decode cL_law 138 = .ok (.invokestatic 77, 3) := by decide +kernel
theorem dL_law_141 : decode cL_law 141 = .ok (.istore 5, 2) := by decide +kernel
theorem dL_law_143 : decode cL_law 143 = .ok (.aload_n 2, 1) := by decide +kernel
theorem dL_law_144 : decode cL_law 144 = .ok (.aload_n 0, 1) := by decide +kernel
theorem dL_law_145 : decode cL_law 145 = .ok (.iload 4, 2) := by decide +kernel
theorem dL_law_147 : decode cL_law 147 = .ok (.iconst 1, 1) := by decide +kernel
theorem dL_law_148 : decode cL_law 148 = .ok (.iadd, 1) := by decide +kernel
theorem dL_law_149 : decode cL_law 149 = .ok (.iaload, 1) := by decide +kernel
theorem dL_law_150 : decode cL_law 150 = .ok (.aload_n 0, 1) := by decide +kernel
theorem dL_law_151 : decode cL_law 151 = .ok (.iload 4, 2) := by decide +kernel
theorem dL_law_153 : decode cL_law 153 = .ok (.iconst 2, 1) := by decide +kernel
theorem dL_law_154 : decode cL_law 154 = .ok (.iadd, 1) := by decide +kernel
theorem dL_law_155 : decode cL_law 155 = .ok (.iaload, 1) := by decide +kernel
theorem dL_law_156 : decode cL_law 156 = .ok (.invokevirtual 82, 3) := by decide +kernel
theorem dL_law_159 : decode cL_law 159 = .ok (.istore 6, 2) := by decide +kernel
theorem dL_law_161 : decode cL_law 161 = .ok (.aload_n 2, 1) := by decide +kernel
theorem dL_law_162 : decode cL_law 162 = .ok (.invokevirtual 83, 3) := by decide +kernel
theorem dL_law_165 : decode cL_law 165 = .ok (.iload 5, 2) := by decide +kernel
theorem dL_law_167 : decode cL_law 167 = .ok (.if_icmp .eq 5, 3) := by decide +kernel
theorem dL_law_170 : decode cL_law 170 = .ok (.iconst 0, 1) := by decide +kernel
theorem dL_law_171 : decode cL_law 171 = .ok (.ireturn, 1) := by decide +kernel
theorem dL_law_172 : decode cL_law 172 = .ok (.iload 5, 2) := by decide +kernel
theorem dL_law_174 : decode cL_law 174 = .ok (.ifCond .ne 15, 3) := by decide +kernel
theorem dL_law_177 : decode cL_law 177 = .ok (.aload_n 3, 1) := by decide +kernel
theorem dL_law_178 : decode cL_law 178 = .ok (.iconst 0, 1) := by decide +kernel
theorem dL_law_179 : decode cL_law 179 = .ok (.laload, 1) := by decide +kernel
theorem dL_law_180 : decode cL_law 180 = .ok (.iload 6, 2) := by decide +kernel
theorem dL_law_182 : decode cL_law 182 = .ok (.i2l, 1) := by decide +kernel
theorem dL_law_183 : decode cL_law 183 = .ok (.lcmp, 1) := by decide +kernel
theorem dL_law_184 : decode cL_law 184 = .ok (.ifCond .eq 5, 3) := by decide +kernel
theorem dL_law_187 : decode cL_law 187 = .ok (.iconst 0, 1) := by decide +kernel
theorem dL_law_188 : decode cL_law 188 = .ok (.ireturn, 1) := by decide +kernel
theorem dL_law_189 : decode cL_law 189 = .ok (.goto 1115, 3) := by decide +kernel
theorem dL_law_192 : decode cL_law 192 = .ok (.aload_n 1, 1) := by decide +kernel
theorem dL_law_193 : decode cL_law 193 = .ok (.aload_n 0, 1) := by decide +kernel
theorem dL_law_194 : decode cL_law 194 = .ok (.iload 4, 2) := by decide +kernel
theorem dL_law_196 : decode cL_law 196 = .ok (.iconst 1, 1) := by decide +kernel
theorem dL_law_197 : decode cL_law 197 = .ok (.iadd, 1) := by decide +kernel
theorem dL_law_198 : decode cL_law 198 = .ok (.iaload, 1) := by decide +kernel
theorem dL_law_199 : decode cL_law 199 = .ok (.i2l, 1) := by decide +kernel
theorem dL_law_200 : decode cL_law 200 = .ok (.bipush 32, 2) := by decide +kernel
theorem dL_law_202 : decode cL_law 202 = .ok (.lshl, 1) := by decide +kernel
theorem dL_law_203 : decode cL_law 203 = .ok (.aload_n 0, 1) := by decide +kernel
theorem dL_law_204 : decode cL_law 204 = .ok (.iload 4, 2) := by decide +kernel
theorem dL_law_206 : decode cL_law 206 = .ok (.iconst 2, 1) := by decide +kernel
theorem dL_law_207 : decode cL_law 207 = .ok (.iadd, 1) := by decide +kernel
theorem dL_law_208 : decode cL_law 208 = .ok (.iaload, 1) := by decide +kernel
theorem dL_law_209 : decode cL_law 209 = .ok (.i2l, 1) := by decide +kernel
theorem dL_law_210 : decode cL_law 210 = .ok (.ldc2_w 87, 3) := by decide +kernel
theorem dL_law_213 : decode cL_law 213 = .ok (.land, 1) := by decide +kernel
theorem dL_law_214 : decode cL_law 214 = .ok (.lor, 1) := by decide +kernel
theorem dL_law_215 : decode cL_law 215 = .ok (.aload_n 3, 1) := by decide +kernel
theorem dL_law_216 : decode cL_law 216 = .ok (.invokestatic 89, 3) := by decide +kernel
theorem dL_law_219 : decode cL_law 219 = .ok (.istore 5, 2) := by decide +kernel
theorem dL_law_221 : decode cL_law 221 = .ok (.aload_n 2, 1) := by decide +kernel
theorem dL_law_222 : decode cL_law 222 = .ok (.aload_n 0, 1) := by decide +kernel
theorem dL_law_223 : decode cL_law 223 = .ok (.iload 4, 2) := by decide +kernel
theorem dL_law_225 : decode cL_law 225 = .ok (.iconst 1, 1) := by decide +kernel
